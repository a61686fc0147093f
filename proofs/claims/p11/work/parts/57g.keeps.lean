/-! what the reference keeps of a by-law -/
def EXP0 (op one : Nat → Int32) (i e : Nat) : Prop := ∃ k, SEG op one i k ∧ op (i + k) = 0 ∧ i + k < e
def LAWOK (ln kd at' op one : Nat → Int32) (bb : Nat) : Prop := ∃ nl, nl ≤ 20 ∧ ln bb = nI nl ∧ (∀ k, k < nl → ∃ i, at' (20 * bb + k) = nI i ∧ 1200 * bb ≤ i ∧ EXP0 op one i (1200 * bb + 1200)) ∧ cz kd (20 * bb) nl ≤ 8
def LWS (N : Nat) (g : zGh) : Prop := ∀ bb, bb < N → LAWOK (g.2.1 50) (g.2.1 51) (g.2.1 53) (g.2.1 55) (g.2.1 56) bb
def LWI (g : zGh) : Prop := ∃ N, N ≤ 16 ∧ g.1 42 10 = nI N ∧ LWS N g
theorem LAWOK_keep {ln kd at' op one ln' kd' at2 op' one' : Nat → Int32} {bb : Nat} (x : LAWOK ln kd at' op one bb) (h1 : ln' bb = ln bb) (h2 : ∀ k, k < 20 → kd' (20 * bb + k) = kd (20 * bb + k) ∧ at2 (20 * bb + k) = at' (20 * bb + k)) (h3 : ∀ j, 1200 * bb ≤ j → j < 1200 * bb + 1200 → op' j = op j ∧ one' j = one j) : LAWOK ln' kd' at2 op' one' bb := by
  obtain ⟨nl, l20, e, d, z⟩ := x
  refine ⟨nl, l20, h1.trans e, fun k hk => ?_, ?_⟩
  · obtain ⟨i, e1, l1, kk, s, z2, l2⟩ := d k hk
    refine ⟨i, ((h2 k (by omega)).2).trans e1, l1, kk, SEG_congr s (fun j j1 j2 => h3 j (by omega) (by omega)), ((h3 _ (by omega) l2).1).trans z2, l2⟩
  · rw [cz_shift nl (fun j hj => (h2 j (by omega)).1)]
    exact z
/-- a kept law with its lines -/
def LAWD (g : zGh) (bb : Nat) (ls : List LnT) : Prop := ls.length ≤ 20 ∧ g.2.1 50 bb = nI ls.length ∧ (∀ k, k < ls.length → (∃ i, g.2.1 53 (20 * bb + k) = nI i ∧ 1200 * bb ≤ i ∧ EXP (g.2.1 55) (g.2.1 56) i (1200 * bb + 1200) (lnA ls k).2.2) ∧ g.2.1 51 (20 * bb + k) = kdR (lnA ls k).1 ∧ (¬ (lnA ls k).1 = 4 → g.2.1 52 (20 * bb + k) = nI (lnA ls k).2.1)) ∧ cz (g.2.1 51) (20 * bb) ls.length ≤ 8
def LWD (N : Nat) (LS : Nat → List LnT) (g : zGh) : Prop := ∀ bb, bb < N → LAWD g bb (LS bb)
theorem LAWD_keep {g g' : zGh} {bb : Nat} {ls : List LnT} (x : LAWD g bb ls) (h1 : g'.2.1 50 bb = g.2.1 50 bb) (h2 : ∀ k, k < 20 → g'.2.1 51 (20 * bb + k) = g.2.1 51 (20 * bb + k) ∧ g'.2.1 53 (20 * bb + k) = g.2.1 53 (20 * bb + k) ∧ g'.2.1 52 (20 * bb + k) = g.2.1 52 (20 * bb + k)) (h3 : ∀ j, 1200 * bb ≤ j → j < 1200 * bb + 1200 → g'.2.1 55 j = g.2.1 55 j ∧ g'.2.1 56 j = g.2.1 56 j) : LAWD g' bb ls := by
  obtain ⟨l20, e, d, z⟩ := x
  refine ⟨l20, h1.trans e, fun k hk => ?_, ?_⟩
  · obtain ⟨⟨i, e1, l1, s, l, z2, l2⟩, e3, e4⟩ := d k hk
    obtain ⟨f1, f2, f3⟩ := h2 k (by omega)
    exact ⟨⟨i, f2.trans e1, l1, SEG_congr s (fun j j1 j2 => h3 j (by omega) (by omega)), LST_congr _ _ _ l (fun j hj => h3 _ (by omega) (by omega)), ((h3 _ (by omega) l2).1).trans z2, l2⟩, f1.trans e3, fun y => f3.trans (e4 y)⟩
  · rw [cz_shift ls.length (fun j hj => (h2 j (by omega)).1)]
    exact z
theorem LAWD_OK {g : zGh} {bb : Nat} {ls : List LnT} (x : LAWD g bb ls) : LAWOK (g.2.1 50) (g.2.1 51) (g.2.1 53) (g.2.1 55) (g.2.1 56) bb := by
  obtain ⟨l20, e, d, z⟩ := x
  refine ⟨ls.length, l20, e, fun k hk => ?_, z⟩
  obtain ⟨⟨i, e1, l1, s, l, z2, l2⟩, -, -⟩ := d k hk
  exact ⟨i, e1, l1, _, s, z2, l2⟩
theorem LWI_of_D {g : zGh} {N : Nat} {LS : Nat → List LnT} (hN : N ≤ 16) (e : g.1 42 10 = nI N) (x : LWD N LS g) : LWI g := ⟨N, hN, e, fun bb hb => LAWD_OK (x bb hb)⟩
theorem nI_mul' (a i : Nat) : nI a * nI i = nI (a * i) := (Int32.ofNat_mul a i).symm
def gK (g : zGh) (kd vl at' : Nat → Int32) : zGh := gsA (gsA (gsA g 51 kd) 52 vl) 53 at'
theorem gK_51 (g : zGh) (kd vl at' kd' : Nat → Int32) : gsA (gK g kd vl at') 51 kd' = gK g kd' vl at' := by
  refine Prod.ext rfl (Prod.ext ?_ rfl)
  funext p
  show (if p = 51 then kd' else if p = 53 then at' else if p = 52 then vl else if p = 51 then kd else g.2.1 p) = (if p = 53 then at' else if p = 52 then vl else if p = 51 then kd' else g.2.1 p)
  by_cases e : p = 51
  · simp [e]
  · simp [e]
theorem gK_52 (g : zGh) (kd vl at' vl' : Nat → Int32) : gsA (gK g kd vl at') 52 vl' = gK g kd vl' at' := by
  refine Prod.ext rfl (Prod.ext ?_ rfl)
  funext p
  show (if p = 52 then vl' else if p = 53 then at' else if p = 52 then vl else if p = 51 then kd else g.2.1 p) = (if p = 53 then at' else if p = 52 then vl' else if p = 51 then kd else g.2.1 p)
  by_cases e : p = 52
  · simp [e]
  · simp [e]
theorem gK_53 (g : zGh) (kd vl at' at2 : Nat → Int32) : gsA (gK g kd vl at') 53 at2 = gK g kd vl at2 := by
  refine Prod.ext rfl (Prod.ext ?_ rfl)
  funext p
  show (if p = 53 then at2 else if p = 53 then at' else _) = (if p = 53 then at2 else _)
  by_cases e : p = 53 <;> simp [e]
theorem gK_id (g : zGh) : gK g (g.2.1 51) (g.2.1 52) (g.2.1 53) = g := by
  refine Prod.ext rfl (Prod.ext ?_ rfl)
  funext p
  show (if p = 53 then _ else if p = 52 then _ else if p = 51 then _ else _) = _
  by_cases e : p = 53
  · simp [e]
  · by_cases e2 : p = 52
    · simp [e2]
    · by_cases e3 : p = 51 <;> simp [e, e2, e3]
def gO (g : zGh) (op one : Nat → Int32) : zGh := gsA (gsA g 55 op) 56 one
theorem gO_55 (g : zGh) (op one op' : Nat → Int32) : gsA (gO g op one) 55 op' = gO g op' one := by
  refine Prod.ext rfl (Prod.ext ?_ rfl)
  funext p
  show (if p = 55 then op' else if p = 56 then one else if p = 55 then op else g.2.1 p) = (if p = 56 then one else if p = 55 then op' else g.2.1 p)
  by_cases e : p = 55
  · subst e; simp
  · simp [e]
theorem gO_56 (g : zGh) (op one one' : Nat → Int32) : gsA (gO g op one) 56 one' = gO g op one' := by
  refine Prod.ext rfl (Prod.ext ?_ rfl)
  funext p
  show (if p = 56 then one' else if p = 56 then one else if p = 55 then op else g.2.1 p) = (if p = 56 then one' else if p = 55 then op else g.2.1 p)
  by_cases e : p = 56 <;> simp [e]
theorem gO_id (g : zGh) : gO g (g.2.1 55) (g.2.1 56) = g := by
  refine Prod.ext rfl (Prod.ext ?_ rfl)
  funext p
  show (if p = 56 then g.2.1 56 else if p = 55 then g.2.1 55 else g.2.1 p) = g.2.1 p
  by_cases e : p = 56
  · simp [e]
  · by_cases e2 : p = 55 <;> simp [e, e2]
section KEEP
variable {n b L : Nat} {xs : Nat → Int32} {τ : Nat → Nat} {g : zGh} {h : zH}
/-- what is copied of the lines, up to one -/
def K37 (kd0 vl0 at0 kd vl at' : Nat → Int32) (bb j : Nat) : Prop := (∀ i, i < j → kd (20 * bb + i) = kd0 (320 + i) ∧ at' (20 * bb + i) = at0 (320 + i) - 19200 + 1200 * nI bb ∧ vl (20 * bb + i) = vl0 (320 + i)) ∧ (∀ i, (i < 20 * bb ∨ 20 * bb + 20 ≤ i) → kd i = kd0 i ∧ at' i = at0 i ∧ vl i = vl0 i)
set_option maxHeartbeats 4000000 in
theorem P_keeps_L37 {kd0 vl0 at0 : Nat → Int32} {bb nl : Nat} (hb : bb < 16) (hl : nl ≤ 20) (e50 : g.2.1 50 16 = nI nl) : ∀ (m j : Nat) {kd vl at' : Nat → Int32} {h : zH}, WT n b L xs τ (gK g kd vl at') h → j ≤ nl → nl - j < m → K37 kd0 vl0 at0 kd vl at' bb j → wp (f_X12_keeps_L37 10000 (n + 42) (nI bb) m (nI j) h) (fun r => ∃ kd' vl' at2, WT n b L xs τ (gK g kd' vl' at2) r ∧ K37 kd0 vl0 at0 kd' vl' at2 bb nl) := by
  intro m
  induction m with
  | zero => intro j kd vl at' h w hj hm k; exact absurd hm (Nat.not_lt_zero _)
  | succ m ih =>
    intro j kd vl at' h w hj hm k
    rw [f_X12_keeps_L37.eq_2]
    refine wp_eq (gR_42_13 w) ?_
    have e16 : aI h (n + 50) 16 = some (nI nl) := by
      rw [A_50 w (i := 16) (by decide) (by decide)]
      show some (g.2.1 50 16) = _
      rw [e50]
    refine wp_eq e16 ?_
    have rj := nI_r hj (by omega : nl < 2 ^ 31)
    by_cases ej : j = nl
    · subst ej
      rw [if_pos (by lia)]
      exact wp_some ⟨kd, vl, at', w, k⟩
    · have lt : nI j < nI nl := by
        refine Int32.lt_iff_toInt_lt.mpr ?_
        show (Int32.ofNat j).toInt < (Int32.ofNat nl).toInt
        rw [Int32.toInt_ofNat_of_lt (by omega), Int32.toInt_ofNat_of_lt (by omega)]
        omega
      rw [if_neg (Int32.not_le.mpr lt)]
      have i1 : (320 : Int32) + nI j = nI (320 + j) := nI_add 320 j
      have i2 : (20 : Int32) * nI bb + nI j = nI (20 * bb + j) := by
        rw [show (20 : Int32) * nI bb = nI (20 * bb) from nI_mul' 20 bb, nI_add]
      have r1 := nI_r (show 320 + j ≤ 339 by omega) (by decide : 339 < 2 ^ 31)
      have r2 := nI_r (show 20 * bb + j ≤ 339 by omega) (by decide : 339 < 2 ^ 31)
      have e339 : nI 339 = 339 := rfl
      rw [i1, i2]
      refine wp_eq (gR_42_14 w) ?_
      refine wp_eq (gR_42_14 w) ?_
      refine wp_eq (A_51 w (i := nI (320 + j)) r1.1 (by lia)) ?_
      rw [nI_clamp (by omega)]
      refine wp_bind (sI_51 w (i := nI (20 * bb + j)) r2.1 (by lia)) fun h17 w17 => ?_
      rw [gK_51, nI_clamp (by omega)] at w17
      refine wp_eq (gR_42_15 w17) ?_
      refine wp_eq (gR_42_15 w17) ?_
      refine wp_eq (A_52 w17 (i := nI (320 + j)) r1.1 (by lia)) ?_
      rw [nI_clamp (by omega)]
      refine wp_bind (sI_52 w17 (i := nI (20 * bb + j)) r2.1 (by lia)) fun h21 w21 => ?_
      rw [gK_52, nI_clamp (by omega)] at w21
      refine wp_eq (gR_42_16 w21) ?_
      refine wp_eq (gR_42_16 w21) ?_
      refine wp_eq (A_53 w21 (i := nI (320 + j)) r1.1 (by lia)) ?_
      rw [nI_clamp (by omega)]
      refine wp_bind (sI_53 w21 (i := nI (20 * bb + j)) r2.1 (by lia)) fun h25 w25 => ?_
      rw [gK_53, nI_clamp (by omega)] at w25
      rw [nI_1]
      refine ih (j + 1) w25 (by omega) (by omega) ?_
      show K37 kd0 vl0 at0 (upd kd (20 * bb + j) (kd (320 + j))) (upd vl (20 * bb + j) (vl (320 + j))) (upd at' (20 * bb + j) (at' (320 + j) - 19200 + 1200 * nI bb)) bb (j + 1)
      obtain ⟨k1, k2⟩ := k
      have z := k2 (320 + j) (by omega)
      refine ⟨fun i hi => ?_, fun i hi => ?_⟩
      · by_cases ei : i = j
        · subst ei
          rw [upd_at, upd_at, upd_at, z.1, z.2.1, z.2.2]
          exact ⟨rfl, rfl, rfl⟩
        · rw [upd_ne (by omega), upd_ne (by omega), upd_ne (by omega)]
          exact k1 i (by omega)
      · rw [upd_ne (by omega), upd_ne (by omega), upd_ne (by omega)]
        exact k2 i hi
def K129 (op0 one0 op one : Nat → Int32) (bb j : Nat) : Prop := (∀ i, i < j → op (1200 * bb + i) = op0 (19200 + i) ∧ one (1200 * bb + i) = one0 (19200 + i)) ∧ (∀ i, (i < 1200 * bb ∨ 1200 * bb + 1200 ≤ i) → op i = op0 i ∧ one i = one0 i)
set_option maxHeartbeats 4000000 in
theorem P_keeps_L129 {op0 one0 : Nat → Int32} {bb c : Nat} (hb : bb < 16) (hl : c ≤ 1199) (e19 : g.1 42 19 = nI c) : ∀ (m j : Nat) {op one : Nat → Int32} {h : zH}, WT n b L xs τ (gO g op one) h → j ≤ c → c - j < m → K129 op0 one0 op one bb j → wp (f_X12_keeps_L129 10000 (n + 42) (nI bb) m (nI j) h) (fun r => ∃ op' one', WT n b L xs τ (gO g op' one') r ∧ K129 op0 one0 op' one' bb c) := by
  intro m
  induction m with
  | zero => intro j op one h w hj hm k; exact absurd hm (Nat.not_lt_zero _)
  | succ m ih =>
    intro j op one h w hj hm k
    rw [f_X12_keeps_L129.eq_2]
    have e19' : gI h (n + 42) 12 19 = some (nI c) := by
      rw [E_42_19 w]
      show some (g.1 42 19) = _
      rw [e19]
    refine wp_eq e19' ?_
    have rj := nI_r hj (by omega : c < 2 ^ 31)
    by_cases ej : j = c
    · subst ej
      rw [if_pos (by lia)]
      exact wp_some ⟨op, one, w, k⟩
    · have lt : nI j < nI c := by
        refine Int32.lt_iff_toInt_lt.mpr ?_
        show (Int32.ofNat j).toInt < (Int32.ofNat c).toInt
        rw [Int32.toInt_ofNat_of_lt (by omega), Int32.toInt_ofNat_of_lt (by omega)]
        omega
      rw [if_neg (Int32.not_le.mpr lt)]
      have i1 : (19200 : Int32) + nI j = nI (19200 + j) := nI_add 19200 j
      have i2 : (1200 : Int32) * nI bb + nI j = nI (1200 * bb + j) := by
        rw [show (1200 : Int32) * nI bb = nI (1200 * bb) from nI_mul' 1200 bb, nI_add]
      have r1 := nI_r (show 19200 + j ≤ 20399 by omega) (by decide : 20399 < 2 ^ 31)
      have r2 := nI_r (show 1200 * bb + j ≤ 20399 by omega) (by decide : 20399 < 2 ^ 31)
      have e339 : nI 20399 = 20399 := rfl
      rw [i1, i2]
      refine wp_eq (gR_42_20 w) ?_
      refine wp_eq (gR_42_20 w) ?_
      refine wp_eq (A_55 w (i := nI (19200 + j)) r1.1 (by lia)) ?_
      rw [nI_clamp (by omega)]
      refine wp_bind (sI_55 w (i := nI (1200 * bb + j)) r2.1 (by lia)) fun h17 w17 => ?_
      rw [gO_55, nI_clamp (by omega)] at w17
      refine wp_eq (gR_42_21 w17) ?_
      refine wp_eq (gR_42_21 w17) ?_
      refine wp_eq (A_56 w17 (i := nI (19200 + j)) r1.1 (by lia)) ?_
      rw [nI_clamp (by omega)]
      refine wp_bind (sI_56 w17 (i := nI (1200 * bb + j)) r2.1 (by lia)) fun h25 w25 => ?_
      rw [gO_56, nI_clamp (by omega)] at w25
      rw [nI_1]
      refine ih (j + 1) w25 (by omega) (by omega) ?_
      show K129 op0 one0 (upd op (1200 * bb + j) (op (19200 + j))) (upd one (1200 * bb + j) (one (19200 + j))) bb (j + 1)
      obtain ⟨k1, k2⟩ := k
      have z := k2 (19200 + j) (by omega)
      refine ⟨fun i hi => ?_, fun i hi => ?_⟩
      · by_cases ei : i = j
        · subst ei
          rw [upd_at, upd_at, z.1, z.2]
          exact ⟨rfl, rfl⟩
        · rw [upd_ne (by omega), upd_ne (by omega)]
          exact k1 i (by omega)
      · rw [upd_ne (by omega), upd_ne (by omega)]
        exact k2 i hi
def KG (g g' : zGh) : Prop := (∀ j, j ≠ 42 → g'.1 j = g.1 j) ∧ (∀ k, k ≠ 10 → g'.1 42 k = g.1 42 k) ∧ (∀ j, j ≠ 48 → j ≠ 49 → j ≠ 50 → j ≠ 51 → j ≠ 52 → j ≠ 53 → j ≠ 55 → j ≠ 56 → g'.2.1 j = g.2.1 j)
set_option maxHeartbeats 8000000 in
theorem P_keeps {v : Int32} {bb c : Nat} {ls : List LnT} {LS : Nat → List LnT} (w : WT n b L xs τ g h) (e10 : g.1 42 10 = nI bb) (hb : bb < 16) (e19 : g.1 42 19 = nI c) (hc : c ≤ 1199) (D : DRF g (g.2.1 55) (g.2.1 56) c ls) (LW : LWD bb LS g) : wp (f_X12_keeps 10000 (n + 42) v h) (fun r => ∃ g', WT n b L xs τ g' r ∧ KG g g' ∧ LWD (bb + 1) (fun q => if q = bb then ls else LS q) g' ∧ g'.1 42 10 = nI (bb + 1) ∧ g'.2.2 = g.2.2 ∧ g'.2.1 48 = upd (g.2.1 48) bb v ∧ g'.2.1 49 = upd (g.2.1 49) bb (g.1 42 25)) := by
  obtain ⟨l20, e50, dd, -, hz⟩ := D
  unfold f_X12_keeps
  have rb := nI_r (show bb ≤ 15 by omega) (by decide : 15 < 2 ^ 31)
  have e15 : nI 15 = 15 := rfl
  refine wp_eq (E_42_10 w) ?_
  rw [e10]
  refine wp_eq (gR_42_11 w) ?_
  refine wp_bind (sI_48 w (i := nI bb) (x := v) rb.1 (by lia)) fun h3 w3 => ?_
  rw [nI_clamp (by omega)] at w3
  refine wp_eq (gR_42_12 w3) ?_
  refine wp_eq (E_42_25 w3) ?_
  refine wp_bind (sI_49 w3 (i := nI bb) rb.1 (by lia)) fun h6 w6 => ?_
  rw [nI_clamp (by omega)] at w6
  have b48 : (gsA (gsA g 48 (upd (g.2.1 48) bb v)) 49 (upd ((gsA g 48 (upd (g.2.1 48) bb v)).2.1 49) bb ((gsA g 48 (upd (g.2.1 48) bb v)).1 42 25))).2.1 48 = upd (g.2.1 48) bb v := rfl
  have b49 : (gsA (gsA g 48 (upd (g.2.1 48) bb v)) 49 (upd ((gsA g 48 (upd (g.2.1 48) bb v)).2.1 49) bb ((gsA g 48 (upd (g.2.1 48) bb v)).1 42 25))).2.1 49 = upd (g.2.1 49) bb (g.1 42 25) := rfl
  have b1 : (gsA (gsA g 48 (upd (g.2.1 48) bb v)) 49 (upd ((gsA g 48 (upd (g.2.1 48) bb v)).2.1 49) bb ((gsA g 48 (upd (g.2.1 48) bb v)).1 42 25))).1 = g.1 := rfl
  have b3 : (gsA (gsA g 48 (upd (g.2.1 48) bb v)) 49 (upd ((gsA g 48 (upd (g.2.1 48) bb v)).2.1 49) bb ((gsA g 48 (upd (g.2.1 48) bb v)).1 42 25))).2.2 = g.2.2 := rfl
  have bo : ∀ j, j ≠ 48 → j ≠ 49 → (gsA (gsA g 48 (upd (g.2.1 48) bb v)) 49 (upd ((gsA g 48 (upd (g.2.1 48) bb v)).2.1 49) bb ((gsA g 48 (upd (g.2.1 48) bb v)).1 42 25))).2.1 j = g.2.1 j := fun j a1 a2 => (gsA_out a2).trans (gsA_out a1)
  generalize gsA (gsA g 48 (upd (g.2.1 48) bb v)) 49 (upd ((gsA g 48 (upd (g.2.1 48) bb v)).2.1 49) bb ((gsA g 48 (upd (g.2.1 48) bb v)).1 42 25)) = g0 at w6 b48 b49 b1 b3 bo
  refine wp_eq (gR_42_13 w6) ?_
  refine wp_eq (gR_42_13 w6) ?_
  refine wp_eq (A_50 w6 (i := 16) (by decide) (by decide)) ?_
  rw [show (16 : Int32).toNatClampNeg = 16 by decide, bo 50 (by decide) (by decide), e50]
  refine wp_bind (sI_50 w6 (i := nI bb) rb.1 (by lia)) fun h10 w10 => ?_
  rw [nI_clamp (by omega), bo 50 (by decide) (by decide)] at w10
  have f50 : (gsA g0 50 (upd (g.2.1 50) bb (nI ls.length))).2.1 50 = upd (g.2.1 50) bb (nI ls.length) := rfl
  have f1 : (gsA g0 50 (upd (g.2.1 50) bb (nI ls.length))).1 = g.1 := b1
  have fo : ∀ j, j ≠ 48 → j ≠ 49 → j ≠ 50 → (gsA g0 50 (upd (g.2.1 50) bb (nI ls.length))).2.1 j = g.2.1 j := fun j a1 a2 hj => (gsA_out hj).trans (bo j a1 a2)
  have f48 : (gsA g0 50 (upd (g.2.1 50) bb (nI ls.length))).2.1 48 = upd (g.2.1 48) bb v := b48
  have f49 : (gsA g0 50 (upd (g.2.1 50) bb (nI ls.length))).2.1 49 = upd (g.2.1 49) bb (g.1 42 25) := b49
  have f22 : (gsA g0 50 (upd (g.2.1 50) bb (nI ls.length))).2.2 = g.2.2 := b3
  generalize gsA g0 50 (upd (g.2.1 50) bb (nI ls.length)) = g1 at w10 f50 f1 fo f22 f48 f49
  have f51 := fo 51 (by decide) (by decide) (by decide)
  have f52 := fo 52 (by decide) (by decide) (by decide)
  have f53 := fo 53 (by decide) (by decide) (by decide)
  have f55 := fo 55 (by decide) (by decide) (by decide)
  have f56 := fo 56 (by decide) (by decide) (by decide)
  have w10' : WT n b L xs τ (gK g1 (g1.2.1 51) (g1.2.1 52) (g1.2.1 53)) h10 := by rw [gK_id]; exact w10
  refine wp_bind (P_keeps_L37 (kd0 := g1.2.1 51) (vl0 := g1.2.1 52) (at0 := g1.2.1 53) hb l20 (by rw [f50, upd_ne (by omega)]; exact e50) 10000 0 w10' (by omega) (by omega) ⟨fun i hi => absurd hi (Nat.not_lt_zero _), fun i _ => ⟨rfl, rfl, rfl⟩⟩) fun m26 p26 => ?_
  obtain ⟨kd, vl, at', w26, k26⟩ := p26
  have h50 : (gK g1 kd vl at').2.1 50 = g1.2.1 50 := rfl
  have h51 : (gK g1 kd vl at').2.1 51 = kd := rfl
  have h52 : (gK g1 kd vl at').2.1 52 = vl := rfl
  have h53 : (gK g1 kd vl at').2.1 53 = at' := rfl
  have h55 : (gK g1 kd vl at').2.1 55 = g1.2.1 55 := rfl
  have h56 : (gK g1 kd vl at').2.1 56 = g1.2.1 56 := rfl
  have h1 : (gK g1 kd vl at').1 = g1.1 := rfl
  have ho : ∀ j, j ≠ 51 → j ≠ 52 → j ≠ 53 → (gK g1 kd vl at').2.1 j = g1.2.1 j := fun j a1 a2 a3 => (gsA_out a3).trans ((gsA_out a2).trans (gsA_out a1))
  have h22 : (gK g1 kd vl at').2.2 = g1.2.2 := rfl
  generalize gK g1 kd vl at' = g2 at w26 h50 h51 h52 h53 h55 h56 h1 ho h22
  have w26' : WT n b L xs τ (gO g2 (g2.2.1 55) (g2.2.1 56)) m26 := by rw [gO_id]; exact w26
  refine wp_bind (P_keeps_L129 (op0 := g2.2.1 55) (one0 := g2.2.1 56) hb hc (by rw [h1, f1]; exact e19) 10000 0 w26' (by omega) (by omega) ⟨fun i hi => absurd hi (Nat.not_lt_zero _), fun i _ => ⟨rfl, rfl⟩⟩) fun m37 p37 => ?_
  obtain ⟨op, one, w37, k37⟩ := p37
  refine wp_eq (E_42_10 w37) ?_
  have e10' : (gO g2 op one).1 42 10 = nI bb := by
    show g2.1 42 10 = _
    rw [h1, f1]
    exact e10
  rw [e10', nI_1]
  have rb1 := nI_r (show bb + 1 ≤ 16 by omega) (by decide : 16 < 2 ^ 31)
  have e16 : nI 16 = 16 := rfl
  have oo : ∀ j, j ≠ 55 → j ≠ 56 → (gset (gO g2 op one) 42 10 (nI (bb + 1))).2.1 j = g2.2.1 j := fun j a1 a2 => (gsA_out a2).trans (gsA_out a1)
  have o55 : (gset (gO g2 op one) 42 10 (nI (bb + 1))).2.1 55 = op := rfl
  have o56 : (gset (gO g2 op one) 42 10 (nI (bb + 1))).2.1 56 = one := rfl
  have o50 : (gset (gO g2 op one) 42 10 (nI (bb + 1))).2.1 50 = upd (g.2.1 50) bb (nI ls.length) := by rw [oo 50 (by decide) (by decide), h50, f50]
  have o51 : (gset (gO g2 op one) 42 10 (nI (bb + 1))).2.1 51 = kd := by rw [oo 51 (by decide) (by decide), h51]
  have o52 : (gset (gO g2 op one) 42 10 (nI (bb + 1))).2.1 52 = vl := by rw [oo 52 (by decide) (by decide), h52]
  have o53 : (gset (gO g2 op one) 42 10 (nI (bb + 1))).2.1 53 = at' := by rw [oo 53 (by decide) (by decide), h53]
  refine wp_bind (pI_42_10 w37 (x := nI (bb + 1)) rb1.1 (by lia)) fun h39 w39 => wp_some ⟨_, w39, ⟨fun j hj => ?_, fun k hk => ?_, fun j a0 a01 a1 a2 a25 a3 a4 a5 => ?_⟩, ?_, rfl, h22.trans f22, ?_, ?_⟩
  · rw [gset_out hj]
    show g2.1 j = _
    rw [h1, f1]
  · rw [gset_in, upd_ne hk]
    show g2.1 42 k = _
    rw [h1, f1]
  · rw [oo j a4 a5, ho j a2 a25 a3, fo j a0 a01 a1]
  · intro q hq
    obtain ⟨ka, kb⟩ := k26
    obtain ⟨kc, kd'⟩ := k37
    by_cases eq : q = bb
    · subst eq
      rw [show (fun q0 => if q0 = q then ls else LS q0) q = ls from if_pos rfl]
      unfold LAWD
      rw [o50, o51, o52, o53, o55, o56]
      refine ⟨l20, upd_at _ _ _, fun k hk => ?_, ?_⟩
      · obtain ⟨⟨q0, y1, s, l, z2, l2⟩, y3, y4⟩ := dd k hk
        refine ⟨⟨1200 * q + q0, ?_, by omega, SEG_shift s (fun j hj => ?_), LST_congr _ _ _ l (fun j hj => ?_), ?_, by omega⟩, ?_, fun y => ?_⟩
        · rw [(ka k hk).2.1, f53, y1]
          have t1 : nI (19200 + q0) - 19200 = nI q0 := by
            rw [Nat.add_comm, ← nI_add]
            exact Int32.add_sub_cancel _ _
          rw [t1, show (1200 : Int32) * nI q = nI (1200 * q) from nI_mul' 1200 q, nI_add, Nat.add_comm]
        · have y := kc (q0 + j) (by omega)
          rw [show 1200 * q + q0 + j = 1200 * q + (q0 + j) by omega, y.1, y.2, h55, h56, f55, f56, show 19200 + (q0 + j) = 19200 + q0 + j by omega]
          exact ⟨rfl, rfl⟩
        · have y := kc (q0 + j) (by omega)
          rw [show 1200 * q + q0 + j = 1200 * q + (q0 + j) by omega, y.1, y.2, h55, h56, f55, f56, show 19200 + (q0 + j) = 19200 + q0 + j by omega]
          exact ⟨rfl, rfl⟩
        · have y := kc (q0 + (lnA ls k).2.2.length) (by omega)
          rw [show 1200 * q + q0 + (lnA ls k).2.2.length = 1200 * q + (q0 + (lnA ls k).2.2.length) by omega, y.1, h55, f55, show 19200 + (q0 + (lnA ls k).2.2.length) = 19200 + q0 + (lnA ls k).2.2.length by omega]
          exact z2
        · rw [(ka k hk).1, f51]
          exact y3
        · rw [(ka k hk).2.2, f52]
          exact y4 y
      · rw [cz_shift ls.length (fun j hj => (ka j hj).1), f51]
        exact hz
    · rw [show (fun q0 => if q0 = bb then ls else LS q0) q = LS q from if_neg eq]
      refine LAWD_keep (LW q (by omega)) ?_ (fun k hk => ?_) (fun j j1 j2 => ?_)
      · rw [o50, upd_ne eq]
      · have y := kb (20 * q + k) (by omega)
        rw [o51, o52, o53, y.1, y.2.1, y.2.2, f51, f52, f53]
        exact ⟨rfl, rfl, rfl⟩
      · have y := kd' j (by omega)
        rw [o55, o56, y.1, y.2, h55, h56, f55, f56]
        exact ⟨rfl, rfl⟩
  · rw [oo 48 (by decide) (by decide), ho 48 (by decide) (by decide) (by decide), f48]
  · rw [oo 49 (by decide) (by decide), ho 49 (by decide) (by decide) (by decide), f49]
/-- what law changes in the reference -/
def RLw (g g' : zGh) : Prop := (∀ j, j ≠ 42 → g'.1 j = g.1 j) ∧ (∀ k, k ≠ 2 → k ≠ 3 → k ≠ 7 → k ≠ 8 → k ≠ 10 → k ≠ 17 → k ≠ 19 → g'.1 42 k = g.1 42 k) ∧ g'.1 42 2 = 0 ∧ (∀ j, j ≠ 44 → j ≠ 45 → j ≠ 48 → j ≠ 49 → j ≠ 50 → j ≠ 51 → j ≠ 52 → j ≠ 53 → j ≠ 55 → j ≠ 56 → g'.2.1 j = g.2.1 j) ∧ (∀ j, j ≠ 46 → j ≠ 54 → g'.2.2 j = g.2.2 j)
theorem RL_0 (g : zGh) : RLw g (gset g 42 2 0) := by
  refine ⟨fun j hj => gset_out hj, fun k h2 _ _ _ _ _ _ => ?_, rfl, fun _ _ _ _ _ _ _ _ _ _ _ => rfl, fun _ _ _ => rfl⟩
  rw [gset_in, upd_ne h2]
theorem LWD_same {g g' : zGh} {N : Nat} {LS : Nat → List LnT} (l : LWD N LS g) (h : ∀ bb, bb < N → g'.2.1 50 bb = g.2.1 50 bb) (h2 : ∀ k, k < 320 → g'.2.1 51 k = g.2.1 51 k ∧ g'.2.1 53 k = g.2.1 53 k ∧ g'.2.1 52 k = g.2.1 52 k) (h3 : ∀ j, j < 19200 → g'.2.1 55 j = g.2.1 55 j ∧ g'.2.1 56 j = g.2.1 56 j) (hN : N ≤ 16) : LWD N LS g' := fun bb hb => LAWD_keep (l bb hb) (h bb hb) (fun k hk => h2 _ (by omega)) (fun j j1 j2 => h3 j (by omega))
/-- a by-law's reading: where it stops, with which fault -/
def lawQ (s : Nat → Nat) (S : Nat) : RfS := lwQ (tkn wk0 s S) (num s S) (kyO s S) 21 0 0 0 (fun _ => 0)
/-- the number of a fault -/
def fltN (s : Nat → Nat) (S : Nat) : Nat := if (lawQ s S).2 = 0 then 0 else (lawQ s S).2 + 16 * plc s S (lawQ s S).1
def noL (v : Int32) (laws : Int32) : Prop := v < 0 ∨ 31 ≤ v ∨ laws = 16
/-- law's answer, and how many by-laws there are then -/
def LWA (laws laws' v x : Int32) (s : Nat → Nat) (S : Nat) : Prop := (noL v laws → x = -1 ∧ laws' = laws) ∧ (¬ noL v laws → x = nI (fltN s S) ∧ laws' = if (lawQ s S).2 = 0 then laws + 1 else laws)
/-- the lines of the by-law on the tape -/
def lwLs (s : Nat → Nat) (S : Nat) : List LnT := lwL (tkn wk0 s S) (num s S) (kyO s S) 21 0 0 0 (fun _ => 0)
/-- what is kept then -/
def LWR (g g' : zGh) (v : Int32) (N : Nat) (LS : Nat → List LnT) (s : Nat → Nat) (S : Nat) : Prop := (noL v (g.1 42 10) ∨ ¬ (lawQ s S).2 = 0 → LWD N LS g' ∧ g'.2.1 48 = g.2.1 48 ∧ g'.2.1 49 = g.2.1 49) ∧ (¬ noL v (g.1 42 10) → (lawQ s S).2 = 0 → LWD (N + 1) (fun q => if q = N then lwLs s S else LS q) g' ∧ g'.2.1 48 = upd (g.2.1 48) N v ∧ g'.2.1 49 = upd (g.2.1 49) N (g.1 42 25))
theorem tk_200 {s : Nat → Nat} {S q : Nat} (hq : q < S) (hs : s q ≤ 126) (h : lxC wk0 s S q = 200) : isL (s q) = true ∧ lxL s S q - q ≤ 8 := by
  unfold lxC at h
  rw [if_neg (show ¬ S ≤ q by omega)] at h
  by_cases cl : isL (s q) = true
  · rw [if_pos cl] at h
    by_cases c8 : lxL s S q - q ≤ 8
    · exact ⟨cl, c8⟩
    · rw [if_neg c8] at h
      exact absurd h (by decide)
  · rw [if_neg cl] at h
    by_cases cd : isD (s q) = true
    · rw [if_pos cd] at h
      by_cases c4 : lxD s S q - q ≤ 4
      · rw [if_pos c4] at h
        exact absurd h (by decide)
      · rw [if_neg c4] at h
        exact absurd h (by decide)
    · rw [if_neg cd] at h
      by_cases cg : isG (s q) = true
      · rw [if_pos cg] at h
        omega
      · rw [if_neg cg] at h
        exact absurd h (by decide)
theorem KYR_of {g : zGh} {s : Nat → Nat} {S nT : Nat} {Pf : Nat → Int32} (hs : ∀ j, j < S → s j ≤ 126) (hT : TKR s S nT (g.2.1 44) Pf (g.2.2 46)) (hE : plc s S nT = S) : KYR g (tkn wk0 s S) (kyO s S) nT := by
  have tE : tkn wk0 s S nT = 202 := tkn_end (by omega)
  have one : ∀ i, i ≤ nT → tkn wk0 s S i = 200 → plc s S i < S ∧ lxL s S (plc s S i) - plc s S i ≤ 8 ∧ g.2.2 46 i = Int64.ofNat (enc 37 96 s (plc s S i) (lxL s S (plc s S i) - plc s S i)) := by
    intro i hi ht
    have hi2 : i < nT := by
      have : i ≠ nT := fun e => by rw [e, tE] at ht; exact absurd ht (by decide)
      omega
    obtain ⟨k1, k2, -, k4⟩ := hT i hi2
    obtain ⟨l1, l2⟩ := tk_200 k1 (hs _ k1) ht
    unfold soK vaK at k4
    rw [if_pos l1, if_pos l2, if_pos l1] at k4
    exact ⟨k1, l2, k4 (by decide)⟩
  intro i j hi hj ti tj
  obtain ⟨a1, a2, a3⟩ := one i hi ti
  obtain ⟨b1, b2, b3⟩ := one j hj tj
  have la := (lxL_l (s := s) (S := S) (q := plc s S i) (by omega)).2.2
  have lb := (lxL_l (s := s) (S := S) (q := plc s S j) (by omega)).2.2
  rw [a3, b3]
  refine Iff.trans ?_ (enc_both la lb).symm
  exact ⟨fun e => ofN64_inj (e37_lt la a2) (e37_lt lb b2) e, fun e => by rw [e]⟩
set_option maxHeartbeats 8000000 in
theorem u_X12_law {v : Int32} {s : Nat → Nat} {S : Nat} {N : Nat} {LS : Nat → List LnT} (w : WT n b L xs τ g h) (hN : N ≤ 16) (e10 : g.1 42 10 = nI N) (lw : LWD N LS g) (t : TPE g s S) (eS : g.1 42 2 = nI S) (W : ∀ j, j < 21 → g.2.2 47 j = Int64.ofNat (w37 (pm j))) : wp (f_X12_law 10000 (n + 42) v h) (fun r => ∃ g', WT n b L xs τ g' r.2 ∧ RLw g g' ∧ LWA (g.1 42 10) (g'.1 42 10) v r.1 s S ∧ LWR g g' v N LS s S) := by
  unfold f_X12_law
  refine wp_bind (pI_42_0 w) fun h1 w => ?_
  have lw0 : noL v (g.1 42 10) → LWR g (gset g 42 2 0) v N LS s S := fun z => ⟨fun _ => ⟨lw, rfl, rfl⟩, fun y => absurd z y⟩
  have no : noL v (g.1 42 10) → LWA (g.1 42 10) ((gset g 42 2 0).1 42 10) v (-1) s S := fun z => ⟨fun _ => ⟨rfl, rfl⟩, fun y => absurd z y⟩
  refine wp_ite (fun c1 => ?_) (fun c1 => ?_)
  · exact wp_bind (pI_42_2 w (x := 0) (by decide) (by decide)) fun h3 w3 => wp_some ⟨_, w3, RL_0 g, no (Or.inl c1), lw0 (Or.inl c1)⟩
  refine wp_ite (fun c2 => ?_) (fun c2 => ?_)
  · exact wp_bind (pI_42_2 w (x := 0) (by decide) (by decide)) fun h3 w3 => wp_some ⟨_, w3, RL_0 g, no (Or.inr (Or.inl c2)), lw0 (Or.inr (Or.inl c2))⟩
  refine wp_eq (E_42_10 w) ?_
  refine wp_ite (fun c3 => ?_) (fun c3 => ?_)
  · exact wp_bind (pI_42_2 w (x := 0) (by decide) (by decide)) fun h3 w3 => wp_some ⟨_, w3, RL_0 g, no (Or.inr (Or.inr c3)), lw0 (Or.inr (Or.inr c3))⟩
  have yes : ¬ noL v (g.1 42 10) := fun z => by
    rcases z with z | z | z
    · exact c1 z
    · exact c2 z
    · exact c3 z
  have N16 : N < 16 := by
    have : N ≠ 16 := fun e => c3 (by rw [e10, e]; rfl)
    omega
  have hS := t.1
  refine wp_zif (ob_42 w) ?_
  refine wp_bind (P_cutAll w t eS) fun h9 p9 => ?_
  obtain ⟨nT, Sf, Pf, V, lS, pE, sT, pT, tr, w9⟩ := p9
  refine wp_bind (pI_42_19 w9 (x := 0) (by decide) (by decide)) fun h10 w10 => ?_
  refine wp_bind (pI_42_17 w10 (x := 0) (by decide) (by decide)) fun h11 w11 => ?_
  refine wp_eq (gR_42_13 w11) ?_
  refine wp_bind (sI_50 w11 (i := 16) (x := 0) (by decide) (by decide)) fun h13 w13 => ?_
  rw [show (16 : Int32).toNatClampNeg = 16 by decide] at w13
  have hG : ∀ G0 : zGh, G0 = gset (gset (gset (gset (gC (gset (gset g 42 3 (nI S)) 42 2 0) Sf Pf V) 42 7 0) 42 8 0) 42 19 0) 42 17 0 → (∀ j, j ≠ 42 → G0.1 j = g.1 j) ∧ (∀ k, k ≠ 2 → k ≠ 3 → k ≠ 7 → k ≠ 8 → k ≠ 17 → k ≠ 19 → G0.1 42 k = g.1 42 k) ∧ G0.1 42 2 = 0 ∧ (∀ j, j ≠ 44 → j ≠ 45 → G0.2.1 j = g.2.1 j) ∧ G0.2.1 44 = Sf ∧ G0.2.1 45 = Pf ∧ G0.2.2 46 = V ∧ (∀ j, j ≠ 46 → G0.2.2 j = g.2.2 j) ∧ G0.1 42 17 = 0 ∧ G0.1 42 7 = 0 ∧ G0.1 42 8 = 0 ∧ G0.1 42 19 = 0 := by
    intro G0 e
    subst e
    refine ⟨fun j hj => (gset_out hj).trans ((gset_out hj).trans ((gset_out hj).trans ((gset_out hj).trans ((gset_out hj).trans (gset_out hj))))), fun k a1 a2 a3 a4 a5 a6 => ?_, rfl, fun j a1 a2 => (gsA_out (g := gsA (gset (gset g 42 3 (nI S)) 42 2 0) 44 Sf) a2).trans (gsA_out a1), rfl, rfl, rfl, fun j a1 => if_neg a1, rfl, rfl, rfl, rfl⟩
    rw [gset_in, upd_ne a5, gset_in, upd_ne a6, gset_in, upd_ne a4, gset_in, upd_ne a3]
    show (gset (gset g 42 3 (nI S)) 42 2 0).1 42 k = _
    rw [gset_in, upd_ne a1, gset_in, upd_ne a2]
  obtain ⟨z1, z2, z3, z4, z5, z6, z7, z8, z9, z10, z11, z12⟩ := hG _ rfl
  generalize gset (gset (gset (gset (gC (gset (gset g 42 3 (nI S)) 42 2 0) Sf Pf V) 42 7 0) 42 8 0) 42 19 0) 42 17 0 = G0 at w13 z1 z2 z3 z4 z5 z6 z7 z8 z9 z10 z11 z12
  have f1 : ∀ j, j ≠ 42 → (gsA G0 50 (upd (G0.2.1 50) 16 0)).1 j = g.1 j := z1
  have f2 : ∀ k, k ≠ 2 → k ≠ 3 → k ≠ 7 → k ≠ 8 → k ≠ 17 → k ≠ 19 → (gsA G0 50 (upd (G0.2.1 50) 16 0)).1 42 k = g.1 42 k := z2
  have f3 : (gsA G0 50 (upd (G0.2.1 50) 16 0)).1 42 2 = 0 := z3
  have f4 : ∀ j, j ≠ 44 → j ≠ 45 → j ≠ 50 → (gsA G0 50 (upd (G0.2.1 50) 16 0)).2.1 j = g.2.1 j := fun j a1 a2 a3 => (gsA_out a3).trans (z4 j a1 a2)
  have f5 : ∀ k, k ≠ 16 → (gsA G0 50 (upd (G0.2.1 50) 16 0)).2.1 50 k = g.2.1 50 k := fun k hk => by
    rw [gsA_in, upd_ne hk, z4 50 (by decide) (by decide)]
  have f6 : (gsA G0 50 (upd (G0.2.1 50) 16 0)).2.1 50 16 = 0 := by
    rw [gsA_in, upd_at]
  have f7 : (gsA G0 50 (upd (G0.2.1 50) 16 0)).2.1 44 = Sf := z5
  have f7b : (gsA G0 50 (upd (G0.2.1 50) 16 0)).2.1 45 = Pf := z6
  have f7c : (gsA G0 50 (upd (G0.2.1 50) 16 0)).2.2 46 = V := z7
  have f7d : ∀ j, j ≠ 46 → (gsA G0 50 (upd (G0.2.1 50) 16 0)).2.2 j = g.2.2 j := z8
  have f8 : (gsA G0 50 (upd (G0.2.1 50) 16 0)).1 42 17 = 0 := z9
  have f9 : (gsA G0 50 (upd (G0.2.1 50) 16 0)).1 42 7 = 0 := z10
  have fa : (gsA G0 50 (upd (G0.2.1 50) 16 0)).1 42 8 = 0 := z11
  have fb : (gsA G0 50 (upd (G0.2.1 50) 16 0)).1 42 19 = 0 := z12
  generalize gsA G0 50 (upd (G0.2.1 50) 16 0) = g1 at w13 f1 f2 f3 f4 f5 f6 f7 f7b f7c f7d f8 f9 fa fb
  have eP : gP g1 0 0 0 (g1.2.1 55) (g1.2.1 56) = g1 := by
    unfold gP
    have q1 : gsA (gsA g1 55 (g1.2.1 55)) 56 (g1.2.1 56) = g1 := gO_id g1
    rw [q1]
    have q2 : gset g1 42 7 (nI 0) = g1 := by
      have : nI 0 = g1.1 42 7 := f9.symm
      rw [this, gset_id]
    have q3 : gset g1 42 8 0 = g1 := by
      have : (0 : Int32) = g1.1 42 8 := fa.symm
      rw [this, gset_id]
    have q4 : gset g1 42 19 (nI 0) = g1 := by
      have : nI 0 = g1.1 42 19 := fb.symm
      rw [this, gset_id]
    rw [q2, q3, q4]
  have tr1 : TKR s S nT (g1.2.1 44) Pf (g1.2.2 46) := by
    rw [f7, f7c]
    exact tr
  have sb : ∀ j, j < S → s j ≤ 126 := fun j hj => (t.2 j hj).2
  have R1 : RT g1 (tkn wk0 s S) (num s S) nT := RT_of sb (fun j hj => by rw [f7d 47 (by decide)]; exact W j hj) tr1 pE (by rw [f7]; exact sT)
  have Y1 : KYR g1 (tkn wk0 s S) (kyO s S) nT := KYR_of sb tr1 pE
  have N1 : NMR g1 (tkn wk0 s S) (kyO s S) (fun _ => 0) nT 0 := ⟨by decide, f8, fun j hj => absurd hj (Nat.not_lt_zero _), fun j k hj => absurd hj (Nat.not_lt_zero _)⟩
  have p13 : PW n b L xs τ g1 nT 0 0 0 (g1.2.1 55) (g1.2.1 56) h13 := ⟨by rw [FV_0, eP]; exact w13, Nat.zero_le _, Nat.le_refl _, by decide, by omega, by rw [f7]; exact sT⟩
  have d13 : DRF g1 (g1.2.1 55) (g1.2.1 56) 0 [] := ⟨by show (0 : Nat) ≤ 20; omega, f6, fun k hk => absurd hk (Nat.not_lt_zero _), f8, by show (0 : Nat) ≤ 8; omega⟩
  refine wp_bind (P_law_L53 10000 21 0 R1 Y1 N1 p13 d13 rfl (by decide) (by decide)) fun m22 p22 => ?_
  have lq : lwQ (tkn wk0 s S) (num s S) (kyO s S) 21 0 0 0 (fun _ => 0) = lawQ s S := rfl
  have ll : ([] : List LnT) ++ lwL (tkn wk0 s S) (num s S) (kyO s S) 21 0 0 0 (fun _ => 0) = lwLs s S := rfl
  rw [lq, ll] at p22
  obtain ⟨g2, c2, op2, one2, p22, dg, fr, k2⟩ := p22
  obtain ⟨dg1, dg2, dg3, dg4, dg5, dg6⟩ := dg
  have fn : FV (g2.2.1 45) (lawQ s S).1 (lawQ s S).2 = nI (fltN s S) := by
    unfold fltN
    by_cases z : (lawQ s S).2 = 0
    · rw [if_pos z, z, FV_0]
      rfl
    · rw [if_neg z, FV_k z, dg3 45 (by decide) (by decide) (by decide) (by decide), f7b]
      have pl : Pf (lawQ s S).1 = nI (plc s S (lawQ s S).1) := by
        by_cases y : (lawQ s S).1 = nT
        · rw [y, pT, pE]
        · have := p22.2.1
          exact (tr _ (by omega)).2.2.1
      rw [pl, show (16 : Int32) * nI (plc s S (lawQ s S).1) = nI (16 * plc s S (lawQ s S).1) from nI_mul' 16 _, nI_add]
  have f0 := (P_f p22).2
  have an : (lawQ s S).1 ≤ nT := p22.2.1
  have ul : c2 ≤ 1199 := by
    have := p22.2.2.1
    omega
  have p8 := P_8 p22
  rw [fn] at p8 f0
  have w22 := p22.1
  generalize FV (g2.2.1 45) (lawQ s S).1 (lawQ s S).2 = fv at w22 fn
  generalize (lawQ s S).1 = a2 at w22 an
  have u1 : ∀ j, j ≠ 42 → (gP g2 a2 c2 fv op2 one2).1 j = g.1 j := fun j hj => by
    unfold gP
    rw [gset_out hj, gset_out hj, gset_out hj]
    show g2.1 j = _
    rw [dg1 j hj, f1 j hj]
  have u2 : ∀ k, k ≠ 2 → k ≠ 3 → k ≠ 7 → k ≠ 8 → k ≠ 17 → k ≠ 19 → (gP g2 a2 c2 fv op2 one2).1 42 k = g.1 42 k := fun k a1 a1b a2 a3 a4 a5 => by
    unfold gP
    rw [gset_in, upd_ne a5, gset_in, upd_ne a3, gset_in, upd_ne a2]
    show g2.1 42 k = _
    rw [dg2 k a4, f2 k a1 a1b a2 a3 a4 a5]
  have u3 : (gP g2 a2 c2 fv op2 one2).1 42 2 = 0 := by
    show g2.1 42 2 = 0
    rw [dg2 2 (by decide), f3]
  have u4 : ∀ j, j ≠ 44 → j ≠ 45 → j ≠ 50 → j ≠ 51 → j ≠ 52 → j ≠ 53 → j ≠ 55 → j ≠ 56 → (gP g2 a2 c2 fv op2 one2).2.1 j = g.2.1 j := fun j a1 a1b a2 a3 a35 a4 a5 a6 => by
    show (gO g2 op2 one2).2.1 j = _
    refine ((gsA_out a6).trans (gsA_out a5)).trans ?_
    rw [dg3 j a2 a3 a35 a4, f4 j a1 a1b a2]
  have u7 : ∀ j, j ≠ 46 → j ≠ 54 → (gP g2 a2 c2 fv op2 one2).2.2 j = g.2.2 j := fun j a1 a2 => by
    show g2.2.2 j = _
    rw [dg6 j a2, f7d j a1]
  have u5 : LWD N LS (gP g2 a2 c2 fv op2 one2) := by
    refine LWD_same (g := g) lw (fun bb hb => ?_) (fun k hk => ?_) (fun j hj => ?_) hN
    · show g2.2.1 50 bb = _
      rw [dg4 bb (by omega), f5 bb (by omega)]
    · have z := dg5 k hk
      show g2.2.1 51 k = _ ∧ g2.2.1 53 k = _ ∧ g2.2.1 52 k = _
      rw [z.1, z.2.1, z.2.2, f4 51 (by decide) (by decide) (by decide), f4 53 (by decide) (by decide) (by decide), f4 52 (by decide) (by decide) (by decide)]
      exact ⟨rfl, rfl, rfl⟩
    · have z := fr j hj
      show op2 j = _ ∧ one2 j = _
      rw [z.1, z.2, f4 55 (by decide) (by decide) (by decide), f4 56 (by decide) (by decide) (by decide)]
      exact ⟨rfl, rfl⟩
  have u6 : (gP g2 a2 c2 fv op2 one2).1 42 10 = nI N := by
    rw [u2 10 (by decide) (by decide) (by decide) (by decide) (by decide) (by decide), e10]
  refine wp_eq p8 ?_
  refine wp_ite (fun c4 => ?_) (fun c4 => ?_)
  · have k0 : (lawQ s S).2 = 0 := f0.mp c4
    refine wp_zif (ob_42 w22) ?_
    have D : DRF (gP g2 a2 c2 fv op2 one2) op2 one2 c2 (lwLs s S) := k2 k0
    refine wp_bind (P_keeps w22 u6 N16 rfl ul D u5) fun h27 p27 => ?_
    obtain ⟨g3, w27, ⟨kg1, kg2, kg3⟩, lw3, k10, k22, k48, k49⟩ := p27
    refine wp_eq (E_42_8 w27) ?_
    have e8 : g3.1 42 8 = nI (fltN s S) := by
      rw [kg2 8 (by decide), ← fn]
      unfold gP
      rw [gset_in, upd_ne (by decide), gset_in, upd_at]
    rw [e8]
    refine wp_some ⟨g3, w27, ⟨fun j hj => (kg1 j hj).trans (u1 j hj), fun k a1 a1b a2 a3 a4 a5 a6 => (kg2 k a4).trans (u2 k a1 a1b a2 a3 a5 a6), (kg2 2 (by decide)).trans u3, fun j a1 a1b a0 a01 a2 a3 a35 a4 a5 a6 => (kg3 j a0 a01 a2 a3 a35 a4 a5 a6).trans (u4 j a1 a1b a2 a3 a35 a4 a5 a6), fun j a1 a2 => (congrFun k22 j).trans (u7 j a1 a2)⟩, ⟨fun z => absurd z yes, fun _ => ⟨rfl, ?_⟩⟩, fun z => (z.elim yes (fun y => y k0)).elim, fun _ _ => ⟨lw3, ?_, ?_⟩⟩
    · rw [if_pos k0, k10, e10, nI_1]
    · rw [k48, u4 48 (by decide) (by decide) (by decide) (by decide) (by decide) (by decide) (by decide) (by decide)]
    · rw [k49, u4 49 (by decide) (by decide) (by decide) (by decide) (by decide) (by decide) (by decide) (by decide), u2 25 (by decide) (by decide) (by decide) (by decide) (by decide) (by decide)]
  · have k0 : ¬ (lawQ s S).2 = 0 := fun z => c4 (f0.mpr z)
    refine wp_eq p8 ?_
    refine wp_some ⟨_, w22, ⟨u1, fun k a1 a1b a2 a3 a4 a5 a6 => u2 k a1 a1b a2 a3 a5 a6, u3, fun j a1 a1b _ _ a2 a3 a35 a4 a5 a6 => u4 j a1 a1b a2 a3 a35 a4 a5 a6, u7⟩, ⟨fun z => absurd z yes, fun _ => ⟨rfl, ?_⟩⟩, fun _ => ⟨u5, u4 48 (by decide) (by decide) (by decide) (by decide) (by decide) (by decide) (by decide) (by decide), u4 49 (by decide) (by decide) (by decide) (by decide) (by decide) (by decide) (by decide) (by decide)⟩, fun _ z => absurd z k0⟩
    rw [if_neg k0, u6, e10]
end KEEP
