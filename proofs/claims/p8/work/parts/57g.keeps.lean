/-! what the reference keeps of a by-law -/
def LAWOK (ln kd at' op one : Nat → Int32) (bb : Nat) : Prop := ∃ nl, nl ≤ 20 ∧ ln bb = nI nl ∧ (∀ k, k < nl → ∃ i, at' (20 * bb + k) = nI i ∧ 1200 * bb ≤ i ∧ EXP op one i (1200 * bb + 1200)) ∧ cz kd (20 * bb) nl ≤ 8
def LWS (N : Nat) (g : zGh) : Prop := ∀ bb, bb < N → LAWOK (g.2.1 50) (g.2.1 51) (g.2.1 53) (g.2.1 55) (g.2.1 56) bb
def LWI (g : zGh) : Prop := ∃ N, N ≤ 16 ∧ g.1 42 10 = nI N ∧ LWS N g
theorem LAWOK_keep {ln kd at' op one ln' kd' at2 op' one' : Nat → Int32} {bb : Nat} (x : LAWOK ln kd at' op one bb) (h1 : ln' bb = ln bb) (h2 : ∀ k, k < 20 → kd' (20 * bb + k) = kd (20 * bb + k) ∧ at2 (20 * bb + k) = at' (20 * bb + k)) (h3 : ∀ j, 1200 * bb ≤ j → j < 1200 * bb + 1200 → op' j = op j ∧ one' j = one j) : LAWOK ln' kd' at2 op' one' bb := by
  obtain ⟨nl, l20, e, d, z⟩ := x
  refine ⟨nl, l20, h1.trans e, fun k hk => ?_, ?_⟩
  · obtain ⟨i, e1, l1, kk, s, z2, l2⟩ := d k hk
    refine ⟨i, ((h2 k (by omega)).2).trans e1, l1, kk, SEG_congr s (fun j j1 j2 => h3 j (by omega) (by omega)), ((h3 _ (by omega) l2).1).trans z2, l2⟩
  · rw [cz_shift nl (fun j hj => (h2 j (by omega)).1)]
    exact z
theorem nI_mul' (a i : Nat) : nI a * nI i = nI (a * i) := (Int32.ofNat_mul a i).symm
def gK (g : zGh) (kd at' : Nat → Int32) : zGh := gsA (gsA g 51 kd) 53 at'
theorem gK_51 (g : zGh) (kd at' kd' : Nat → Int32) : gsA (gK g kd at') 51 kd' = gK g kd' at' := by
  refine Prod.ext rfl (Prod.ext ?_ rfl)
  funext p
  show (if p = 51 then kd' else if p = 53 then at' else if p = 51 then kd else g.2.1 p) = (if p = 53 then at' else if p = 51 then kd' else g.2.1 p)
  by_cases e : p = 51
  · subst e; simp
  · simp [e]
theorem gK_53 (g : zGh) (kd at' at2 : Nat → Int32) : gsA (gK g kd at') 53 at2 = gK g kd at2 := by
  refine Prod.ext rfl (Prod.ext ?_ rfl)
  funext p
  show (if p = 53 then at2 else if p = 53 then at' else if p = 51 then kd else g.2.1 p) = (if p = 53 then at2 else if p = 51 then kd else g.2.1 p)
  by_cases e : p = 53 <;> simp [e]
theorem gK_id (g : zGh) : gK g (g.2.1 51) (g.2.1 53) = g := by
  refine Prod.ext rfl (Prod.ext ?_ rfl)
  funext p
  show (if p = 53 then g.2.1 53 else if p = 51 then g.2.1 51 else g.2.1 p) = g.2.1 p
  by_cases e : p = 53
  · simp [e]
  · by_cases e2 : p = 51 <;> simp [e, e2]
def gO (g : zGh) (op one : Nat → Int32) : zGh := gsA (gsA g 55 op) 56 one
theorem gO_55 (g : zGh) (op one op' : Nat → Int32) : gsA (gO g op one) 55 op' = gO g op' one := by
  refine Prod.ext rfl (Prod.ext ?_ rfl)
  funext p
  show (if p = 55 then op' else if p = 56 then one else if p = 55 then op else g.2.1 p) = (if p = 56 then one else if p = 55 then op' else g.2.1 p)
  by_cases e : p = 55
  · subst e; simp
  · simp [e]
theorem gO_56 (g : zGh) (op one one' : Nat → Int32) : gsA (gO g op one) 56 one' = gO g op one' := by
  refine Prod.ext rfl (Prod.ext ?_ rfl)
  funext p
  show (if p = 56 then one' else if p = 56 then one else if p = 55 then op else g.2.1 p) = (if p = 56 then one' else if p = 55 then op else g.2.1 p)
  by_cases e : p = 56 <;> simp [e]
theorem gO_id (g : zGh) : gO g (g.2.1 55) (g.2.1 56) = g := by
  refine Prod.ext rfl (Prod.ext ?_ rfl)
  funext p
  show (if p = 56 then g.2.1 56 else if p = 55 then g.2.1 55 else g.2.1 p) = g.2.1 p
  by_cases e : p = 56
  · simp [e]
  · by_cases e2 : p = 55 <;> simp [e, e2]
section KEEP
variable {n b L : Nat} {xs : Nat → Int32} {τ : Nat → Nat} {g : zGh} {h : zH}
/-- what is copied of the lines, up to one -/
def K37 (kd0 at0 kd at' : Nat → Int32) (bb j : Nat) : Prop := (∀ i, i < j → kd (20 * bb + i) = kd0 (320 + i) ∧ at' (20 * bb + i) = at0 (320 + i) - 19200 + 1200 * nI bb) ∧ (∀ i, (i < 20 * bb ∨ 20 * bb + 20 ≤ i) → kd i = kd0 i ∧ at' i = at0 i)
set_option maxHeartbeats 4000000 in
theorem P_keeps_L37 {kd0 at0 : Nat → Int32} {bb nl : Nat} (hb : bb < 16) (hl : nl ≤ 20) (e50 : g.2.1 50 16 = nI nl) : ∀ (m j : Nat) {kd at' : Nat → Int32} {h : zH}, WT n b L xs τ (gK g kd at') h → j ≤ nl → nl - j < m → K37 kd0 at0 kd at' bb j → wp (f_X12_keeps_L37 10000 (n + 42) (nI bb) m (nI j) h) (fun r => ∃ kd' at2, WT n b L xs τ (gK g kd' at2) r ∧ K37 kd0 at0 kd' at2 bb nl) := by
  intro m
  induction m with
  | zero => intro j kd at' h w hj hm k; exact absurd hm (Nat.not_lt_zero _)
  | succ m ih =>
    intro j kd at' h w hj hm k
    rw [f_X12_keeps_L37.eq_2]
    refine wp_eq (gR_42_13 w) ?_
    have e16 : aI h (n + 50) 16 = some (nI nl) := by
      rw [A_50 w (i := 16) (by decide) (by decide)]
      show some (g.2.1 50 16) = _
      rw [e50]
    refine wp_eq e16 ?_
    have rj := nI_r hj (by omega : nl < 2 ^ 31)
    by_cases ej : j = nl
    · subst ej
      rw [if_pos (by lia)]
      exact wp_some ⟨kd, at', w, k⟩
    · have lt : nI j < nI nl := by
        refine Int32.lt_iff_toInt_lt.mpr ?_
        show (Int32.ofNat j).toInt < (Int32.ofNat nl).toInt
        rw [Int32.toInt_ofNat_of_lt (by omega), Int32.toInt_ofNat_of_lt (by omega)]
        omega
      rw [if_neg (Int32.not_le.mpr lt)]
      have i1 : (320 : Int32) + nI j = nI (320 + j) := nI_add 320 j
      have i2 : (20 : Int32) * nI bb + nI j = nI (20 * bb + j) := by
        rw [show (20 : Int32) * nI bb = nI (20 * bb) from nI_mul' 20 bb, nI_add]
      have r1 := nI_r (show 320 + j ≤ 339 by omega) (by decide : 339 < 2 ^ 31)
      have r2 := nI_r (show 20 * bb + j ≤ 339 by omega) (by decide : 339 < 2 ^ 31)
      have e339 : nI 339 = 339 := rfl
      rw [i1, i2]
      refine wp_eq (gR_42_14 w) ?_
      refine wp_eq (gR_42_14 w) ?_
      refine wp_eq (A_51 w (i := nI (320 + j)) r1.1 (by lia)) ?_
      rw [nI_clamp (by omega)]
      refine wp_bind (sI_51 w (i := nI (20 * bb + j)) r2.1 (by lia)) fun h17 w17 => ?_
      rw [gK_51, nI_clamp (by omega)] at w17
      refine wp_eq (gR_42_15 w17) ?_
      refine wp_eq (gR_42_15 w17) ?_
      refine wp_bind (aI_52 w17 (i := nI (320 + j)) r1.1 (by lia)) fun x20 _ => ?_
      refine wp_bind (sI_52 w17 (i := nI (20 * bb + j)) r2.1 (by lia)) fun h21 w21 => ?_
      refine wp_eq (gR_42_16 w21) ?_
      refine wp_eq (gR_42_16 w21) ?_
      refine wp_eq (A_53 w21 (i := nI (320 + j)) r1.1 (by lia)) ?_
      rw [nI_clamp (by omega)]
      refine wp_bind (sI_53 w21 (i := nI (20 * bb + j)) r2.1 (by lia)) fun h25 w25 => ?_
      rw [gK_53, nI_clamp (by omega)] at w25
      rw [nI_1]
      refine ih (j + 1) w25 (by omega) (by omega) ?_
      show K37 kd0 at0 (upd kd (20 * bb + j) (kd (320 + j))) (upd at' (20 * bb + j) (at' (320 + j) - 19200 + 1200 * nI bb)) bb (j + 1)
      obtain ⟨k1, k2⟩ := k
      have z := k2 (320 + j) (by omega)
      refine ⟨fun i hi => ?_, fun i hi => ?_⟩
      · by_cases ei : i = j
        · subst ei
          rw [upd_at, upd_at, z.1, z.2]
          exact ⟨rfl, rfl⟩
        · rw [upd_ne (by omega), upd_ne (by omega)]
          exact k1 i (by omega)
      · rw [upd_ne (by omega), upd_ne (by omega)]
        exact k2 i hi
def K129 (op0 one0 op one : Nat → Int32) (bb j : Nat) : Prop := (∀ i, i < j → op (1200 * bb + i) = op0 (19200 + i) ∧ one (1200 * bb + i) = one0 (19200 + i)) ∧ (∀ i, (i < 1200 * bb ∨ 1200 * bb + 1200 ≤ i) → op i = op0 i ∧ one i = one0 i)
set_option maxHeartbeats 4000000 in
theorem P_keeps_L129 {op0 one0 : Nat → Int32} {bb c : Nat} (hb : bb < 16) (hl : c ≤ 1199) (e19 : g.1 42 19 = nI c) : ∀ (m j : Nat) {op one : Nat → Int32} {h : zH}, WT n b L xs τ (gO g op one) h → j ≤ c → c - j < m → K129 op0 one0 op one bb j → wp (f_X12_keeps_L129 10000 (n + 42) (nI bb) m (nI j) h) (fun r => ∃ op' one', WT n b L xs τ (gO g op' one') r ∧ K129 op0 one0 op' one' bb c) := by
  intro m
  induction m with
  | zero => intro j op one h w hj hm k; exact absurd hm (Nat.not_lt_zero _)
  | succ m ih =>
    intro j op one h w hj hm k
    rw [f_X12_keeps_L129.eq_2]
    have e19' : gI h (n + 42) 12 19 = some (nI c) := by
      rw [E_42_19 w]
      show some (g.1 42 19) = _
      rw [e19]
    refine wp_eq e19' ?_
    have rj := nI_r hj (by omega : c < 2 ^ 31)
    by_cases ej : j = c
    · subst ej
      rw [if_pos (by lia)]
      exact wp_some ⟨op, one, w, k⟩
    · have lt : nI j < nI c := by
        refine Int32.lt_iff_toInt_lt.mpr ?_
        show (Int32.ofNat j).toInt < (Int32.ofNat c).toInt
        rw [Int32.toInt_ofNat_of_lt (by omega), Int32.toInt_ofNat_of_lt (by omega)]
        omega
      rw [if_neg (Int32.not_le.mpr lt)]
      have i1 : (19200 : Int32) + nI j = nI (19200 + j) := nI_add 19200 j
      have i2 : (1200 : Int32) * nI bb + nI j = nI (1200 * bb + j) := by
        rw [show (1200 : Int32) * nI bb = nI (1200 * bb) from nI_mul' 1200 bb, nI_add]
      have r1 := nI_r (show 19200 + j ≤ 20399 by omega) (by decide : 20399 < 2 ^ 31)
      have r2 := nI_r (show 1200 * bb + j ≤ 20399 by omega) (by decide : 20399 < 2 ^ 31)
      have e339 : nI 20399 = 20399 := rfl
      rw [i1, i2]
      refine wp_eq (gR_42_20 w) ?_
      refine wp_eq (gR_42_20 w) ?_
      refine wp_eq (A_55 w (i := nI (19200 + j)) r1.1 (by lia)) ?_
      rw [nI_clamp (by omega)]
      refine wp_bind (sI_55 w (i := nI (1200 * bb + j)) r2.1 (by lia)) fun h17 w17 => ?_
      rw [gO_55, nI_clamp (by omega)] at w17
      refine wp_eq (gR_42_21 w17) ?_
      refine wp_eq (gR_42_21 w17) ?_
      refine wp_eq (A_56 w17 (i := nI (19200 + j)) r1.1 (by lia)) ?_
      rw [nI_clamp (by omega)]
      refine wp_bind (sI_56 w17 (i := nI (1200 * bb + j)) r2.1 (by lia)) fun h25 w25 => ?_
      rw [gO_56, nI_clamp (by omega)] at w25
      rw [nI_1]
      refine ih (j + 1) w25 (by omega) (by omega) ?_
      show K129 op0 one0 (upd op (1200 * bb + j) (op (19200 + j))) (upd one (1200 * bb + j) (one (19200 + j))) bb (j + 1)
      obtain ⟨k1, k2⟩ := k
      have z := k2 (19200 + j) (by omega)
      refine ⟨fun i hi => ?_, fun i hi => ?_⟩
      · by_cases ei : i = j
        · subst ei
          rw [upd_at, upd_at, z.1, z.2]
          exact ⟨rfl, rfl⟩
        · rw [upd_ne (by omega), upd_ne (by omega)]
          exact k1 i (by omega)
      · rw [upd_ne (by omega), upd_ne (by omega)]
        exact k2 i hi
def KG (g g' : zGh) : Prop := (∀ j, j ≠ 42 → g'.1 j = g.1 j) ∧ (∀ k, k ≠ 10 → g'.1 42 k = g.1 42 k) ∧ (∀ j, j ≠ 50 → j ≠ 51 → j ≠ 53 → j ≠ 55 → j ≠ 56 → g'.2.1 j = g.2.1 j)
set_option maxHeartbeats 8000000 in
theorem P_keeps {v : Int32} {bb c : Nat} (w : WT n b L xs τ g h) (e10 : g.1 42 10 = nI bb) (hb : bb < 16) (e19 : g.1 42 19 = nI c) (hc : c ≤ 1199) (D : DRF g (g.2.1 55) (g.2.1 56) c) (LW : LWS bb g) : wp (f_X12_keeps 10000 (n + 42) v h) (fun r => ∃ g', WT n b L xs τ g' r ∧ KG g g' ∧ LWI g') := by
  obtain ⟨nl, l20, e50, dd, -, hz⟩ := D
  unfold f_X12_keeps
  have rb := nI_r (show bb ≤ 15 by omega) (by decide : 15 < 2 ^ 31)
  have e15 : nI 15 = 15 := rfl
  refine wp_eq (E_42_10 w) ?_
  rw [e10]
  refine wp_eq (gR_42_11 w) ?_
  refine wp_bind (sI_48 w (i := nI bb) rb.1 (by lia)) fun h3 w3 => ?_
  refine wp_eq (gR_42_12 w3) ?_
  refine wp_eq (E_42_25 w3) ?_
  refine wp_bind (sI_49 w3 (i := nI bb) rb.1 (by lia)) fun h6 w6 => ?_
  refine wp_eq (gR_42_13 w6) ?_
  refine wp_eq (gR_42_13 w6) ?_
  refine wp_eq (A_50 w6 (i := 16) (by decide) (by decide)) ?_
  rw [show (16 : Int32).toNatClampNeg = 16 by decide, e50]
  refine wp_bind (sI_50 w6 (i := nI bb) rb.1 (by lia)) fun h10 w10 => ?_
  rw [nI_clamp (by omega)] at w10
  have f50 : (gsA g 50 (upd (g.2.1 50) bb (nI nl))).2.1 50 = upd (g.2.1 50) bb (nI nl) := rfl
  have f51 : (gsA g 50 (upd (g.2.1 50) bb (nI nl))).2.1 51 = g.2.1 51 := rfl
  have f53 : (gsA g 50 (upd (g.2.1 50) bb (nI nl))).2.1 53 = g.2.1 53 := rfl
  have f55 : (gsA g 50 (upd (g.2.1 50) bb (nI nl))).2.1 55 = g.2.1 55 := rfl
  have f56 : (gsA g 50 (upd (g.2.1 50) bb (nI nl))).2.1 56 = g.2.1 56 := rfl
  have f1 : (gsA g 50 (upd (g.2.1 50) bb (nI nl))).1 = g.1 := rfl
  have fo : ∀ j, j ≠ 50 → (gsA g 50 (upd (g.2.1 50) bb (nI nl))).2.1 j = g.2.1 j := fun j hj => gsA_out hj
  generalize gsA g 50 (upd (g.2.1 50) bb (nI nl)) = g1 at w10 f50 f51 f53 f55 f56 f1 fo
  have w10' : WT n b L xs τ (gK g1 (g1.2.1 51) (g1.2.1 53)) h10 := by rw [gK_id]; exact w10
  refine wp_bind (P_keeps_L37 (kd0 := g1.2.1 51) (at0 := g1.2.1 53) hb l20 (by rw [f50, upd_ne (by omega)]; exact e50) 10000 0 w10' (by omega) (by omega) ⟨fun i hi => absurd hi (Nat.not_lt_zero _), fun i _ => ⟨rfl, rfl⟩⟩) fun m26 p26 => ?_
  obtain ⟨kd, at', w26, k26⟩ := p26
  have h50 : (gK g1 kd at').2.1 50 = g1.2.1 50 := rfl
  have h51 : (gK g1 kd at').2.1 51 = kd := rfl
  have h53 : (gK g1 kd at').2.1 53 = at' := rfl
  have h55 : (gK g1 kd at').2.1 55 = g1.2.1 55 := rfl
  have h56 : (gK g1 kd at').2.1 56 = g1.2.1 56 := rfl
  have h1 : (gK g1 kd at').1 = g1.1 := rfl
  have ho : ∀ j, j ≠ 51 → j ≠ 53 → (gK g1 kd at').2.1 j = g1.2.1 j := fun j a1 a2 => (gsA_out a2).trans (gsA_out a1)
  generalize gK g1 kd at' = g2 at w26 h50 h51 h53 h55 h56 h1 ho
  have w26' : WT n b L xs τ (gO g2 (g2.2.1 55) (g2.2.1 56)) m26 := by rw [gO_id]; exact w26
  refine wp_bind (P_keeps_L129 (op0 := g2.2.1 55) (one0 := g2.2.1 56) hb hc (by rw [h1, f1]; exact e19) 10000 0 w26' (by omega) (by omega) ⟨fun i hi => absurd hi (Nat.not_lt_zero _), fun i _ => ⟨rfl, rfl⟩⟩) fun m37 p37 => ?_
  obtain ⟨op, one, w37, k37⟩ := p37
  refine wp_eq (E_42_10 w37) ?_
  have e10' : (gO g2 op one).1 42 10 = nI bb := by
    show g2.1 42 10 = _
    rw [h1, f1]
    exact e10
  rw [e10', nI_1]
  have rb1 := nI_r (show bb + 1 ≤ 16 by omega) (by decide : 16 < 2 ^ 31)
  have e16 : nI 16 = 16 := rfl
  refine wp_bind (pI_42_10 w37 (x := nI (bb + 1)) rb1.1 (by lia)) fun h39 w39 => wp_some ⟨_, w39, ⟨fun j hj => ?_, fun k hk => ?_, fun j a1 a2 a3 a4 a5 => ?_⟩, bb + 1, by omega, rfl, ?_⟩
  · rw [gset_out hj]
    show g2.1 j = _
    rw [h1, f1]
  · rw [gset_in, upd_ne hk]
    show g2.1 42 k = _
    rw [h1, f1]
  · show (gO g2 op one).2.1 j = _
    exact ((gsA_out a5).trans (gsA_out a4)).trans ((ho j a2 a3).trans (fo j a1))
  · intro q hq
    show LAWOK (g2.2.1 50) (g2.2.1 51) (g2.2.1 53) op one q
    rw [h50, h51, h53, f50]
    obtain ⟨ka, kb⟩ := k26
    obtain ⟨kc, kd'⟩ := k37
    by_cases eq : q = bb
    · subst eq
      refine ⟨nl, l20, upd_at _ _ _, fun k hk => ?_, ?_⟩
      · obtain ⟨q0, y1, kk, s, z2, l2⟩ := dd k hk
        refine ⟨1200 * q + q0, ?_, by omega, kk, SEG_shift s (fun j hj => ?_), ?_, by omega⟩
        · rw [(ka k hk).2, f53, y1]
          have t1 : nI (19200 + q0) - 19200 = nI q0 := by
            rw [Nat.add_comm, ← nI_add]
            exact Int32.add_sub_cancel _ _
          rw [t1, show (1200 : Int32) * nI q = nI (1200 * q) from nI_mul' 1200 q, nI_add, Nat.add_comm]
        · have y := kc (q0 + j) (by omega)
          rw [show 1200 * q + q0 + j = 1200 * q + (q0 + j) by omega, y.1, y.2, h55, h56, f55, f56, show 19200 + (q0 + j) = 19200 + q0 + j by omega]
          exact ⟨rfl, rfl⟩
        · have y := kc (q0 + kk) (by omega)
          rw [show 1200 * q + q0 + kk = 1200 * q + (q0 + kk) by omega, y.1, h55, f55, show 19200 + (q0 + kk) = 19200 + q0 + kk by omega]
          exact z2
      · rw [cz_shift nl (fun j hj => (ka j hj).1), f51]
        exact hz
    · refine LAWOK_keep (LW q (by omega)) (upd_ne eq) (fun k hk => ?_) (fun j j1 j2 => ?_)
      · have y := kb (20 * q + k) (by omega)
        rw [y.1, y.2, f51, f53]
        exact ⟨rfl, rfl⟩
      · have y := kd' j (by omega)
        rw [y.1, y.2, h55, h56, f55, f56]
        exact ⟨rfl, rfl⟩
/-- what law changes in the reference -/
def RLw (g g' : zGh) : Prop := (∀ j, j ≠ 42 → g'.1 j = g.1 j) ∧ (∀ k, k ≠ 2 → k ≠ 7 → k ≠ 8 → k ≠ 10 → k ≠ 17 → k ≠ 19 → g'.1 42 k = g.1 42 k) ∧ g'.1 42 2 = 0 ∧ (∀ j, j ≠ 44 → j ≠ 50 → j ≠ 51 → j ≠ 53 → j ≠ 55 → j ≠ 56 → g'.2.1 j = g.2.1 j)
theorem RL_0 (g : zGh) : RLw g (gset g 42 2 0) := by
  refine ⟨fun j hj => gset_out hj, fun k h2 _ _ _ _ _ => ?_, rfl, fun _ _ _ _ _ _ _ => rfl⟩
  rw [gset_in, upd_ne h2]
theorem LWS_same {g g' : zGh} {N : Nat} (l : LWS N g) (h : ∀ bb, bb < N → g'.2.1 50 bb = g.2.1 50 bb) (h2 : ∀ k, k < 320 → g'.2.1 51 k = g.2.1 51 k ∧ g'.2.1 53 k = g.2.1 53 k) (h3 : ∀ j, j < 19200 → g'.2.1 55 j = g.2.1 55 j ∧ g'.2.1 56 j = g.2.1 56 j) (hN : N ≤ 16) : LWS N g' := fun bb hb => LAWOK_keep (l bb hb) (h bb hb) (fun k hk => h2 _ (by omega)) (fun j j1 j2 => h3 j (by omega))
set_option maxHeartbeats 8000000 in
theorem u_X12_law {v : Int32} (w : WT n b L xs τ g h) (lw : LWI g) : wp (f_X12_law 10000 (n + 42) v h) (fun r => ∃ g', WT n b L xs τ g' r.2 ∧ RLw g g' ∧ LWI g') := by
  obtain ⟨N, hN, e10, lw⟩ := lw
  unfold f_X12_law
  refine wp_bind (pI_42_0 w) fun h1 w => ?_
  have lw0 : LWI (gset g 42 2 0) := ⟨N, hN, e10, lw⟩
  refine wp_ite (fun c1 => ?_) (fun c1 => ?_)
  · exact wp_bind (pI_42_2 w (x := 0) (by decide) (by decide)) fun h3 w3 => wp_some ⟨_, w3, RL_0 g, lw0⟩
  refine wp_ite (fun c2 => ?_) (fun c2 => ?_)
  · exact wp_bind (pI_42_2 w (x := 0) (by decide) (by decide)) fun h3 w3 => wp_some ⟨_, w3, RL_0 g, lw0⟩
  refine wp_eq (E_42_10 w) ?_
  refine wp_ite (fun c3 => ?_) (fun c3 => ?_)
  · exact wp_bind (pI_42_2 w (x := 0) (by decide) (by decide)) fun h3 w3 => wp_some ⟨_, w3, RL_0 g, lw0⟩
  have N16 : N < 16 := by
    have : N ≠ 16 := fun e => c3 (by rw [e10, e]; rfl)
    omega
  refine wp_zif (ob_42 w) ?_
  refine wp_bind (P_cutAll w) fun h9 p9 => ?_
  obtain ⟨nT, S, V, l1000, sT, w9⟩ := p9
  refine wp_bind (pI_42_19 w9 (x := 0) (by decide) (by decide)) fun h10 w10 => ?_
  refine wp_bind (pI_42_17 w10 (x := 0) (by decide) (by decide)) fun h11 w11 => ?_
  refine wp_eq (gR_42_13 w11) ?_
  refine wp_bind (sI_50 w11 (i := 16) (x := 0) (by decide) (by decide)) fun h13 w13 => ?_
  rw [show (16 : Int32).toNatClampNeg = 16 by decide] at w13
  have f1 : ∀ j, j ≠ 42 → (gsA (gset (gset (gset (gset (gC (gset g 42 2 0) S V) 42 7 0) 42 8 0) 42 19 0) 42 17 0) 50 (upd ((gset (gset (gset (gset (gC (gset g 42 2 0) S V) 42 7 0) 42 8 0) 42 19 0) 42 17 0).2.1 50) 16 0)).1 j = g.1 j := fun j hj => (gset_out hj).trans ((gset_out hj).trans ((gset_out hj).trans ((gset_out hj).trans (gset_out hj))))
  have f2 : ∀ k, k ≠ 2 → k ≠ 7 → k ≠ 8 → k ≠ 17 → k ≠ 19 → (gsA (gset (gset (gset (gset (gC (gset g 42 2 0) S V) 42 7 0) 42 8 0) 42 19 0) 42 17 0) 50 (upd ((gset (gset (gset (gset (gC (gset g 42 2 0) S V) 42 7 0) 42 8 0) 42 19 0) 42 17 0).2.1 50) 16 0)).1 42 k = g.1 42 k := fun k a1 a2 a3 a4 a5 => by
    show (gset (gset (gset (gset (gC (gset g 42 2 0) S V) 42 7 0) 42 8 0) 42 19 0) 42 17 0).1 42 k = _
    rw [gset_in, upd_ne a4, gset_in, upd_ne a5, gset_in, upd_ne a3, gset_in, upd_ne a2]
    show (gset g 42 2 0).1 42 k = _
    rw [gset_in, upd_ne a1]
  have f3 : (gsA (gset (gset (gset (gset (gC (gset g 42 2 0) S V) 42 7 0) 42 8 0) 42 19 0) 42 17 0) 50 (upd ((gset (gset (gset (gset (gC (gset g 42 2 0) S V) 42 7 0) 42 8 0) 42 19 0) 42 17 0).2.1 50) 16 0)).1 42 2 = 0 := rfl
  have f4 : ∀ j, j ≠ 44 → j ≠ 50 → (gsA (gset (gset (gset (gset (gC (gset g 42 2 0) S V) 42 7 0) 42 8 0) 42 19 0) 42 17 0) 50 (upd ((gset (gset (gset (gset (gC (gset g 42 2 0) S V) 42 7 0) 42 8 0) 42 19 0) 42 17 0).2.1 50) 16 0)).2.1 j = g.2.1 j := fun j a1 a2 => (gsA_out a2).trans (gsA_out (g := gset g 42 2 0) a1)
  have f5 : ∀ k, k ≠ 16 → (gsA (gset (gset (gset (gset (gC (gset g 42 2 0) S V) 42 7 0) 42 8 0) 42 19 0) 42 17 0) 50 (upd ((gset (gset (gset (gset (gC (gset g 42 2 0) S V) 42 7 0) 42 8 0) 42 19 0) 42 17 0).2.1 50) 16 0)).2.1 50 k = g.2.1 50 k := fun k hk => by
    rw [gsA_in, upd_ne hk]
    rfl
  have f6 : (gsA (gset (gset (gset (gset (gC (gset g 42 2 0) S V) 42 7 0) 42 8 0) 42 19 0) 42 17 0) 50 (upd ((gset (gset (gset (gset (gC (gset g 42 2 0) S V) 42 7 0) 42 8 0) 42 19 0) 42 17 0).2.1 50) 16 0)).2.1 50 16 = 0 := by
    rw [gsA_in, upd_at]
  have f7 : (gsA (gset (gset (gset (gset (gC (gset g 42 2 0) S V) 42 7 0) 42 8 0) 42 19 0) 42 17 0) 50 (upd ((gset (gset (gset (gset (gC (gset g 42 2 0) S V) 42 7 0) 42 8 0) 42 19 0) 42 17 0).2.1 50) 16 0)).2.1 44 = S := rfl
  have f8 : (gsA (gset (gset (gset (gset (gC (gset g 42 2 0) S V) 42 7 0) 42 8 0) 42 19 0) 42 17 0) 50 (upd ((gset (gset (gset (gset (gC (gset g 42 2 0) S V) 42 7 0) 42 8 0) 42 19 0) 42 17 0).2.1 50) 16 0)).1 42 17 = 0 := rfl
  have f9 : (gsA (gset (gset (gset (gset (gC (gset g 42 2 0) S V) 42 7 0) 42 8 0) 42 19 0) 42 17 0) 50 (upd ((gset (gset (gset (gset (gC (gset g 42 2 0) S V) 42 7 0) 42 8 0) 42 19 0) 42 17 0).2.1 50) 16 0)).1 42 7 = 0 := rfl
  have fa : (gsA (gset (gset (gset (gset (gC (gset g 42 2 0) S V) 42 7 0) 42 8 0) 42 19 0) 42 17 0) 50 (upd ((gset (gset (gset (gset (gC (gset g 42 2 0) S V) 42 7 0) 42 8 0) 42 19 0) 42 17 0).2.1 50) 16 0)).1 42 8 = 0 := rfl
  have fb : (gsA (gset (gset (gset (gset (gC (gset g 42 2 0) S V) 42 7 0) 42 8 0) 42 19 0) 42 17 0) 50 (upd ((gset (gset (gset (gset (gC (gset g 42 2 0) S V) 42 7 0) 42 8 0) 42 19 0) 42 17 0).2.1 50) 16 0)).1 42 19 = 0 := rfl
  generalize gsA (gset (gset (gset (gset (gC (gset g 42 2 0) S V) 42 7 0) 42 8 0) 42 19 0) 42 17 0) 50 (upd ((gset (gset (gset (gset (gC (gset g 42 2 0) S V) 42 7 0) 42 8 0) 42 19 0) 42 17 0).2.1 50) 16 0) = g1 at w13 f1 f2 f3 f4 f5 f6 f7 f8 f9 fa fb
  have eP : gP g1 0 0 0 (g1.2.1 55) (g1.2.1 56) = g1 := by
    unfold gP
    have q1 : gsA (gsA g1 55 (g1.2.1 55)) 56 (g1.2.1 56) = g1 := gO_id g1
    rw [q1]
    have q2 : gset g1 42 7 (nI 0) = g1 := by
      have : nI 0 = g1.1 42 7 := f9.symm
      rw [this, gset_id]
    have q3 : gset g1 42 8 0 = g1 := by
      have : (0 : Int32) = g1.1 42 8 := fa.symm
      rw [this, gset_id]
    have q4 : gset g1 42 19 (nI 0) = g1 := by
      have : nI 0 = g1.1 42 19 := fb.symm
      rw [this, gset_id]
    rw [q2, q3, q4]
  have p13 : PW n b L xs τ g1 nT 0 0 0 (g1.2.1 55) (g1.2.1 56) h13 := ⟨by rw [eP]; exact w13, Nat.zero_le _, Nat.le_refl _, by decide, l1000, by rw [f7]; exact sT⟩
  have d13 : DRF g1 (g1.2.1 55) (g1.2.1 56) 0 := ⟨0, by omega, f6, fun k hk => absurd hk (Nat.not_lt_zero _), f8, by show (0 : Nat) ≤ 8; omega⟩
  refine wp_bind (P_law_L53 10000 p13 (fun _ => d13) (fun _ => by omega) (by omega)) fun m22 p22 => ?_
  obtain ⟨g2, a2, c2, f2', op2, one2, p22, dg, fr, k2⟩ := p22
  obtain ⟨dg1, dg2, dg3, dg4, dg5, dg6⟩ := dg
  have u1 : ∀ j, j ≠ 42 → (gP g2 a2 c2 f2' op2 one2).1 j = g.1 j := fun j hj => by
    unfold gP
    rw [gset_out hj, gset_out hj, gset_out hj]
    show g2.1 j = _
    rw [dg1 j hj, f1 j hj]
  have u2 : ∀ k, k ≠ 2 → k ≠ 7 → k ≠ 8 → k ≠ 17 → k ≠ 19 → (gP g2 a2 c2 f2' op2 one2).1 42 k = g.1 42 k := fun k a1 a2 a3 a4 a5 => by
    unfold gP
    rw [gset_in, upd_ne a5, gset_in, upd_ne a3, gset_in, upd_ne a2]
    show g2.1 42 k = _
    rw [dg2 k a4, f2 k a1 a2 a3 a4 a5]
  have u3 : (gP g2 a2 c2 f2' op2 one2).1 42 2 = 0 := by
    show g2.1 42 2 = 0
    rw [dg2 2 (by decide), f3]
  have u4 : ∀ j, j ≠ 44 → j ≠ 50 → j ≠ 51 → j ≠ 53 → j ≠ 55 → j ≠ 56 → (gP g2 a2 c2 f2' op2 one2).2.1 j = g.2.1 j := fun j a1 a2 a3 a4 a5 a6 => by
    show (gO g2 op2 one2).2.1 j = _
    refine ((gsA_out a6).trans (gsA_out a5)).trans ?_
    rw [dg3 j a2 a3 a4, f4 j a1 a2]
  have u5 : LWS N (gP g2 a2 c2 f2' op2 one2) := by
    refine LWS_same (g := g) lw (fun bb hb => ?_) (fun k hk => ?_) (fun j hj => ?_) hN
    · show g2.2.1 50 bb = _
      rw [dg4 bb (by omega), f5 bb (by omega)]
    · have z := dg5 k hk
      show g2.2.1 51 k = _ ∧ g2.2.1 53 k = _
      rw [z.1, z.2, f4 51 (by decide) (by decide), f4 53 (by decide) (by decide)]
      exact ⟨rfl, rfl⟩
    · have z := fr j hj
      show op2 j = _ ∧ one2 j = _
      rw [z.1, z.2, f4 55 (by decide) (by decide), f4 56 (by decide) (by decide)]
      exact ⟨rfl, rfl⟩
  have u6 : (gP g2 a2 c2 f2' op2 one2).1 42 10 = nI N := by
    rw [u2 10 (by decide) (by decide) (by decide) (by decide) (by decide), e10]
  have ul : c2 ≤ 1199 := by
    have := p22.2.1
    have := p22.2.2.1
    have := p22.2.2.2.2.1
    omega
  refine wp_eq (P_8 p22) ?_
  refine wp_ite (fun c4 => ?_) (fun c4 => ?_)
  · refine wp_zif (ob_42 p22.1) ?_
    have D : DRF (gP g2 a2 c2 f2' op2 one2) op2 one2 c2 := k2 c4
    refine wp_bind (P_keeps p22.1 u6 N16 rfl ul D u5) fun h27 p27 => ?_
    obtain ⟨g3, w27, ⟨kg1, kg2, kg3⟩, lw3⟩ := p27
    refine wp_bind (wp_mono (gI_42_8 w27) fun x _ => trivial) fun x28 _ => wp_some ⟨g3, w27, ⟨fun j hj => (kg1 j hj).trans (u1 j hj), fun k a1 a2 a3 a4 a5 a6 => (kg2 k a4).trans (u2 k a1 a2 a3 a5 a6), (kg2 2 (by decide)).trans u3, fun j a1 a2 a3 a4 a5 a6 => (kg3 j a2 a3 a4 a5 a6).trans (u4 j a1 a2 a3 a4 a5 a6)⟩, lw3⟩
  · refine wp_eq (P_8 p22) ?_
    exact wp_some ⟨_, p22.1, ⟨u1, fun k a1 a2 a3 a4 a5 a6 => u2 k a1 a2 a3 a5 a6, u3, u4⟩, N, hN, u6, u5⟩
end KEEP
