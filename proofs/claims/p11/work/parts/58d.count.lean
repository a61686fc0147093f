/-! count: class and reference side by side -/
def cnN (P : Nat → Bool) : Nat → Nat
  | 0 => 0
  | k + 1 => if P k = true then cnN P k + 1 else cnN P k
theorem cnN_congr {P Q : Nat → Bool} : ∀ K, (∀ i, i < K → P i = Q i) → cnN P K = cnN Q K := by
  intro K
  induction K with
  | zero => intro _; rfl
  | succ K ih =>
    intro e
    show (if P K = true then cnN P K + 1 else cnN P K) = (if Q K = true then cnN Q K + 1 else cnN Q K)
    rw [ih (fun i hi => e i (by omega)), e K (by omega)]
theorem cn_row {F : Nat → Int32 → Int32 → Option Int32} (P : Nat → Bool) (K : Nat) (hs : ∀ m i c, i < K → F (m + 1) c (nI i) = if P i = true then F m (c + 1) (nI (i + 1)) else F m c (nI (i + 1))) (he : ∀ m c, F (m + 1) c (nI K) = some c) : ∀ m i, i ≤ K → K - i < m → F m (nI (cnN P i)) (nI i) = some (nI (cnN P K)) := by
  intro m
  induction m with
  | zero => intro i _ h; exact absurd h (by omega)
  | succ m ih =>
    intro i hi hm
    by_cases e : i = K
    · rw [e]
      exact he m _
    · rw [hs m i _ (by omega)]
      have st : cnN P (i + 1) = if P i = true then cnN P i + 1 else cnN P i := rfl
      by_cases d : P i = true
      · rw [if_pos d, nI_1]
        rw [if_pos d] at st
        rw [← st]
        exact ih (i + 1) (by omega) (by omega)
      · rw [if_neg d]
        rw [if_neg d] at st
        rw [← st]
        exact ih (i + 1) (by omega) (by omega)
section CNT
variable {n b L : Nat} {xs : Nat → Int32} {τ : Nat → Nat} {g : zGh} {h : zH}
theorem c_toldBy {V : Int32} {K : Nat} (w : WT n b L xs τ g h) (eK : g.1 14 5 = nI K) (hK : K ≤ 80) : f_X0_toldBy 10000 (n + 14) V h = some (nI (cnN (fun r => decide (¬ V < g.2.1 16 r)) K)) := by
  have r := cn_row (F := f_X0_toldBy_L4 10000 (n + 14) V h) (fun r => decide (¬ V < g.2.1 16 r)) K (fun m i c hi => ?_) (fun m c => ?_) 10000 0 (Nat.zero_le _) (by omega)
  · unfold f_X0_toldBy
    have r' : f_X0_toldBy_L4 10000 (n + 14) V h 10000 0 0 = _ := r
    rw [r']
    rfl
  · obtain ⟨i0, i1, i2⟩ := h_ix (m := 80) (j := i) (by omega) (by omega)
    have a := A_16 w i0 i1
    rw [i2] at a
    rw [f_X0_toldBy_L4.eq_2, E_14_5 w, Option.bind_some, eK, if_neg (nnle hi (by omega)), if_neg (show ¬ (80 : Int32) ≤ nI i from nnle (a := 80) (by omega) (by omega)), gR_14_1 w, Option.bind_some, a, Option.bind_some, nI_1]
    show _ = if decide (¬ V < g.2.1 16 i) = true then _ else _
    by_cases d : V < g.2.1 16 i
    · rw [if_pos d, decide_eq_false (fun z => z d), if_neg (by decide)]
    · rw [if_neg d, decide_eq_true d, if_pos rfl]
  · rw [f_X0_toldBy_L4.eq_2, E_14_5 w, Option.bind_some, eK, if_pos (nle (Nat.le_refl K) (by omega))]
theorem r_seen {V : Int32} {K : Nat} (w : WT n b L xs τ g h) (eV : (if 0 ≤ g.1 42 26 then g.1 42 26 else g.1 42 25) = V) (eK : g.1 42 49 = nI K) (hK : K ≤ 80) : f_X12_rulingsSeen 10000 (n + 42) h = some (nI (cnN (fun r => decide (¬ V < g.2.1 76 r)) K)) := by
  have vy := v_vy w
  rw [eV] at vy
  have r := cn_row (F := f_X12_rulingsSeen_L4 10000 (n + 42) h) (fun r => decide (¬ V < g.2.1 76 r)) K (fun m i c hi => ?_) (fun m c => ?_) 10000 0 (Nat.zero_le _) (by omega)
  · unfold f_X12_rulingsSeen
    have r' : f_X12_rulingsSeen_L4 10000 (n + 42) h 10000 0 0 = _ := r
    rw [r']
    rfl
  · obtain ⟨i0, i1, i2⟩ := h_ix (m := 80) (j := i) (by omega) (by omega)
    have a := A_76 w i0 i1
    rw [i2] at a
    rw [f_X12_rulingsSeen_L4.eq_2, E_42_49 w, Option.bind_some, eK, if_neg (nnle hi (by omega)), gR_42_52 w, Option.bind_some, a, Option.bind_some, ob_42 w, zif_t, vy, Option.bind_some, nI_1]
    unfold zlet
    rw [Int32.add_zero]
    show _ = if decide (¬ V < g.2.1 76 i) = true then _ else _
    by_cases d : V < g.2.1 76 i
    · rw [if_pos d, decide_eq_false (fun z => z d), if_neg (by decide)]
    · rw [if_neg d, decide_eq_true d, if_pos rfl]
  · rw [f_X12_rulingsSeen_L4.eq_2, E_42_49 w, Option.bind_some, eK, if_pos (nle (Nat.le_refl K) (by omega))]
theorem c_strN (w : WT n b L xs τ g h) : f_X2_streams 10000 (n + 20) h = some (nI (cnN (fun s => decide (0 < g.2.1 21 s)) 4)) := by
  have r := cn_row (F := f_X2_streams_L4 10000 (n + 20) h) (fun s => decide (0 < g.2.1 21 s)) 4 (fun m i c hi => ?_) (fun m c => ?_) 10000 0 (Nat.zero_le _) (by omega)
  · unfold f_X2_streams
    have r' : f_X2_streams_L4 10000 (n + 20) h 10000 0 0 = _ := r
    rw [r']
    rfl
  · rw [f_X2_streams_L4.eq_2, if_neg (show ¬ (4 : Int32) ≤ nI i from nnle (a := 4) hi (by omega)), ob_20 w, zif_t, c_isTold w ⟨rfl, rfl, rfl⟩ hi, Option.bind_some, nI_1]
    show _ = if decide (0 < g.2.1 21 i) = true then _ else _
    by_cases d : 0 < g.2.1 21 i
    · rw [if_pos d, if_neg (by decide), decide_eq_true d, if_pos rfl]
    · rw [if_neg d, if_pos rfl, decide_eq_false d, if_neg (by decide)]
  · rw [f_X2_streams_L4.eq_2, if_pos (show (4 : Int32) ≤ nI 4 by decide)]
theorem r_manyOf {a K : Nat} {f : Nat → Int32} (hK : K ≤ 80) (en : aN h a = some (nI K)) (ea : ∀ i, i < K → aZ h a (nI i) = some (f i)) : f_X12_manyOf 10000 a h = some (nI (cnN (fun s => decide (¬ f s = 0)) K)) := by
  have r := cn_row (F := f_X12_manyOf_L4 10000 a h) (fun s => decide (¬ f s = 0)) K (fun m i c hi => ?_) (fun m c => ?_) 10000 0 (Nat.zero_le _) (by omega)
  · unfold f_X12_manyOf
    have r' : f_X12_manyOf_L4 10000 a h 10000 0 0 = _ := r
    rw [r']
    rfl
  · rw [f_X12_manyOf_L4.eq_2, en, Option.bind_some, if_neg (nnle hi (by omega)), ea i hi, Option.bind_some, nI_1]
    unfold zlet
    rw [Int32.add_zero]
    show _ = if decide (¬ f i = 0) = true then _ else _
    by_cases d : f i = 0
    · rw [if_pos d, decide_eq_false (fun z => z d), if_neg (by decide)]
    · rw [if_neg d, decide_eq_true d, if_pos rfl]
  · rw [f_X12_manyOf_L4.eq_2, en, Option.bind_some, if_pos (nle (Nat.le_refl K) (by omega))]
theorem bits_n : ∀ t : Fin 256, p_J6_bitCount_0f7a4 (nI t.1) = nI (cnN (fun s => t.1.testBit s) 8) := by decide +kernel
/-- the meeting k was one -/
def mtB (g : zGh) (k : Nat) : Bool := decide (0 < rE (fun z => g.1 100 (16 * k + z)) ∧ rMt (rQ (fun z => g.1 100 (16 * k + z)) (rE (fun z => g.1 100 (16 * k + z)))) = true)
theorem mtF_no {F : Nat → Int32} : mtF F = -1 ↔ ¬ (0 < rE F ∧ rMt (rQ F (rE F)) = true) := by
  by_cases c : 0 < rE F ∧ rMt (rQ F (rE F)) = true
  · have e1 : mtF F = nI (rE F) := if_pos c
    have h60 : rE F ≤ 60 := rEnd_60 _
    refine ⟨fun z => ?_, fun z => absurd c z⟩
    have h9 := nI_pos (n := rE F) (by omega)
    rw [← e1, z] at h9
    exact absurd (by decide) h9
  · exact ⟨fun _ => c, fun _ => if_neg c⟩
theorem c_met {K : Nat} (w : WT n b L xs τ g h) (c1 : g.1 1 0 = g.1 0 10) (cM : MtQ g) (eK : g.1 0 10 = nI K) (hK : K ≤ 40) : f_X11_meetingsMet 10000 n h = some (nI (cnN (mtB g) K)) := by
  have r := cn_row (F := f_X11_meetingsMet_L4 10000 n h) (mtB g) K (fun m i c hi => ?_) (fun m c => ?_) 10000 0 (Nat.zero_le _) (by omega)
  · unfold f_X11_meetingsMet
    have r' : f_X11_meetingsMet_L4 10000 n h 10000 0 0 = _ := r
    rw [r']
    rfl
  · obtain ⟨i0, i1, i2⟩ := h_ix (m := K) (j := i) hi (by omega)
    obtain ⟨a, ea, ta, ia⟩ := u_mOf_i w c1 i0 (by rw [eK]; exact i1)
    have mk := cM.2 i (by rw [eK, nI_clamp (by omega)]; exact hi)
    obtain ⟨-, -, -, -, -, -, -, -, m11, -⟩ := mk
    have g11 := G_m_11 w ta
    rw [ia, i2] at g11
    have m11' : g.1 100 (16 * i + 11) = mtF (fun z => g.1 100 (16 * i + z)) := m11
    rw [m11'] at g11
    rw [f_X11_meetingsMet_L4.eq_2, E_0_10 w, Option.bind_some, eK, if_neg (nnle hi (by omega)), ob_0 w, zif_t, ea, Option.bind_some, nI_1]
    show ((gI h a 6 11).bind fun x7 => if x7 = (-1) then _ else _) = _
    rw [g11, Option.bind_some]
    unfold mtB
    by_cases d : 0 < rE (fun z => g.1 100 (16 * i + z)) ∧ rMt (rQ (fun z => g.1 100 (16 * i + z)) (rE (fun z => g.1 100 (16 * i + z)))) = true
    · rw [if_neg (fun z => (mtF_no.mp z) d), decide_eq_true d, if_pos rfl]
    · rw [if_pos (mtF_no.mpr d), decide_eq_false d, if_neg (by decide)]
  · rw [f_X11_meetingsMet_L4.eq_2, E_0_10 w, Option.bind_some, eK, if_pos (nle (Nat.le_refl K) (by omega))]
theorem r_met_L {K : Nat} (c2 : g.1 42 27 = nI K) (hK : K ≤ 40) (c9 : PA g) (cM : ∀ k, k < K → MK (fun z => g.1 100 (16 * k + z)) (g.2.1 61 k) (g.2.1 62 k) (g.2.1 63 k) (g.2.1 64 k) (g.2.1 65 k) (g.2.1 66 k) (g.2.1 67 k) (g.2.1 68 k) (g.2.1 69 k) (g.2.1 70 k)) : ∀ (m i : Nat) (h : zH), i ≤ K → K - i < m → WT n b L xs τ g h → wp (f_X12_metMany_L4 10000 (n + 42) m (nI (cnN (mtB g) i)) (nI i) h) (fun r => r.1 = nI (cnN (mtB g) K) ∧ WT n b L xs τ g r.2) := by
  intro m
  induction m with
  | zero => intro i h _ hm; exact absurd hm (by omega)
  | succ m ih =>
    intro i h hi hm w
    rw [f_X12_metMany_L4.eq_2]
    refine wp_eq (E_42_27 w) ?_
    by_cases e : i = K
    · rw [c2, e, if_pos (nle (Nat.le_refl K) (by omega))]
      exact wp_some ⟨rfl, w⟩
    · have hi' : i < K := by omega
      obtain ⟨i0, i1, i2⟩ := h_ix (m := 40) (j := i) (by omega) (by omega)
      have i1' : nI i < g.1 42 27 := by rw [c2]; exact nlt hi' (by omega)
      have a := A_62 w i0 i1
      rw [i2] at a
      rw [c2, if_neg (nnle hi' (by omega))]
      refine wp_eq (gR_42_30 w) ?_
      refine wp_eq a ?_
      refine wp_zif (ob_42 w) ?_
      obtain ⟨r, er, wr, x42, x43, x44, xa⟩ := v_X12_goes (F := fun z => g.1 100 (16 * i + z)) w i0 i1' c9 i2 (cM i hi')
      refine wp_eq er ?_
      refine wp_eq x43 ?_
      have st : cnN (mtB g) (i + 1) = if mtB g i = true then cnN (mtB g) i + 1 else cnN (mtB g) i := rfl
      have go := ih (i + 1) r (by omega) (by omega) wr
      unfold zlet
      rw [Int32.add_zero, nI_1, nI_1]
      show wp (if bI (mtB g i) = 0 then _ else _) _
      cases hb : mtB g i
      · rw [hb, if_neg (by decide)] at st
        rw [if_pos (by decide : bI false = 0)]
        rw [st] at go
        exact go
      · rw [hb, if_pos rfl] at st
        rw [if_neg (by decide : ¬ bI true = 0)]
        rw [st] at go
        exact go
set_option maxHeartbeats 4000000 in
theorem pr_26 {v : Int32} (w : WT n b L xs τ g h) (c : CP τ g) : wp (f_X11_count 10000 n v h) (fun r => wp (f_X12_count 10000 (n + 42) v h) (fun s => r = s.1 ∧ IV n b L xs s.2)) := by
  have hc := c
  obtain ⟨⟨c1, c2⟩, c3, c4, c5, c6, c7, c8, c9, cA, cL, cB, cC, cD, cE, cM, cR⟩ := c
  have r10 := gr_0_10 w
  have r5 := gr_14_5 w
  obtain ⟨K, eK, hK⟩ : ∃ K, g.1 0 10 = nI K ∧ K ≤ 40 := ⟨(g.1 0 10).toNatClampNeg, (i32_nI r10.1).symm, Nat.le_of_lt_succ (i32_clamp r10.1 (N := 41) (by decide) (by show g.1 0 10 < 41; lia)).2⟩
  obtain ⟨R, eR, hR⟩ : ∃ R, g.1 14 5 = nI R ∧ R ≤ 80 := ⟨(g.1 14 5).toNatClampNeg, (i32_nI r5.1).symm, Nat.le_of_lt_succ (i32_clamp r5.1 (N := 81) (by decide) (by show g.1 14 5 < 81; lia)).2⟩
  have kK : (g.1 0 10).toNatClampNeg = K := by rw [eK]; exact nI_clamp (by omega)
  have kR : (g.1 14 5).toNatClampNeg = R := by rw [eR]; exact nI_clamp (by omega)
  obtain ⟨h1, E1, w1⟩ := pI_42_0 (x := 0) w
  have vw := vw_eq w (BG_refl g) c3 cR
  have go : ∀ (x : Int32) (o : Option Int32) (o2 : Option (Int32 × zH)), f_X11_count 10000 n v h = o → f_X12_count 10000 (n + 42) v h = o2 → o = some x → wp o2 (fun s => x = s.1 ∧ WT n b L xs τ g s.2) → wp (f_X11_count 10000 n v h) (fun r => wp (f_X12_count 10000 (n + 42) v h) (fun s => r = s.1 ∧ IV n b L xs s.2)) := fun x o o2 e1 e2 e3 e4 => by
    rw [e1, e2]
    refine ⟨x, e3, wp_mono e4 fun s q => ⟨q.1, τ, g, q.2, hc⟩⟩
  have st := f_X12_count.eq_1 10000 (n + 42) v h
  rw [E1, Option.bind_some] at st
  have sc := f_X11_count.eq_1 10000 n v h
  by_cases d0 : v = 0
  · rw [if_pos d0] at st sc
    rw [E_0_11 w] at sc
    rw [E_42_25 w1] at st
    exact go (g.1 0 11) _ _ sc st rfl (wp_some ⟨c3.symm, w1⟩)
  rw [if_neg d0] at st sc
  by_cases d1 : v = 1
  · rw [if_pos d1] at st sc
    rw [ob_0 w, zif_t, v_view w] at sc
    rw [ob_42 w1, zif_t, v_vy w1, vw] at st
    exact go _ _ _ sc st rfl (wp_some ⟨rfl, w1⟩)
  rw [if_neg d1] at st sc
  by_cases d2 : v = 2
  · rw [if_pos d2] at st sc
    rw [E_0_10 w] at sc
    rw [E_42_27 w1] at st
    exact go _ _ _ sc st rfl (wp_some ⟨c2.symm, w1⟩)
  rw [if_neg d2] at st sc
  by_cases d3 : v = 3
  · rw [if_pos d3] at st sc
    rw [gR_0_4 w, Option.bind_some, E_10_3 w] at sc
    rw [E_42_10 w1] at st
    exact go _ _ _ sc st rfl (wp_some ⟨cL.1.symm, w1⟩)
  rw [if_neg d3] at st sc
  by_cases d4 : v = 4
  · rw [if_pos d4] at st sc
    rw [gR_0_5 w, Option.bind_some, E_14_5 w] at sc
    rw [E_42_49 w1] at st
    exact go _ _ _ sc st rfl (wp_some ⟨c4.symm, w1⟩)
  rw [if_neg d4] at st sc
  by_cases d5 : v = 5
  · rw [if_pos d5] at st sc
    rw [gR_0_5 w, Option.bind_some, ob_0 w, zif_t, v_view w, Option.bind_some, ob_14 w, zif_t, c_toldBy w eR hR] at sc
    rw [ob_42 w1, zif_t, r_seen w1 vw (c4.trans eR) hR] at st
    refine go _ _ _ sc st rfl (wp_some ⟨congrArg nI (cnN_congr R fun i hi => ?_), w1⟩)
    rw [(cR.2.2.2 i (by rw [kR]; exact hi)).1.1]
  rw [if_neg d5] at st sc
  by_cases d6 : v = 6
  · rw [if_pos d6] at st sc
    rw [gR_0_2 w, Option.bind_some, E_3_2 w] at sc
    rw [E_42_2 w1] at st
    exact go _ _ _ sc st rfl (wp_some ⟨c7.symm, w1⟩)
  rw [if_neg d6] at st sc
  by_cases d7 : v = 7
  · rw [if_pos d7] at st sc
    rw [gR_0_6 w, Option.bind_some, ob_20 w, zif_t, c_strN w] at sc
    rw [gR_42_57 w1, Option.bind_some, r_manyOf (K := 4) (f := g.2.1 81) (by decide) (aN_81 w1) (fun i hi => by
      have a := A_81 w1 (q4 hi).1 (q4 hi).2.1
      rw [(q4 hi).2.2] at a
      exact a)] at st
    refine go _ _ _ sc st rfl (wp_some ⟨congrArg nI (cnN_congr 4 fun i hi => ?_), w1⟩)
    rw [cD.1 i hi]
    by_cases d : 0 < g.2.1 21 i
    · rw [if_pos d, decide_eq_true d]
      rfl
    · rw [if_neg d, decide_eq_false d]
      rfl
  rw [if_neg d7] at st sc
  by_cases d8 : v = 8
  · rw [if_pos d8] at st sc
    rw [gR_0_7 w, Option.bind_some, E_25_6 w] at sc
    rw [E_42_67 w1] at st
    exact go _ _ _ sc st rfl (wp_some ⟨c5.symm, w1⟩)
  rw [if_neg d8] at st sc
  by_cases d9 : v = 9
  · rw [if_pos d9] at st sc
    have r9 := gr_33_9 w
    have e9 : g.1 33 9 = nI (tdG g) := (i32_nI r9.1).symm
    have h9 : tdG g < 256 := (i32_clamp r9.1 (N := 256) (by decide) (by show g.1 33 9 < 256; lia)).2
    rw [gR_0_9 w, Option.bind_some, E_33_9 w, Option.bind_some, e9, bits_n ⟨tdG g, h9⟩] at sc
    rw [gR_42_72 w1, Option.bind_some, r_manyOf (K := 8) (f := g.2.1 92) (by decide) (aN_92 w1) (fun i hi => by
      have a := A_92 w1 (q8 hi).1 (q8 hi).2.1
      rw [(q8 hi).2.2] at a
      exact a)] at st
    refine go _ _ _ sc st rfl (wp_some ⟨congrArg nI (cnN_congr 8 fun i hi => ?_), w1⟩)
    rw [cE.1 i hi]
    show (tdG g).testBit i = _
    cases hb : (tdG g).testBit i
    · rfl
    · rfl
  rw [if_neg d9] at st sc
  by_cases d10 : v = 10
  · rw [if_pos d10] at st sc
    rw [gR_0_9 w, Option.bind_some, E_33_10 w] at sc
    rw [E_42_76 w1] at st
    exact go _ _ _ sc st rfl (wp_some ⟨c6.symm, w1⟩)
  rw [if_neg d10] at st sc
  by_cases d11 : v = 11
  · rw [if_pos d11] at st sc
    rw [ob_0 w, zif_t, c_met w c1 cM eK hK] at sc
    rw [ob_42 w1, zif_t] at st
    refine go _ _ _ sc st rfl ?_
    unfold f_X12_metMany
    refine wp_bind (R := fun r => r.1 = nI (cnN (mtB g) K) ∧ WT n b L xs τ g r.2) ?_ (fun q30 p30 => wp_some ⟨p30.1.symm, p30.2⟩)
    exact wp_bind (r_met_L (c2.trans eK) hK c9 (fun k hk => cM.2 k (by rw [kK]; exact hk)) 10000 0 h1 (Nat.zero_le _) (by omega) w1) fun m11 p11 => wp_some p11
  rw [if_neg d11] at st sc
  exact go _ _ _ sc st rfl (wp_some ⟨rfl, w1⟩)
end CNT
