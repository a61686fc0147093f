/-! customs of the reference -/
def SG (g g' : zGh) : Prop := g'.1 = g.1 ∧ (∀ j, ¬ (77 ≤ j ∧ j ≤ 80) → g'.2.1 j = g.2.1 j) ∧ g'.2.2 = g.2.2
theorem SG_refl (g : zGh) : SG g g := ⟨rfl, fun _ _ => rfl, rfl⟩
theorem SG_trans {g g' g2 : zGh} (a : SG g g') (c : SG g' g2) : SG g g2 := ⟨c.1.trans a.1, fun j e => (c.2.1 j e).trans (a.2.1 j e), c.2.2.trans a.2.2⟩
theorem SG_A (g : zGh) {j : Nat} (hj : 77 ≤ j ∧ j ≤ 80) (f : Nat → Int32) : SG g (gsA g j f) := ⟨rfl, fun i e => if_neg (fun z => e (by rw [z]; exact hj)), rfl⟩
/-- only what is possible changes -/
def PG (g g' : zGh) : Prop := g'.1 = g.1 ∧ (∀ j, j ≠ 80 → g'.2.1 j = g.2.1 j) ∧ g'.2.2 = g.2.2
theorem PG_refl (g : zGh) : PG g g := ⟨rfl, fun _ _ => rfl, rfl⟩
theorem PG_trans {g g' g2 : zGh} (a : PG g g') (c : PG g' g2) : PG g g2 := ⟨c.1.trans a.1, fun j e => (c.2.1 j e).trans (a.2.1 j e), c.2.2.trans a.2.2⟩
theorem PG_A (g : zGh) (f : Nat → Int32) : PG g (gsA g 80 f) := ⟨rfl, fun i e => if_neg e, rfl⟩
theorem PG_SG {g g' : zGh} (p : PG g g') : SG g g' := ⟨p.1, fun j e => p.2.1 j (fun z => e (by omega)), p.2.2⟩
theorem SG_row {g g' : zGh} (p : SG g g') (k : Nat) : mRow g' k = mRow g k := by
  unfold mRow
  rw [p.1]
/-- the meetings -/
def HM (g : zGh) (M : Nat) : Prop := M ≤ 40 ∧ g.1 42 27 = nI M ∧ (∀ i : Int32, 0 ≤ i → i < g.1 42 27 → 1 ≤ g.2.1 65 i.toNatClampNeg) ∧ ∀ k, k < M → MK (mRow g k) (g.2.1 61 k) (g.2.1 62 k) (g.2.1 63 k) (g.2.1 64 k) (g.2.1 65 k) (g.2.1 66 k) (g.2.1 67 k) (g.2.1 68 k) (g.2.1 69 k) (g.2.1 70 k)
theorem HM_SG {g g' : zGh} {M : Nat} (p : SG g g') (q : HM g M) : HM g' M := by
  obtain ⟨q1, q2, q3, q4⟩ := q
  have a (j : Nat) (h1 : ¬ (77 ≤ j ∧ j ≤ 80) := by decide) : g'.2.1 j = g.2.1 j := p.2.1 j h1
  refine ⟨q1, by rw [p.1]; exact q2, by rw [p.1, a 65]; exact q3, fun k hk => ?_⟩
  rw [SG_row p, a 61, a 62, a 63, a 64, a 65, a 66, a 67, a 68, a 69, a 70]
  exact q4 k hk
def FS (g : zGh) (M : Nat) : Prop := (∀ j, j < M → g.2.1 77 j = nI (sgnF (mRow g j))) ∧ ∀ e, e < 128 → g.2.1 78 e = nI (cA e) ∧ g.2.1 79 e = nI (cB e)
theorem FS_PG {g g' : zGh} {M : Nat} (p : PG g g') (q : FS g M) : FS g' M := by
  refine ⟨fun j hj => ?_, fun e he => ?_⟩
  · rw [p.2.1 77 (by decide), SG_row (PG_SG p)]
    exact q.1 j hj
  · rw [p.2.1 78 (by decide), p.2.1 79 (by decide)]
    exact q.2 e he
/-- the rulings -/
def RG (g : zGh) (M R : Nat) (Y D : Nat → Int32) (S : Nat → Nat) : Prop := R ≤ 80 ∧ g.1 42 49 = nI R ∧ ∀ r, r < R → g.2.1 76 r = Y r ∧ g.2.1 75 r = D r ∧ (D r = 0 ∨ D r = 1) ∧ ∃ k, k < M ∧ g.2.1 74 r = nI k ∧ S r = sgnF (mRow g k)
theorem RG_SG {g g' : zGh} {M R : Nat} {Y D : Nat → Int32} {S : Nat → Nat} (p : SG g g') (q : RG g M R Y D S) : RG g' M R Y D S := by
  obtain ⟨q1, q2, q3⟩ := q
  refine ⟨q1, by rw [p.1]; exact q2, fun r hr => ?_⟩
  rw [p.2.1 76 (by decide), p.2.1 75 (by decide), p.2.1 74 (by decide)]
  obtain ⟨a1, a2, a3, k, a4, a5, a6⟩ := q3 r hr
  exact ⟨a1, a2, a3, k, a4, a5, by rw [SG_row p]; exact a6⟩
theorem wp_z0 {c P : Prop} [Decidable c] [Decidable P] {v : Int32} (e : c ↔ ¬ P) : wp (if c then some (0 : Int32) else some v) (fun r => r = zb (decide P) v) := by
  by_cases z : P
  · rw [if_neg (fun y => (e.mp y) z), decide_eq_true z]
    exact wp_some rfl
  · rw [if_pos (e.mpr z), decide_eq_false z]
    exact wp_some rfl
theorem wp_z1 {c P : Prop} [Decidable c] [Decidable P] {v : Int32} (e : c ↔ P) : wp (if c then some v else some (0 : Int32)) (fun r => r = zb (decide P) v) := by
  by_cases z : P
  · rw [if_pos (e.mpr z), decide_eq_true z]
    exact wp_some rfl
  · rw [if_neg (fun y => z (e.mp y)), decide_eq_false z]
    exact wp_some rfl
theorem mod8 : ∀ a, a < 16 → ∀ b, b < 16 → ((nI a - nI a / 8 * 8) = (nI b - nI b / 8 * 8) ↔ a % 8 = b % 8) := by decide +kernel
section CUS
variable {n b L : Nat} {xs : Nat → Int32} {τ : Nat → Nat} {g : zGh} {h : zH}
theorem v_seenOf {F : Nat → Int32} (s1 : 1 ≤ F 1 ∧ F 1 ≤ 300) (hf : F 9 = 0 ∨ F 9 = 1 ∨ F 9 = 2) (x42 : gI h (n + 42) 12 42 = some (nI (rE F))) (x43 : gI h (n + 42) 12 43 = some (bI (decide (0 < rE F ∧ rMt (rQ F (rE F)) = true)))) (x44 : gI h (n + 42) 12 44 = some (rQ F (rE F)).2.2.2.1) : f_X12_seenOf 10000 (n + 42) h = some (seF F) := by
  have f1 : 0 ≤ F 1 := by lia
  have hs : (F 1).toNatClampNeg ≤ 300 := by
    have := (i32_clamp (i := F 1) f1 (N := 301) (by decide) (by show F 1 < 301; lia)).2
    omega
  have h60 : rE F ≤ 60 := rEnd_60 _
  have q := (qInv (x0 := F 0) (y0 := F 3) (reacts := F 2) (pace := F 4) (looks := F 5) (sx := F 7) (sy := F 8) (fl := F 9) hs hf (rE F) h60).2.1
  rw [i32_nI f1] at q
  have q' : ((rQ F (rE F)).2.2.2.1 < 0) = ((rQ F (rE F)).2.2.2.1 = -1) := q
  have e60 : ¬ (0 < rE F ∧ rMt (rQ F (rE F)) = true) → nI (rE F) = 60 := fun z => by
    have e : rE F = 60 := rEnd_no _ z
    rw [e]
    rfl
  generalize hB : decide (0 < rE F ∧ rMt (rQ F (rE F)) = true) = B at x43
  generalize hQ : (rQ F (rE F)).2.2.2.1 = f at x44 q'
  have seq : seF F = if f = -1 then 0 else nI (rE F) - f := by
    unfold seF
    rw [hQ]
  refine wp_is ?_
  unfold f_X12_seenOf
  refine wp_eq x44 ?_
  refine wp_ite (fun ge => ?_) (fun lt => ?_)
  · have c : ¬ f = -1 := by
      rw [← q', Int32.not_lt]
      exact ge
    refine wp_eq x43 ?_
    refine wp_ite (fun z => ?_) (fun z => ?_)
    · refine wp_eq x44 ?_
      have bf : B = false := by
        cases B
        · rfl
        · exact absurd z (by decide)
      rw [bf] at hB
      exact wp_some (by rw [seq, if_neg c, e60 (of_decide_eq_false hB)])
    · refine wp_eq x42 ?_
      refine wp_eq x44 ?_
      exact wp_some (by rw [seq, if_neg c])
  · have c : f = -1 := by
      rw [← q']
      exact Int32.not_le.mp lt
    exact wp_some (by rw [seq, if_pos c])
set_option maxHeartbeats 1000000 in
theorem v_X12_signsOf {M k : Nat} (w : WT n b L xs τ g h) (hm : HM g M) (hk : k < M) : wp (f_X12_signsOf 10000 (n + 42) (nI k) h) (fun q => q.1 = nI (sgnF (mRow g k)) ∧ WT n b L xs τ g q.2) := by
  obtain ⟨q1, q2, q3, q4⟩ := hm
  obtain ⟨i0, i1, i2⟩ := h_ix (m := 40) (j := k) (by omega) (by omega)
  have mk := q4 k hk
  have p1 : nI k < g.1 42 27 := by rw [q2]; exact (h_ix (m := M) (j := k) hk (by omega)).2.1
  obtain ⟨r, er, wr, x42, x43, x44, xa⟩ := v_X12_goes (v1 := nI k) (K := k) (F := mRow g k) w i0 p1 q3 i2 mk
  obtain ⟨⟨m0, m1, m2, m3, m4⟩, m5, m6, ⟨m7, m8, m9, m10⟩, m7r, m9r, m1r, m4r, m11, m12⟩ := mk
  generalize mRow g k = F at *
  have a62 : aI h (n + 62) (nI k) = some (g.2.1 62 k) := by rw [A_62 w i0 i1, i2]
  have b62 : aI r (n + 62) (nI k) = some (F 1) := by rw [A_62 wr i0 i1, i2, m1]
  have b66 : aI r (n + 66) (nI k) = some (g.2.1 66 k) := by rw [A_66 wr i0 i1, i2]
  have b67 : aI r (n + 67) (nI k) = some (F 7) := by rw [A_67 wr i0 i1, i2, m7]
  have b69 : aI r (n + 69) (nI k) = some (F 9) := by rw [A_69 wr i0 i1, i2, m9]
  have b70 : aI r (n + 70) (nI k) = some (F 10) := by rw [A_70 wr i0 i1, i2, m10]
  unfold f_X12_signsOf
  refine wp_eq (gR_42_30 w) ?_
  refine wp_eq a62 ?_
  refine wp_zif (ob_42 w) ?_
  refine wp_eq er ?_
  refine wp_eq (gR_42_30 wr) ?_
  refine wp_eq b62 ?_
  refine wp_bind (wp_z0 (P := 100 < F 1) Int32.not_lt.symm) fun m7' p7 => ?_
  refine wp_eq (gR_42_34 wr) ?_
  refine wp_eq b66 ?_
  rw [← m6]
  refine wp_bind (R := fun r => r = if decide (F 6 = 1) = true then 2 else zb (decide (F 6 = 2)) 4) ?_ (fun m11' p11 => ?_)
  · refine wp_ite (fun z => wp_some (by rw [decide_eq_true z]; rfl)) (fun z => ?_)
    refine wp_eq (gR_42_34 wr) ?_
    refine wp_eq b66 ?_
    rw [← m6, decide_eq_false z]
    exact wp_z1 Iff.rfl
  refine wp_zlet ?_
  refine wp_zif (ob_42 wr) ?_
  refine wp_eq (v_seenOf m1r m9r x42 x43 x44) ?_
  refine wp_bind (wp_z0 (P := 2 ≤ seF F) Int32.not_le.symm) fun m19 p19 => ?_
  refine wp_zlet ?_
  refine wp_eq (gR_42_34 wr) ?_
  refine wp_eq b66 ?_
  refine wp_bind (wp_z1 (P := ¬ F 5 = 0) (Eq.to_iff m5)) fun m24 p24 => ?_
  refine wp_zlet ?_
  refine wp_eq (gR_42_35 wr) ?_
  refine wp_eq b67 ?_
  refine wp_bind (wp_z0 (P := ¬ F 7 = 0) ⟨fun z y => ?_, fun z => ?_⟩) fun m29 p29 => ?_
  · rcases m7r with z9 | z9
    · exact y z9
    · exact absurd z (Int32.not_le.mpr z9)
  · rw [Decidable.not_not.mp z]
    decide
  refine wp_zlet ?_
  refine wp_eq (gR_42_37 wr) ?_
  refine wp_eq b69 ?_
  refine wp_bind (wp_z0 (P := ¬ F 9 = 0) ⟨fun z y => ?_, fun z => ?_⟩) fun m34 p34 => ?_
  · rcases m9r with z9 | z9 | z9
    · exact y z9
    · rw [z9] at z; exact absurd z (by decide)
    · rw [z9] at z; exact absurd z (by decide)
  · rw [Decidable.not_not.mp z]
    decide
  refine wp_zlet ?_
  refine wp_eq (gR_42_38 wr) ?_
  refine wp_eq b70 ?_
  have fin : ((((((m7' ||| m11') ||| m19) ||| m24) ||| m29) ||| m34) ||| zb (decide (F 10 < 10)) 128) = nI (sgnF F) := by
    rw [p7, p11, p19, p24, p29, p34]
    exact sg_ref _ _ _ _ _ _ _ _ (fun z => by
      have a := of_decide_eq_true z.1
      have c := of_decide_eq_true z.2
      rw [a] at c
      exact absurd c (by decide))
  refine wp_ite (fun z => wp_some ⟨?_, wr⟩) (fun z => wp_some ⟨?_, wr⟩)
  · rw [← fin, decide_eq_false (Int32.not_lt.mpr z)]
    rfl
  · rw [← fin, decide_eq_true (Int32.not_le.mp z)]
    rfl
theorem v_X12_fs_L2 {M : Nat} : ∀ (m : Nat) {k : Nat} {g : zGh} {h : zH}, WT n b L xs τ g h → HM g M → k ≤ M → M - k < m → (∀ j, j < k → g.2.1 77 j = nI (sgnF (mRow g j))) → wp (f_X12_findSigns_L2 10000 (n + 42) m (nI k) h) (fun r => ∃ g', WT n b L xs τ g' r ∧ SG g g' ∧ ∀ j, j < M → g'.2.1 77 j = nI (sgnF (mRow g' j))) := by
  intro m
  induction m with
  | zero => intro k g h w hm hk hf; exact absurd hf (by omega)
  | succ m ih =>
    intro k g h w hm hk hf hj
    have hm0 := hm
    obtain ⟨q1, q2, q3, q4⟩ := hm
    rw [f_X12_findSigns_L2.eq_2]
    refine wp_eq (E_42_27 w) ?_
    rw [q2]
    refine wp_ite (fun c => ?_) (fun c => ?_)
    · rw [nI_leI (by omega) (by omega)] at c
      have e : k = M := by omega
      subst e
      exact wp_some ⟨g, w, SG_refl g, hj⟩
    · rw [nI_leI (by omega) (by omega)] at c
      obtain ⟨i0, i1, i2⟩ := h_ix (m := 40) (j := k) (by omega) (by omega)
      refine wp_eq (gR_42_53 w) ?_
      refine wp_zif (ob_42 w) ?_
      refine wp_bind (v_X12_signsOf w hm0 (by omega)) fun q5 p5 => ?_
      rw [p5.1]
      refine wp_bind (sI_77 (x := nI (sgnF (mRow g k))) p5.2 i0 i1) fun h6 w6 => ?_
      rw [i2] at w6
      rw [nI_1]
      have sg := SG_A g (j := 77) (by decide) (upd (g.2.1 77) k (nI (sgnF (mRow g k))))
      refine wp_mono (ih (k := k + 1) w6 (HM_SG sg hm0) (by omega) (by omega) (fun j h1 => ?_)) (fun r q => ?_)
      · rw [SG_row sg]
        show upd (g.2.1 77) k (nI (sgnF (mRow g k))) j = _
        by_cases e : j = k
        · rw [e, ud_at]
        · rw [ud_ne e]
          exact hj j (by omega)
      · obtain ⟨g', a1, a2, a3⟩ := q
        exact ⟨g', a1, SG_trans sg a2, a3⟩
/-- the pairs found so far -/
def CT (g : zGh) (c : Nat) : Prop := ∀ e, e < c → g.2.1 78 e = nI (cA e) ∧ g.2.1 79 e = nI (cB e)
theorem v_X12_fs_L39 {a : Nat} (ha : a < 16) : ∀ (m : Nat) {bb : Nat} {g : zGh} {h : zH}, WT n b L xs τ g h → a ≤ bb → bb ≤ 16 → 16 - bb < m → CT g (cI a bb) → wp (f_X12_findSigns_L39 10000 (n + 42) (nI a) m (nI (cI a bb)) (nI bb) h) (fun r => r.1 = nI (cI a 16) ∧ ∃ g', WT n b L xs τ g' r.2 ∧ (SG g g' ∧ g'.2.1 77 = g.2.1 77) ∧ CT g' (cI a 16)) := by
  intro m
  induction m with
  | zero => intro bb g h w h1 h2 hf; exact absurd hf (by omega)
  | succ m ih =>
    intro bb g h w h1 h2 hf ct
    rw [f_X12_findSigns_L39.eq_2]
    refine wp_ite (fun c => ?_) (fun c => ?_)
    · rw [show (16 : Int32) = nI 16 from rfl, nI_leI (by decide) (by omega)] at c
      have e : bb = 16 := by omega
      subst e
      exact wp_some ⟨rfl, g, w, ⟨SG_refl g, rfl⟩, ct⟩
    · rw [show (16 : Int32) = nI 16 from rfl, nI_leI (by decide) (by omega)] at c
      have b16 : bb < 16 := by omega
      by_cases val : bb = a + 8
      · have ne : ¬ nI a = nI bb := fun z => by
          have := nI_inj (by omega) (by omega) z
          omega
        rw [if_neg ne, if_pos ((mod8 a ha bb b16).mpr (by omega)), nI_1]
        refine wp_bmap ?_
        have l := ih (bb := bb + 1) w (by omega) (by omega) (by omega) (by rw [val, cI_no a ha, ← val]; exact ct)
        have ec : cI a (bb + 1) = cI a bb := by rw [val]; exact cI_no a ha
        rw [ec] at l
        exact wp_bind l fun r q => wp_zsR q
      · obtain ⟨d1, d2, d3, d4⟩ := cI_AB a ha bb b16 h1 val
        obtain ⟨i0, i1, i2⟩ := h_ix (m := 128) (j := cI a bb) d1 (by omega)
        have go : wp ((gR h (n + 42) 12 54).bind fun r15 => (sI h r15 (nI (cI a bb)) (nI a)).bind fun h16 => (gR h16 (n + 42) 12 55).bind fun r17 => (sI h16 r17 (nI (cI a bb)) (nI bb)).bind fun h18 => f_X12_findSigns_L39 10000 (n + 42) (nI a) m (nI (cI a bb) + 1) (nI bb + 1) h18) (fun r => r.1 = nI (cI a 16) ∧ ∃ g', WT n b L xs τ g' r.2 ∧ (SG g g' ∧ g'.2.1 77 = g.2.1 77) ∧ CT g' (cI a 16)) := by
          refine wp_eq (gR_42_54 w) ?_
          refine wp_bind (sI_78 (x := nI a) w i0 i1) fun h16 w16 => ?_
          refine wp_eq (gR_42_55 w16) ?_
          refine wp_bind (sI_79 (x := nI bb) w16 i0 i1) fun h18 w18 => ?_
          rw [i2] at w18
          rw [nI_1, nI_1, ← d4]
          have s1 := SG_A g (j := 78) (by decide) (upd (g.2.1 78) (cI a bb) (nI a))
          have s2 := SG_A (gsA g 78 (upd (g.2.1 78) (cI a bb) (nI a))) (j := 79) (by decide) (upd (g.2.1 79) (cI a bb) (nI bb))
          refine wp_mono (ih (bb := bb + 1) w18 (by omega) (by omega) (by omega) (fun e he => ?_)) (fun r q => ?_)
          · show upd (g.2.1 78) (cI a bb) (nI a) e = nI (cA e) ∧ upd (g.2.1 79) (cI a bb) (nI bb) e = nI (cB e)
            by_cases ee : e = cI a bb
            · rw [ee, ud_at, ud_at, d2, d3]
              exact ⟨rfl, rfl⟩
            · rw [ud_ne ee, ud_ne ee]
              exact ct e (by omega)
          · obtain ⟨r1, g', r2, r3, r4⟩ := q
            exact ⟨r1, g', r2, ⟨SG_trans (SG_trans s1 s2) r3.1, r3.2⟩, r4⟩
        by_cases eq : nI a = nI bb
        · rw [if_pos eq]
          exact go
        · rw [if_neg eq, if_neg (show ¬ (nI a - nI a / 8 * 8) = (nI bb - nI bb / 8 * 8) from fun z => by
            have z2 := (mod8 a ha bb b16).mp z
            have z3 : ¬ a = bb := fun z9 => eq (by rw [z9])
            omega)]
          exact go
theorem v_X12_fs_L31 : ∀ (m : Nat) {a : Nat} {g : zGh} {h : zH}, WT n b L xs τ g h → a ≤ 16 → 16 - a < m → CT g (cI a a) → wp (f_X12_findSigns_L31 10000 (n + 42) m (nI (cI a a)) (nI a) h) (fun r => ∃ g', WT n b L xs τ g' r ∧ (SG g g' ∧ g'.2.1 77 = g.2.1 77) ∧ CT g' 128) := by
  intro m
  induction m with
  | zero => intro a g h w h1 hf; exact absurd hf (by omega)
  | succ m ih =>
    intro a g h w h1 hf ct
    rw [f_X12_findSigns_L31.eq_2]
    refine wp_ite (fun c => ?_) (fun c => ?_)
    · rw [show (16 : Int32) = nI 16 from rfl, nI_leI (by decide) (by omega)] at c
      have e : a = 16 := by omega
      subst e
      rw [cI_end] at ct
      exact wp_some ⟨g, w, ⟨SG_refl g, rfl⟩, ct⟩
    · rw [show (16 : Int32) = nI 16 from rfl, nI_leI (by decide) (by omega)] at c
      refine wp_bind (v_X12_fs_L39 (show a < 16 by omega) 10000 w (Nat.le_refl a) (by omega) (by omega) ct) fun m19 q => ?_
      obtain ⟨r1, g', r2, r3, r4⟩ := q
      rw [r1, nI_1, cI_nx a (by omega)]
      rw [cI_nx a (by omega)] at r4
      refine wp_mono (ih (a := a + 1) r2 (by omega) (by omega) r4) (fun r q => ?_)
      obtain ⟨g2, s1, s2, s3⟩ := q
      exact ⟨g2, s1, ⟨SG_trans r3.1 s2.1, s2.2.trans r3.2⟩, s3⟩
theorem v_X12_findSigns {M : Nat} (w : WT n b L xs τ g h) (hm : HM g M) : wp (f_X12_findSigns 10000 (n + 42) h) (fun r => ∃ g', WT n b L xs τ g' r ∧ SG g g' ∧ FS g' M) := by
  unfold f_X12_findSigns
  have l := v_X12_fs_L2 10000 (k := 0) w hm (by omega) (by have := hm.1; omega) (fun j hj => absurd hj (by omega))
  rw [nI_0] at l
  refine wp_bind l fun m7 q => ?_
  obtain ⟨g7, w7, s7, f7⟩ := q
  have l2 := v_X12_fs_L31 10000 (a := 0) w7 (by omega) (by omega) (fun e he => absurd (show e < 0 from he) (by omega))
  have z0 : nI (cI 0 0) = 0 := rfl
  rw [z0, nI_0] at l2
  refine wp_bind l2 fun m20 q => ?_
  obtain ⟨g2, w2, s2, ct⟩ := q
  refine wp_some ⟨g2, w2, SG_trans s7 s2.1, fun j hj => ?_, ct⟩
  rw [s2.2, SG_row s2.1]
  exact f7 j hj
theorem v_has {s wd : Nat} (hs : s < 256) (hw : wd < 16) : f_X12_has 10000 (nI s) (nI wd) h = some (bI (hsW s wd)) := by
  rw [← has_ref s hs wd hw]
  unfold f_X12_has
  by_cases c : (8 : Int32) ≤ nI wd
  · rw [if_pos c, if_pos c]
    show (if (nI s >>> ((nI wd - nI wd / 8 * 8) &&& 31)) &&& 1 = 0 then some (1 : Int32) else some 0) = _
    by_cases d : (nI s >>> ((nI wd - nI wd / 8 * 8) &&& 31)) &&& 1 = 0
    · rw [if_pos d, if_pos d]
    · rw [if_neg d, if_neg d]
  · rw [if_neg c, if_neg c]
    show (if (nI s >>> ((nI wd - nI wd / 8 * 8) &&& 31)) &&& 1 = 1 then some (1 : Int32) else some 0) = _
    by_cases d : (nI s >>> ((nI wd - nI wd / 8 * 8) &&& 31)) &&& 1 = 1
    · rw [if_pos d, if_pos d]
    · rw [if_neg d, if_neg d]
theorem v_isSo {M c s : Nat} (w : WT n b L xs τ g h) (fs : FS g M) (hc : c < 128) (hs : s < 256) : f_X12_isSo 10000 (n + 42) (nI c) (nI s) h = some (bI (soC c s)) := by
  obtain ⟨i0, i1, i2⟩ := h_ix (m := 128) (j := c) hc (by omega)
  have a78 : aI h (n + 78) (nI c) = some (nI (cA c)) := by rw [A_78 w i0 i1, i2, (fs.2 c hc).1]
  have a79 : aI h (n + 79) (nI c) = some (nI (cB c)) := by rw [A_79 w i0 i1, i2, (fs.2 c hc).2]
  refine wp_is ?_
  unfold f_X12_isSo
  refine wp_eq (gR_42_54 w) ?_
  refine wp_eq a78 ?_
  refine wp_eq (v_has hs (cAB_r c hc).1) ?_
  unfold soC
  cases hsW s (cA c)
  · exact wp_some rfl
  · rw [if_neg (by decide)]
    refine wp_eq (gR_42_55 w) ?_
    refine wp_eq a79 ?_
    refine wp_eq (v_has hs (cAB_r c hc).2) ?_
    cases hsW s (cB c)
    · exact wp_some rfl
    · exact wp_some rfl
theorem v_vy (w : WT n b L xs τ g h) : f_X12_viewYear 10000 (n + 42) h = some (if 0 ≤ g.1 42 26 then g.1 42 26 else g.1 42 25) := by
  unfold f_X12_viewYear
  rw [E_42_26 w, Option.bind_some, E_42_25 w]
  by_cases c : 0 ≤ g.1 42 26
  · rw [if_pos c, if_pos c]; rfl
  · rw [if_neg c, if_neg c]; rfl
set_option maxHeartbeats 1000000 in
theorem v_fc_L21 {M R c : Nat} {Y D : Nat → Int32} {S : Nat → Nat} {y z : Int32} (hM : M ≤ 40) (hc : c < 128) : ∀ (m : Nat) {r : Nat} {g : zGh} {h : zH}, WT n b L xs τ g h → RG g M R Y D S → FS g M → (if 0 ≤ g.1 42 26 then g.1 42 26 else g.1 42 25) = z → r ≤ R → R - r < m → g.2.1 80 c = bI (pR Y D S y z (fun _ => true) r c) → wp (f_X12_findCustoms_L21 10000 (n + 42) y (nI c) m (nI r) h) (fun h2 => ∃ g', WT n b L xs τ g' h2 ∧ PG g g' ∧ g'.2.1 80 c = bI (pR Y D S y z (fun _ => true) R c) ∧ ∀ e, e ≠ c → g'.2.1 80 e = g.2.1 80 e) := by
  intro m
  induction m with
  | zero => intro r g h w rg fs hv hr hf; exact absurd hf (by omega)
  | succ m ih =>
    intro r g h w rg fs hv hr hf ep
    have rg0 := rg
    obtain ⟨q1, q2, q3⟩ := rg
    rw [f_X12_findCustoms_L21.eq_2]
    refine wp_eq (E_42_49 w) ?_
    rw [q2]
    refine wp_ite (fun c9 => ?_) (fun c9 => ?_)
    · rw [nI_leI (by omega) (by omega)] at c9
      have e : r = R := by omega
      subst e
      exact wp_some ⟨g, w, PG_refl g, ep, fun _ _ => rfl⟩
    · rw [nI_leI (by omega) (by omega)] at c9
      obtain ⟨i0, i1, i2⟩ := h_ix (m := 80) (j := r) (by omega) (by omega)
      obtain ⟨a1, a2, a3, k, a4, a5, a6⟩ := q3 r (by omega)
      refine wp_eq (gR_42_52 w) ?_
      have ay : aI h (n + 76) (nI r) = some (Y r) := by rw [A_76 w i0 i1, i2, a1]
      refine wp_eq ay ?_
      refine wp_zif (ob_42 w) ?_
      refine wp_eq ((v_vy w).trans (congrArg some hv)) ?_
      rw [nI_1]
      have same : decide (okR Y D S y z r c) = true → bI (pR Y D S y z (fun _ => true) (r + 1) c) = bI (pR Y D S y z (fun _ => true) r c) := fun o => by
        show bI (pR Y D S y z (fun _ => true) r c && decide (okR Y D S y z r c)) = _
        rw [o, Bool.and_true]
      refine in12 (fun c3 => ?_) (fun c3 => ?_)
      · refine ih (r := r + 1) w rg0 fs hv (by omega) (by omega) ?_
        rw [same (decide_eq_true (show okR Y D S y z r c from fun z9 => absurd z9 c3))]
        exact ep
      · refine wp_eq (gR_42_53 w) ?_
        refine wp_eq (gR_42_50 w) ?_
        have ak : aI h (n + 74) (nI r) = some (nI k) := by rw [A_74 w i0 i1, i2, a5]
        refine wp_eq ak ?_
        obtain ⟨k0, k1, k2⟩ := h_ix (m := 40) (j := k) (by omega) (by omega)
        have as' : aI h (n + 77) (nI k) = some (nI (S r)) := by rw [A_77 w k0 k1, k2, fs.1 k a4, a6]
        refine wp_eq as' ?_
        refine wp_zif (ob_42 w) ?_
        have hs : S r < 256 := by rw [a6]; exact sgnF_lt _
        refine wp_eq (v_isSo w fs hc hs) ?_
        refine wp_eq (gR_42_51 w) ?_
        have ad : aZ h (n + 75) (nI r) = some (bI (decide (¬ D r = 0))) := by
          rw [A_75 w i0 i1, i2, a2]
          rcases a3 with z9 | z9
          · rw [z9]; rfl
          · rw [z9]; rfl
        refine wp_eq ad ?_
        refine wp_ite (fun c4 => ?_) (fun c4 => ?_)
        · refine ih (r := r + 1) w rg0 fs hv (by omega) (by omega) ?_
          rw [same (decide_eq_true (show okR Y D S y z r c from fun _ => bI_inj c4))]
          exact ep
        · refine wp_eq (gR_42_56 w) ?_
          obtain ⟨j0, j1, j2⟩ := h_ix (m := 128) (j := c) hc (by omega)
          refine wp_bind (sZ_80 (x := 0) w j0 j1 (Or.inl rfl)) fun h21 w21 => ?_
          rw [j2] at w21
          have pg := PG_A g (upd (g.2.1 80) c 0)
          refine wp_mono (ih (r := r + 1) w21 (RG_SG (PG_SG pg) rg0) (FS_PG pg fs) hv (by omega) (by omega) ?_) (fun h2 q => ?_)
          · show upd (g.2.1 80) c 0 c = bI (pR Y D S y z (fun _ => true) r c && decide (okR Y D S y z r c))
            rw [ud_at, decide_eq_false (show ¬ okR Y D S y z r c from fun o => c4 (congrArg bI (o c3))), Bool.and_false]
            rfl
          · obtain ⟨g', s1, s2, s3, s4⟩ := q
            refine ⟨g', s1, PG_trans pg s2, s3, fun e he => (s4 e he).trans ?_⟩
            show upd (g.2.1 80) c 0 e = _
            exact ud_ne he
theorem v_fc_L4 {M R : Nat} {Y D : Nat → Int32} {S : Nat → Nat} {y z : Int32} (hM : M ≤ 40) : ∀ (m : Nat) {c : Nat} {g : zGh} {h : zH}, WT n b L xs τ g h → RG g M R Y D S → FS g M → (if 0 ≤ g.1 42 26 then g.1 42 26 else g.1 42 25) = z → c ≤ 128 → 128 - c < m → (∀ e, e < c → g.2.1 80 e = bI (pR Y D S y z (fun _ => true) R e)) → wp (f_X12_findCustoms_L4 10000 (n + 42) y m (nI (cnt (pR Y D S y z (fun _ => true) R) c)) (nI c) h) (fun r => r.1 = nI (cnt (pR Y D S y z (fun _ => true) R) 128) ∧ ∃ g', WT n b L xs τ g' r.2 ∧ PG g g' ∧ ∀ e, e < 128 → g'.2.1 80 e = bI (pR Y D S y z (fun _ => true) R e)) := by
  intro m
  induction m with
  | zero => intro c g h w rg fs hv hc hf; exact absurd hf (by omega)
  | succ m ih =>
    intro c g h w rg fs hv hc hf hp
    rw [f_X12_findCustoms_L4.eq_2]
    refine wp_ite (fun c9 => ?_) (fun c9 => ?_)
    · rw [show (128 : Int32) = nI 128 from rfl, nI_leI (by decide) (by omega)] at c9
      have e : c = 128 := by omega
      subst e
      exact wp_some ⟨rfl, g, w, PG_refl g, hp⟩
    · rw [show (128 : Int32) = nI 128 from rfl, nI_leI (by decide) (by omega)] at c9
      have hc' : c < 128 := by omega
      obtain ⟨j0, j1, j2⟩ := h_ix (m := 128) (j := c) hc' (by omega)
      refine wp_eq (gR_42_56 w) ?_
      refine wp_bind (sZ_80 (x := 1) w j0 j1 (Or.inr rfl)) fun h3 w3 => ?_
      rw [j2] at w3
      have pg := PG_A g (upd (g.2.1 80) c 1)
      have l := v_fc_L21 (y := y) (z := z) hM hc' 10000 (r := 0) w3 (RG_SG (PG_SG pg) rg) (FS_PG pg fs) hv (by omega) (by have := rg.1; omega) (by
        show upd (g.2.1 80) c 1 c = _
        rw [ud_at]
        rfl)
      rw [nI_0] at l
      refine wp_bind l fun m22 q => ?_
      obtain ⟨g2, w2, pg2, e2, o2⟩ := q
      refine wp_eq (gR_42_56 w2) ?_
      have az : aZ m22 (n + 80) (nI c) = some (bI (pR Y D S y z (fun _ => true) R c)) := by rw [A_80 w2 j0 j1, j2, e2]
      refine wp_eq az ?_
      have pg3 := PG_trans pg pg2
      have hv2 : (if 0 ≤ g2.1 42 26 then g2.1 42 26 else g2.1 42 25) = z := by rw [pg3.1]; exact hv
      have hp2 : ∀ e, e < c + 1 → g2.2.1 80 e = bI (pR Y D S y z (fun _ => true) R e) := by
        intro e he
        by_cases ee : e = c
        · rw [ee]; exact e2
        · rw [o2 e ee]
          show upd (g.2.1 80) c 1 e = _
          rw [ud_ne ee]
          exact hp e (by omega)
      have rest := ih (c := c + 1) w2 (RG_SG (PG_SG pg3) rg) (FS_PG pg3 fs) hv2 (by omega) (by omega) hp2
      have fin : wp (f_X12_findCustoms_L4 10000 (n + 42) y m (nI (cnt (pR Y D S y z (fun _ => true) R) (c + 1))) (nI (c + 1)) m22) (fun r => r.1 = nI (cnt (pR Y D S y z (fun _ => true) R) 128) ∧ ∃ g', WT n b L xs τ g' r.2 ∧ PG g g' ∧ ∀ e, e < 128 → g'.2.1 80 e = bI (pR Y D S y z (fun _ => true) R e)) := by
        refine wp_mono rest (fun r q => ?_)
        obtain ⟨r1, g', r2, r3, r4⟩ := q
        exact ⟨r1, g', r2, PG_trans pg3 r3, r4⟩
      by_cases pc : pR Y D S y z (fun _ => true) R c = true
      · rw [pc, if_neg (by decide)]
        refine wp_zlet ?_
        rw [nI_1, nI_1, ← cnt_y pc]
        exact fin
      · rw [Bool.not_eq_true] at pc
        rw [pc, if_pos (by decide)]
        refine wp_zlet ?_
        rw [nI_1, Int32.add_zero]
        have e9 : cnt (pR Y D S y z (fun _ => true) R) (c + 1) = cnt (pR Y D S y z (fun _ => true) R) c := cnt_n (by rw [pc]; decide)
        rw [e9] at fin
        exact fin
theorem v_findCustoms {M R : Nat} {Y D : Nat → Int32} {S : Nat → Nat} {y z : Int32} (hM : M ≤ 40) (w : WT n b L xs τ g h) (rg : RG g M R Y D S) (fs : FS g M) (hv : (if 0 ≤ g.1 42 26 then g.1 42 26 else g.1 42 25) = z) : wp (f_X12_findCustoms 10000 (n + 42) y h) (fun r => r.1 = nI (cnt (pR Y D S y z (fun _ => true) R) 128) ∧ ∃ g', WT n b L xs τ g' r.2 ∧ PG g g' ∧ ∀ e, e < 128 → g'.2.1 80 e = bI (pR Y D S y z (fun _ => true) R e)) := by
  unfold f_X12_findCustoms
  have l := v_fc_L4 (y := y) (z := z) hM 10000 (c := 0) w rg fs hv (by omega) (by omega) (fun e he => absurd he (by omega))
  have z0 : nI (cnt (pR Y D S y z (fun _ => true) R) 0) = 0 := rfl
  rw [z0, nI_0] at l
  exact wp_bind l fun m28 q => wp_some q
theorem yr12 {v : Int32} {α : Type} {a c : Option α} {Q : α → Prop} (k1 : ¬ (0 ≤ v ∧ v ≤ 30) → wp a Q) (k2 : 0 ≤ v ∧ v ≤ 30 → wp c Q) (w : WT n b L xs τ g h) : wp ((f_X12_isYear 10000 v h).bind fun q => if q = 0 then a else c) Q := by
  refine wp_bind (t_X12_isYear (v0 := v) w) fun q p => ?_
  refine wp_ite (fun z => ?_) (fun z => ?_)
  · rcases p with p | p
    · exact k1 p.2
    · rw [z] at p
      exact absurd p.1 (by decide)
  · exact k2 (p.resolve_left (fun y => z y.1)).2
theorem v_X12_customs {M R : Nat} {Y D : Nat → Int32} {S : Nat → Nat} {v1 z : Int32} (w : WT n b L xs τ g h) (hm : HM g M) (rg : RG g M R Y D S) (hv : (if 0 ≤ g.1 42 26 then g.1 42 26 else g.1 42 25) = z) : wp (f_X12_customs 10000 (n + 42) v1 h) (fun r => (∃ g', WT n b L xs τ g' r.2 ∧ SG g g') ∧ ((0 ≤ v1 ∧ v1 ≤ 30 → r.1 = nI (cnt (pR Y D S v1 z (fun _ => true) R) 128)) ∧ (¬ (0 ≤ v1 ∧ v1 ≤ 30) → r.1 = -1))) := by
  unfold f_X12_customs
  refine wp_bind (pI_42_0 w) fun h1 w1 => ?_
  refine yr12 (fun c => wp_some ⟨⟨g, w1, SG_refl g⟩, fun z => absurd z c, fun _ => rfl⟩) (fun c => ?_) w1
  refine wp_zif (ob_42 w1) ?_
  refine wp_bind (v_X12_findSigns w1 hm) fun h5 q => ?_
  obtain ⟨g5, w5, s5, fs⟩ := q
  refine wp_zif (ob_42 w5) ?_
  refine wp_bind (v_findCustoms (y := v1) (z := z) hm.1 w5 (RG_SG s5 rg) fs (by rw [s5.1]; exact hv)) fun q7 q => ?_
  obtain ⟨r1, g', r2, r3, r4⟩ := q
  exact wp_some ⟨⟨g', r2, SG_trans s5 (PG_SG r3)⟩, fun _ => r1, fun z => absurd c z⟩
set_option maxHeartbeats 1000000 in
theorem v_held_L {M k : Nat} {P : Nat → Bool} (hM : M ≤ 40) (hk : k < M) (w : WT n b L xs τ g h) (fs : FS g M) (hp : ∀ e, e < 128 → g.2.1 80 e = bI (P e)) : ∀ (m c : Nat), c ≤ 128 → 128 - c < m → f_X12_held_L44 10000 (n + 42) (nI k) h m (bI (decide (cnt (pK P (sgnF (mRow g k)) true) c = cnt P c))) (bI (decide (¬ cnt (pK P (sgnF (mRow g k)) true) c = 0))) (nI c) = some (bI (decide (cnt (pK P (sgnF (mRow g k)) true) 128 = cnt P 128)), bI (decide (¬ cnt (pK P (sgnF (mRow g k)) true) 128 = 0))) := by
  have hs : sgnF (mRow g k) < 256 := sgnF_lt _
  have f77 := fs.1 k hk
  generalize sgnF (mRow g k) = s at hs f77 ⊢
  intro m
  induction m with
  | zero => intro c hc hm; exact absurd hm (by omega)
  | succ m ih =>
    intro c hc hm
    refine wp_is ?_
    rw [f_X12_held_L44.eq_2]
    refine wp_ite (fun z => ?_) (fun z => ?_)
    · rw [show (128 : Int32) = nI 128 from rfl, nI_leI (by decide) (by omega)] at z
      have e : c = 128 := by omega
      subst e
      exact wp_some rfl
    · rw [show (128 : Int32) = nI 128 from rfl, nI_leI (by decide) (by omega)] at z
      have hc' : c < 128 := by omega
      obtain ⟨j0, j1, j2⟩ := h_ix (m := 128) (j := c) hc' (by omega)
      obtain ⟨k0, k1, k2⟩ := h_ix (m := 40) (j := k) (by omega) (by omega)
      have az : aZ h (n + 80) (nI c) = some (bI (P c)) := by rw [A_80 w j0 j1, j2, hp c hc']
      have as' : aI h (n + 77) (nI k) = some (nI s) := by rw [A_77 w k0 k1, k2, f77]
      have so := v_isSo w fs hc' hs
      have le := cnt_sub (p := P) (q := pK P s true) (fun e he => (pK_y.mp he).1) c
      refine wp_eq (gR_42_56 w) ?_
      refine wp_eq az ?_
      rw [nI_1]
      cases pc : P c
      · rw [if_pos (by decide)]
        have e1 : cnt P (c + 1) = cnt P c := cnt_n (by rw [pc]; decide)
        have e2 : cnt (pK P s true) (c + 1) = cnt (pK P s true) c := cnt_n (fun z9 => by
          rw [(pK_y.mp z9).1] at pc
          exact absurd pc (by decide))
        have i := ih (c + 1) (by omega) (by omega)
        rw [e1, e2] at i
        rw [i]
        exact wp_some rfl
      · rw [if_neg (by decide)]
        have e1 : cnt P (c + 1) = cnt P c + 1 := cnt_y pc
        have i := ih (c + 1) (by omega) (by omega)
        rw [e1] at i
        cases sc : soC c s
        · have e2 : cnt (pK P s true) (c + 1) = cnt (pK P s true) c := cnt_n (fun z9 => by
            rw [(pK_y.mp z9).2] at sc
            exact absurd sc (by decide))
          rw [e2, decide_eq_false (show ¬ cnt (pK P s true) c = cnt P c + 1 by omega)] at i
          rw [sc] at so
          refine wp_bind (R := fun r => r = 0) ?_ (fun m16 p16 => ?_)
          · refine wp_ite (fun _ => wp_some rfl) (fun _ => ?_)
            refine wp_eq (gR_42_53 w) ?_
            refine wp_eq as' ?_
            refine wp_zif (ob_42 w) ?_
            refine wp_eq so ?_
            exact wp_some rfl
          rw [p16]
          have i' : f_X12_held_L44 10000 (n + 42) (nI k) h m 0 (bI (decide (¬ cnt (pK P s true) c = 0))) (nI (c + 1)) = _ := i
          refine wp_ite (fun z2 => ?_) (fun z2 => ?_)
          · rw [z2] at i'
            refine wp_eq (gR_42_53 w) ?_
            refine wp_eq as' ?_
            refine wp_zif (ob_42 w) ?_
            refine wp_eq so ?_
            rw [if_pos (by decide), i']
            exact wp_some rfl
          · have one : bI (decide (¬ cnt (pK P s true) c = 0)) = 1 := by
              cases hh : decide (¬ cnt (pK P s true) c = 0)
              · rw [hh] at z2
                exact absurd rfl z2
              · rfl
            rw [one] at i'
            rw [i']
            exact wp_some rfl
        · have e2 : cnt (pK P s true) (c + 1) = cnt (pK P s true) c + 1 := cnt_y (pK_y.mpr ⟨pc, sc⟩)
          rw [e2, decide_eq_true (show ¬ cnt (pK P s true) c + 1 = 0 by omega)] at i
          rw [sc] at so
          have e3 : decide (cnt (pK P s true) c + 1 = cnt P c + 1) = decide (cnt (pK P s true) c = cnt P c) := by
            by_cases z9 : cnt (pK P s true) c = cnt P c
            · rw [decide_eq_true z9, decide_eq_true (by omega)]
            · rw [decide_eq_false z9, decide_eq_false (by omega)]
          rw [e3] at i
          refine wp_bind (R := fun r => r = bI (decide (cnt (pK P s true) c = cnt P c))) ?_ (fun m16 p16 => ?_)
          · refine wp_ite (fun z2 => wp_some z2.symm) (fun z2 => ?_)
            refine wp_eq (gR_42_53 w) ?_
            refine wp_eq as' ?_
            refine wp_zif (ob_42 w) ?_
            refine wp_eq so ?_
            rw [if_neg (by decide)]
            refine wp_some ?_
            cases hh : decide (cnt (pK P s true) c = cnt P c)
            · rw [hh] at z2
              exact absurd rfl z2
            · rfl
          rw [p16]
          have i' : f_X12_held_L44 10000 (n + 42) (nI k) h m (bI (decide (cnt (pK P s true) c = cnt P c))) 1 (nI (c + 1)) = _ := i
          refine wp_ite (fun z2 => ?_) (fun z2 => ?_)
          · refine wp_eq (gR_42_53 w) ?_
            refine wp_eq as' ?_
            refine wp_zif (ob_42 w) ?_
            refine wp_eq so ?_
            rw [if_neg (by decide), i']
            exact wp_some rfl
          · rw [i']
            exact wp_some rfl
theorem v_X12_held {M R : Nat} {Y D : Nat → Int32} {S : Nat → Nat} {v1 v2 z : Int32} (w : WT n b L xs τ g h) (hm : HM g M) (rg : RG g M R Y D S) (hv : (if 0 ≤ g.1 42 26 then g.1 42 26 else g.1 42 25) = z) : wp (f_X12_held 10000 (n + 42) v1 v2 h) (fun r => (∃ g', WT n b L xs τ g' r.2 ∧ SG g g') ∧ (((0 ≤ v1 ∧ v1 < g.1 42 27) ∧ (0 ≤ v2 ∧ v2 ≤ 30) → r.1 = hdA (pR Y D S v2 z (fun _ => true) R) (sgnF (mRow g v1.toNatClampNeg))) ∧ (¬ ((0 ≤ v1 ∧ v1 < g.1 42 27) ∧ (0 ≤ v2 ∧ v2 ≤ 30)) → r.1 = -1))) := by
  unfold f_X12_held
  refine wp_bind (pI_42_0 w) fun h1 w1 => ?_
  refine wp_zif (ob_42 w1) ?_
  refine wp_bind (t_X12_isMeeting w1) fun q3 p3 => ?_
  refine wp_ite (fun z8 => wp_some ⟨⟨g, w1, SG_refl g⟩, fun ok => ?_, fun _ => rfl⟩) (fun z8 => ?_)
  · rcases p3 with p3 | p3
    · exact absurd ok.1 p3.2
    · rw [z8] at p3
      exact absurd p3.1 (by decide)
  have cm : 0 ≤ v1 ∧ v1 < g.1 42 27 := (p3.resolve_left (fun y => z8 y.1)).2
  refine yr12 (fun c => wp_some ⟨⟨g, w1, SG_refl g⟩, fun z => absurd z.2 c, fun _ => rfl⟩) (fun c => ?_) w1
  refine wp_zif (ob_42 w1) ?_
  refine wp_bind (v_X12_findSigns w1 hm) fun h8 q => ?_
  obtain ⟨g8, w8, s8, fs⟩ := q
  refine wp_zif (ob_42 w8) ?_
  refine wp_bind (v_findCustoms (y := v2) (z := z) hm.1 w8 (RG_SG s8 rg) fs (by rw [s8.1]; exact hv)) fun q10 q => ?_
  obtain ⟨r1, g', r2, r3, r4⟩ := q
  rw [r1]
  have le := cnt_le (pR Y D S v2 z (fun _ => true) R) 128
  have hk : v1.toNatClampNeg < M := by
    have c2 := cm.2
    rw [hm.2.1] at c2
    have lt := clamp_lt cm.1 c2
    rwa [nI_clamp (by have := hm.1; omega)] at lt
  have e1 : nI v1.toNatClampNeg = v1 := i32_nI cm.1
  have frm : ∃ g', WT n b L xs τ g' q10.2 ∧ SG g g' := ⟨g', r2, SG_trans s8 (PG_SG r3)⟩
  have row : mRow g' v1.toNatClampNeg = mRow g v1.toNatClampNeg := (SG_row (PG_SG r3) _).trans (SG_row s8 _)
  have l := v_held_L (P := pR Y D S v2 z (fun _ => true) R) hm.1 hk r2 (FS_PG r3 fs) r4 10000 0 (by omega) (by omega)
  rw [row, e1] at l
  have z1 : bI (decide (cnt (pK (pR Y D S v2 z (fun _ => true) R) (sgnF (mRow g v1.toNatClampNeg)) true) 0 = cnt (pR Y D S v2 z (fun _ => true) R) 0)) = 1 := rfl
  have z2 : bI (decide (¬ cnt (pK (pR Y D S v2 z (fun _ => true) R) (sgnF (mRow g v1.toNatClampNeg)) true) 0 = 0)) = 0 := rfl
  rw [z1, z2, nI_0] at l
  refine wp_ite (fun c9 => ?_) (fun c9 => ?_)
  · have e : cnt (pR Y D S v2 z (fun _ => true) R) 128 = 0 := nI_inj (by omega) (by omega) (c9.trans nI_0.symm)
    refine wp_some ⟨frm, fun _ => ?_, fun z9 => absurd ⟨cm, c⟩ z9⟩
    unfold hdA
    rw [if_pos e]
  · have e : ¬ cnt (pR Y D S v2 z (fun _ => true) R) 128 = 0 := fun z9 => c9 (by rw [z9]; rfl)
    refine wp_eq l ?_
    unfold hdA
    rw [if_neg e]
    by_cases a1 : cnt (pK (pR Y D S v2 z (fun _ => true) R) (sgnF (mRow g v1.toNatClampNeg)) true) 128 = cnt (pR Y D S v2 z (fun _ => true) R) 128
    · rw [decide_eq_true a1, if_pos a1]
      show wp (if (1 : Int32) = 0 then _ else some (2, q10.2)) _
      rw [if_neg (by decide : ¬ (1 : Int32) = 0)]
      exact wp_some ⟨frm, fun _ => rfl, fun z9 => absurd ⟨cm, c⟩ z9⟩
    · rw [decide_eq_false a1, if_neg a1]
      show wp (if (0 : Int32) = 0 then (if bI (decide (¬ cnt (pK (pR Y D S v2 z (fun _ => true) R) (sgnF (mRow g v1.toNatClampNeg)) true) 128 = 0)) = 0 then some (0, q10.2) else some (1, q10.2)) else _) _
      rw [if_pos rfl]
      by_cases a2 : cnt (pK (pR Y D S v2 z (fun _ => true) R) (sgnF (mRow g v1.toNatClampNeg)) true) 128 = 0
      · rw [decide_eq_false (fun z9 => z9 a2), if_pos a2, if_pos (show bI false = 0 from rfl)]
        exact wp_some ⟨frm, fun _ => rfl, fun z9 => absurd ⟨cm, c⟩ z9⟩
      · rw [decide_eq_true a2, if_neg a2, if_neg (show ¬ bI true = 0 by decide)]
        exact wp_some ⟨frm, fun _ => rfl, fun z9 => absurd ⟨cm, c⟩ z9⟩
/-! since -/
def tlB (Y : Nat → Int32) (y z : Int32) : Nat → Bool
  | 0 => false
  | r + 1 => tlB Y y z r || decide (y ≤ Y r ∧ Y r ≤ z)
theorem tlB_iff {Y : Nat → Int32} {y z : Int32} : ∀ R, tlB Y y z R = true ↔ ∃ r, r < R ∧ y ≤ Y r ∧ Y r ≤ z := by
  intro R
  induction R with
  | zero => exact ⟨fun h => absurd (show false = true from h) (by decide), fun ⟨r, h, _⟩ => absurd h (by omega)⟩
  | succ R ih =>
    show (tlB Y y z R || decide (y ≤ Y R ∧ Y R ≤ z)) = true ↔ _
    rw [Bool.or_eq_true, ih, decide_eq_true_iff]
    constructor
    · rintro (⟨r, h1, h2⟩ | h2)
      · exact ⟨r, by omega, h2⟩
      · exact ⟨R, by omega, h2⟩
    · rintro ⟨r, h1, h2⟩
      by_cases e : r = R
      · rw [e] at h2; exact Or.inr h2
      · exact Or.inl ⟨r, by omega, h2⟩
theorem v_since_L36 {M R : Nat} {Y D : Nat → Int32} {S : Nat → Nat} {y z : Int32} (w : WT n b L xs τ g h) (rg : RG g M R Y D S) (hv : (if 0 ≤ g.1 42 26 then g.1 42 26 else g.1 42 25) = z) : ∀ (m r : Nat), r ≤ R → R - r < m → f_X12_since_L36 10000 (n + 42) y h m (bI (tlB Y y z r)) (nI r) = some (bI (tlB Y y z R)) := by
  obtain ⟨q1, q2, q3⟩ := rg
  intro m
  induction m with
  | zero => intro r hr hm; exact absurd hm (by omega)
  | succ m ih =>
    intro r hr hm
    refine wp_is ?_
    rw [f_X12_since_L36.eq_2]
    refine wp_eq (E_42_49 w) ?_
    rw [q2]
    refine wp_ite (fun c9 => ?_) (fun c9 => ?_)
    · rw [nI_leI (by omega) (by omega)] at c9
      have e : r = R := by omega
      subst e
      exact wp_some rfl
    · rw [nI_leI (by omega) (by omega)] at c9
      have i := ih (r + 1) (by omega) (by omega)
      have st : tlB Y y z (r + 1) = (tlB Y y z r || decide (y ≤ Y r ∧ Y r ≤ z)) := rfl
      rw [nI_1]
      cases tl : tlB Y y z r
      · rw [if_pos (by decide)]
        rw [tl, Bool.false_or] at st
        obtain ⟨i0, i1, i2⟩ := h_ix (m := 80) (j := r) (by omega) (by omega)
        refine wp_eq (gR_42_52 w) ?_
        have ay : aI h (n + 76) (nI r) = some (Y r) := by rw [A_76 w i0 i1, i2, (q3 r (by omega)).1]
        refine wp_eq ay ?_
        refine wp_zif (ob_42 w) ?_
        refine wp_eq ((v_vy w).trans (congrArg some hv)) ?_
        refine in12 (fun c3 => ?_) (fun c3 => ?_)
        · rw [st, decide_eq_false c3] at i
          have i' : f_X12_since_L36 10000 (n + 42) y h m 0 (nI (r + 1)) = _ := i
          rw [i']
          exact wp_some rfl
        · rw [st, decide_eq_true c3] at i
          have i' : f_X12_since_L36 10000 (n + 42) y h m 1 (nI (r + 1)) = _ := i
          rw [i']
          exact wp_some rfl
      · rw [if_neg (by decide)]
        rw [tl, Bool.true_or] at st
        rw [st] at i
        have i' : f_X12_since_L36 10000 (n + 42) y h m 1 (nI (r + 1)) = _ := i
        rw [i']
        exact wp_some rfl
theorem v_since_L101 {M wd : Nat} {P : Nat → Bool} (hw : wd < 16) (w : WT n b L xs τ g h) (fs : FS g M) (hp : ∀ e, e < 128 → g.2.1 80 e = bI (P e)) : ∀ (m c : Nat), c ≤ 128 → 128 - c < m → (∀ e, e < c → P e = true → hvW wd e = true) → f_X12_since_L101 10000 (n + 42) (nI wd) h m 1 (nI c) = some (if alW P wd = true then 1 else 0) := by
  intro m
  induction m with
  | zero => intro c hc hm; exact absurd hm (by omega)
  | succ m ih =>
    intro c hc hm hd
    refine wp_is ?_
    rw [f_X12_since_L101.eq_2]
    refine wp_ite (fun z => ?_) (fun z => ?_)
    · rw [show (128 : Int32) = nI 128 from rfl, nI_leI (by decide) (by omega)] at z
      have e : c = 128 := by omega
      subst e
      exact wp_some (by rw [if_pos (alW_iff.mpr hd)])
    · rw [show (128 : Int32) = nI 128 from rfl, nI_leI (by decide) (by omega)] at z
      have hc' : c < 128 := by omega
      obtain ⟨j0, j1, j2⟩ := h_ix (m := 128) (j := c) hc' (by omega)
      have az : aZ h (n + 80) (nI c) = some (bI (P c)) := by rw [A_80 w j0 j1, j2, hp c hc']
      have a78 : aI h (n + 78) (nI c) = some (nI (cA c)) := by rw [A_78 w j0 j1, j2, (fs.2 c hc').1]
      have a79 : aI h (n + 79) (nI c) = some (nI (cB c)) := by rw [A_79 w j0 j1, j2, (fs.2 c hc').2]
      have cr := cAB_r c hc'
      rw [if_neg (by decide : ¬ (1 : Int32) = 0), nI_1]
      refine wp_eq (gR_42_56 w) ?_
      refine wp_eq az ?_
      have nx : (P c = true → hvW wd c = true) → wp (f_X12_since_L101 10000 (n + 42) (nI wd) h m 1 (nI (c + 1))) (fun r => r = if alW P wd = true then 1 else 0) := by
        intro hh
        rw [ih (c + 1) (by omega) (by omega) (fun e he hpe => ?_)]
        · exact wp_some rfl
        · by_cases ee : e = c
          · rw [ee] at hpe ⊢; exact hh hpe
          · exact hd e (by omega) hpe
      cases pc : P c
      · rw [if_pos (by decide)]
        exact nx (fun z9 => by rw [pc] at z9; exact absurd z9 (by decide))
      · rw [if_neg (by decide)]
        refine wp_eq (gR_42_54 w) ?_
        refine wp_eq a78 ?_
        refine wp_ite (fun y => ?_) (fun y => ?_)
        · exact nx (fun _ => decide_eq_true (Or.inl (nI_inj (by omega) (by omega) y)))
        · refine wp_eq (gR_42_55 w) ?_
          refine wp_eq a79 ?_
          refine wp_ite (fun y2 => ?_) (fun y2 => ?_)
          · exact nx (fun _ => decide_eq_true (Or.inr (nI_inj (by omega) (by omega) y2)))
          · have no : ¬ alW P wd = true := fun al => by
              have z9 := of_decide_eq_true (alW_iff.mp al c hc' pc)
              rcases z9 with z9 | z9
              · exact y (by rw [z9])
              · exact y2 (by rw [z9])
            rw [if_neg no]
            have zero : ∀ m', 0 < m' → f_X12_since_L101 10000 (n + 42) (nI wd) h m' 0 (nI (c + 1)) = some 0 := by
              intro m' hm'
              obtain ⟨m', rfl⟩ : ∃ q, m' = q + 1 := ⟨m' - 1, by omega⟩
              rw [f_X12_since_L101.eq_2]
              by_cases z8 : (128 : Int32) ≤ nI (c + 1)
              · rw [if_pos z8]
              · rw [if_neg z8, if_pos rfl]
            rw [zero m (by omega)]
            exact wp_some rfl
theorem v_since_L101z {wd : Nat} (m : Nat) (hm : 0 < m) : f_X12_since_L101 10000 (n + 42) (nI wd) h m 0 0 = some 0 := by
  obtain ⟨m, rfl⟩ : ∃ q, m = q + 1 := ⟨m - 1, by omega⟩
  rw [f_X12_since_L101.eq_2, if_neg (by decide), if_pos rfl]
theorem snL_no {P : Nat → Bool} : ∀ (k : Nat) {l : Int32}, (∀ j, j < k → ¬ P j = true) → snL P l k = l := by
  intro k
  induction k with
  | zero => intro l _; rfl
  | succ k ih =>
    intro l h
    show snL P (if P k = true then nI k else l) k = l
    rw [if_neg (h k (by omega))]
    exact ih (fun j hj => h j (by omega))
theorem snL_at {P : Nat → Bool} {y : Nat} (hy : P y = true) (hl : ∀ j, j < y → ¬ P j = true) : ∀ (k : Nat) {l : Int32}, y < k → snL P l k = nI y := by
  intro k
  induction k with
  | zero => intro l h; exact absurd h (by omega)
  | succ k ih =>
    intro l h
    show snL P (if P k = true then nI k else l) k = nI y
    by_cases e : y = k
    · rw [← e, if_pos hy]
      exact snL_no y hl
    · exact ih (by omega)
theorem snC_told {R wd : Nat} {Y D : Nat → Int32} {S : Nat → Nat} {z : Int32} {y : Nat} (hw : wd < 16) (no : ¬ tlB Y (nI y) z R = true) : ¬ snC Y D S R wd z y := by
  intro sn
  obtain ⟨c, hc, nc⟩ := noWord wd hw
  refine nc (of_decide_eq_true (sn.2 c hc ((pR_iff R c).mpr ⟨rfl, fun r hr i => ?_⟩)))
  exact absurd ((tlB_iff R).mpr ⟨r, hr, i.1, i.2⟩) no
set_option maxHeartbeats 1000000 in
theorem v_since_L23 {M R wd V : Nat} {Y D : Nat → Int32} {S : Nat → Nat} (hM : M ≤ 40) (hw : wd < 16) (hV : V ≤ 30) : ∀ (m y : Nat) {g : zGh} {h : zH}, WT n b L xs τ g h → RG g M R Y D S → FS g M → (if 0 ≤ g.1 42 26 then g.1 42 26 else g.1 42 25) = nI V → y ≤ V + 1 → V + 1 - y < m → (∀ j, j < y → ¬ snC Y D S R wd (nI V) j) → wp (f_X12_since_L23 10000 (n + 42) (nI wd) m (nI y) h) (fun r => match r with | .inl h2 => (∃ g', WT n b L xs τ g' h2 ∧ SG g g') ∧ snL (snB Y D S R wd (nI V)) (-1) (V + 1) = -1 | .inr q => (∃ g', WT n b L xs τ g' q.2 ∧ SG g g') ∧ q.1 = snL (snB Y D S R wd (nI V)) (-1) (V + 1)) := by
  intro m
  induction m with
  | zero => intro y g h w rg fs hv hy hm; exact absurd hm (by omega)
  | succ m ih =>
    intro y g h w rg fs hv hy hm hd
    rw [f_X12_since_L23.eq_2]
    refine wp_zif (ob_42 w) ?_
    refine wp_eq ((v_vy w).trans (congrArg some hv)) ?_
    refine wp_ite (fun c => ?_) (fun c => ?_)
    · refine wp_some ⟨⟨g, w, SG_refl g⟩, ?_⟩
      rw [← Int32.not_le, nI_leI (by omega) (by omega)] at c
      have e : y = V + 1 := by omega
      subst e
      exact snL_no (V + 1) (fun j hj sb => hd j hj (snB_iff.mp sb))
    · rw [Int32.not_lt, nI_leI (by omega) (by omega)] at c
      have l36 := v_since_L36 (y := nI y) w rg hv 10000 0 (by omega) (by have := rg.1; omega)
      have z0 : bI (tlB Y (nI y) (nI V) 0) = 0 := rfl
      rw [z0, nI_0] at l36
      refine wp_eq l36 ?_
      have nxt : ∀ {g2 : zGh} {h2 : zH}, WT n b L xs τ g2 h2 → PG g g2 → ¬ snC Y D S R wd (nI V) y → wp (f_X12_since_L23 10000 (n + 42) (nI wd) m (nI y + 1) h2) (fun r => match r with | .inl h2 => (∃ g', WT n b L xs τ g' h2 ∧ SG g g') ∧ snL (snB Y D S R wd (nI V)) (-1) (V + 1) = -1 | .inr q => (∃ g', WT n b L xs τ g' q.2 ∧ SG g g') ∧ q.1 = snL (snB Y D S R wd (nI V)) (-1) (V + 1)) := by
        intro g2 h2 w2 pg no
        rw [nI_1]
        refine wp_mono (ih (y + 1) w2 (RG_SG (PG_SG pg) rg) (FS_PG pg fs) (by rw [pg.1]; exact hv) (by omega) (by omega) (fun j hj => ?_)) (fun r q => ?_)
        · by_cases e : j = y
          · rw [e]; exact no
          · exact hd j (by omega)
        · cases r with
          | inl h3 =>
            obtain ⟨⟨g', a1, a2⟩, a3⟩ := q
            exact ⟨⟨g', a1, SG_trans (PG_SG pg) a2⟩, a3⟩
          | inr q9 =>
            obtain ⟨⟨g', a1, a2⟩, a3⟩ := q
            exact ⟨⟨g', a1, SG_trans (PG_SG pg) a2⟩, a3⟩
      by_cases tl : tlB Y (nI y) (nI V) R = true
      · rw [tl]
        refine wp_bind (R := fun r => ∃ g2, WT n b L xs τ g2 r.2 ∧ PG g g2 ∧ (∀ e, e < 128 → g2.2.1 80 e = bI (pR Y D S (nI y) (nI V) (fun _ => true) R e)) ∧ r.1 = if cnt (pR Y D S (nI y) (nI V) (fun _ => true) R) 128 = 0 then 0 else 1) ?_ (fun m17 p17 => ?_)
        · rw [if_neg (by decide)]
          refine wp_zif (ob_42 w) ?_
          refine wp_bind (v_findCustoms (y := nI y) (z := nI V) hM w rg fs hv) fun q20 q => ?_
          obtain ⟨r1, g2, r2, r3, r4⟩ := q
          have le := cnt_le (pR Y D S (nI y) (nI V) (fun _ => true) R) 128
          rw [r1]
          refine wp_ite (fun z => ?_) (fun z => ?_)
          · rw [← nI_0, nI_leI (by omega) (by omega)] at z
            exact wp_some ⟨g2, r2, r3, r4, by rw [if_pos (by omega)]⟩
          · rw [← nI_0, nI_leI (by omega) (by omega)] at z
            exact wp_some ⟨g2, r2, r3, r4, by rw [if_neg (by omega)]⟩
        obtain ⟨g2, w2, pg, p80, e17⟩ := p17
        by_cases c0 : cnt (pR Y D S (nI y) (nI V) (fun _ => true) R) 128 = 0
        · rw [e17, if_pos c0, v_since_L101z 10000 (by decide)]
          refine wp_bsome ?_
          rw [if_pos rfl]
          exact nxt w2 pg (fun sn => by
            obtain ⟨c9, h9, p9⟩ := sn.1
            exact cnt_0.mp c0 c9 h9 p9)
        · have ex : ∃ c, c < 128 ∧ pR Y D S (nI y) (nI V) (fun _ => true) R c = true := by
            obtain ⟨e, a1, a2, a3, a4⟩ := cnt_next (p := pR Y D S (nI y) (nI V) (fun _ => true) R) 128 0 (by show 0 < cnt _ (0 + 128); rw [Nat.zero_add]; omega)
            exact ⟨e, by omega, a3⟩
          have l101 := v_since_L101 hw w2 (FS_PG pg fs) p80 10000 0 (by omega) (by omega) (fun e he => absurd he (by omega))
          rw [nI_0] at l101
          rw [e17, if_neg c0]
          refine wp_eq l101 ?_
          by_cases al : alW (pR Y D S (nI y) (nI V) (fun _ => true) R) wd = true
          · rw [if_pos al, if_neg (by decide : ¬ (1 : Int32) = 0)]
            refine wp_some ⟨⟨g2, w2, PG_SG pg⟩, ?_⟩
            exact (snL_at (P := snB Y D S R wd (nI V)) (snB_iff.mpr ⟨ex, alW_iff.mp al⟩) (fun j hj sb => hd j hj (snB_iff.mp sb)) (V + 1) (by omega)).symm
          · rw [if_neg al, if_pos rfl]
            exact nxt w2 pg (fun sn => al (alW_iff.mpr sn.2))
      · have tf : tlB Y (nI y) (nI V) R = false := by rwa [Bool.not_eq_true] at tl
        rw [tf]
        refine wp_bsome ?_
        rw [v_since_L101z 10000 (by decide)]
        refine wp_bsome ?_
        rw [if_pos rfl]
        exact nxt w (PG_refl g) (snC_told hw tl)
theorem v_X12_since {M R V : Nat} {Y D : Nat → Int32} {S : Nat → Nat} {v1 : Int32} (w : WT n b L xs τ g h) (hm : HM g M) (rg : RG g M R Y D S) (hv : (if 0 ≤ g.1 42 26 then g.1 42 26 else g.1 42 25) = nI V) (hV : V ≤ 30) : wp (f_X12_since 10000 (n + 42) v1 h) (fun r => (∃ g', WT n b L xs τ g' r.2 ∧ SG g g') ∧ ((0 ≤ v1 ∧ v1 ≤ 15 → r.1 = snL (snB Y D S R v1.toNatClampNeg (nI V)) (-1) (V + 1)) ∧ (¬ (0 ≤ v1 ∧ v1 ≤ 15) → r.1 = -1))) := by
  unfold f_X12_since
  refine wp_bind (pI_42_0 w) fun h1 w1 => ?_
  refine in12 (fun c => wp_some ⟨⟨g, w1, SG_refl g⟩, fun z => absurd z c, fun _ => rfl⟩) (fun c => ?_)
  have hw : v1.toNatClampNeg < 16 := (i32_clamp c.1 (N := 16) (by decide) (by show v1 < 16; lia)).2
  have e1 : nI v1.toNatClampNeg = v1 := i32_nI c.1
  refine wp_zif (ob_42 w1) ?_
  refine wp_bind (v_X12_findSigns w1 hm) fun h4 q => ?_
  obtain ⟨g4, w4, s4, fs⟩ := q
  have l := v_since_L23 (n := n) (b := b) (L := L) (xs := xs) (τ := τ) hm.1 hw hV 10000 0 w4 (RG_SG s4 rg) fs (by rw [s4.1]; exact hv) (by omega) (by omega) (fun j hj => absurd hj (by omega))
  rw [e1, nI_0] at l
  refine wp_bind l fun m35 q => ?_
  cases m35 with
  | inl h3 =>
    obtain ⟨⟨g', a1, a2⟩, a3⟩ := q
    exact wp_zsL (wp_some ⟨⟨g', a1, SG_trans s4 a2⟩, fun _ => a3.symm, fun z => absurd c z⟩)
  | inr q9 =>
    obtain ⟨⟨g', a1, a2⟩, a3⟩ := q
    exact wp_zsR ⟨⟨g', a1, SG_trans s4 a2⟩, fun _ => a3, fun z => absurd c z⟩
end CUS
