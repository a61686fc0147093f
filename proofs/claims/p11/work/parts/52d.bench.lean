/-! the bench of the class -/
theorem ud_at (f : Nat → Int32) (k : Nat) (x : Int32) : upd f k x k = x := if_pos rfl
theorem ud_ne {f : Nat → Int32} {k i : Nat} {x : Int32} (h : i ≠ k) : upd f k x i = f i := if_neg h
theorem bI_inj {a b : Bool} (e : bI a = bI b) : a = b := by
  cases a <;> cases b
  · rfl
  · exact absurd e (by decide)
  · exact absurd e (by decide)
  · rfl
theorem nI_pd (k : Nat) : nI (k + 1) + (-1) = nI k := by
  rw [← nI_1]
  lia
def mRow (g : zGh) (k : Nat) : Nat → Int32 := fun z => g.1 100 (16 * k + z)
def seF (F : Nat → Int32) : Int32 := if (rQ F (rE F)).2.2.2.1 = -1 then 0 else nI (rE F) - (rQ F (rE F)).2.2.2.1
def sgnF (F : Nat → Int32) : Nat := sgB (decide (100 < F 1)) (decide (F 6 = 1)) (decide (F 6 = 2)) (decide (2 ≤ seF F)) (decide (¬ F 5 = 0)) (decide (¬ F 7 = 0)) (decide (¬ F 9 = 0)) (decide (F 10 < 10))
theorem sgnF_lt (F : Nat → Int32) : sgnF F < 256 := sgB_lt _ _ _ _ _ _ _ _
theorem wp_d0 {c P : Prop} [Decidable c] [Decidable P] (e : c ↔ ¬ P) : wp (if c then some (0 : Int32) else some 1) (fun r => r = bI (decide P)) := by
  by_cases z : P
  · rw [if_neg (fun y => (e.mp y) z), decide_eq_true z]
    exact wp_some rfl
  · rw [if_pos (e.mpr z), decide_eq_false z]
    exact wp_some rfl
theorem wp_d1 {c P : Prop} [Decidable c] [Decidable P] (e : c ↔ P) : wp (if c then some (1 : Int32) else some 0) (fun r => r = bI (decide P)) := by
  by_cases z : P
  · rw [if_pos (e.mpr z), decide_eq_true z]
    exact wp_some rfl
  · rw [if_neg (fun y => z (e.mp y)), decide_eq_false z]
    exact wp_some rfl
theorem bit_b (k x : Int32) : p_X6_bit k x = p_X6_bit k (bI (decide (¬ x = 0))) := by
  unfold p_X6_bit
  by_cases z : x = 0
  · rw [decide_eq_false (fun y => y z), if_pos z]
    rfl
  · rw [decide_eq_true z, if_neg z]
    rfl
/-- what the bench may change -/
def BG (g g' : zGh) : Prop := (∀ j k, ¬ (j = 14 ∧ k = 6) → g'.1 j k = g.1 j k) ∧ (∀ j, j ≠ 19 → g'.2.1 j = g.2.1 j) ∧ g'.2.2 = g.2.2
theorem BG_refl (g : zGh) : BG g g := ⟨fun _ _ _ => rfl, fun _ _ => rfl, rfl⟩
theorem BG_trans {g g' g2 : zGh} (a : BG g g') (c : BG g' g2) : BG g g2 := ⟨fun j k e => (c.1 j k e).trans (a.1 j k e), fun j e => (c.2.1 j e).trans (a.2.1 j e), c.2.2.trans a.2.2⟩
theorem BG_19 (g : zGh) (f : Nat → Int32) : BG g (gsA g 19 f) := ⟨fun _ _ _ => rfl, fun _ e => if_neg e, rfl⟩
theorem BG_6 (g : zGh) (x : Int32) : BG g (gset g 14 6 x) := ⟨fun _ _ e => gs_ne e, fun _ _ => rfl, rfl⟩
/-- the customs that are left: those with p, in their order -/
def LR (p : Nat → Bool) (f : Nat → Int32) (k : Int32) : Prop := k = nI (cnt p 128) ∧ ∀ c, c < 128 → p c = true → f (cnt p c) = mkC c
def pK (p : Nat → Bool) (s : Nat) (d : Bool) (c : Nat) : Bool := p c && (soC c s == d)
theorem pK_y {p : Nat → Bool} {s : Nat} {d : Bool} {c : Nat} : pK p s d c = true ↔ p c = true ∧ soC c s = d := by
  unfold pK
  rw [Bool.and_eq_true, beq_iff_eq]
/-- meetings are settled -/
def SQ (g : zGh) : Prop := g.1 1 1 = g.1 0 10 ∧ ∀ k, k < (g.1 0 10).toNatClampNeg → mRow g k 11 = mtF (mRow g k) ∧ mRow g k 12 = fiF (mRow g k)
def RH (g : zGh) (R : Nat) (Y D : Nat → Int32) (S : Nat → Nat) : Prop := R ≤ 80 ∧ g.1 14 5 = nI R ∧ g.1 15 0 = nI R ∧ g.2.1 16 = Y ∧ g.2.1 17 = D ∧ (∀ r, r < R → S r = sgnF (mRow g (g.2.1 15 r).toNatClampNeg)) ∧ SQ g
theorem BG_row {g g' : zGh} (p : BG g g') (k : Nat) : mRow g' k = mRow g k := funext fun z => p.1 100 (16 * k + z) (fun y => absurd y.1 (by decide))
theorem SQ_BG {g g' : zGh} (p : BG g g') (q : SQ g) : SQ g' := by
  unfold SQ
  rw [p.1 1 1 (fun y => absurd y.1 (by decide)), p.1 0 10 (fun y => absurd y.1 (by decide))]
  refine ⟨q.1, fun k hk => ?_⟩
  rw [BG_row p]
  exact q.2 k hk
theorem RH_BG {g g' : zGh} {R : Nat} {Y D : Nat → Int32} {S : Nat → Nat} (p : BG g g') (q : RH g R Y D S) : RH g' R Y D S := by
  obtain ⟨q1, q2, q3, q4, q5, q6, q7⟩ := q
  refine ⟨q1, (p.1 14 5 (fun y => absurd y.2 (by decide))).trans q2, (p.1 15 0 (fun y => absurd y.1 (by decide))).trans q3, (p.2.1 16 (by decide)).trans q4, (p.2.1 17 (by decide)).trans q5, fun r hr => ?_, SQ_BG p q7⟩
  rw [p.2.1 15 (by decide), BG_row p]
  exact q6 r hr
/-- in the years, and as it was ruled -/
abbrev okR (Y D : Nat → Int32) (S : Nat → Nat) (y z : Int32) (r c : Nat) : Prop := (y ≤ Y r ∧ Y r ≤ z) → soC c (S r) = decide (¬ D r = 0)
def pR (Y D : Nat → Int32) (S : Nat → Nat) (y z : Int32) (p : Nat → Bool) : Nat → Nat → Bool
  | 0, c => p c
  | r + 1, c => pR Y D S y z p r c && decide (okR Y D S y z r c)
theorem pR_iff {Y D : Nat → Int32} {S : Nat → Nat} {y z : Int32} {p : Nat → Bool} : ∀ (R c : Nat), pR Y D S y z p R c = true ↔ p c = true ∧ ∀ r, r < R → okR Y D S y z r c := by
  intro R
  induction R with
  | zero => exact fun c => ⟨fun h => ⟨h, fun r hr => absurd hr (by omega)⟩, fun h => h.1⟩
  | succ R ih =>
    intro c
    show (pR Y D S y z p R c && decide (okR Y D S y z R c)) = true ↔ _
    rw [Bool.and_eq_true, ih c, decide_eq_true_iff]
    constructor
    · intro h
      refine ⟨h.1.1, fun r hr => ?_⟩
      by_cases e : r = R
      · rw [e]; exact h.2
      · exact h.1.2 r (by omega)
    · intro h
      exact ⟨⟨h.1, fun r hr => h.2 r (by omega)⟩, h.2 R (by omega)⟩
section BENCH
variable {n b L : Nat} {xs : Nat → Int32} {τ : Nat → Nat} {g : zGh} {h : zH} {a : Nat} {F : Nat → Int32}
theorem v_X6_seen (w : WT n b L xs τ g h) (t : τ a = 1) (hF : ∀ z, z < 13 → g.1 100 (16 * (g.2.1 1 a).toNatClampNeg + z) = F z) (m11 : F 11 = mtF F) (m12 : F 12 = fiF F) : f_X6_seen 10000 a h = some (seF F) := by
  have f12 : gI h a 6 12 = some (fiF F) := ((G_m_12 w t).trans (congrArg some (hF 12 (by decide)))).trans (congrArg some m12)
  have h60 : rE F ≤ 60 := rEnd_60 _
  have hne : ¬ nI (rE F) = -1 := by
    intro z
    have h9 := nI_pos (n := rE F) (by omega)
    rw [z] at h9
    exact absurd (by decide) h9
  have se : (fiF F = -1 → seF F = 0) ∧ (¬ fiF F = -1 → seF F = nI (rE F) - fiF F) := by
    unfold seF fiF sF
    generalize (rQ F (rE F)).2.2.2.1 = f
    generalize bSees (F 7) (F 8) (rQ F (rE F)).1 (rQ F (rE F)).2.1 = s
    generalize nI (rE F) = E at hne
    by_cases c : f = -1
    · cases s
      · simp [c]
      · simp [c, hne]
    · simp [c]
  refine wp_is ?_
  unfold f_X6_seen
  refine wp_eq f12 ?_
  refine wp_ite (fun c => wp_some (se.1 c).symm) (fun c => ?_)
  refine wp_zif (ob_m w t) ?_
  refine wp_eq (end_F (F := F) w t ((hF 11 (by decide)).trans m11)) ?_
  refine wp_eq f12 ?_
  exact wp_some (se.2 c).symm
theorem v_X6_signs (w : WT n b L xs τ g h) (t : τ a = 1) (hF : ∀ z, z < 13 → g.1 100 (16 * (g.2.1 1 a).toNatClampNeg + z) = F z) (m11 : F 11 = mtF F) (m12 : F 12 = fiF F) : f_X6_signs 10000 a h = some (nI (sgnF F)) := by
  have f1 : gI h a 6 1 = some (F 1) := (G_m_1 w t).trans (congrArg some (hF 1 (by decide)))
  have f5 : gI h a 6 5 = some (F 5) := (G_m_5 w t).trans (congrArg some (hF 5 (by decide)))
  have f6 : gI h a 6 6 = some (F 6) := (G_m_6 w t).trans (congrArg some (hF 6 (by decide)))
  have f7 : gI h a 6 7 = some (F 7) := (G_m_7 w t).trans (congrArg some (hF 7 (by decide)))
  have f9 : gI h a 6 9 = some (F 9) := (G_m_9 w t).trans (congrArg some (hF 9 (by decide)))
  have f10 : gI h a 6 10 = some (F 10) := (G_m_10 w t).trans (congrArg some (hF 10 (by decide)))
  refine wp_is ?_
  unfold f_X6_signs
  refine wp_eq f1 ?_
  refine wp_bind (wp_d0 (P := 100 < F 1) Int32.not_lt.symm) fun m2 p2 => ?_
  refine wp_eq f6 ?_
  refine wp_bind (wp_d1 (P := F 6 = 1) Iff.rfl) fun m5 p5 => ?_
  refine wp_eq f6 ?_
  refine wp_bind (wp_d1 (P := F 6 = 2) Iff.rfl) fun m8 p8 => ?_
  refine wp_zif (ob_m w t) ?_
  refine wp_eq (v_X6_seen w t hF m11 m12) ?_
  refine wp_bind (wp_d0 (P := 2 ≤ seF F) Int32.not_le.symm) fun m12 p12 => ?_
  refine wp_eq f5 ?_
  refine wp_eq f7 ?_
  refine wp_bind (wp_d0 (P := ¬ F 7 = 0) Decidable.not_not.symm) fun m16 p16 => ?_
  refine wp_eq f9 ?_
  refine wp_bind (wp_d0 (P := ¬ F 9 = 0) Decidable.not_not.symm) fun m19 p19 => ?_
  refine wp_eq f10 ?_
  refine wp_bind (wp_d0 (P := F 10 < 10) Int32.not_lt.symm) fun m22 p22 => ?_
  refine wp_some ?_
  rw [p2, p5, p8, p12, p16, p19, p22, bit_b 4 (F 5)]
  exact sg_cls _ _ _ _ _ _ _ _
theorem v_X6_words (w : WT n b L xs τ g h) (t : τ a = 1) (hF : ∀ z, z < 13 → g.1 100 (16 * (g.2.1 1 a).toNatClampNeg + z) = F z) (m11 : F 11 = mtF F) (m12 : F 12 = fiF F) : f_X6_words 10000 a h = some (wdN (sgnF F)) := by
  unfold f_X6_words
  rw [ob_m w t, zif_t, v_X6_signs w t hF m11 m12]
  rfl
theorem w_of {k : Nat} (w : WT n b L xs τ g h) (q : SQ g) (t : τ a = 1) (e : (g.2.1 1 a).toNatClampNeg = k) : f_X6_words 10000 a h = some (wdN (sgnF (mRow g k))) := by
  have r := ix_r w t
  rw [q.1] at r
  have lt := clamp_lt r.1 r.2
  rw [e] at lt
  obtain ⟨q1, q2⟩ := q.2 k lt
  exact v_X6_words (F := mRow g k) w t (fun z _ => by rw [e]; rfl) q1 q2
theorem v_X0_keepAll (w : WT n b L xs τ g h) (cu : ∀ c, c < 128 → g.2.1 18 c = mkC c) : wp (f_X0_keepAll 10000 (n + 14) h) (fun r => ∃ g', WT n b L xs τ g' r ∧ BG g g' ∧ LR (fun _ => true) (g'.2.1 19) (g'.1 14 6)) := by
  unfold f_X0_keepAll
  refine wp_eq (gR_14_3 w) ?_
  refine wp_eq (gR_14_4 w) ?_
  refine wp_bind (cp_18_19 w) fun h3 w3 => ?_
  refine wp_bind (pI_14_6 (x := 128) w3 (by decide) (by decide)) fun h4 w4 => ?_
  have ca : ∀ m, cnt (fun _ => true) m = m := fun m => cnt_all m (fun _ _ => rfl)
  refine wp_some ⟨_, w4, BG_trans (BG_19 g _) (BG_6 _ _), ?_, fun c hc _ => ?_⟩
  · rw [ca]
    rfl
  · rw [ca]
    show va_cpy (g.2.1 18) (g.2.1 19) 0 0 128 c = mkC c
    unfold va_cpy
    rw [if_pos (by omega)]
    have e : 0 + (c - 0) = c := by omega
    rw [e]
    exact cu c hc
set_option maxHeartbeats 1000000 in
theorem v_X0_keep_L5 {p : Nat → Bool} {s : Nat} {d : Bool} (hs : s < 256) : ∀ (m : Nat) {c : Nat} {g : zGh} {h : zH}, WT n b L xs τ g h → c ≤ 128 → 128 - c < m → g.1 14 6 = nI (cnt p 128) → (∀ e, c ≤ e → e < 128 → p e = true → g.2.1 19 (cnt p e) = mkC e) → (∀ e, e < c → pK p s d e = true → g.2.1 19 (cnt (pK p s d) e) = mkC e) → wp (f_X0_keepThoseOf_L5 10000 (n + 14) (wdN s) (bI d) m (nI (cnt (pK p s d) c)) (nI (cnt p c)) h) (fun r => r.1 = nI (cnt (pK p s d) 128) ∧ ∃ g', WT n b L xs τ g' r.2 ∧ BG g g' ∧ ∀ e, e < 128 → pK p s d e = true → g'.2.1 19 (cnt (pK p s d) e) = mkC e) := by
  intro m
  induction m with
  | zero => intro c g h w hc hm; exact absurd hm (by omega)
  | succ m ih =>
    intro c g h w hc hm e6 hr hd
    have sub : ∀ e, pK p s d e = true → p e = true := fun e he => (pK_y.mp he).1
    have le1 := cnt_le p 128
    have le2 := cnt_mono (p := p) hc
    have le3 := cnt_sub sub c
    rw [f_X0_keepThoseOf_L5.eq_2]
    refine wp_eq (E_14_6 w) ?_
    rw [e6]
    refine wp_ite (fun z => ?_) (fun z => ?_)
    · rw [nI_leI (by omega) (by omega)] at z
      have gap : ∀ e, c ≤ e → e < 128 → ¬ p e = true := fun e h1 h2 hp => by
        have a1 := cnt_lt hp h2
        have a2 := cnt_mono (p := p) h1
        omega
      have eq : cnt (pK p s d) 128 = cnt (pK p s d) c := cnt_gap' hc (fun e h1 h2 hq => gap e h1 h2 (sub e hq))
      refine wp_some ⟨by rw [eq], g, w, BG_refl g, fun e he hp => ?_⟩
      by_cases ec : e < c
      · exact hd e ec hp
      · exact absurd (sub e hp) (gap e (by omega) he)
    · rw [nI_leI (by omega) (by omega)] at z
      refine wp_ite (fun y => ?_) (fun y => ?_)
      · rw [show (128 : Int32) = nI 128 from rfl, nI_leI (by decide) (by omega)] at y
        exact absurd y (by omega)
      · obtain ⟨e, a1, a2, a3, a4⟩ := cnt_next (p := p) (128 - c) c (by rw [show c + (128 - c) = 128 by omega]; omega)
        have a2' : e < 128 := by omega
        have ge : cnt p e = cnt p c := cnt_gap' a1 a4
        have gq : cnt (pK p s d) e = cnt (pK p s d) c := cnt_gap' a1 (fun f h1 h2 hq => a4 f h1 h2 (sub f hq))
        have rd : g.2.1 19 (cnt p c) = mkC e := by rw [← ge]; exact hr e a1 a2' a3
        obtain ⟨i0, i1, i2⟩ := h_ix (m := 128) (j := cnt p c) (by omega) (by omega)
        obtain ⟨k0, k1, k2⟩ := h_ix (m := 128) (j := cnt (pK p s d) c) (by omega) (by omega)
        have ai : aI h (n + 19) (nI (cnt p c)) = some (mkC e) := by
          rw [A_19 w i0 i1, i2, rd]
        refine wp_eq (gR_14_4 w) ?_
        refine wp_eq ai ?_
        rw [so_cls hs a2']
        refine wp_ite (fun y2 => ?_) (fun y2 => ?_)
        · have pk : pK p s d e = true := pK_y.mpr ⟨a3, bI_inj y2⟩
          refine wp_eq (gR_14_4 w) ?_
          refine wp_eq (gR_14_4 w) ?_
          refine wp_eq ai ?_
          refine wp_bind (sI_19 (x := mkC e) w k0 k1) fun h10 w10 => ?_
          rw [k2] at w10
          have e1 : nI (cnt (pK p s d) c) + 1 = nI (cnt (pK p s d) (e + 1)) := by rw [nI_1, cnt_y pk, gq]
          have e2 : nI (cnt p c) + 1 = nI (cnt p (e + 1)) := by rw [nI_1, cnt_y a3, ge]
          rw [e1, e2]
          refine wp_mono (ih (c := e + 1) w10 (by omega) (by omega) e6 (fun f h1 h2 hp => ?_) (fun f h1 hp => ?_)) (fun r q => ?_)
          · show upd (g.2.1 19) (cnt (pK p s d) c) (mkC e) (cnt p f) = mkC f
            have a5 := cnt_lt a3 (show e < f by omega)
            rw [ud_ne (by omega)]
            exact hr f (by omega) h2 hp
          · show upd (g.2.1 19) (cnt (pK p s d) c) (mkC e) (cnt (pK p s d) f) = mkC f
            by_cases ef : f = e
            · rw [ef, gq, ud_at]
            · by_cases fc : f < c
              · have a5 := cnt_lt hp fc
                rw [ud_ne (by omega)]
                exact hd f fc hp
              · exact absurd (sub f hp) (a4 f (by omega) (by omega))
          · obtain ⟨q1, g', q2, q3, q4⟩ := q
            exact ⟨q1, g', q2, BG_trans (BG_19 g _) q3, q4⟩
        · have pk : ¬ pK p s d e = true := fun z9 => y2 (congrArg bI (pK_y.mp z9).2)
          have e1 : cnt (pK p s d) (e + 1) = cnt (pK p s d) c := by rw [cnt_n pk, gq]
          have e2 : nI (cnt p c) + 1 = nI (cnt p (e + 1)) := by rw [nI_1, cnt_y a3, ge]
          rw [e2, ← e1]
          refine ih (c := e + 1) w (by omega) (by omega) e6 (fun f h1 h2 hp => hr f (by omega) h2 hp) (fun f h1 hp => ?_)
          by_cases ef : f = e
          · rw [ef] at hp
            exact absurd hp pk
          · by_cases fc : f < c
            · exact hd f fc hp
            · exact absurd (sub f hp) (a4 f (by omega) (by omega))
theorem v_X0_keep {p : Nat → Bool} {s : Nat} {d : Bool} (hs : s < 256) (w : WT n b L xs τ g h) (lr : LR p (g.2.1 19) (g.1 14 6)) : wp (f_X0_keepThoseOf 10000 (n + 14) (wdN s) (bI d) h) (fun r => ∃ g', WT n b L xs τ g' r ∧ BG g g' ∧ LR (pK p s d) (g'.2.1 19) (g'.1 14 6)) := by
  unfold f_X0_keepThoseOf
  have l := v_X0_keep_L5 (p := p) (d := d) hs 10000 (c := 0) w (by omega) (by omega) lr.1 (fun e _ h2 hp => lr.2 e h2 hp) (fun e h1 _ => absurd h1 (by omega))
  refine wp_bind l fun m11 q => ?_
  obtain ⟨q1, g', q2, q3, q4⟩ := q
  have le := cnt_le (pK p s d) 128
  have r := nI_r le (by decide)
  rw [q1]
  refine wp_bind (pI_14_6 (x := nI (cnt (pK p s d) 128)) q2 r.1 r.2) fun h12 w12 => ?_
  exact wp_some ⟨_, w12, BG_trans q3 (BG_6 _ _), rfl, q4⟩
set_option maxHeartbeats 1000000 in
theorem v_X0_rule_L2 {R : Nat} {Y D : Nat → Int32} {S : Nat → Nat} {y z : Int32} {p : Nat → Bool} (hD : ∀ r, r < R → D r = 0 ∨ D r = 1) : ∀ (m : Nat) {r : Nat} {g : zGh} {h : zH}, WT n b L xs τ g h → RH g R Y D S → r ≤ R → R - r < m → LR (pR Y D S y z p r) (g.2.1 19) (g.1 14 6) → wp (f_X0_ruleOut_L2 10000 (n + 14) y z m (nI r) h) (fun h2 => ∃ g', WT n b L xs τ g' h2 ∧ BG g g' ∧ LR (pR Y D S y z p R) (g'.2.1 19) (g'.1 14 6)) := by
  intro m
  induction m with
  | zero => intro r g h w rh hr hm; exact absurd hm (by omega)
  | succ m ih =>
    intro r g h w rh hr hm lr
    have rh0 := rh
    obtain ⟨q1, q2, q3, q4, q5, q6, q7⟩ := rh
    rw [f_X0_ruleOut_L2.eq_2]
    refine wp_eq (E_14_5 w) ?_
    rw [q2]
    refine wp_ite (fun c => ?_) (fun c => ?_)
    · rw [nI_leI (by omega) (by omega)] at c
      have e : r = R := by omega
      subst e
      exact wp_some ⟨g, w, BG_refl g, lr⟩
    · rw [nI_leI (by omega) (by omega)] at c
      refine wp_ite (fun c2 => ?_) (fun c2 => ?_)
      · rw [show (80 : Int32) = nI 80 from rfl, nI_leI (by decide) (by omega)] at c2
        exact absurd c2 (by omega)
      · obtain ⟨i0, i1, i2⟩ := h_ix (m := 80) (j := r) (by omega) (by omega)
        refine wp_eq (gR_14_0 w) ?_
        obtain ⟨a, ea, ta, ia⟩ := cs_15 w i0 i1 (by rw [q3]; exact (h_ix (m := R) (j := r) (by omega) (by omega)).2.1)
        rw [i2] at ia
        refine wp_eq ea ?_
        show wp ((gR h (n + 14) 0 1).bind _) _
        refine wp_eq (gR_14_1 w) ?_
        have ay : aI h (n + 16) (nI r) = some (Y r) := by rw [A_16 w i0 i1, i2, q4]
        refine wp_eq ay ?_
        rw [nI_1]
        refine in11 (fun c3 => ?_) (fun c3 => ?_)
        · refine ih (r := r + 1) w rh0 (by omega) (by omega) ?_
          have e : pR Y D S y z p (r + 1) = pR Y D S y z p r := by
            funext c
            show (pR Y D S y z p r c && decide (okR Y D S y z r c)) = _
            rw [decide_eq_true (show okR Y D S y z r c from fun z9 => absurd z9 c3), Bool.and_true]
          rw [e]
          exact lr
        · refine wp_zif (ob_m w ta) ?_
          refine wp_eq (w_of w q7 ta (congrArg Int32.toNatClampNeg ia)) ?_
          rw [← q6 r (by omega)]
          refine wp_eq (gR_14_2 w) ?_
          have ad : aZ h (n + 17) (nI r) = some (bI (decide (¬ D r = 0))) := by
            rw [A_17 w i0 i1, i2, q5]
            rcases hD r (by omega) with z9 | z9
            · rw [z9]; rfl
            · rw [z9]; rfl
          refine wp_eq ad ?_
          refine wp_zif (ob_14 w) ?_
          have hs : S r < 256 := by
            rw [q6 r (by omega)]
            exact sgnF_lt _
          refine wp_bind (v_X0_keep hs w lr) fun h16 q => ?_
          obtain ⟨g', w16, bg, lr'⟩ := q
          have e : pK (pR Y D S y z p r) (S r) (decide (¬ D r = 0)) = pR Y D S y z p (r + 1) := by
            funext c
            show (pR Y D S y z p r c && (soC c (S r) == decide (¬ D r = 0))) = (pR Y D S y z p r c && decide (okR Y D S y z r c))
            have e2 : (soC c (S r) == decide (¬ D r = 0)) = decide (okR Y D S y z r c) := by
              by_cases z9 : soC c (S r) = decide (¬ D r = 0)
              · rw [decide_eq_true (show okR Y D S y z r c from fun _ => z9)]
                exact beq_iff_eq.mpr z9
              · rw [decide_eq_false (show ¬ okR Y D S y z r c from fun o => z9 (o c3))]
                exact beq_eq_false_iff_ne.mpr z9
            rw [e2]
          rw [e] at lr'
          refine wp_mono (ih (r := r + 1) w16 (RH_BG bg rh0) (by omega) (by omega) lr') (fun h2 q => ?_)
          obtain ⟨g2, w2, bg2, lr2⟩ := q
          exact ⟨g2, w2, BG_trans bg bg2, lr2⟩
theorem v_X0_rule {R : Nat} {Y D : Nat → Int32} {S : Nat → Nat} {y z : Int32} {p : Nat → Bool} (hD : ∀ r, r < R → D r = 0 ∨ D r = 1) (w : WT n b L xs τ g h) (rh : RH g R Y D S) (lr : LR p (g.2.1 19) (g.1 14 6)) : wp (f_X0_ruleOut 10000 (n + 14) y z h) (fun h2 => ∃ g', WT n b L xs τ g' h2 ∧ BG g g' ∧ LR (pR Y D S y z p R) (g'.2.1 19) (g'.1 14 6)) := by
  unfold f_X0_ruleOut
  have q1 := rh.1
  have l := v_X0_rule_L2 (y := y) (z := z) (p := p) hD 10000 (r := 0) w rh (by omega) (by omega) lr
  rw [nI_0] at l
  exact wp_bind l fun m17 q => wp_some q
theorem v_X0_keepFrom {R : Nat} {Y D : Nat → Int32} {S : Nat → Nat} {y z : Int32} (hD : ∀ r, r < R → D r = 0 ∨ D r = 1) (w : WT n b L xs τ g h) (rh : RH g R Y D S) (cu : ∀ c, c < 128 → g.2.1 18 c = mkC c) : wp (f_X0_keepFrom 10000 (n + 14) y z h) (fun h2 => ∃ g', WT n b L xs τ g' h2 ∧ BG g g' ∧ LR (pR Y D S y z (fun _ => true) R) (g'.2.1 19) (g'.1 14 6)) := by
  unfold f_X0_keepFrom
  refine wp_zif (ob_14 w) ?_
  refine wp_bind (v_X0_keepAll w cu) fun h2 q => ?_
  obtain ⟨g2, w2, bg, lr⟩ := q
  refine wp_zif (ob_14 w2) ?_
  refine wp_bind (v_X0_rule hD w2 (RH_BG bg rh) lr) fun h4 q => ?_
  obtain ⟨g4, w4, bg4, lr4⟩ := q
  exact wp_some ⟨g4, w4, BG_trans bg bg4, lr4⟩
theorem v_view (w : WT n b L xs τ g h) : f_X11_viewNow 10000 n h = some (if g.1 0 12 = -1 then g.1 0 11 else g.1 0 12) := by
  unfold f_X11_viewNow
  rw [E_0_12 w, Option.bind_some, E_0_11 w]
  by_cases c : g.1 0 12 = -1
  · rw [if_pos c, if_pos c]; rfl
  · rw [if_neg c, if_neg c]; rfl
/-- the answer of customs -/
theorem v_X11_customs {R : Nat} {Y D : Nat → Int32} {S : Nat → Nat} {v1 : Int32} (hD : ∀ r, r < R → D r = 0 ∨ D r = 1) (w : WT n b L xs τ g h) (rh : RH g R Y D S) (cu : ∀ c, c < 128 → g.2.1 18 c = mkC c) : wp (f_X11_customs 10000 n v1 h) (fun r => (∃ g', WT n b L xs τ g' r.2 ∧ BG g g') ∧ ((0 ≤ v1 ∧ v1 ≤ 30 → r.1 = nI (cnt (pR Y D S v1 (if g.1 0 12 = -1 then g.1 0 11 else g.1 0 12) (fun _ => true) R) 128)) ∧ (¬ (0 ≤ v1 ∧ v1 ≤ 30) → r.1 = -1))) := by
  unfold f_X11_customs
  refine in11 (fun c => wp_some ⟨⟨g, w, BG_refl g⟩, fun z => absurd z c, fun _ => rfl⟩) (fun c => ?_)
  refine wp_eq (gR_0_5 w) ?_
  refine wp_zif (ob_0 w) ?_
  refine wp_eq (v_view w) ?_
  refine wp_zif (ob_14 w) ?_
  refine wp_bind (v_X0_keepFrom hD w rh cu) fun h6 q => ?_
  obtain ⟨g6, w6, bg, lr⟩ := q
  refine wp_eq (gR_0_5 w6) ?_
  refine wp_eq (E_14_6 w6) ?_
  exact wp_some ⟨⟨g6, w6, bg⟩, fun _ => lr.1, fun z => absurd c z⟩
/-- of the customs left, those that are so of s -/
theorem v_X0_judge_L {p : Nat → Bool} {s : Nat} (hs : s < 256) (w : WT n b L xs τ g h) (lr : LR p (g.2.1 19) (g.1 14 6)) : ∀ (m c : Nat), c ≤ 128 → 128 - c < m → f_X0_judge_L10 10000 (n + 14) (wdN s) h m (nI (cnt (pK p s true) c)) (nI (cnt p c)) = some (nI (cnt (pK p s true) 128)) := by
  intro m
  induction m with
  | zero => intro c hc hm; exact absurd hm (by omega)
  | succ m ih =>
    intro c hc hm
    have sub : ∀ e, pK p s true e = true → p e = true := fun e he => (pK_y.mp he).1
    have le1 := cnt_le p 128
    have le2 := cnt_mono (p := p) hc
    refine wp_is ?_
    rw [f_X0_judge_L10.eq_2]
    refine wp_eq (E_14_6 w) ?_
    rw [lr.1]
    refine wp_ite (fun z => ?_) (fun z => ?_)
    · rw [nI_leI (by omega) (by omega)] at z
      have eq : cnt (pK p s true) 128 = cnt (pK p s true) c := cnt_gap' hc (fun e h1 h2 hq => by
        have a1 := cnt_lt (sub e hq) h2
        have a2 := cnt_mono (p := p) h1
        omega)
      exact wp_some (by rw [eq])
    · rw [nI_leI (by omega) (by omega)] at z
      refine wp_ite (fun y => ?_) (fun y => ?_)
      · rw [show (128 : Int32) = nI 128 from rfl, nI_leI (by decide) (by omega)] at y
        exact absurd y (by omega)
      · obtain ⟨e, a1, a2, a3, a4⟩ := cnt_next (p := p) (128 - c) c (by rw [show c + (128 - c) = 128 by omega]; omega)
        have a2' : e < 128 := by omega
        have ge : cnt p e = cnt p c := cnt_gap' a1 a4
        have gq : cnt (pK p s true) e = cnt (pK p s true) c := cnt_gap' a1 (fun f h1 h2 hq => a4 f h1 h2 (sub f hq))
        obtain ⟨i0, i1, i2⟩ := h_ix (m := 128) (j := cnt p c) (by omega) (by omega)
        have ai : aI h (n + 19) (nI (cnt p c)) = some (mkC e) := by
          rw [A_19 w i0 i1, i2, ← ge]
          exact congrArg some (lr.2 e a2' a3)
        refine wp_eq (gR_14_4 w) ?_
        refine wp_eq ai ?_
        rw [so_cls hs a2']
        have e2 : nI (cnt p c) + 1 = nI (cnt p (e + 1)) := by rw [nI_1, cnt_y a3, ge]
        refine wp_ite (fun y2 => ?_) (fun y2 => ?_)
        · have pk : ¬ pK p s true e = true := fun z9 => by
            rw [(pK_y.mp z9).2] at y2
            exact absurd y2 (by decide)
          have e1 : cnt (pK p s true) (e + 1) = cnt (pK p s true) c := by rw [cnt_n pk, gq]
          rw [e2, ← e1, ih (e + 1) (by omega) (by omega)]
          exact wp_some rfl
        · have so1 : soC e s = true := by
            cases hh : soC e s
            · rw [hh] at y2
              exact absurd rfl y2
            · rfl
          have pk : pK p s true e = true := pK_y.mpr ⟨a3, so1⟩
          have e1 : nI (cnt (pK p s true) c) + 1 = nI (cnt (pK p s true) (e + 1)) := by rw [nI_1, cnt_y pk, gq]
          rw [e2, e1, ih (e + 1) (by omega) (by omega)]
          exact wp_some rfl
/-- how a meeting with the signs s is held -/
def hdA (p : Nat → Bool) (s : Nat) : Int32 := if cnt p 128 = 0 then -1 else if cnt (pK p s true) 128 = cnt p 128 then 2 else if cnt (pK p s true) 128 = 0 then 0 else 1
theorem v_X0_judge {p : Nat → Bool} {k : Nat} (w : WT n b L xs τ g h) (q : SQ g) (ta : τ a = 1) (ia : (g.2.1 1 a).toNatClampNeg = k) (lr : LR p (g.2.1 19) (g.1 14 6)) : f_X0_judge 10000 (n + 14) a h = some (hdA p (sgnF (mRow g k))) := by
  refine wp_is ?_
  unfold f_X0_judge
  refine wp_zif (ob_m w ta) ?_
  refine wp_eq (w_of w q ta ia) ?_
  have l := v_X0_judge_L (sgnF_lt (mRow g k)) w lr 10000 0 (by omega) (by omega)
  have z0 : nI (cnt (pK p (sgnF (mRow g k)) true) 0) = 0 := rfl
  have z1 : nI (cnt p 0) = 0 := rfl
  rw [z0, z1] at l
  refine wp_eq l ?_
  refine wp_eq (E_14_6 w) ?_
  rw [lr.1]
  have le1 := cnt_le p 128
  have le2 := cnt_le (pK p (sgnF (mRow g k)) true) 128
  unfold hdA
  generalize cnt (pK p (sgnF (mRow g k)) true) 128 = A at le2 ⊢
  have e14 := (E_14_6 w).trans (congrArg some lr.1)
  generalize cnt p 128 = B at le1 e14 ⊢
  refine wp_ite (fun c => ?_) (fun c => ?_)
  · have e : B = 0 := nI_inj (by omega) (by omega) (c.trans nI_0.symm)
    exact wp_some (by rw [if_pos e])
  · have e : ¬ B = 0 := fun z => c (by rw [z]; rfl)
    rw [if_neg e]
    refine wp_eq e14 ?_
    refine wp_ite (fun c2 => ?_) (fun c2 => ?_)
    · exact wp_some (by rw [if_pos (nI_inj (by omega) (by omega) c2)])
    · rw [if_neg (show ¬ A = B from fun z => c2 (by rw [z]))]
      refine wp_ite (fun c3 => ?_) (fun c3 => ?_)
      · rw [← nI_0, nI_leI (by omega) (by omega)] at c3
        exact wp_some (by rw [if_pos (show A = 0 by omega)])
      · rw [← nI_0, nI_leI (by omega) (by omega)] at c3
        exact wp_some (by rw [if_neg (show ¬ A = 0 by omega)])
theorem v_X11_held {R : Nat} {Y D : Nat → Int32} {S : Nat → Nat} {v1 v2 : Int32} (hD : ∀ r, r < R → D r = 0 ∨ D r = 1) (w : WT n b L xs τ g h) (rh : RH g R Y D S) (cu : ∀ c, c < 128 → g.2.1 18 c = mkC c) (mo : (0 ≤ v1 ∧ v1 < g.1 0 10 → ∃ a, f_X11_meetingOf 10000 n v1 h = some (some a) ∧ τ a = 1 ∧ g.2.1 1 a = v1) ∧ (¬ (0 ≤ v1 ∧ v1 < g.1 0 10) → f_X11_meetingOf 10000 n v1 h = some none)) : wp (f_X11_held 10000 n v1 v2 h) (fun r => (∃ g', WT n b L xs τ g' r.2 ∧ BG g g') ∧ (((0 ≤ v1 ∧ v1 < g.1 0 10) ∧ (0 ≤ v2 ∧ v2 ≤ 30) → r.1 = hdA (pR Y D S v2 (if g.1 0 12 = -1 then g.1 0 11 else g.1 0 12) (fun _ => true) R) (sgnF (mRow g v1.toNatClampNeg))) ∧ (¬ ((0 ≤ v1 ∧ v1 < g.1 0 10) ∧ (0 ≤ v2 ∧ v2 ≤ 30)) → r.1 = -1))) := by
  unfold f_X11_held
  refine wp_zif (ob_0 w) ?_
  by_cases cm : 0 ≤ v1 ∧ v1 < g.1 0 10
  · obtain ⟨a, ea, ta, ia⟩ := mo.1 cm
    refine wp_eq ea ?_
    show wp (if p_X11_within v2 0 30 = 0 then _ else _) _
    refine in11 (fun c => wp_some ⟨⟨g, w, BG_refl g⟩, fun z => absurd z.2 c, fun _ => rfl⟩) (fun c => ?_)
    refine wp_eq (gR_0_5 w) ?_
    refine wp_zif (ob_0 w) ?_
    refine wp_eq (v_view w) ?_
    refine wp_zif (ob_14 w) ?_
    refine wp_bind (v_X0_keepFrom hD w rh cu) fun h6 q => ?_
    obtain ⟨g6, w6, bg, lr⟩ := q
    refine wp_eq (gR_0_5 w6) ?_
    refine wp_zif (ob_14 w6) ?_
    have i6 : (g6.2.1 1 a).toNatClampNeg = v1.toNatClampNeg := by rw [bg.2.1 1 (by decide), ia]
    refine wp_eq (v_X0_judge w6 (SQ_BG bg rh.2.2.2.2.2.2) ta i6 lr) ?_
    rw [BG_row bg]
    exact wp_some ⟨⟨g6, w6, bg⟩, fun _ => rfl, fun z => absurd ⟨cm, c⟩ z⟩
  · refine wp_eq (mo.2 cm) ?_
    exact wp_some ⟨⟨g, w, BG_refl g⟩, fun z => absurd z.1 cm, fun _ => rfl⟩
/-! since -/
def hvW (wd c : Nat) : Bool := decide (cA c = wd ∨ cB c = wd)
def alW (p : Nat → Bool) (wd : Nat) : Bool := decide (cnt (fun c => p c && !hvW wd c) 128 = 0)
theorem alW_iff {p : Nat → Bool} {wd : Nat} : alW p wd = true ↔ ∀ e, e < 128 → p e = true → hvW wd e = true := by
  unfold alW
  rw [decide_eq_true_iff, cnt_0]
  constructor
  · intro h c hc hp
    have no := h c hc
    cases hh : hvW wd c
    · exact absurd (by rw [hp, hh]; rfl) no
    · rfl
  · intro h e he hq
    rw [Bool.and_eq_true] at hq
    rw [h e he hq.1] at hq
    exact absurd hq.2 (by decide)
theorem v_X0_all_L {p : Nat → Bool} {wd : Nat} (hw : wd < 16) (w : WT n b L xs τ g h) (lr : LR p (g.2.1 19) (g.1 14 6)) : ∀ (m c : Nat), c ≤ 128 → 128 - c < m → (∀ e, e < c → p e = true → hvW wd e = true) → f_X0_allHave_L2 10000 (n + 14) (nI wd) h m (nI (cnt p c)) = some (if alW p wd = true then .inl () else .inr 0) := by
  intro m
  induction m with
  | zero => intro c hc hm; exact absurd hm (by omega)
  | succ m ih =>
    intro c hc hm hd
    have le1 := cnt_le p 128
    have le2 := cnt_mono (p := p) hc
    refine wp_is ?_
    rw [f_X0_allHave_L2.eq_2]
    refine wp_eq (E_14_6 w) ?_
    rw [lr.1]
    refine wp_ite (fun z => ?_) (fun z => ?_)
    · rw [nI_leI (by omega) (by omega)] at z
      refine wp_some ?_
      rw [if_pos]
      refine alW_iff.mpr ?_
      intro e he hp
      by_cases ec : e < c
      · exact hd e ec hp
      · have a1 := cnt_lt hp he
        have a2 := cnt_mono (p := p) (show c ≤ e by omega)
        omega
    · rw [nI_leI (by omega) (by omega)] at z
      refine wp_ite (fun y => ?_) (fun y => ?_)
      · rw [show (128 : Int32) = nI 128 from rfl, nI_leI (by decide) (by omega)] at y
        exact absurd y (by omega)
      · obtain ⟨e, a1, a2, a3, a4⟩ := cnt_next (p := p) (128 - c) c (by rw [show c + (128 - c) = 128 by omega]; omega)
        have a2' : e < 128 := by omega
        have ge : cnt p e = cnt p c := cnt_gap' a1 a4
        obtain ⟨i0, i1, i2⟩ := h_ix (m := 128) (j := cnt p c) (by omega) (by omega)
        have ai : aI h (n + 19) (nI (cnt p c)) = some (mkC e) := by
          rw [A_19 w i0 i1, i2, ← ge]
          exact congrArg some (lr.2 e a2' a3)
        refine wp_eq (gR_14_4 w) ?_
        refine wp_eq ai ?_
        have e2 : nI (cnt p c) + 1 = nI (cnt p (e + 1)) := by rw [nI_1, cnt_y a3, ge]
        refine wp_ite (fun y2 => ?_) (fun y2 => ?_)
        · have no := (bit_cls a2' hw).mp y2
          refine wp_some ?_
          rw [if_neg]
          intro al
          exact no (of_decide_eq_true (alW_iff.mp al e a2' a3))
        · have ye : hvW wd e = true := by
            refine decide_eq_true ?_
            by_cases z9 : cA e = wd ∨ cB e = wd
            · exact z9
            · exact absurd ((bit_cls a2' hw).mpr z9) y2
          rw [e2, ih (e + 1) (by omega) (by omega) (fun f h1 hp => ?_)]
          · exact wp_some rfl
          · by_cases ef : f = e
            · rw [ef]; exact ye
            · by_cases fc : f < c
              · exact hd f fc hp
              · exact absurd hp (a4 f (by omega) (by omega))
theorem v_X0_all {p : Nat → Bool} {wd : Nat} (hw : wd < 16) (w : WT n b L xs τ g h) (lr : LR p (g.2.1 19) (g.1 14 6)) : f_X0_allHave 10000 (n + 14) (nI wd) h = some (if alW p wd = true then 1 else 0) := by
  unfold f_X0_allHave
  have l := v_X0_all_L hw w lr 10000 0 (by omega) (by omega) (fun e h1 _ => absurd h1 (by omega))
  have z1 : nI (cnt p 0) = 0 := rfl
  rw [z1] at l
  rw [l, Option.bind_some]
  by_cases c : alW p wd = true
  · rw [if_pos c, if_pos c]; rfl
  · rw [if_neg c, if_neg c]; rfl
/-- the word is in every custom that can have been kept from y on -/
def snC (Y D : Nat → Int32) (S : Nat → Nat) (R wd : Nat) (z : Int32) (y : Nat) : Prop := (∃ c, c < 128 ∧ pR Y D S (nI y) z (fun _ => true) R c = true) ∧ ∀ c, c < 128 → pR Y D S (nI y) z (fun _ => true) R c = true → hvW wd c = true
def snB (Y D : Nat → Int32) (S : Nat → Nat) (R wd : Nat) (z : Int32) (y : Nat) : Bool := decide (¬ cnt (pR Y D S (nI y) z (fun _ => true) R) 128 = 0) && decide (cnt (fun c => pR Y D S (nI y) z (fun _ => true) R c && !hvW wd c) 128 = 0)
theorem cnt_ex {p : Nat → Bool} (h : ¬ cnt p 128 = 0) : ∃ c, c < 128 ∧ p c = true := by
  obtain ⟨e, a1, a2, a3, a4⟩ := cnt_next (p := p) 128 0 (by show 0 < cnt p (0 + 128); rw [Nat.zero_add]; omega)
  exact ⟨e, by omega, a3⟩
theorem snB_iff {Y D : Nat → Int32} {S : Nat → Nat} {R wd : Nat} {z : Int32} {y : Nat} : snB Y D S R wd z y = true ↔ snC Y D S R wd z y := by
  unfold snB snC
  rw [Bool.and_eq_true, decide_eq_true_iff, decide_eq_true_iff]
  constructor
  · intro h
    refine ⟨cnt_ex h.1, fun c hc hp => ?_⟩
    have no := cnt_0.mp h.2 c hc
    cases hh : hvW wd c
    · exact absurd (by rw [hp, hh]; rfl) no
    · rfl
  · intro h
    obtain ⟨c, hc, hp⟩ := h.1
    refine ⟨fun z9 => cnt_0.mp z9 c hc hp, cnt_0.mpr (fun e he hq => ?_)⟩
    rw [Bool.and_eq_true] at hq
    rw [h.2 e he hq.1] at hq
    exact absurd hq.2 (by decide)
/-- the least such year from k on, below m, else the given one -/
def snL (P : Nat → Bool) (l : Int32) : Nat → Int32
  | 0 => l
  | k + 1 => snL P (if P k = true then nI k else l) k
theorem pR_step {R : Nat} {Y D : Nat → Int32} {S : Nat → Nat} {k : Nat} {z : Int32} (hk : k < 1000) : pR Y D S (nI k) (nI k) (pR Y D S (nI (k + 1)) z (fun _ => true) R) R = pR Y D S (nI k) z (fun _ => true) R ∨ ¬ nI k ≤ z := by
  by_cases hz : nI k ≤ z
  · refine Or.inl ?_
    funext c
    rw [Bool.eq_iff_iff, pR_iff, pR_iff, pR_iff]
    have lt : nI k < nI (k + 1) := (h_ix (m := k + 1) (j := k) (by omega) (by omega)).2.1
    have s1 : nI k + 1 = nI (k + 1) := nI_1 k
    have k0 := (h_ix (m := 1000) (j := k) hk (by omega)).1
    have kM : nI k < 1000 := (h_ix (m := 1000) (j := k) hk (by omega)).2.1
    constructor
    · intro h1
      refine ⟨rfl, fun r hr i => ?_⟩
      by_cases e : Y r ≤ nI k
      · exact h1.2 r hr ⟨i.1, e⟩
      · exact h1.1.2 r hr ⟨by rw [← s1]; lia, i.2⟩
    · intro h1
      refine ⟨⟨rfl, fun r hr i => h1.2 r hr ⟨?_, i.2⟩⟩, fun r hr i => h1.2 r hr ⟨i.1, ?_⟩⟩
      · have := i.1
        lia
      · have := i.2
        lia
  · exact Or.inr hz
set_option maxHeartbeats 1000000 in
theorem v_X0_first_L {R wd : Nat} {Y D : Nat → Int32} {S : Nat → Nat} {z : Int32} (hD : ∀ r, r < R → D r = 0 ∨ D r = 1) (hw : wd < 16) : ∀ (k m : Nat) {l : Int32} {g : zGh} {h : zH}, WT n b L xs τ g h → RH g R Y D S → k < m → k < 1000 → (∀ j, j < k → nI j ≤ z) → LR (pR Y D S (nI k) z (fun _ => true) R) (g.2.1 19) (g.1 14 6) → wp (f_X0_firstYearOf_L9 10000 (n + 14) (nI wd) m l (nI k + (-1)) h) (fun r => r.1 = snL (snB Y D S R wd z) l k ∧ ∃ g', WT n b L xs τ g' r.2 ∧ BG g g') := by
  intro k
  induction k with
  | zero =>
    intro m l g h w rh hm _ _ lr
    obtain ⟨m, rfl⟩ : ∃ m', m = m' + 1 := ⟨m - 1, by omega⟩
    rw [f_X0_firstYearOf_L9.eq_2, if_pos (by decide)]
    exact wp_some ⟨rfl, g, w, BG_refl g⟩
  | succ k ih =>
    intro m l g h w rh hm hk hz lr
    obtain ⟨m, rfl⟩ : ∃ m', m = m' + 1 := ⟨m - 1, by omega⟩
    rw [f_X0_firstYearOf_L9.eq_2, nI_pd]
    have k0 := (h_ix (m := 1000) (j := k) (by omega) (by omega)).1
    rw [if_neg (Int32.not_lt.mpr k0)]
    refine wp_zif (ob_14 w) ?_
    refine wp_bind (v_X0_rule (y := nI k) (z := nI k) hD w rh lr) fun h5 q => ?_
    obtain ⟨g5, w5, bg, lr5⟩ := q
    rw [(pR_step (by omega)).resolve_right (fun z9 => z9 (hz k (by omega)))] at lr5
    refine wp_eq (E_14_6 w5) ?_
    rw [lr5.1]
    have le1 := cnt_le (pR Y D S (nI k) z (fun _ => true) R) 128
    have rest : ∀ l', l' = (if snB Y D S R wd z k = true then nI k else l) → wp (f_X0_firstYearOf_L9 10000 (n + 14) (nI wd) m l' (nI k + (-1)) h5) (fun r => r.1 = snL (snB Y D S R wd z) l (k + 1) ∧ ∃ g', WT n b L xs τ g' r.2 ∧ BG g g') := by
      intro l' el
      refine wp_mono (ih m (l := l') w5 (RH_BG bg rh) (by omega) (by omega) (fun j hj => hz j (by omega)) lr5) (fun r q => ?_)
      obtain ⟨q1, g', q2, q3⟩ := q
      refine ⟨?_, g', q2, BG_trans bg q3⟩
      rw [q1, el]
      rfl
    refine wp_ite (fun c => ?_) (fun c => ?_)
    · refine rest l ?_
      rw [← nI_0, nI_leI (by omega) (by omega)] at c
      rw [if_neg]
      intro sb
      have sn := snB_iff.mp sb
      obtain ⟨c9, h9, p9⟩ := sn.1
      exact cnt_0.mp (show cnt _ 128 = 0 by omega) c9 h9 p9
    · rw [← nI_0, nI_leI (by omega) (by omega)] at c
      have ex : ∃ c, c < 128 ∧ pR Y D S (nI k) z (fun _ => true) R c = true := by
        obtain ⟨e, a1, a2, a3, a4⟩ := cnt_next (p := pR Y D S (nI k) z (fun _ => true) R) 128 0 (by show 0 < cnt _ (0 + 128); rw [Nat.zero_add]; omega)
        exact ⟨e, by omega, a3⟩
      refine wp_zif (ob_14 w5) ?_
      refine wp_eq (v_X0_all hw w5 lr5) ?_
      by_cases al : alW (pR Y D S (nI k) z (fun _ => true) R) wd = true
      · rw [if_pos al, if_neg (by decide : ¬ (1 : Int32) = 0)]
        exact rest (nI k) (by rw [if_pos (snB_iff.mpr ⟨ex, alW_iff.mp al⟩)])
      · rw [if_neg al, if_pos rfl]
        exact rest l (by rw [if_neg (fun sb => al (alW_iff.mpr (snB_iff.mp sb).2))])
theorem v_X11_since {R : Nat} {Y D : Nat → Int32} {S : Nat → Nat} {v1 : Int32} {V : Nat} (hD : ∀ r, r < R → D r = 0 ∨ D r = 1) (w : WT n b L xs τ g h) (rh : RH g R Y D S) (cu : ∀ c, c < 128 → g.2.1 18 c = mkC c) (hV : (if g.1 0 12 = -1 then g.1 0 11 else g.1 0 12) = nI V) (hV2 : V ≤ 30) : wp (f_X11_since 10000 n v1 h) (fun r => (∃ g', WT n b L xs τ g' r.2 ∧ BG g g') ∧ ((0 ≤ v1 ∧ v1 ≤ 15 → r.1 = snL (snB Y D S R v1.toNatClampNeg (nI V)) (-1) (V + 1)) ∧ (¬ (0 ≤ v1 ∧ v1 ≤ 15) → r.1 = -1))) := by
  unfold f_X11_since
  refine in11 (fun c => wp_some ⟨⟨g, w, BG_refl g⟩, fun z => absurd z c, fun _ => rfl⟩) (fun c => ?_)
  refine wp_eq (gR_0_5 w) ?_
  refine wp_zif (ob_0 w) ?_
  refine wp_eq ((v_view w).trans (congrArg some hV)) ?_
  refine wp_zif (ob_14 w) ?_
  unfold f_X0_firstYearOf
  have hw : v1.toNatClampNeg < 16 := (i32_clamp c.1 (N := 16) (by decide) (by show v1 < 16; lia)).2
  have e1 : nI v1.toNatClampNeg = v1 := i32_nI c.1
  refine wp_bind (R := fun r => r.1 = snL (snB Y D S R v1.toNatClampNeg (nI V)) (-1) (V + 1) ∧ ∃ g', WT n b L xs τ g' r.2 ∧ BG g g') ?_ (fun q6 p6 => wp_some ⟨p6.2, fun _ => p6.1, fun z => absurd c z⟩)
  refine wp_zif (ob_14 w) ?_
  refine wp_bind (v_X0_keepAll w cu) fun h2 q => ?_
  obtain ⟨g2, w2, bg, lr⟩ := q
  have lr2 : LR (pR Y D S (nI (V + 1)) (nI V) (fun _ => true) R) (g2.2.1 19) (g2.1 14 6) := by
    have e : pR Y D S (nI (V + 1)) (nI V) (fun _ => true) R = fun _ => true := by
      funext c9
      refine (pR_iff R c9).mpr ⟨rfl, fun r hr i => ?_⟩
      have lt : nI V < nI (V + 1) := (h_ix (m := V + 1) (j := V) (by omega) (by omega)).2.1
      have i1 := i.1
      have i2 := i.2
      exact absurd (Int32.le_trans i1 i2) (Int32.not_le.mpr lt)
    rw [e]
    exact lr
  have l := v_X0_first_L (n := n) (b := b) (L := L) (xs := xs) (τ := τ) (z := nI V) hD hw (V + 1) 10000 (l := -1) w2 (RH_BG bg rh) (by omega) (by omega) (fun j hj => (nI_r (show j ≤ V by omega) (by omega)).2) lr2
  rw [nI_pd, e1] at l
  refine wp_bind l fun m11 q => ?_
  obtain ⟨q1, g', q2, q3⟩ := q
  exact wp_some ⟨q1, g', q2, BG_trans bg q3⟩
end BENCH
