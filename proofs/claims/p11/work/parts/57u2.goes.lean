/-! the reference's way, and what it leaves alone -/
theorem mLoop2 {N m : Nat} {h0 : zH} {r : Nat → Nat} {v1 br reacts pace lk looks sx sy fl : Int32} {q : Nat → Int32 × Int32 × Int32 × Int32 × Int32} (D : nhD m r) (O31 : nhO m r 31) (O33 : nhO m r 33) (O34 : nhO m r 34) (O35 : nhO m r 35) (O36 : nhO m r 36)
    (a31 : aI h0 (r 31) v1 = some reacts) (a33 : aI h0 (r 33) v1 = some pace) (a34 : aI h0 (r 34) v1 = some lk) (a35 : aI h0 (r 35) v1 = some sx) (a36 : aI h0 (r 36) v1 = some sy) (hlk : (lk &&& 1 = 1) = ¬ looks = 0) (hsx : sx = 0 ∨ sx < 0) (hpace : 0 < pace)
    (hq : ∀ k, q (k + 1) = rNx reacts pace looks sx sy fl (nI k) (q k))
    (hv : ∀ k, k ≤ 60 → (if (q k).2.2.1 ≤ br then 0 else (q k).2.2.1 - br) = (if 0 < (q k).2.2.1 - pBr fl then (q k).2.2.1 - pBr fl else 0))
    (h44 : ∀ k, k ≤ 60 → ((q k).2.2.2.1 < 0) = ((q k).2.2.2.1 = -1)) (h45 : ∀ k, k ≤ 60 → ((q k).2.2.2.2 < 0) = ((q k).2.2.2.2 = -1)) :
    ∀ (d nn j : Nat) (i f g w : Nat → Int32), d < nn → j + d = 60 → i 43 = bI (decide (0 < j ∧ rMt (q j) = true)) → i 44 = (q j).2.2.2.1 → i 45 = (q j).2.2.2.2 → (∀ t, t ≤ j → f t = (q t).1 ∧ g t = (q t).2.1) →
      ∃ i' f' g' w', f_X12_goesThrough_L84 N m v1 br nn (q j).1 (q j).2.1 (q j).2.2.1 (nI j) (NH h0 m r i f g w) = some (nI (rEnd q d j), NH h0 m r i' f' g' w') ∧ i' 43 = bI (decide (0 < rEnd q d j ∧ rMt (q (rEnd q d j)) = true)) ∧ i' 44 = (q (rEnd q d j)).2.2.2.1 ∧ (∀ t, t ≤ rEnd q d j → f' t = (q t).1 ∧ g' t = (q t).2.1) ∧ (∀ k, k ≠ 42 → k ≠ 43 → k ≠ 44 → k ≠ 45 → i' k = i k) := by
  intro d
  induction d with
  | zero =>
    intro nn j i f g w hn hj i43 i44 i45 hf
    obtain ⟨nn, rfl⟩ : ∃ n', nn = n' + 1 := ⟨nn - 1, by omega⟩
    have ej : j = 60 := by omega
    subst ej
    have c0 : (60 : Int32) ≤ nI 60 := by
      rw [show nI 60 = (60 : Int32) from rfl]
      decide
    refine ⟨i, f, g, w, ?_, i43, i44, hf, fun _ _ _ _ _ => rfl⟩
    unfold f_X12_goesThrough_L84
    rw [if_pos c0]
    rfl
  | succ d ih =>
    intro nn j i f g w hn hj i43 i44 i45 hf
    obtain ⟨nn, rfl⟩ : ∃ n', nn = n' + 1 := ⟨nn - 1, by omega⟩
    by_cases c : 0 < j ∧ rMt (q j) = true
    · have e : rEnd q (d + 1) j = j := by
        show (if 0 < j ∧ rMt (q j) = true then j else rEnd q d (j + 1)) = j
        rw [if_pos c]
      rw [e]
      refine ⟨i, f, g, w, ?_, i43, i44, hf, fun _ _ _ _ _ => rfl⟩
      have c0 : ¬ (60 : Int32) ≤ nI j := by
        rw [show (60 : Int32) = nI 60 from rfl, nI_leI (by decide) (by omega)]; omega
      have c1 : ¬ i 43 = 0 := by
        rw [i43, decide_eq_true c]
        decide
      unfold f_X12_goesThrough_L84
      rw [if_neg c0, NH_g43 D, Option.bind_some, if_neg c1]
    · have e : rEnd q (d + 1) j = rEnd q d (j + 1) := by
        show (if 0 < j ∧ rMt (q j) = true then j else rEnd q d (j + 1)) = _
        rw [if_neg c]
      rw [e]
      have c43 : i 43 = 0 := by
        rw [i43, decide_eq_false c]
        rfl
      have st := mStep (N := N) (m := m) (n := nn) (j := j) (h0 := h0) (r := r) (i := i) (f := f) (g := g) (w := w) (v1 := v1) (br := br) (x := (q j).1) (y := (q j).2.1) (v := (q j).2.2.1) (fl := fl) D O31 O33 O34 O35 O36 a31 a33 a34 a35 a36 hlk hsx hpace (hv j (by omega)) (by omega) c43 (by rw [i44]; exact h44 j (by omega)) (by rw [i45]; exact h45 j (by omega))
      have eq : ((q j).1, (q j).2.1, (q j).2.2.1, i 44, i 45) = q j := by
        show ((q j).1, (q j).2.1, (q j).2.2.1, i 44, i 45) = ((q j).1, (q j).2.1, (q j).2.2.1, (q j).2.2.2.1, (q j).2.2.2.2)
        rw [i44, i45]
      rw [eq, ← hq j] at st
      rw [st]
      obtain ⟨i', f', g', w', z1, z2, z3, z4, z5⟩ := ih nn (j + 1) (upd (upd (upd i 44 (q (j + 1)).2.2.2.1) 45 (q (j + 1)).2.2.2.2) 43 (bI (rMt (q (j + 1))))) (upd f (j + 1) (q (j + 1)).1) (upd g (j + 1) (q (j + 1)).2.1) (upd w j (q (j + 1)).2.2.1) (by omega) (by omega) (by
        have e2 : (decide (0 < j + 1 ∧ rMt (q (j + 1)) = true)) = rMt (q (j + 1)) := by cases rMt (q (j + 1)) <;> simp
        rw [e2]
        rfl) rfl rfl (fun t ht => by
        by_cases et : t = j + 1
        · rw [et]
          exact ⟨by simp [upd], by simp [upd]⟩
        · have := hf t (by omega)
          refine ⟨?_, ?_⟩
          · simp only [upd, if_neg et]; exact this.1
          · simp only [upd, if_neg et]; exact this.2)
      exact ⟨i', f', g', w', z1, z2, z3, z4, fun k h1 h2 h3 h4 => (z5 k h1 h2 h3 h4).trans (by simp only [upd, if_neg h2, if_neg h3, if_neg h4])⟩
theorem goes_eq2 {N m : Nat} {h0 : zH} {r : Nat → Nat} {i f g w : Nat → Int32} {v1 x0 y0 reacts pace lk looks sx sy fl : Int32} {s : Nat} {q : Nat → Int32 × Int32 × Int32 × Int32 × Int32} (D : nhD m r) (O29 : nhO m r 29) (O31 : nhO m r 31) (O32 : nhO m r 32) (O33 : nhO m r 33) (O34 : nhO m r 34) (O35 : nhO m r 35) (O36 : nhO m r 36) (O37 : nhO m r 37)
    (a29 : aI h0 (r 29) v1 = some x0) (a31 : aI h0 (r 31) v1 = some reacts) (a32 : aI h0 (r 32) v1 = some y0) (a33 : aI h0 (r 33) v1 = some pace) (a34 : aI h0 (r 34) v1 = some lk) (a35 : aI h0 (r 35) v1 = some sx) (a36 : aI h0 (r 36) v1 = some sy) (a37 : aI h0 (r 37) v1 = some fl) (hlk : (lk &&& 1 = 1) = ¬ looks = 0) (hsx : sx = 0 ∨ sx < 0) (hpace : 0 < pace) (hf : fl = 0 ∨ fl = 1 ∨ fl = 2) (hs : s ≤ 300) (hq : rSeq x0 y0 (nI s) reacts pace looks sx sy fl = q) (hN : 60 < N) :
    ∃ i' f' g' w', f_X12_goesThrough N m v1 (nI s) (NH h0 m r i f g w) = some (NH h0 m r i' f' g' w') ∧ i' 42 = nI (rEnd q 60 0) ∧ i' 43 = bI (decide (0 < rEnd q 60 0 ∧ rMt (q (rEnd q 60 0)) = true)) ∧ i' 44 = (q (rEnd q 60 0)).2.2.2.1 ∧ (∀ t, t ≤ rEnd q 60 0 → f' t = (q t).1 ∧ g' t = (q t).2.1) ∧ (∀ k, k ≠ 42 → k ≠ 43 → k ≠ 44 → k ≠ 45 → i' k = i k) := by
  subst hq
  have hbr : (if fl = 0 then some (60 : Int32) else if fl = 1 then some 35 else some 10) = some (pBr fl) := by rcases hf with rfl | rfl | rfl <;> decide
  have qi := qInv (x0 := x0) (y0 := y0) (reacts := reacts) (pace := pace) (looks := looks) (sx := sx) (sy := sy) (fl := fl) hs hf
  have hv : ∀ k, k ≤ 60 → (if (rSeq x0 y0 (nI s) reacts pace looks sx sy fl k).2.2.1 ≤ pBr fl then 0 else (rSeq x0 y0 (nI s) reacts pace looks sx sy fl k).2.2.1 - pBr fl) = (if 0 < (rSeq x0 y0 (nI s) reacts pace looks sx sy fl k).2.2.1 - pBr fl then (rSeq x0 y0 (nI s) reacts pace looks sx sy fl k).2.2.1 - pBr fl else 0) := by
    intro k hk
    obtain ⟨a, ha, hva⟩ := (qi k hk).1
    rw [hva]
    exact (brV ha hf).1
  obtain ⟨i', f', g', w', e, p43, p44, pf, pz⟩ := mLoop2 (N := N) (m := m) (h0 := h0) (r := r) (v1 := v1) (br := pBr fl) (fl := fl) (q := rSeq x0 y0 (nI s) reacts pace looks sx sy fl) D O31 O33 O34 O35 O36 a31 a33 a34 a35 a36 hlk hsx hpace (fun k => rfl) hv (fun k hk => (qi k hk).2.1) (fun k hk => (qi k hk).2.2) 60 N 0 (upd (upd (upd i 44 (-1)) 45 (-1)) 43 0) (upd f 0 x0) (upd g 0 y0) w hN (by omega) (by simp [upd, bI]) rfl rfl (fun t ht => by
    have e0 : t = 0 := by omega
    subst e0
    exact ⟨rfl, rfl⟩)
  generalize hQ : rEnd (rSeq x0 y0 (nI s) reacts pace looks sx sy fl) 60 0 = E at e p43 p44 pf ⊢
  refine ⟨upd i' 42 (nI E), f', g', w', ?_, rfl, p43, p44, pf, fun k h1 h2 h3 h4 => (if_neg h1).trans ((pz k h1 h2 h3 h4).trans (by simp only [upd, if_neg h2, if_neg h3, if_neg h4]))⟩
  have s39 : ∀ (i f g w : Nat → Int32), sI (NH h0 m r i f g w) (r 39) 0 x0 = some (NH h0 m r i (upd f 0 x0) g w) := fun i f g w => by
    have := NH_s39 (h0 := h0) (i := i) (f := f) (g := g) (w := w) D (j := 0) (by decide) x0
    rwa [nI_0] at this
  have s40 : ∀ (i f g w : Nat → Int32), sI (NH h0 m r i f g w) (r 40) 0 y0 = some (NH h0 m r i f (upd g 0 y0) w) := fun i f g w => by
    have := NH_s40 (h0 := h0) (i := i) (f := f) (g := g) (w := w) D (j := 0) (by decide) y0
    rwa [nI_0] at this
  unfold f_X12_goesThrough
  simp only [NH_r D 29 (gX12_29 _ _ _ _), NH_a O29, a29, NH_r D 32 (gX12_32 _ _ _ _), NH_a O32, a32, NH_r D 37 (gX12_37 _ _ _ _), NH_a O37, a37, Option.bind_some, hbr, NH_p44 D, NH_p45 D, NH_z43 D 0 (Or.inl rfl), NH_r D 39 (gX12_39 _ _ _ _), NH_r D 40 (gX12_40 _ _ _ _), s39, s40]
  have e' : f_X12_goesThrough_L84 N m v1 (pBr fl) N x0 y0 (nI s) 0 (NH h0 m r (upd (upd (upd i 44 (-1)) 45 (-1)) 43 0) (upd f 0 x0) (upd g 0 y0) w) = some (nI E, NH h0 m r i' f' g' w') := e
  rw [e', Option.bind_some, NH_p42 D, Option.bind_some]
theorem NH_g46 {h0 : zH} {m : Nat} {r : Nat → Nat} {i f g w : Nat → Int32} (D : nhD m r) : gI (NH h0 m r i f g w) m 12 46 = some (i 46) := by unfold NH; rw [gI_zn D.2.2.1, gI_zn D.2.1, gI_zn D.1, gX12_46]
theorem NH_g47 {h0 : zH} {m : Nat} {r : Nat → Nat} {i f g w : Nat → Int32} (D : nhD m r) : gI (NH h0 m r i f g w) m 12 47 = some (i 47) := by unfold NH; rw [gI_zn D.2.2.1, gI_zn D.2.1, gI_zn D.1, gX12_47]
theorem NH_g48 {h0 : zH} {m : Nat} {r : Nat → Nat} {i f g w : Nat → Int32} (D : nhD m r) : gI (NH h0 m r i f g w) m 12 48 = some (i 48) := by unfold NH; rw [gI_zn D.2.2.1, gI_zn D.2.1, gI_zn D.1, gX12_48]
section GOES2
variable {n b L : Nat} {xs : Nat → Int32} {τ : Nat → Nat} {g : zGh} {h : zH}
theorem v_X12_goes2 {v1 : Int32} {K : Nat} {F : Nat → Int32} (w : WT n b L xs τ g h) (p0 : 0 ≤ v1) (p1 : v1 < g.1 42 27) (p2 : ∀ i : Int32, 0 ≤ i → i < g.1 42 27 → 1 ≤ g.2.1 65 i.toNatClampNeg) (eK : v1.toNatClampNeg = K) (mk : MK F (g.2.1 61 K) (g.2.1 62 K) (g.2.1 63 K) (g.2.1 64 K) (g.2.1 65 K) (g.2.1 66 K) (g.2.1 67 K) (g.2.1 68 K) (g.2.1 69 K) (g.2.1 70 K)) : ∃ r, f_X12_goesThrough 10000 (n + 42) v1 (g.2.1 62 K) h = some r ∧ WT n b L xs τ g r ∧ gI r (n + 42) 12 42 = some (nI (rE F)) ∧ gI r (n + 42) 12 43 = some (bI (decide (0 < rE F ∧ rMt (rQ F (rE F)) = true))) ∧ gI r (n + 42) 12 44 = some (rQ F (rE F)).2.2.2.1 ∧ (∀ t, t ≤ rE F → aI r (n + 71) (nI t) = some (rQ F t).1 ∧ aI r (n + 72) (nI t) = some (rQ F t).2.1) ∧ ∀ k z, k = 46 ∨ k = 47 ∨ k = 48 → gI h (n + 42) 12 k = some z → gI r (n + 42) 12 k = some z := by
  subst eK
  obtain ⟨⟨m0, m1, m2, m3, m4⟩, m5, m6, ⟨m7, m8, m9, m10⟩, m7r, m9r, m1r, m4r, m11, m12⟩ := mk
  have r27 := gr_42_27 w
  have k40 : v1 < 40 := by lia
  have f1 : 0 ≤ F 1 := by lia
  have es : nI (F 1).toNatClampNeg = g.2.1 62 v1.toNatClampNeg := (i32_nI f1).trans m1
  have hs : (F 1).toNatClampNeg ≤ 300 := by
    have := (i32_clamp (i := F 1) f1 (N := 301) (by decide) (by show F 1 < 301; lia)).2
    omega
  have hq : rSeq (g.2.1 61 v1.toNatClampNeg) (g.2.1 64 v1.toNatClampNeg) (nI (F 1).toNatClampNeg) (g.2.1 63 v1.toNatClampNeg) (g.2.1 65 v1.toNatClampNeg) (F 5) (g.2.1 67 v1.toNatClampNeg) (g.2.1 68 v1.toNatClampNeg) (g.2.1 69 v1.toNatClampNeg) = rQ F := by
    unfold rQ
    rw [← m0, ← m3, ← m2, ← m4, ← m7, ← m9, i32_nI f1]
    by_cases c : F 7 = 0
    · rw [c]
      exact rSeq_0
    · rw [m8 c]
  obtain ⟨c, e42, i, rfl, -⟩ := w.1 42 (by decide)
  obtain ⟨c1, e71, f, rfl, -⟩ := w.1 71 (by decide)
  obtain ⟨c2, e72, fg, rfl, -⟩ := w.1 72 (by decide)
  obtain ⟨c3, e73, fw, rfl, -⟩ := w.1 73 (by decide)
  have eh : NH h (n + 42) (rf12 n) i f fg fw = h := by
    unfold NH
    rw [show zset h (n + 42) (oX12 (rf12 n) i) = h from zs_id e42, show zset h (rf12 n 39) (.inl (0, 61, .inl f)) = h from zs_id e71, show zset h (rf12 n 40) (.inl (0, 61, .inl fg)) = h from zs_id e72]
    exact zs_id e73
  obtain ⟨i', f', g', w', e, p42, p43, p44, pf, pz⟩ := goes_eq2 (N := 10000) (m := n + 42) (h0 := h) (r := rf12 n) (i := i) (f := f) (g := fg) (w := fw) (v1 := v1) (looks := F 5) (rf_D n) (show nhO (n + 42) (rf12 n) 29 from ⟨by show n + 61 ≠ n + 42; omega, by show n + 61 ≠ n + 71; omega, by show n + 61 ≠ n + 72; omega, by show n + 61 ≠ n + 73; omega⟩) (show nhO (n + 42) (rf12 n) 31 from ⟨by show n + 63 ≠ n + 42; omega, by show n + 63 ≠ n + 71; omega, by show n + 63 ≠ n + 72; omega, by show n + 63 ≠ n + 73; omega⟩) (show nhO (n + 42) (rf12 n) 32 from ⟨by show n + 64 ≠ n + 42; omega, by show n + 64 ≠ n + 71; omega, by show n + 64 ≠ n + 72; omega, by show n + 64 ≠ n + 73; omega⟩) (show nhO (n + 42) (rf12 n) 33 from ⟨by show n + 65 ≠ n + 42; omega, by show n + 65 ≠ n + 71; omega, by show n + 65 ≠ n + 72; omega, by show n + 65 ≠ n + 73; omega⟩) (show nhO (n + 42) (rf12 n) 34 from ⟨by show n + 66 ≠ n + 42; omega, by show n + 66 ≠ n + 71; omega, by show n + 66 ≠ n + 72; omega, by show n + 66 ≠ n + 73; omega⟩) (show nhO (n + 42) (rf12 n) 35 from ⟨by show n + 67 ≠ n + 42; omega, by show n + 67 ≠ n + 71; omega, by show n + 67 ≠ n + 72; omega, by show n + 67 ≠ n + 73; omega⟩) (show nhO (n + 42) (rf12 n) 36 from ⟨by show n + 68 ≠ n + 42; omega, by show n + 68 ≠ n + 71; omega, by show n + 68 ≠ n + 72; omega, by show n + 68 ≠ n + 73; omega⟩) (show nhO (n + 42) (rf12 n) 37 from ⟨by show n + 69 ≠ n + 42; omega, by show n + 69 ≠ n + 71; omega, by show n + 69 ≠ n + 72; omega, by show n + 69 ≠ n + 73; omega⟩) (A_61 w p0 k40) (A_63 w p0 k40) (A_64 w p0 k40) (A_65 w p0 k40) (A_66 w p0 k40) (A_67 w p0 k40) (A_68 w p0 k40) (A_69 w p0 k40) m5 (by rw [← m7]; exact m7r) (by rw [← m4]; lia) (by rw [← m9]; exact m9r) hs hq (by decide)
  rw [eh, es] at e
  obtain ⟨r, er, wr, -⟩ := t_X12_goesThrough (v2 := g.2.1 62 v1.toNatClampNeg) w p0 p1 p2 r27.2
  have e8 := Option.some.inj (er.symm.trans e)
  subst e8
  refine ⟨_, e, wr, ?_, ?_, ?_, fun t ht => ⟨?_, ?_⟩, fun k z hk ez => ?_⟩
  · rw [NH_g42 (rf_D n), p42]
    rfl
  · rw [NH_g43 (rf_D n), p43]
    rfl
  · rw [NH_g44 (rf_D n), p44]
    rfl
  · have h60 := rEnd_60 (rQ F)
    have ht' : t ≤ rEnd (rQ F) 60 0 := ht
    rw [← (pf t ht').1]
    exact NH_a39 (rf_D n) (by omega)
  · have h60 := rEnd_60 (rQ F)
    have ht' : t ≤ rEnd (rQ F) 60 0 := ht
    rw [← (pf t ht').2]
    exact NH_a40 (rf_D n) (by omega)
  · rw [← eh] at ez
    rcases hk with hk | hk | hk <;> subst hk
    · rw [NH_g46 (rf_D n)] at ez ⊢
      rw [pz 46 (by decide) (by decide) (by decide) (by decide)]
      exact ez
    · rw [NH_g47 (rf_D n)] at ez ⊢
      rw [pz 47 (by decide) (by decide) (by decide) (by decide)]
      exact ez
    · rw [NH_g48 (rf_D n)] at ez ⊢
      rw [pz 48 (by decide) (by decide) (by decide) (by decide)]
      exact ez
end GOES2
