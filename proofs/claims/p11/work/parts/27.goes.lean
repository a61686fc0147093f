/-! where a way ends; the reference's whole way -/
theorem rEnd_spec (q : Nat → Int32 × Int32 × Int32 × Int32 × Int32) : ∀ d j, j ≤ rEnd q d j ∧ rEnd q d j ≤ j + d ∧ (∀ s, j ≤ s → s < rEnd q d j → ¬ (0 < s ∧ rMt (q s) = true)) ∧ (rEnd q d j < j + d → 0 < rEnd q d j ∧ rMt (q (rEnd q d j)) = true) := by
  intro d
  induction d with
  | zero =>
    intro j
    have e : rEnd q 0 j = j := rfl
    rw [e]
    exact ⟨Nat.le_refl _, Nat.le_refl _, fun s a b => absurd b (by omega), fun a => absurd a (by omega)⟩
  | succ d ih =>
    intro j
    by_cases c : 0 < j ∧ rMt (q j) = true
    · have e : rEnd q (d + 1) j = j := by
        show (if 0 < j ∧ rMt (q j) = true then j else rEnd q d (j + 1)) = j
        rw [if_pos c]
      rw [e]
      exact ⟨Nat.le_refl _, by omega, fun s a b => absurd b (by omega), fun _ => c⟩
    · have e : rEnd q (d + 1) j = rEnd q d (j + 1) := by
        show (if 0 < j ∧ rMt (q j) = true then j else rEnd q d (j + 1)) = _
        rw [if_neg c]
      rw [e]
      obtain ⟨i1, i2, i3, i4⟩ := ih (j + 1)
      refine ⟨by omega, by omega, fun s a b => ?_, fun a => i4 (by omega)⟩
      by_cases es : s = j
      · rw [es]; exact c
      · exact i3 s (by omega) b
theorem rEnd_full (q : Nat → Int32 × Int32 × Int32 × Int32 × Int32) (d j : Nat) (hs : ∀ s, j ≤ s → s < j + d → ¬ (0 < s ∧ rMt (q s) = true)) : rEnd q d j = j + d := by
  obtain ⟨i1, i2, i3, i4⟩ := rEnd_spec q d j
  by_cases c : rEnd q d j < j + d
  · exact absurd (i4 c) (hs _ i1 c)
  · omega
theorem rEnd_cut (q : Nat → Int32 × Int32 × Int32 × Int32 × Int32) {t : Nat} (ht : t ≤ rEnd q 60 0) : rEnd q t 0 = t := by
  have := rEnd_full q t 0 (fun s a b => (rEnd_spec q 60 0).2.2.1 s a (by omega))
  omega
theorem rEnd_60 (q : Nat → Int32 × Int32 × Int32 × Int32 × Int32) : rEnd q 60 0 ≤ 60 := by
  have := (rEnd_spec q 60 0).2.1
  omega
/-- not met: SECOND 60 -/
theorem rEnd_no (q : Nat → Int32 × Int32 × Int32 × Int32 × Int32) (c : ¬ (0 < rEnd q 60 0 ∧ rMt (q (rEnd q 60 0)) = true)) : rEnd q 60 0 = 60 := by
  obtain ⟨i1, i2, i3, i4⟩ := rEnd_spec q 60 0
  by_cases c2 : rEnd q 60 0 < 0 + 60
  · exact absurd (i4 c2) c
  · omega
theorem bSees_0 (sy sy' x y : Int32) : bSees 0 sy x y = bSees 0 sy' x y := by
  unfold bSees
  simp
theorem rSeq_0 {x0 y0 sp reacts pace looks sy sy' fl : Int32} : rSeq x0 y0 sp reacts pace looks 0 sy fl = rSeq x0 y0 sp reacts pace looks 0 sy' fl := by
  funext k
  induction k with
  | zero => rfl
  | succ k ih =>
    show rNx reacts pace looks 0 sy fl (nI k) (rSeq x0 y0 sp reacts pace looks 0 sy fl k) = rNx reacts pace looks 0 sy' fl (nI k) (rSeq x0 y0 sp reacts pace looks 0 sy' fl k)
    rw [ih]
    generalize rSeq x0 y0 sp reacts pace looks 0 sy' fl k = s
    unfold rNx sF sStay
    rw [bSees_0 sy sy']
theorem mLoop {N m : Nat} {h0 : zH} {r : Nat → Nat} {v1 br reacts pace lk looks sx sy fl : Int32} {q : Nat → Int32 × Int32 × Int32 × Int32 × Int32} (D : nhD m r) (O31 : nhO m r 31) (O33 : nhO m r 33) (O34 : nhO m r 34) (O35 : nhO m r 35) (O36 : nhO m r 36)
    (a31 : aI h0 (r 31) v1 = some reacts) (a33 : aI h0 (r 33) v1 = some pace) (a34 : aI h0 (r 34) v1 = some lk) (a35 : aI h0 (r 35) v1 = some sx) (a36 : aI h0 (r 36) v1 = some sy) (hlk : (lk &&& 1 = 1) = ¬ looks = 0) (hsx : sx = 0 ∨ sx < 0) (hpace : 0 < pace)
    (hq : ∀ k, q (k + 1) = rNx reacts pace looks sx sy fl (nI k) (q k))
    (hv : ∀ k, k ≤ 60 → (if (q k).2.2.1 ≤ br then 0 else (q k).2.2.1 - br) = (if 0 < (q k).2.2.1 - pBr fl then (q k).2.2.1 - pBr fl else 0))
    (h44 : ∀ k, k ≤ 60 → ((q k).2.2.2.1 < 0) = ((q k).2.2.2.1 = -1)) (h45 : ∀ k, k ≤ 60 → ((q k).2.2.2.2 < 0) = ((q k).2.2.2.2 = -1)) :
    ∀ (d nn j : Nat) (i f g w : Nat → Int32), d < nn → j + d = 60 → i 43 = bI (decide (0 < j ∧ rMt (q j) = true)) → i 44 = (q j).2.2.2.1 → i 45 = (q j).2.2.2.2 → (∀ t, t ≤ j → f t = (q t).1 ∧ g t = (q t).2.1) →
      ∃ i' f' g' w', f_X12_goesThrough_L84 N m v1 br nn (q j).1 (q j).2.1 (q j).2.2.1 (nI j) (NH h0 m r i f g w) = some (nI (rEnd q d j), NH h0 m r i' f' g' w') ∧ i' 43 = bI (decide (0 < rEnd q d j ∧ rMt (q (rEnd q d j)) = true)) ∧ i' 44 = (q (rEnd q d j)).2.2.2.1 ∧ (∀ t, t ≤ rEnd q d j → f' t = (q t).1 ∧ g' t = (q t).2.1) := by
  intro d
  induction d with
  | zero =>
    intro nn j i f g w hn hj i43 i44 i45 hf
    obtain ⟨nn, rfl⟩ : ∃ n', nn = n' + 1 := ⟨nn - 1, by omega⟩
    have ej : j = 60 := by omega
    subst ej
    have c0 : (60 : Int32) ≤ nI 60 := by
      rw [show nI 60 = (60 : Int32) from rfl]
      decide
    refine ⟨i, f, g, w, ?_, i43, i44, hf⟩
    unfold f_X12_goesThrough_L84
    rw [if_pos c0]
    rfl
  | succ d ih =>
    intro nn j i f g w hn hj i43 i44 i45 hf
    obtain ⟨nn, rfl⟩ : ∃ n', nn = n' + 1 := ⟨nn - 1, by omega⟩
    by_cases c : 0 < j ∧ rMt (q j) = true
    · have e : rEnd q (d + 1) j = j := by
        show (if 0 < j ∧ rMt (q j) = true then j else rEnd q d (j + 1)) = j
        rw [if_pos c]
      rw [e]
      refine ⟨i, f, g, w, ?_, i43, i44, hf⟩
      have c0 : ¬ (60 : Int32) ≤ nI j := by
        rw [show (60 : Int32) = nI 60 from rfl, nI_leI (by decide) (by omega)]; omega
      have c1 : ¬ i 43 = 0 := by
        rw [i43, decide_eq_true c]
        decide
      unfold f_X12_goesThrough_L84
      rw [if_neg c0, NH_g43 D, Option.bind_some, if_neg c1]
    · have e : rEnd q (d + 1) j = rEnd q d (j + 1) := by
        show (if 0 < j ∧ rMt (q j) = true then j else rEnd q d (j + 1)) = _
        rw [if_neg c]
      rw [e]
      have c43 : i 43 = 0 := by
        rw [i43, decide_eq_false c]
        rfl
      have st := mStep (N := N) (m := m) (n := nn) (j := j) (h0 := h0) (r := r) (i := i) (f := f) (g := g) (w := w) (v1 := v1) (br := br) (x := (q j).1) (y := (q j).2.1) (v := (q j).2.2.1) (fl := fl) D O31 O33 O34 O35 O36 a31 a33 a34 a35 a36 hlk hsx hpace (hv j (by omega)) (by omega) c43 (by rw [i44]; exact h44 j (by omega)) (by rw [i45]; exact h45 j (by omega))
      have eq : ((q j).1, (q j).2.1, (q j).2.2.1, i 44, i 45) = q j := by
        show ((q j).1, (q j).2.1, (q j).2.2.1, i 44, i 45) = ((q j).1, (q j).2.1, (q j).2.2.1, (q j).2.2.2.1, (q j).2.2.2.2)
        rw [i44, i45]
      rw [eq, ← hq j] at st
      rw [st]
      refine ih nn (j + 1) _ _ _ _ (by omega) (by omega) ?_ rfl rfl (fun t ht => ?_)
      · have e2 : (decide (0 < j + 1 ∧ rMt (q (j + 1)) = true)) = rMt (q (j + 1)) := by cases rMt (q (j + 1)) <;> simp
        rw [e2]
        rfl
      · by_cases et : t = j + 1
        · rw [et]
          exact ⟨by simp [upd], by simp [upd]⟩
        · have := hf t (by omega)
          refine ⟨?_, ?_⟩
          · simp only [upd, if_neg et]; exact this.1
          · simp only [upd, if_neg et]; exact this.2
theorem goes_eq {N m : Nat} {h0 : zH} {r : Nat → Nat} {i f g w : Nat → Int32} {v1 x0 y0 reacts pace lk looks sx sy fl : Int32} {s : Nat} {q : Nat → Int32 × Int32 × Int32 × Int32 × Int32} (D : nhD m r) (O29 : nhO m r 29) (O31 : nhO m r 31) (O32 : nhO m r 32) (O33 : nhO m r 33) (O34 : nhO m r 34) (O35 : nhO m r 35) (O36 : nhO m r 36) (O37 : nhO m r 37)
    (a29 : aI h0 (r 29) v1 = some x0) (a31 : aI h0 (r 31) v1 = some reacts) (a32 : aI h0 (r 32) v1 = some y0) (a33 : aI h0 (r 33) v1 = some pace) (a34 : aI h0 (r 34) v1 = some lk) (a35 : aI h0 (r 35) v1 = some sx) (a36 : aI h0 (r 36) v1 = some sy) (a37 : aI h0 (r 37) v1 = some fl) (hlk : (lk &&& 1 = 1) = ¬ looks = 0) (hsx : sx = 0 ∨ sx < 0) (hpace : 0 < pace) (hf : fl = 0 ∨ fl = 1 ∨ fl = 2) (hs : s ≤ 300) (hq : rSeq x0 y0 (nI s) reacts pace looks sx sy fl = q) (hN : 60 < N) :
    ∃ i' f' g' w', f_X12_goesThrough N m v1 (nI s) (NH h0 m r i f g w) = some (NH h0 m r i' f' g' w') ∧ i' 42 = nI (rEnd q 60 0) ∧ i' 43 = bI (decide (0 < rEnd q 60 0 ∧ rMt (q (rEnd q 60 0)) = true)) ∧ i' 44 = (q (rEnd q 60 0)).2.2.2.1 ∧ (∀ t, t ≤ rEnd q 60 0 → f' t = (q t).1 ∧ g' t = (q t).2.1) := by
  subst hq
  have hbr : (if fl = 0 then some (60 : Int32) else if fl = 1 then some 35 else some 10) = some (pBr fl) := by rcases hf with rfl | rfl | rfl <;> decide
  have qi := qInv (x0 := x0) (y0 := y0) (reacts := reacts) (pace := pace) (looks := looks) (sx := sx) (sy := sy) (fl := fl) hs hf
  have hv : ∀ k, k ≤ 60 → (if (rSeq x0 y0 (nI s) reacts pace looks sx sy fl k).2.2.1 ≤ pBr fl then 0 else (rSeq x0 y0 (nI s) reacts pace looks sx sy fl k).2.2.1 - pBr fl) = (if 0 < (rSeq x0 y0 (nI s) reacts pace looks sx sy fl k).2.2.1 - pBr fl then (rSeq x0 y0 (nI s) reacts pace looks sx sy fl k).2.2.1 - pBr fl else 0) := by
    intro k hk
    obtain ⟨a, ha, hva⟩ := (qi k hk).1
    rw [hva]
    exact (brV ha hf).1
  obtain ⟨i', f', g', w', e, p43, p44, pf⟩ := mLoop (N := N) (m := m) (h0 := h0) (r := r) (v1 := v1) (br := pBr fl) (fl := fl) (q := rSeq x0 y0 (nI s) reacts pace looks sx sy fl) D O31 O33 O34 O35 O36 a31 a33 a34 a35 a36 hlk hsx hpace (fun k => rfl) hv (fun k hk => (qi k hk).2.1) (fun k hk => (qi k hk).2.2) 60 N 0 (upd (upd (upd i 44 (-1)) 45 (-1)) 43 0) (upd f 0 x0) (upd g 0 y0) w hN (by omega) (by simp [upd, bI]) rfl rfl (fun t ht => by
    have e0 : t = 0 := by omega
    subst e0
    exact ⟨rfl, rfl⟩)
  generalize hQ : rEnd (rSeq x0 y0 (nI s) reacts pace looks sx sy fl) 60 0 = E at e p43 p44 pf ⊢
  refine ⟨upd i' 42 (nI E), f', g', w', ?_, rfl, p43, p44, pf⟩
  have s39 : ∀ (i f g w : Nat → Int32), sI (NH h0 m r i f g w) (r 39) 0 x0 = some (NH h0 m r i (upd f 0 x0) g w) := fun i f g w => by
    have := NH_s39 (h0 := h0) (i := i) (f := f) (g := g) (w := w) D (j := 0) (by decide) x0
    rwa [nI_0] at this
  have s40 : ∀ (i f g w : Nat → Int32), sI (NH h0 m r i f g w) (r 40) 0 y0 = some (NH h0 m r i f (upd g 0 y0) w) := fun i f g w => by
    have := NH_s40 (h0 := h0) (i := i) (f := f) (g := g) (w := w) D (j := 0) (by decide) y0
    rwa [nI_0] at this
  unfold f_X12_goesThrough
  simp only [NH_r D 29 (gX12_29 _ _ _ _), NH_a O29, a29, NH_r D 32 (gX12_32 _ _ _ _), NH_a O32, a32, NH_r D 37 (gX12_37 _ _ _ _), NH_a O37, a37, Option.bind_some, hbr, NH_p44 D, NH_p45 D, NH_z43 D 0 (Or.inl rfl), NH_r D 39 (gX12_39 _ _ _ _), NH_r D 40 (gX12_40 _ _ _ _), s39, s40]
  have e' : f_X12_goesThrough_L84 N m v1 (pBr fl) N x0 y0 (nI s) 0 (NH h0 m r (upd (upd (upd i 44 (-1)) 45 (-1)) 43 0) (upd f 0 x0) (upd g 0 y0) w) = some (nI E, NH h0 m r i' f' g' w') := e
  rw [e', Option.bind_some, NH_p42 D, Option.bind_some]
theorem NH_g42 {h0 : zH} {m : Nat} {r : Nat → Nat} {i f g w : Nat → Int32} (D : nhD m r) : gI (NH h0 m r i f g w) m 12 42 = some (i 42) := by unfold NH; rw [gI_zn D.2.2.1, gI_zn D.2.1, gI_zn D.1, gX12_42]
theorem NH_a39 {h0 : zH} {m : Nat} {r : Nat → Nat} {i f g w : Nat → Int32} (D : nhD m r) {t : Nat} (ht : t < 61) : aI (NH h0 m r i f g w) (r 39) (nI t) = some (f t) := by unfold NH; rw [aI_zn D.2.2.2.2.1, aI_zn D.2.2.2.1, aI_zsN ht (by decide)]
theorem NH_a40 {h0 : zH} {m : Nat} {r : Nat → Nat} {i f g w : Nat → Int32} (D : nhD m r) {t : Nat} (ht : t < 61) : aI (NH h0 m r i f g w) (r 40) (nI t) = some (g t) := by unfold NH; rw [aI_zn D.2.2.2.2.2, aI_zsN ht (by decide)]
