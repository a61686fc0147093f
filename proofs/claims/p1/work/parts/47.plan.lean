section MT
variable {h : zH} {n b : Nat} {xs : Nat → Int32}
theorem and_m1 (x : Int32) : x &&& (-1) = x := by
  apply Int32.toBitVec_inj.mp
  rw [Int32.toBitVec_and, show (-1 : Int32).toBitVec = BitVec.allOnes 32 by decide, BitVec.and_allOnes]
def Tw (h h3 : zH) (n : Nat) : Prop := h3.2 (n + 33) = some (.inr (10, [.ref (n + 34), .ref (n + 35), .ref (n + 36), .ref (n + 37), .ref (n + 38), .ref (n + 39), .ref (n + 40), .ref (n + 41), .int 1, .int 0, .int 0])) ∧ (∃ f, h3.2 (n + 38) = some (.inl (0, 256, .inl f)) ∧ f 0 = 0) ∧ (∃ f, h3.2 (n + 39) = some (.inl (0, 8, .inl f))) ∧ (∃ f, h3.2 (n + 40) = some (.inl (0, 9, .inl f)) ∧ ∀ i, i < 9 → f i = -1) ∧ (∃ f, h3.2 (n + 41) = some (.inl (0, 9, .inl f))) ∧ h3.2 n = h.2 n ∧ Kp h h3 n
theorem Kp.zs {h3 : zH} {k : Nat} {c : zE} (q : Kp h h3 n) (hk : k < 42) : Kp h (zset h3 (n + k) c) n := ⟨fun a ha => by rw [zs_ne (by omega)]; exact q.1 a ha, q.2⟩
theorem Tw.c39 {h3 : zH} {f : Nat → Int32} (t : Tw h h3 n) : Tw h (zset h3 (n + 39) (.inl (0, 8, .inl f))) n := by
  obtain ⟨t1, t2, t3, t4, t5, t6, t7⟩ := t
  exact ⟨by rw [zs_ne (by omega)]; exact t1, by rw [zs_ne (by omega)]; exact t2, ⟨f, zs_same _ _ _⟩, by rw [zs_ne (by omega)]; exact t4, by rw [zs_ne (by omega)]; exact t5, by rw [zs_ne (by omega)]; exact t6, t7.zs (by decide)⟩
theorem tb_L2 {h3 : zH} : ∀ (m j : Nat) (h4 : zH), j ≤ 8 → 8 - j < m → Tw h h4 n → ∃ h5, f_X10_tripsBy_L2 10000 (n + 33) m (nI j) h4 = some h5 ∧ Tw h h5 n := by
  intro m
  induction m with
  | zero => intro j h4 _ h2; omega
  | succ m ih =>
    intro j h4 p1 p2 t
    unfold f_X10_tripsBy_L2
    by_cases c : j = 8
    · subst c
      rw [if_pos (by decide)]
      exact ⟨h4, rfl, t⟩
    · obtain ⟨f, hf⟩ := t.2.2.1
      rw [if_neg (show ¬ (8 : Int32) ≤ nI j from nI_ge (b := 8) (by omega) (by decide)), show gR h4 (n + 33) 10 5 = some (n + 39) from gR_of t.1 rfl]
      simp only [Option.bind_some]
      rw [sI_of hf (by omega) (by decide)]
      simp only [Option.bind_some, nI_1]
      exact ih (j + 1) _ (by omega) (by omega) t.c39
theorem tb_L25 : ∀ (m j : Nat) (h4 : zH), j ≤ 8 → 8 - j < m → f_X10_tripsBy_L25 10000 (n + 33) 0 m (nI j) h4 = some h4 := by
  intro m
  induction m with
  | zero => intro j h4 _ h2; omega
  | succ m ih =>
    intro j h4 p1 p2
    unfold f_X10_tripsBy_L25
    by_cases c : j = 8
    · subst c
      rw [if_pos (by decide)]
    · rw [if_neg (show ¬ (8 : Int32) ≤ nI j from nI_ge (b := 8) (by omega) (by decide)), if_pos ((by decide : ∀ j : Nat, j < 8 → (((0 : Int32) >>> (nI j &&& 31)) &&& 1) = 0) j (by omega)), nI_1]
      exact ih (j + 1) h4 (by omega) (by omega)
theorem tb_eq {h4 : zH} (t : Tw h h4 n) : ∃ h5, f_X10_tripsBy 10000 (n + 33) 0 h4 = some (0, h5) ∧ Tw h h5 n := by
  obtain ⟨h5, q1, q2⟩ := tb_L2 (h3 := h4) 10000 0 h4 (by decide) (by decide) t
  rw [nI_0] at q1
  have q3 := tb_L25 (n := n) 10000 0 h5 (by decide) (by decide)
  rw [nI_0] at q3
  refine ⟨h5, ?_, q2⟩
  unfold f_X10_tripsBy f_X10_tripsBy_L71
  rw [q1, Option.bind_some, q3, Option.bind_some, show gI h5 (n + 33) 10 10 = some 0 from gI_of q2.1 rfl]
  rfl
theorem fp_L10 : ∀ (m j : Nat) (h4 : zH), j ≤ 256 → 256 - j < m → Tw h h4 n → ∃ h5, f_X10_findPlans_L10 10000 (n + 33) m (nI j) h4 = some h5 ∧ Tw h h5 n := by
  intro m
  induction m with
  | zero => intro j h4 _ h2; omega
  | succ m ih =>
    intro j h4 p1 p2 t
    obtain ⟨f, hf, f0⟩ := t.2.1
    unfold f_X10_findPlans_L10
    rw [show gR h4 (n + 33) 10 4 = some (n + 38) from gR_of t.1 rfl]
    simp only [Option.bind_some]
    rw [aN_of hf (by decide)]
    simp only [Option.bind_some]
    by_cases c : j = 256
    · subst c
      rw [if_pos (by decide)]
      exact ⟨h4, rfl, t⟩
    · rw [if_neg (show ¬ Int32.ofNat 256 ≤ nI j from nI_ge (b := 256) (by omega) (by decide)), show gI h4 (n + 33) 10 9 = some 0 from gI_of t.1 rfl]
      simp only [Option.bind_some]
      rw [show ((0 : Int32) ^^^ (-1)) = -1 by decide, and_m1, nI_1]
      by_cases c0 : j = 0
      · subst c0
        obtain ⟨h5, q1, q2⟩ := tb_eq t
        obtain ⟨f5, hf5, f05⟩ := q2.2.1
        rw [if_pos nI_0, nI_0, show zob h4 (n + 33) 10 = true from zob_of t.1, zif_t, q1]
        simp only [Option.bind_some]
        rw [show sI h5 (n + 38) 0 0 = some (zset h5 (n + 38) (.inl (0, 256, .inl (upd f5 0 0)))) from sI_of (j := 0) hf5 (by decide) (by decide)]
        simp only [Option.bind_some]
        refine ih 1 _ (by omega) (by omega) ?_
        obtain ⟨t1, t2, t3, t4, t5, t6, t7⟩ := q2
        exact ⟨by rw [zs_ne (by omega)]; exact t1, ⟨_, zs_same _ _ _, by simp [upd]⟩, by rw [zs_ne (by omega)]; exact t3, by rw [zs_ne (by omega)]; exact t4, by rw [zs_ne (by omega)]; exact t5, by rw [zs_ne (by omega)]; exact t6, t7.zs (by decide)⟩
      · rw [if_neg (nI_ne0 (by omega) (by omega))]
        exact ih (j + 1) h4 (by omega) (by omega) t
theorem dec_eq {h4 : zH} (t : Tw h h4 n) : ∀ k : Nat, k ≤ 8 → f_X10_decide 10000 (k + 1) (n + 33) (nI k - 1) 0 0 0 0 h4 = f_X10_weigh 10000 (n + 33) 0 0 0 0 h4 := by
  have o1 : zob h4 (n + 33) 10 = true := zob_of t.1
  intro k
  induction k with
  | zero =>
    intro _
    unfold f_X10_decide
    rw [if_pos (by decide)]
    simp only [Option.bind_some, zsum, o1, zif_t]
    cases f_X10_weigh 10000 (n + 33) 0 0 0 0 h4 with
    | none => rfl
    | some r => rfl
  | succ k ih =>
    intro hk
    have it : f_X10_isTold 10000 (n + 33) (nI k) h4 = some 0 := by
      unfold f_X10_isTold
      rw [if_neg (nI_pos (by omega)), if_neg (show ¬ (8 : Int32) ≤ nI k from nI_ge (b := 8) (by omega) (by decide)), show gI h4 (n + 33) 10 9 = some 0 from gI_of t.1 rfl]
      simp only [Option.bind_some]
      rw [if_pos ((by decide : ∀ j : Nat, j < 8 → (((0 : Int32) >>> (nI j &&& 31)) &&& 1) = 0) k (by omega))]
    unfold f_X10_decide
    rw [nI_pred, if_neg (nI_pos (by omega)), if_pos (show nI k < 8 from nI_lt (b := 8) (by omega) (by decide)), o1, zif_t, it]
    simp only [Option.bind_some, reduceIte, zif_t]
    rw [show (0 * 3 : Int32) = 0 by decide, ih (by omega)]
    cases f_X10_weigh 10000 (n + 33) 0 0 0 0 h4 with
    | none => rfl
    | some r => rfl
theorem best_eq (F : Fr h n b xs) (hs : h.1.1 = n + 100) : ∃ h1 f9 g9, f_X10_bestLate 10000 (n + 33) (xs 1) h = (f_X10_bestLate_L20 10000 (n + 33) (xs 1) h1 10000 (-1) 0).bind (fun m18 => some (m18, h1)) ∧ Kp h h1 n ∧ h1.2 n = h.2 n ∧ h1.2 (n + 33) = some (.inr (10, [.ref (n + 34), .ref (n + 35), .ref (n + 36), .ref (n + 37), .ref (n + 38), .ref (n + 39), .ref (n + 40), .ref (n + 41), .int 0, .int 0, .int 0])) ∧ h1.2 (n + 40) = some (.inl (0, 9, .inl f9)) ∧ f9 0 = 0 ∧ (∀ i, 0 < i → i < 9 → f9 i = -1) ∧ h1.2 (n + 41) = some (.inl (0, 9, .inl g9)) := by
  have k0 : Kp h h n := ⟨fun _ _ => rfl, by rw [hs]; exact Nat.le_refl _⟩
  have fl : f_J7_fill_53178 10000 (n + 40) (-1) h = some (zset h (n + 40) (.inl (0, 9, .inl (fun i => if 0 ≤ i ∧ i < 9 then (-1) else 0)))) := by
    unfold f_J7_fill_53178
    rw [aN_of (fr_40 F) (by decide)]
    show (f_J7_fill_53178_L5 10000 (n + 40) (-1) (nI 9) 10000 (nI 0) h).bind _ = _
    rw [fill_loop (by decide) 10000 0 h (fun _ => 0) (by decide) (by decide) (fr_40 F)]
    rfl
  have t0' : Tw h (zset h (n + 40) (.inl (0, 9, .inl (fun i => if 0 ≤ i ∧ i < 9 then (-1) else 0)))) n := ⟨by rw [zs_ne (by omega)]; exact fr_33 F, ⟨_, by rw [zs_ne (by omega)]; exact fr_38 F, rfl⟩, ⟨_, by rw [zs_ne (by omega)]; exact fr_39 F⟩, ⟨_, zs_same _ _ _, fun i hi => by simp [hi]⟩, ⟨_, by rw [zs_ne (by omega)]; exact fr_41 F⟩, by rw [zs_ne (by omega)], k0.zs (by decide)⟩
  obtain ⟨h4, q1, t⟩ := fp_L10 10000 0 _ (by decide) (by decide) t0'
  rw [nI_0] at q1
  have o1 : zob h4 (n + 33) 10 = true := zob_of t.1
  have d := dec_eq t 8 (by decide)
  rw [show (nI 8 - 1 : Int32) = 7 by decide] at d
  obtain ⟨t1, ⟨f4, t2, t2'⟩, t3, ⟨f6, t4, t4'⟩, ⟨f7, t5⟩, t6, t7⟩ := t
  have w : f_X10_weigh 10000 (n + 33) 0 0 0 0 h4 = some (zset (zset h4 (n + 40) (.inl (0, 9, .inl (upd f6 0 0)))) (n + 41) (.inl (0, 9, .inl (upd f7 0 0)))) := by
    have a4 : aI h4 (n + 38) 0 = some 0 := by
      rw [show (0 : Int32) = nI 0 from nI_0.symm, aI_of t2 (Or.inl rfl) (nI_pos (by decide)) (by rw [nI_clamp (by decide)]; decide), nI_clamp (by decide), t2']
      rfl
    have a6 : aI h4 (n + 40) 0 = some (-1) := by
      rw [show (0 : Int32) = nI 0 from nI_0.symm, aI_of t4 (Or.inl rfl) (nI_pos (by decide)) (by rw [nI_clamp (by decide)]; decide), nI_clamp (by decide), t4' 0 (by decide)]
    have s6 : sI h4 (n + 40) 0 0 = some (zset h4 (n + 40) (.inl (0, 9, .inl (upd f6 0 0)))) := sI_of (j := 0) t4 (by decide) (by decide)
    have s7 : sI (zset h4 (n + 40) (.inl (0, 9, .inl (upd f6 0 0)))) (n + 41) 0 0 = some (zset (zset h4 (n + 40) (.inl (0, 9, .inl (upd f6 0 0)))) (n + 41) (.inl (0, 9, .inl (upd f7 0 0)))) := sI_of (j := 0) (by rw [zs_ne (by omega)]; exact t5) (by decide) (by decide)
    unfold f_X10_weigh
    rw [show gR h4 (n + 33) 10 4 = some (n + 38) from gR_of t1 rfl]
    simp only [Option.bind_some]
    rw [aN_of t2 (by decide)]
    simp only [Option.bind_some, w11]
    rw [if_neg (by decide), if_neg (by decide)]
    simp only [Option.bind_some]
    rw [if_neg (by decide), a4, show gI h4 (n + 33) 10 10 = some 0 from gI_of t1 rfl]
    simp only [Option.bind_some]
    rw [if_pos (by decide)]
    simp only [zlet]
    rw [show ((0 : Int32) - 0) = 0 by decide, if_neg (by decide), show gR h4 (n + 33) 10 6 = some (n + 40) from gR_of t1 rfl]
    simp only [Option.bind_some]
    rw [aN_of t4 (by decide)]
    simp only [Option.bind_some]
    rw [if_neg (by decide), a6]
    simp only [Option.bind_some, reduceIte, zsum, s6]
    rw [gR_zn (by omega), show gR h4 (n + 33) 10 7 = some (n + 41) from gR_of t1 rfl]
    simp only [Option.bind_some, s7]
  have o2 : (zset (zset h4 (n + 40) (.inl (0, 9, .inl (upd f6 0 0)))) (n + 41) (.inl (0, 9, .inl (upd f7 0 0)))).2 (n + 33) = some (.inr (10, [.ref (n + 34), .ref (n + 35), .ref (n + 36), .ref (n + 37), .ref (n + 38), .ref (n + 39), .ref (n + 40), .ref (n + 41), .int 1, .int 0, .int 0])) := by rw [zs_ne (by omega), zs_ne (by omega)]; exact t1
  refine ⟨zset (zset (zset h4 (n + 40) (.inl (0, 9, .inl (upd f6 0 0)))) (n + 41) (.inl (0, 9, .inl (upd f7 0 0)))) (n + 33) (.inr (10, [.ref (n + 34), .ref (n + 35), .ref (n + 36), .ref (n + 37), .ref (n + 38), .ref (n + 39), .ref (n + 40), .ref (n + 41), .int 0, .int 0, .int 0])), upd f6 0 0, upd f7 0 0, ?_, ((t7.zs (by decide)).zs (by decide)).zs (by decide), ?_, zs_same _ _ _, ?_, by simp [upd], ?_, ?_⟩
  · unfold f_X10_bestLate f_X10_findPlans
    rw [rd_33_8 F]
    simp only [Option.bind_some]
    rw [if_neg (by decide), ob_33 F, zif_t, rd_33_6 F]
    simp only [Option.bind_some, fl, q1, o1, zif_t, d, w]
    rw [show pZ (zset (zset h4 (n + 40) (.inl (0, 9, .inl (upd f6 0 0)))) (n + 41) (.inl (0, 9, .inl (upd f7 0 0)))) (n + 33) 10 8 0 = some (zset (zset (zset h4 (n + 40) (.inl (0, 9, .inl (upd f6 0 0)))) (n + 41) (.inl (0, 9, .inl (upd f7 0 0)))) (n + 33) (.inr (10, [.ref (n + 34), .ref (n + 35), .ref (n + 36), .ref (n + 37), .ref (n + 38), .ref (n + 39), .ref (n + 40), .ref (n + 41), .int 0, .int 0, .int 0]))) from by unfold pZ; rw [if_pos (Or.inl rfl), pF_of o2 (by exact Nat.le_of_ble_eq_true rfl)]; rfl]
    rfl
  · rw [zs_ne (by omega), zs_ne (by omega), zs_ne (by omega)]; exact t6
  · rw [zs_ne (by omega), zs_ne (by omega), zs_same]
  · intro i h1 h2
    simp [upd, Nat.ne_of_gt h1, t4' i h2]
  · rw [zs_ne (by omega), zs_same]
theorem bl_L20 {h1 : zH} {f9 : Nat → Int32} {late : Int32} (o1 : gR h1 (n + 33) 10 6 = some (n + 40)) (e : h1.2 (n + 40) = some (.inl (0, 9, .inl f9))) (hf : ∀ i, 0 < i → i < 9 → f9 i = -1) : ∀ m j : Nat, 0 < j → j ≤ 9 → 9 - j < m → f_X10_bestLate_L20 10000 (n + 33) late h1 m 0 (nI j) = some 0 := by
  intro m
  induction m with
  | zero => intro j _ _ h2; omega
  | succ m ih =>
    intro j p0 p1 p2
    unfold f_X10_bestLate_L20
    by_cases c : late < nI j
    · rw [if_pos c]
    · rw [if_neg c, o1]
      simp only [Option.bind_some]
      rw [aN_of e (by decide)]
      simp only [Option.bind_some]
      by_cases c9 : j = 9
      · subst c9
        rw [if_pos (by decide)]
      · have k := in_rng (j := j) (m := 9) (by omega) (by decide)
        rw [if_neg (show ¬ Int32.ofNat 9 ≤ nI j from nI_ge (b := 9) (by omega) (by decide)), aI_of e (Or.inl rfl) k.1 k.2, nI_clamp (by omega), hf j p0 (by omega)]
        simp only [Option.bind_some, reduceIte, nI_1]
        exact ih (j + 1) (by omega) (by omega) (by omega)
theorem planC (F : Fr h n b xs) (hs : h.1.1 = n + 100) : ∃ h1, f_X11_plan 10000 n (xs 1) (xs 2) h = some (if (0 ≤ xs 1 ∧ xs 1 ≤ 8) ∧ (0 ≤ xs 2 ∧ xs 2 ≤ 9) ∧ (xs 2 = 8 ∨ xs 2 = 9) then 0 else -1, h1) ∧ Kp h h1 n := by
  have k0 : Kp h h n := ⟨fun _ _ => rfl, by rw [hs]; exact Nat.le_refl _⟩
  unfold f_X11_plan
  simp only [w11]
  by_cases c1 : 0 ≤ xs 1 ∧ xs 1 ≤ 8
  · by_cases c2 : 0 ≤ xs 2 ∧ xs 2 ≤ 9
    · obtain ⟨h1, f9, g9, q1, q2, q3, q4, q5, q6, q7, q8⟩ := best_eq F hs
      have o1 : gR h1 (n + 33) 10 6 = some (n + 40) := gR_of q4 rfl
      have a0 : aI h1 (n + 40) 0 = some 0 := by
        rw [show (0 : Int32) = nI 0 from nI_0.symm, aI_of q5 (Or.inl rfl) (nI_pos (by decide)) (by rw [nI_clamp (by decide)]; decide), nI_clamp (by decide), q6]
        rfl
      have l0 : f_X10_bestLate_L20 10000 (n + 33) (xs 1) h1 10000 (-1) 0 = some 0 := by
        unfold f_X10_bestLate_L20
        rw [if_neg (Int32.not_lt.mpr c1.1), o1]
        simp only [Option.bind_some]
        rw [aN_of q5 (by decide)]
        simp only [Option.bind_some]
        rw [if_neg (by decide), a0]
        simp only [Option.bind_some]
        rw [if_neg (by decide)]
        simp only [reduceIte]
        exact bl_L20 o1 q5 q7 9999 1 (by decide) (by decide) (by decide)
      rw [l0] at q1
      have r9 : gR h1 n 11 9 = some (n + 33) := by unfold gR gV; rw [q3]; exact rd_0_9 F
      have ob : zob h1 (n + 33) 10 = true := zob_of q4
      rw [if_neg (fun q => q c1), if_neg (fun q => q c2), rd_0_9 F]
      simp only [Option.bind_some, ob_33 F, zif_t, q1]
      rw [if_neg (by decide)]
      by_cases c8 : xs 2 = 8
      · rw [if_pos c8, if_pos ⟨c1, c2, Or.inl c8⟩, r9]
        simp only [Option.bind_some, ob, zif_t]
        unfold f_X10_sumWith
        rw [if_neg (by decide), o1]
        simp only [Option.bind_some]
        rw [aN_of q5 (by decide)]
        simp only [Option.bind_some]
        rw [if_neg (by decide), a0]
        exact ⟨_, rfl, q2⟩
      · rw [if_neg c8]
        by_cases c9 : xs 2 = 9
        · rw [if_pos c9, if_pos ⟨c1, c2, Or.inr c9⟩]
          exact ⟨_, rfl, q2⟩
        · rw [if_neg c9, if_neg (fun q => q.2.2.elim c8 c9), r9]
          simp only [Option.bind_some, ob, zif_t]
          obtain ⟨j, hj, ej⟩ := rng (m := 9) (by decide) c2.1 c2.2
          have hj8 : j < 8 := by
            rcases Nat.lt_or_ge j 8 with q | q
            · exact q
            · exfalso
              have : j = 8 ∨ j = 9 := by omega
              rcases this with r | r
              · exact c8 (by rw [ej, r]; rfl)
              · exact c9 (by rw [ej, r]; rfl)
          have it : f_X10_isTold 10000 (n + 33) (xs 2) h1 = some 0 := by
            rw [ej]
            unfold f_X10_isTold
            rw [if_neg (nI_pos (by omega)), if_neg (show ¬ (8 : Int32) ≤ nI j from nI_ge (b := 8) (by omega) (by decide)), show gI h1 (n + 33) 10 9 = some 0 from gI_of q4 rfl]
            simp only [Option.bind_some]
            rw [if_pos ((by decide : ∀ j : Nat, j < 8 → (((0 : Int32) >>> (nI j &&& 31)) &&& 1) = 0) j (by omega))]
          unfold f_X10_doneWith
          rw [ob, zif_t, it]
          simp only [Option.bind_some, reduceIte]
          exact ⟨_, rfl, q2⟩
    · rw [if_neg (fun q => q c1), if_pos c2, if_neg (fun q => c2 q.2.1)]
      exact ⟨_, rfl, k0⟩
  · rw [if_pos c1, if_neg (fun q => c1 q.1)]
    exact ⟨_, rfl, k0⟩
theorem hm0 (g : G h n b xs) (v : Int32) : f_X12_harmOf 10000 (n + 42) v h = some 0 := by
  have lp : ∀ m j : Nat, j ≤ 8 → 8 - j < m → f_X12_harmOf_L4 10000 (n + 42) v h m 0 (nI j) = some 0 := by
    intro m
    induction m with
    | zero => intro j _ h2; omega
    | succ m ih =>
      intro j p1 p2
      unfold f_X12_harmOf_L4
      by_cases c : j = 8
      · subst c; rw [if_pos (by decide)]
      · have k := in_rng (j := j) (m := 8) (by omega) (by decide)
        have z : aZ h (n + 92) (nI j) = some 0 := by simp [aZ, fr_92 g, k.1, k.2]
        rw [if_neg (show ¬ (8 : Int32) ≤ nI j from nI_ge (b := 8) (by omega) (by decide)), rd_42_72 g]
        simp only [Option.bind_some, z, reduceIte, zlet, nI_1]
        exact ih (j + 1) (by omega) (by omega)
  unfold f_X12_harmOf
  have := lp 10000 0 (by decide) (by decide)
  rw [nI_0] at this
  rw [this]
  rfl
theorem lb0 (g : G h n b xs) : f_X12_lateBy 10000 (n + 42) 0 h = some 0 := by
  have lp : ∀ m j : Nat, j ≤ 8 → 8 - j < m → f_X12_lateBy_L2 10000 (n + 42) 0 h m (nI j) = some (.inl ()) := by
    intro m
    induction m with
    | zero => intro j _ h2; omega
    | succ m ih =>
      intro j p1 p2
      unfold f_X12_lateBy_L2
      by_cases c : j = 8
      · subst c; rw [if_pos (by decide)]
      · have k := in_rng (j := j) (m := 8) (by omega) (by decide)
        have z : aZ h (n + 92) (nI j) = some 0 := by simp [aZ, fr_92 g, k.1, k.2]
        have dn : f_X12_doneTo 10000 (n + 42) 0 (nI j) h = some 0 := by
          unfold f_X12_doneTo
          rw [rd_42_79 g]
          simp only [Option.bind_some]
          rw [aI_of (fr_98 g) (Or.inl rfl) k.1 k.2, nI_clamp (by omega)]
          simp only [Option.bind_some]
          exact (by decide : ∀ j : Nat, j < 8 → (zdiv (zPw j) <| some ((0 / zPw j) - (0 / zPw j) / 3 * 3)) = some (0 : Int32)) j (by omega)
        rw [if_neg (show ¬ (8 : Int32) ≤ nI j from nI_ge (b := 8) (by omega) (by decide)), rd_42_72 g]
        simp only [Option.bind_some, z, reduceIte, ob_42 g, zif_t, dn, nI_1]
        rw [if_pos (by decide)]
        exact ih (j + 1) (by omega) (by omega)
  unfold f_X12_lateBy f_X12_lateBy_L38
  have := lp 10000 0 (by decide) (by decide)
  rw [nI_0] at this
  rw [this]
  simp only [Option.bind_some, zsum, rd_42_76 g]
  rfl
theorem pl47 (g : G h n b xs) (late : Int32) : ∀ m j : Nat, j ≤ 6561 → 6561 - j < m → f_X12_plan_L47 10000 (n + 42) late h m 0 (nI j) = some 0 := by
  intro m
  induction m with
  | zero => intro j _ h2; omega
  | succ m ih =>
    intro j p1 p2
    unfold f_X12_plan_L47
    by_cases c : j = 6561
    · subst c; rw [if_pos (by decide)]
    · rw [if_neg (show ¬ (6561 : Int32) ≤ nI j from nI_ge (b := 6561) (by omega) (by decide)), if_neg (by decide), ob_42 g, zif_t, hm0 g, hm0 g]
      simp only [Option.bind_some, zif_t]
      rw [if_pos (by decide), nI_1, ih (j + 1) (by omega) (by omega)]
      rfl
theorem m_25 (F : Fr h n b xs) (hs : h.1.1 = n + 100) : Good (c_L_25 10000 b n (n + 42) 0 h) b := by
  have g := F.2.1
  obtain ⟨h1, e1, k1⟩ := planC F hs
  have g1 := k1.g g
  have e2 : ∃ h2, f_X12_plan 10000 (n + 42) (xs 1) (xs 2) h1 = some (if (0 ≤ xs 1 ∧ xs 1 ≤ 8) ∧ (0 ≤ xs 2 ∧ xs 2 ≤ 9) ∧ (xs 2 = 8 ∨ xs 2 = 9) then 0 else -1, h2) ∧ h2.2 b = h1.2 b := by
    refine ⟨h1, ?_, rfl⟩
    unfold f_X12_plan
    rw [t0 g1]
    simp only [w12, Option.bind_some]
    by_cases c1 : 0 ≤ xs 1 ∧ xs 1 ≤ 8
    · by_cases c2 : 0 ≤ xs 2 ∧ xs 2 ≤ 9
      · rw [if_neg (fun q => q c1), if_neg (fun q => q c2)]
        obtain ⟨j, hj, ej⟩ := rng (m := 9) (by decide) c2.1 c2.2
        by_cases c8 : j < 8
        · have k := in_rng (j := j) (m := 8) c8 (by decide)
          have z : aZ h1 (n + 92) (xs 2) = some 0 := by rw [ej]; simp [aZ, fr_92 g1, k.1, k.2]
          rw [if_neg (show ¬ (8 : Int32) ≤ xs 2 by rw [ej]; exact nI_ge (b := 8) c8 (by decide)), rd_42_72 g1]
          simp only [Option.bind_some, z, reduceIte]
          rw [if_neg]
          · rfl
          · rintro ⟨-, -, q | q⟩
            · rw [ej] at q
              have := (nI_eq (a := j) (b := 8) (by omega) (by decide)).mp q
              omega
            · rw [ej] at q
              have := (nI_eq (a := j) (b := 9) (by omega) (by decide)).mp q
              omega
        · have p8 : (8 : Int32) ≤ xs 2 := by rw [ej]; exact nI_le (a := 8) (by omega) (by omega)
          have cc : xs 2 = 8 ∨ xs 2 = 9 := by
            have : j = 8 ∨ j = 9 := by omega
            rcases this with r | r
            · exact Or.inl (by rw [ej, r]; rfl)
            · exact Or.inr (by rw [ej, r]; rfl)
          have l47 : f_X12_plan_L47 10000 (n + 42) (xs 1) h1 10000 (-1) 0 = some 0 := by
            unfold f_X12_plan_L47
            rw [if_neg (by decide), if_pos (by decide)]
            simp only [Option.bind_some, zsum, ob_42 g1, zif_t, lb0 g1]
            rw [if_neg (by decide), if_neg (Int32.not_lt.mpr c1.1)]
            exact pl47 g1 (xs 1) 9999 1 (by decide) (by decide)
          rw [if_pos p8, if_pos ⟨c1, c2, cc⟩]
          simp only [Option.bind_some, zsum, l47]
          rw [if_pos (by decide), if_pos p8, ob_42 g1, zif_t, zif_t, hm0 g1, lb0 g1]
          split <;> rfl
      · rw [if_neg (fun q => q c1), if_pos c2, if_neg (fun q => c2 q.2.1)]
    · rw [if_pos c1, if_neg (fun q => c1 q.1)]
  obtain ⟨h2, e2, k2⟩ := e2
  refine ⟨h2, ?_, good2 k2 g1⟩
  unfold c_L_25
  simp [sc_1 g, sd_1 g, sc_1 g1, sd_1 g1, sc_2 g, sd_2 g, sc_2 g1, sd_2 g1, ob_0 F, ob_42 g1, zif_t, e1, e2]
end MT
