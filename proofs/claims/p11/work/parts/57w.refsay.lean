/-! what the reference says of a meeting under the law of a year -/
def lc : List LnT → Nat
  | [] => 0
  | x :: ls => (if x.1 = 4 then 1 else 0) + lc ls
section CGR
variable {F F' : Nat → Int32}
theorem nm1_c (hF : ∀ t, 10 ≤ t → t ≤ 20 → F' t = F t) : ∀ (ls : List LnT) (M : Nat) (V V' : Nat → Int32), LNo ls M → (∀ j, j < M → V' j = V j) → ∀ j, j < M + lc ls → nm1 F' ls V' j = nm1 F ls V j := by
  intro ls
  induction ls with
  | nil => intro M V V' _ hV j hj; exact hV j hj
  | cons x ls ih =>
    intro M V V' h hV j hj
    have cg : vl F' V' x.2.2 = vl F V x.2.2 := vl_congr hF hV h.2.1.2.2
    unfold nm1
    unfold lc at hj
    by_cases e : x.1 = 4
    · rw [if_pos e] at hj ⊢
      rw [if_pos e, cg]
      obtain ⟨a, b, c⟩ := LNo_l h e
      refine ih (M + 1) _ _ c (fun q hq => ?_) j (by omega)
      by_cases z : q = x.2.1
      · rw [z, upd_at, upd_at]
      · rw [upd_ne z, upd_ne z]
        exact hV q (by omega)
    · rw [if_neg e] at hj ⊢
      rw [if_neg e]
      exact ih M _ _ (LNo_n h e).2 hV j (by omega)
theorem lm1_c (hF : ∀ t, 10 ≤ t → t ≤ 20 → F' t = F t) {V V' : Nat → Int32} : ∀ (ls : List LnT) (M : Nat) (l : Int32), LNo ls M → (∀ j, j < M + lc ls → V' j = V j) → lm1 F' V' ls l = lm1 F V ls l := by
  intro ls
  induction ls with
  | nil => intro M l _ _; rfl
  | cons x ls ih =>
    intro M l h hV
    have cg : vl F' V' x.2.2 = vl F V x.2.2 := vl_congr hF (fun j hj => hV j (by omega)) h.2.1.2.2
    unfold lc at hV
    unfold lm1
    rw [cg]
    by_cases e : x.1 = 4
    · rw [if_pos e] at hV
      obtain ⟨a, b, c⟩ := LNo_l h e
      rw [ih (M + 1) _ c (fun j hj => hV j (by omega)), ih (M + 1) _ c (fun j hj => hV j (by omega))]
    · rw [if_neg e] at hV
      have c := (LNo_n h e).2
      rw [ih M _ c (fun j hj => hV j (by omega)), ih M _ c (fun j hj => hV j (by omega))]
theorem ff1_c (hF : ∀ t, 10 ≤ t → t ≤ 20 → F' t = F t) {V V' : Nat → Int32} : ∀ (ls : List LnT) (M k : Nat), LNo ls M → (∀ j, j < M + lc ls → V' j = V j) → ff1 F' V' ls k = ff1 F V ls k := by
  intro ls
  induction ls with
  | nil => intro M k _ _; rfl
  | cons x ls ih =>
    intro M k h hV
    have cg : vl F' V' x.2.2 = vl F V x.2.2 := vl_congr hF (fun j hj => hV j (by omega)) h.2.1.2.2
    unfold lc at hV
    unfold ff1
    rw [cg]
    by_cases e : x.1 = 4
    · rw [if_pos e] at hV
      obtain ⟨a, b, c⟩ := LNo_l h e
      rw [ih (M + 1) _ c (fun j hj => hV j (by omega))]
    · rw [if_neg e] at hV
      rw [ih M _ (LNo_n h e).2 (fun j hj => hV j (by omega))]
end CGR
/-- what a law says, in its two passes -/
def sy2 (fm : Nat → Int32) (yr : Int32) (V : Nat → Int32) (ls : List LnT) : Int32 × Int32 × Int32 := match ff1 (fyl fm yr (lm1 (fyl fm yr 0) (nm1 (fyl fm yr 0) ls V) ls 0)) (nm1 (fyl fm yr 0) ls V) ls 0 with | none => (0, -1, lm1 (fyl fm yr 0) (nm1 (fyl fm yr 0) ls V) ls 0) | some (w, k) => (nI w, nI k, lm1 (fyl fm yr 0) (nm1 (fyl fm yr 0) ls V) ls 0)
theorem sy1_2 {fm V : Nat → Int32} {yr : Int32} {ls : List LnT} (h : LNo ls 0) : sy1 fm yr V ls = sy2 fm yr V ls := by
  have e : nl1 (fyl fm yr 0) ls V 0 = (nm1 (fyl fm yr 0) ls V, lm1 (fyl fm yr 0) (nm1 (fyl fm yr 0) ls V) ls 0) := nl1_two ls 0 V 0 h
  show (match ff1 (fyl fm yr (nl1 (fyl fm yr 0) ls V 0).2) (nl1 (fyl fm yr 0) ls V 0).1 ls 0 with | none => (0, -1, (nl1 (fyl fm yr 0) ls V 0).2) | some (w, k) => (nI w, nI k, (nl1 (fyl fm yr 0) ls V 0).2)) = _
  rw [e]
  rfl
theorem sy2_V {fm V V' : Nat → Int32} {yr : Int32} {ls : List LnT} (h : LNo ls 0) : sy2 fm yr V' ls = sy2 fm yr V ls := by
  have a := nm1_c (F := fyl fm yr 0) (F' := fyl fm yr 0) (fun _ _ _ => rfl) ls 0 V V' h (fun j hj => absurd hj (Nat.not_lt_zero _))
  have b := lm1_c (F := fyl fm yr 0) (F' := fyl fm yr 0) (fun _ _ _ => rfl) ls 0 0 h a
  unfold sy2
  rw [b, ff1_c (F := fyl fm yr (lm1 (fyl fm yr 0) (nm1 (fyl fm yr 0) ls V) ls 0)) (fun _ _ _ => rfl) ls 0 0 h a]
section RFS
variable {h0 : zH} {n : Nat} {i kf nm pl : Nat → Int32}
theorem Rw_g0 {k : Nat} : gI (RWH h0 n i kf nm pl) (n + 42) 12 k = gI (zset h0 (n + 42) (oX12 (rf12 n) i)) (n + 42) 12 k := by unfold RWH; rw [gI_zn (by omega), gI_zn (by omega), gI_zn (by omega)]
theorem Rw_gI {k : Nat} (kf' nm' pl' : Nat → Int32) : gI (RWH h0 n i kf' nm' pl') (n + 42) 12 k = gI (RWH h0 n i kf nm pl) (n + 42) 12 k := Rw_g0.trans Rw_g0.symm
theorem Rw_s30 : gR (RWH h0 n i kf nm pl) (n + 42) 12 30 = some (n + 62) := by unfold RWH; rw [gR_zn (by omega), gR_zn (by omega), gR_zn (by omega), gX12_30]; rfl
theorem Rw_s33 : gR (RWH h0 n i kf nm pl) (n + 42) 12 33 = some (n + 65) := by unfold RWH; rw [gR_zn (by omega), gR_zn (by omega), gR_zn (by omega), gX12_33]; rfl
theorem Rw_s34 : gR (RWH h0 n i kf nm pl) (n + 42) 12 34 = some (n + 66) := by unfold RWH; rw [gR_zn (by omega), gR_zn (by omega), gR_zn (by omega), gX12_34]; rfl
theorem Rw_s35 : gR (RWH h0 n i kf nm pl) (n + 42) 12 35 = some (n + 67) := by unfold RWH; rw [gR_zn (by omega), gR_zn (by omega), gR_zn (by omega), gX12_35]; rfl
theorem Rw_s37 : gR (RWH h0 n i kf nm pl) (n + 42) 12 37 = some (n + 69) := by unfold RWH; rw [gR_zn (by omega), gR_zn (by omega), gR_zn (by omega), gX12_37]; rfl
theorem Rw_s38 : gR (RWH h0 n i kf nm pl) (n + 42) 12 38 = some (n + 70) := by unfold RWH; rw [gR_zn (by omega), gR_zn (by omega), gR_zn (by omega), gX12_38]; rfl
theorem Rw_K0 (x : Int32) : sI (RWH h0 n i kf nm pl) (n + 57) 0 x = some (RWH h0 n i (upd kf 0 x) nm pl) := Rw_K (j := 0) (by decide) x
theorem Rw_K1 (x : Int32) : sI (RWH h0 n i kf nm pl) (n + 57) 1 x = some (RWH h0 n i (upd kf 1 x) nm pl) := Rw_K (j := 1) (by decide) x
theorem Rw_K2 (x : Int32) : sI (RWH h0 n i kf nm pl) (n + 57) 2 x = some (RWH h0 n i (upd kf 2 x) nm pl) := Rw_K (j := 2) (by decide) x
theorem Rw_K3 (x : Int32) : sI (RWH h0 n i kf nm pl) (n + 57) 3 x = some (RWH h0 n i (upd kf 3 x) nm pl) := Rw_K (j := 3) (by decide) x
theorem Rw_K4 (x : Int32) : sI (RWH h0 n i kf nm pl) (n + 57) 4 x = some (RWH h0 n i (upd kf 4 x) nm pl) := Rw_K (j := 4) (by decide) x
theorem Rw_K5 (x : Int32) : sI (RWH h0 n i kf nm pl) (n + 57) 5 x = some (RWH h0 n i (upd kf 5 x) nm pl) := Rw_K (j := 5) (by decide) x
theorem Rw_K6 (x : Int32) : sI (RWH h0 n i kf nm pl) (n + 57) 6 x = some (RWH h0 n i (upd kf 6 x) nm pl) := Rw_K (j := 6) (by decide) x
theorem Rw_K7 (x : Int32) : sI (RWH h0 n i kf nm pl) (n + 57) 7 x = some (RWH h0 n i (upd kf 7 x) nm pl) := Rw_K (j := 7) (by decide) x
theorem Rw_K8 (x : Int32) : sI (RWH h0 n i kf nm pl) (n + 57) 8 x = some (RWH h0 n i (upd kf 8 x) nm pl) := Rw_K (j := 8) (by decide) x
theorem Rw_K9 (x : Int32) : sI (RWH h0 n i kf nm pl) (n + 57) 9 x = some (RWH h0 n i (upd kf 9 x) nm pl) := Rw_K (j := 9) (by decide) x
theorem Rw_K10 (x : Int32) : sI (RWH h0 n i kf nm pl) (n + 57) 10 x = some (RWH h0 n i (upd kf 10 x) nm pl) := Rw_K (j := 10) (by decide) x
end RFS
section SAY
variable {n b L : Nat} {xs : Nat → Int32} {τ : Nat → Nat} {g : zGh} {h : zH}
theorem RWH_of (w : WT n b L xs τ g h) : ∃ i kf nm pl, RWH h n i kf nm pl = h := by
  obtain ⟨c, e42, i, rfl, -⟩ := w.1 42 (by decide)
  obtain ⟨c1, e57, kf, rfl, -⟩ := w.1 57 (by decide)
  obtain ⟨c2, e58, nm, rfl, -⟩ := w.1 58 (by decide)
  obtain ⟨c3, e59, pl, rfl, -⟩ := w.1 59 (by decide)
  refine ⟨i, kf, nm, pl, ?_⟩
  unfold RWH
  rw [show zset h (n + 42) (oX12 (rf12 n) i) = h from zs_id e42, zs_id e57, zs_id e58, zs_id e59]
theorem fr_11 {P : Nat → Prop} (h : P 10 ∧ P 11 ∧ P 12 ∧ P 13 ∧ P 14 ∧ P 15 ∧ P 16 ∧ P 17 ∧ P 18 ∧ P 19 ∧ P 20) : ∀ t, 10 ≤ t → t ≤ 20 → P t := by
  intro t h1 h2
  obtain ⟨a, b, c, d, e, f, g, i, j, k, l⟩ := h
  have : t = 10 ∨ t = 11 ∨ t = 12 ∨ t = 13 ∨ t = 14 ∨ t = 15 ∨ t = 16 ∨ t = 17 ∨ t = 18 ∨ t = 19 ∨ t = 20 := by omega
  rcases this with z | z | z | z | z | z | z | z | z | z | z <;> subst z <;> assumption
/-- the eleven facts as they are written -/
def kn9 (kf fm : Nat → Int32) (yr : Int32) : Nat → Int32 := upd (upd (upd (upd (upd (upd (upd (upd (upd (upd (upd kf 0 (fm 10)) 1 (fm 11)) 2 (fm 12)) 3 (fm 13)) 4 (fm 14)) 5 (fm 15)) 6 (fm 16)) 7 (fm 17)) 8 (fm 18)) 9 0) 10 yr
theorem kn11 (kf fm : Nat → Int32) (yr : Int32) : ∀ t, 10 ≤ t → t ≤ 20 → FR (kn9 kf fm yr) t = fyl fm yr 0 t := fr_11 (P := fun t => FR (kn9 kf fm yr) t = fyl fm yr 0 t) ⟨rfl, rfl, rfl, rfl, rfl, rfl, rfl, rfl, rfl, rfl, rfl⟩
theorem v_knows {M k : Nat} {yr : Int32} (w : WT n b L xs τ g h) (hm : HM g M) (hk : k < M) : ∃ r i kf nm pl, f_X12_knows 10000 (n + 42) (nI k) yr h = some (RWH r n i kf nm pl) ∧ WT n b L xs τ g r ∧ (∀ t, 10 ≤ t → t ≤ 20 → FR kf t = fyl (fmF (mRow g k)) yr 0 t) ∧ (∀ z, gI h (n + 42) 12 46 = some z → i 46 = z) ∧ (∀ z, gI h (n + 42) 12 47 = some z → i 47 = z) ∧ (∀ z, gI h (n + 42) 12 48 = some z → i 48 = z) := by
  obtain ⟨q1, q2, q3, q4⟩ := hm
  obtain ⟨i0, i1, i2⟩ := h_ix (m := 40) (j := k) (by omega) (by omega)
  have mk := q4 k hk
  have p1 : nI k < g.1 42 27 := by rw [q2]; exact (h_ix (m := M) (j := k) hk (by omega)).2.1
  obtain ⟨r, er, wr, x42, x43, x44, -, xz⟩ := v_X12_goes2 (v1 := nI k) (K := k) (F := mRow g k) w i0 p1 q3 i2 mk
  obtain ⟨⟨m0, m1, m2, m3, m4⟩, m5, m6, ⟨m7, m8, m9, m10⟩, m7r, m9r, m1r, m4r, m11, m12⟩ := mk
  generalize mRow g k = F at *
  have v10 : fmF F 10 = F 1 := rfl
  have v11 : fmF F 11 = F 4 := rfl
  have v12 : fmF F 12 = seF F := rfl
  have v13 : fmF F 13 = if mtF F = -1 then 0 else 1 := rfl
  have v14 : fmF F 14 = if F 5 = 0 then 0 else 1 := rfl
  have v15 : fmF F 15 = F 6 := rfl
  have v16 : fmF F 16 = F 9 := rfl
  have v17 : fmF F 17 = F 10 := rfl
  have v18 : fmF F 18 = if F 7 = 0 then 0 else 1 := rfl
  have a62 : aI h (n + 62) (nI k) = some (g.2.1 62 k) := by rw [A_62 w i0 i1, i2]
  have b62 : aI r (n + 62) (nI k) = some (fmF F 10) := by rw [A_62 wr i0 i1, i2, v10, m1]
  have b65 : aI r (n + 65) (nI k) = some (fmF F 11) := by rw [A_65 wr i0 i1, i2, v11, m4]
  have b66 : aI r (n + 66) (nI k) = some (g.2.1 66 k) := by rw [A_66 wr i0 i1, i2]
  have b67 : aI r (n + 67) (nI k) = some (F 7) := by rw [A_67 wr i0 i1, i2, m7]
  have b69 : aI r (n + 69) (nI k) = some (fmF F 16) := by rw [A_69 wr i0 i1, i2, v16, m9]
  have b70 : aI r (n + 70) (nI k) = some (fmF F 17) := by rw [A_70 wr i0 i1, i2, v17, m10]
  obtain ⟨i, kf, nm, pl, eh⟩ := RWH_of wr
  have y42 : ∀ kf', gI (RWH r n i kf' nm pl) (n + 42) 12 42 = some (nI (rE F)) := fun kf' => (Rw_gI (kf := kf) (nm := nm) (pl := pl) kf' nm pl).trans (by rw [eh]; exact x42)
  have y43 : ∀ kf', gI (RWH r n i kf' nm pl) (n + 42) 12 43 = some (bI (decide (0 < rE F ∧ rMt (rQ F (rE F)) = true))) := fun kf' => (Rw_gI (kf := kf) (nm := nm) (pl := pl) kf' nm pl).trans (by rw [eh]; exact x43)
  have y44 : ∀ kf', gI (RWH r n i kf' nm pl) (n + 42) 12 44 = some (rQ F (rE F)).2.2.2.1 := fun kf' => (Rw_gI (kf := kf) (nm := nm) (pl := pl) kf' nm pl).trans (by rw [eh]; exact x44)
  have ys : ∀ kf', f_X12_seenOf 10000 (n + 42) (RWH r n i kf' nm pl) = some (fmF F 12) := fun kf' => v12 ▸ v_seenOf m1r m9r (y42 kf') (y43 kf') (y44 kf')
  have er' : f_X12_goesThrough 10000 (n + 42) (nI k) (g.2.1 62 k) h = some (RWH r n i kf nm pl) := er.trans (congrArg some eh.symm)
  have c3 : (if bI (decide (0 < rE F ∧ rMt (rQ F (rE F)) = true)) = 0 then some (0 : Int32) else some 1) = some (fmF F 13) := by
    rw [v13]
    unfold mtF rM
    by_cases c : 0 < rE F ∧ rMt (rQ F (rE F)) = true
    · have hne : ¬ nI (rE F) = -1 := by
        intro z
        have h9 := nI_pos (n := rE F) (Nat.lt_of_le_of_lt (rEnd_60 (rQ F)) (by decide))
        rw [z] at h9
        exact absurd (by decide) h9
      rw [if_pos c, decide_eq_true c, if_neg hne, if_neg (by decide)]
    · rw [if_neg c, decide_eq_false c, if_pos rfl, if_pos (by decide)]
  have c4 : g.2.1 66 k &&& 1 = fmF F 14 := by
    rw [v14]
    by_cases c : F 5 = 0
    · rw [if_pos c]
      refine (l1_01 _).resolve_right (fun z => ?_)
      rw [m5] at z
      exact z c
    · rw [if_neg c, m5]
      exact c
  have c8 : (if 0 ≤ F 7 then some (0 : Int32) else some 1) = some (fmF F 18) := by
    rw [v18]
    rcases m7r with c | c
    · rw [if_pos c, c, if_pos (by decide)]
    · rw [if_neg (by lia), if_neg (by lia)]
  have c5 : g.2.1 66 k >>> (1 &&& 31) = fmF F 15 := m6.symm.trans v15.symm
  refine ⟨r, i, kn9 kf (fmF F) yr, nm, pl, ?_, wr, kn11 kf (fmF F) yr, ?_, ?_, ?_⟩
  · unfold f_X12_knows
    rw [gR_42_30 w, Option.bind_some, a62, Option.bind_some, ob_42 w, zif_t, er', Option.bind_some]
    simp only [Rw_s22, Rw_s30, Rw_s33, Rw_s34, Rw_s35, Rw_s37, Rw_s38, Option.bind_some, Rw_aI2 (show n + 60 ≤ n + 62 by omega), Rw_aI2 (show n + 60 ≤ n + 65 by omega), Rw_aI2 (show n + 60 ≤ n + 66 by omega), Rw_aI2 (show n + 60 ≤ n + 67 by omega), Rw_aI2 (show n + 60 ≤ n + 69 by omega), Rw_aI2 (show n + 60 ≤ n + 70 by omega), b62, b65, b66, b67, b69, b70, Rw_K0, Rw_K1, Rw_K2, Rw_z, zif_t, ys, y43, c3, Rw_K3, c4, Rw_K4, c5, Rw_K5, Rw_K6, Rw_K7, c8, Rw_K8, Rw_K9, Rw_K10]
    rfl
  · intro z hz
    have x := xz 46 z (Or.inl rfl) hz
    rw [← eh, Rw_q46] at x
    exact Option.some.inj x
  · intro z hz
    have x := xz 47 z (Or.inr (Or.inl rfl)) hz
    rw [← eh, Rw_q47] at x
    exact Option.some.inj x
  · intro z hz
    have x := xz 48 z (Or.inr (Or.inr rfl)) hz
    rw [← eh, Rw_q48] at x
    exact Option.some.inj x
end SAY
