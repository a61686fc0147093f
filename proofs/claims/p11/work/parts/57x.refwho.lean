/-! the reference's word on a meeting, exactly -/
section RWO
variable {n b L : Nat} {xs : Nat → Int32} {τ : Nat → Nat} {g : zGh} {h : zH}
theorem RLS_of {bb : Nat} {ls : List LnT} (w : WT n b L xs τ g h) (hb : bb < 16) (ld : LAWD g bb ls) : ∀ (d k : Nat), k + d = ls.length → RLS h n bb (g.2.1 55) (g.2.1 56) k (ls.drop k) := by
  obtain ⟨l20, e50, dd, hz⟩ := ld
  intro d
  induction d with
  | zero =>
    intro k hk
    rw [List.drop_eq_nil_of_le (by omega)]
    trivial
  | succ d ih =>
    intro k hk
    have hk' : k < ls.length := by omega
    rw [List.drop_eq_getElem_cons hk']
    have el : lnA ls k = ls[k] := by
      unfold lnA
      rw [List.getD_eq_getElem?_getD, List.getElem?_eq_getElem hk']
      rfl
    obtain ⟨⟨i, a1, a2, a3⟩, a4, a5⟩ := dd k hk'
    rw [el] at a3 a4 a5
    obtain ⟨-, b1, b2, b3⟩ := a3
    refine ⟨⟨?_, fun z => ?_, i, ?_, b1, b2, by omega, by omega⟩, ih (k + 1) (by omega)⟩
    · rw [P_kd w hb (by omega), a4]
    · obtain ⟨i0, i1, i2⟩ := h_ix (m := 340) (j := 20 * bb + k) (by omega) (by omega)
      rw [A_52 w i0 i1, i2, a5 z]
    · rw [P_at w hb (by omega), a1]
theorem sy2_f {fm V V' F' F2 : Nat → Int32} {yr : Int32} {ls : List LnT} (h : LNo ls 0) (f1 : ∀ t, 10 ≤ t → t ≤ 20 → F' t = fyl fm yr 0 t) (f2 : ∀ t, 10 ≤ t → t ≤ 20 → F2 t = fyl fm yr (lm1 F' (nm1 F' ls V') ls 0) t) : sy2 fm yr V ls = match ff1 F2 (nm1 F' ls V') ls 0 with | none => (0, -1, lm1 F' (nm1 F' ls V') ls 0) | some (w, k) => (nI w, nI k, lm1 F' (nm1 F' ls V') ls 0) := by
  have a := nm1_c f1 ls 0 V V' h (fun j hj => absurd hj (Nat.not_lt_zero _))
  have b := lm1_c f1 ls 0 0 h a
  rw [b] at f2 ⊢
  rw [ff1_c f2 ls 0 0 h a]
  rfl
theorem kn_9 {kf fm : Nat → Int32} {yr l : Int32} (f1 : ∀ t, 10 ≤ t → t ≤ 20 → FR kf t = fyl fm yr 0 t) : ∀ t, 10 ≤ t → t ≤ 20 → FR (upd kf 9 l) t = fyl fm yr l t := by
  refine fr_11 (P := fun t => FR (upd kf 9 l) t = fyl fm yr l t) ⟨?_, ?_, ?_, ?_, ?_, ?_, ?_, ?_, ?_, ?_, rfl⟩
  · exact f1 10 (by decide) (by decide)
  · exact f1 11 (by decide) (by decide)
  · exact f1 12 (by decide) (by decide)
  · exact f1 13 (by decide) (by decide)
  · exact f1 14 (by decide) (by decide)
  · exact f1 15 (by decide) (by decide)
  · exact f1 16 (by decide) (by decide)
  · exact f1 17 (by decide) (by decide)
  · exact f1 18 (by decide) (by decide)
  · exact f1 19 (by decide) (by decide)
/-- what is said: of no law nothing -/
def syO (fm : Nat → Int32) (yr : Int32) (LS : Nat → List LnT) : Option Nat → Int32 × Int32 × Int32
  | none => (0, -1, 0)
  | some k => sy2 fm yr (fun _ => 0) (LS k)
def vwR (g : zGh) : Int32 := if 0 ≤ g.1 42 26 then g.1 42 26 else g.1 42 25
theorem v_says {N M k : Nat} {yr : Int32} {LS : Nat → List LnT} (w : WT n b L xs τ g h) (hm : HM g M) (hk : k < M) (hN : N ≤ 16) (e10 : g.1 42 10 = nI N) (ld : LWD N LS g) (ln : ∀ q, q < N → LNo (LS q) 0) : ∃ r, f_X12_says 10000 (n + 42) (nI k) yr h = some r ∧ WT n b L xs τ g r ∧ gI r (n + 42) 12 46 = some (syO (fmF (mRow g k)) yr LS (lo1 (g.2.1 49) (g.2.1 48) yr (vwR g) N)).1 ∧ gI r (n + 42) 12 47 = some (syO (fmF (mRow g k)) yr LS (lo1 (g.2.1 49) (g.2.1 48) yr (vwR g) N)).2.1 ∧ gI r (n + 42) 12 48 = some (syO (fmF (mRow g k)) yr LS (lo1 (g.2.1 49) (g.2.1 48) yr (vwR g) N)).2.2 := by
  have p1 : nI k < g.1 42 27 := by rw [hm.2.1]; exact (h_ix (m := M) (j := k) hk (by have := hm.1; omega)).2.1
  have p0 : 0 ≤ nI k := (h_ix (m := M) (j := k) hk (by have := hm.1; omega)).1
  obtain ⟨rr, er, wr⟩ := P_says (v1 := nI k) (v2 := yr) w (LWI_of_D hN e10 ld) p0 p1 hm.2.2.1
  refine ⟨rr, er, wr, ?_⟩
  obtain ⟨i, kf, nm, pl, eh⟩ := RWH_of w
  obtain ⟨h1, e1, w1⟩ := pI_42_46 (x := 0) w
  obtain ⟨h2, e2, w2⟩ := pI_42_47 (x := -1) w1
  obtain ⟨h3, e3, w3⟩ := pI_42_48 (x := 0) w2
  have d1 := Rw_Q46 (h0 := h) (n := n) (i := i) (kf := kf) (nm := nm) (pl := pl) 0
  rw [eh, e1] at d1
  have d1 := Option.some.inj d1
  have d2 := Rw_Q47 (h0 := h) (n := n) (i := upd i 46 0) (kf := kf) (nm := nm) (pl := pl) (-1)
  rw [← d1, e2] at d2
  have d2 := Option.some.inj d2
  have d3 := Rw_Q48 (h0 := h) (n := n) (i := upd (upd i 46 0) 47 (-1)) (kf := kf) (nm := nm) (pl := pl) 0
  rw [← d2, e3] at d3
  have d3 := Option.some.inj d3
  have z6 : gI h3 (n + 42) 12 46 = some 0 := by rw [d3, Rw_q46]; rfl
  have z7 : gI h3 (n + 42) 12 47 = some (-1) := by rw [d3, Rw_q47]; rfl
  have z8 : gI h3 (n + 42) 12 48 = some 0 := by rw [d3, Rw_q48]; rfl
  have lw := v_lawIn (yr := yr) w3 hN e10
  have lw : f_X12_lawIn 10000 (n + 42) yr h3 = some (loI (lo1 (g.2.1 49) (g.2.1 48) yr (vwR g) N)) := lw
  unfold f_X12_says at er
  rw [e1, Option.bind_some, e2, Option.bind_some, e3, Option.bind_some, ob_42 w3, zif_t, lw, Option.bind_some] at er
  cases hl : lo1 (g.2.1 49) (g.2.1 48) yr (vwR g) N with
  | none =>
    rw [hl, if_neg (show ¬ (0 : Int32) ≤ loI none by decide)] at er
    have e9 := Option.some.inj er
    rw [← e9]
    exact ⟨z6, z7, z8⟩
  | some q =>
    have hq := lo1_lt N q hl
    rw [hl, if_pos (show (0 : Int32) ≤ loI (some q) from (nI_r (show q ≤ 20 by omega) (by decide)).1), zif_t] at er
    obtain ⟨r, i1, kf1, nm1', pl1, ek, wk, ff, y6, y7, y8⟩ := v_knows (yr := yr) w3 hm hk
    have y6 := y6 _ z6
    have y7 := y7 _ z7
    have y8 := y8 _ z8
    have lq := ld q hq
    have l20 := lq.1
    have rl := RLS_of wk (by omega) lq (LS q).length 0 (by omega)
    rw [List.drop_zero] at rl
    have et := P_ln wk (show q < 16 by omega) lq.2.1
    have eo : ∀ j, j < 20400 → aI r (n + 55) (nI j) = some (g.2.1 55 j) := fun j hj => by
      have ri := nI_r (show j ≤ 20399 by omega) (by decide : 20399 < 2 ^ 31)
      have ei : nI 20399 = 20399 := rfl
      rw [A_55 wk (i := nI j) ri.1 (by lia), nI_clamp (by omega)]
    have e1 : ∀ j, j < 20400 → aI r (n + 56) (nI j) = some (g.2.1 56 j) := fun j hj => by
      have ri := nI_r (show j ≤ 20399 by omega) (by decide : 20399 < 2 ^ 31)
      have ei : nI 20399 = 20399 := rfl
      rw [A_56 wk (i := nI j) ri.1 (by lia), nI_clamp (by omega)]
    obtain ⟨pl2, s1⟩ := r_L38 (kf := kf1) l20 et eo e1 (LS q) 0 0 10000 i1 nm1' pl1 (ln q hq) (by decide) rl (Nat.zero_add _) (by omega)
    have s1 : f_X12_says_L38 10000 (n + 42) (nI q) 10000 0 0 (RWH r n i1 kf1 nm1' pl1) = _ := s1
    obtain ⟨i3, pl3, s2, s3, s4⟩ := r_L98 (kf := kf1) (nm := nm1 (FR kf1) (LS q) nm1') l20 et eo e1 (LS q) 0 0 10000 i1 pl2 (ln q hq) (by decide) rl (Nat.zero_add _) (by omega)
    have s2 : f_X12_says_L98 10000 (n + 42) (nI q) 10000 0 (RWH r n i1 kf1 (nm1 (FR kf1) (LS q) nm1') pl2) = _ := s2
    rw [y8] at s3
    obtain ⟨i4, pl4, s5, s6, s7, s8⟩ := r_L182 (kf := upd kf1 9 (i3 48)) (nm := nm1 (FR kf1) (LS q) nm1') l20 et eo e1 (LS q) 0 0 10000 i3 pl3 (ln q hq) (by decide) rl (Nat.zero_add _) (by omega) ((s4 47 (by decide)).trans y7)
    have s5 : f_X12_says_L182 10000 (n + 42) (nI q) 10000 0 (RWH r n i3 (upd kf1 9 (i3 48)) (nm1 (FR kf1) (LS q) nm1') pl3) = _ := s5
    have er : (f_X12_knows 10000 (n + 42) (nI k) yr h3).bind (fun h8 => (f_X12_says_L38 10000 (n + 42) (nI q) 10000 0 0 h8).bind fun m22 => (f_X12_says_L98 10000 (n + 42) (nI q) 10000 0 m22).bind fun m40 => (gR m40 (n + 42) 12 22).bind fun r41 => (gI m40 (n + 42) 12 48).bind fun x42 => (sI m40 r41 9 x42).bind fun h43 => (f_X12_says_L182 10000 (n + 42) (nI q) 10000 0 h43).bind fun m62 => some m62) = some rr := er
    rw [ek, Option.bind_some, s1, Option.bind_some, s2, Option.bind_some, Rw_s22, Option.bind_some, Rw_q48, Option.bind_some, Rw_K9, Option.bind_some, s5, Option.bind_some] at er
    have e9 := Option.some.inj er
    have f2 := kn_9 (l := i3 48) ff
    rw [s3] at f2
    have sy : syO (fmF (mRow g k)) yr LS (some q) = _ := sy2_f (V := fun _ => 0) (ln q hq) ff f2
    have t8 : i4 48 = lm1 (FR kf1) (nm1 (FR kf1) (LS q) nm1') (LS q) 0 := (s8 48 (by decide) (by decide)).trans s3
    rw [s3] at s6 s7
    rw [← e9, Rw_q46, Rw_q47, Rw_q48, sy, t8]
    cases hf : ff1 (FR (upd kf1 9 (lm1 (FR kf1) (nm1 (FR kf1) (LS q) nm1') (LS q) 0))) (nm1 (FR kf1) (LS q) nm1') (LS q) 0 with
    | none =>
      have e4 := s6 hf
      rw [e4, s4 46 (by decide), s4 47 (by decide), y6, y7]
      exact ⟨rfl, rfl, rfl⟩
    | some wk =>
      obtain ⟨wh, kk⟩ := wk
      obtain ⟨t6, t7⟩ := s7 wh kk hf
      rw [t6, t7]
      exact ⟨rfl, rfl, rfl⟩
end RWO
