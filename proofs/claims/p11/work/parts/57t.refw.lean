/-! the reference's working of a by-law: its own heap, exactly -/
def RWH (h0 : zH) (n : Nat) (i kf nm pl : Nat → Int32) : zH := zset (zset (zset (zset h0 (n + 42) (oX12 (rf12 n) i)) (n + 57) (.inl (0, 11, .inl kf))) (n + 58) (.inl (0, 8, .inl nm))) (n + 59) (.inl (0, 1200, .inl pl))
section RHS
variable {h0 : zH} {n : Nat} {i kf nm pl : Nat → Int32}
theorem Rw_q46 : gI (RWH h0 n i kf nm pl) (n + 42) 12 46 = some (i 46) := by unfold RWH; rw [gI_zn (by omega), gI_zn (by omega), gI_zn (by omega), gX12_46]
theorem Rw_Q46 (z : Int32) : pF (RWH h0 n i kf nm pl) (n + 42) 12 46 (.int z) = some (RWH h0 n (upd i 46 z) kf nm pl) := by unfold RWH; rw [pF_zn (by omega), pF_zn (by omega), pF_zn (by omega), pX12_46]; rfl
theorem Rw_q47 : gI (RWH h0 n i kf nm pl) (n + 42) 12 47 = some (i 47) := by unfold RWH; rw [gI_zn (by omega), gI_zn (by omega), gI_zn (by omega), gX12_47]
theorem Rw_Q47 (z : Int32) : pF (RWH h0 n i kf nm pl) (n + 42) 12 47 (.int z) = some (RWH h0 n (upd i 47 z) kf nm pl) := by unfold RWH; rw [pF_zn (by omega), pF_zn (by omega), pF_zn (by omega), pX12_47]; rfl
theorem Rw_q48 : gI (RWH h0 n i kf nm pl) (n + 42) 12 48 = some (i 48) := by unfold RWH; rw [gI_zn (by omega), gI_zn (by omega), gI_zn (by omega), gX12_48]
theorem Rw_Q48 (z : Int32) : pF (RWH h0 n i kf nm pl) (n + 42) 12 48 (.int z) = some (RWH h0 n (upd i 48 z) kf nm pl) := by unfold RWH; rw [pF_zn (by omega), pF_zn (by omega), pF_zn (by omega), pX12_48]; rfl
theorem Rw_s13 : gR (RWH h0 n i kf nm pl) (n + 42) 12 13 = some (n + 50) := by unfold RWH; rw [gR_zn (by omega), gR_zn (by omega), gR_zn (by omega), gX12_13]; rfl
theorem Rw_s14 : gR (RWH h0 n i kf nm pl) (n + 42) 12 14 = some (n + 51) := by unfold RWH; rw [gR_zn (by omega), gR_zn (by omega), gR_zn (by omega), gX12_14]; rfl
theorem Rw_s15 : gR (RWH h0 n i kf nm pl) (n + 42) 12 15 = some (n + 52) := by unfold RWH; rw [gR_zn (by omega), gR_zn (by omega), gR_zn (by omega), gX12_15]; rfl
theorem Rw_s16 : gR (RWH h0 n i kf nm pl) (n + 42) 12 16 = some (n + 53) := by unfold RWH; rw [gR_zn (by omega), gR_zn (by omega), gR_zn (by omega), gX12_16]; rfl
theorem Rw_s20 : gR (RWH h0 n i kf nm pl) (n + 42) 12 20 = some (n + 55) := by unfold RWH; rw [gR_zn (by omega), gR_zn (by omega), gR_zn (by omega), gX12_20]; rfl
theorem Rw_s21 : gR (RWH h0 n i kf nm pl) (n + 42) 12 21 = some (n + 56) := by unfold RWH; rw [gR_zn (by omega), gR_zn (by omega), gR_zn (by omega), gX12_21]; rfl
theorem Rw_s22 : gR (RWH h0 n i kf nm pl) (n + 42) 12 22 = some (n + 57) := by unfold RWH; rw [gR_zn (by omega), gR_zn (by omega), gR_zn (by omega), gX12_22]; rfl
theorem Rw_s23 : gR (RWH h0 n i kf nm pl) (n + 42) 12 23 = some (n + 58) := by unfold RWH; rw [gR_zn (by omega), gR_zn (by omega), gR_zn (by omega), gX12_23]; rfl
theorem Rw_s24 : gR (RWH h0 n i kf nm pl) (n + 42) 12 24 = some (n + 59) := by unfold RWH; rw [gR_zn (by omega), gR_zn (by omega), gR_zn (by omega), gX12_24]; rfl
theorem Rw_z : zob (RWH h0 n i kf nm pl) (n + 42) 12 = true := by unfold RWH; rw [zob_zn (by omega), zob_zn (by omega), zob_zn (by omega), zo_X12]
theorem Rw_k {j : Nat} (hj : j < 11) : aI (RWH h0 n i kf nm pl) (n + 57) (nI j) = some (kf j) := by unfold RWH; rw [aI_zn (by omega), aI_zn (by omega), aI_zsN hj (by decide)]
theorem Rw_K {j : Nat} (hj : j < 11) (x : Int32) : sI (RWH h0 n i kf nm pl) (n + 57) (nI j) x = some (RWH h0 n i (upd kf j x) nm pl) := by unfold RWH; rw [sI_zn (by omega), sI_zn (by omega), sI_zsN hj (by decide)]; rfl
theorem Rw_n {j : Nat} (hj : j < 8) : aI (RWH h0 n i kf nm pl) (n + 58) (nI j) = some (nm j) := by unfold RWH; rw [aI_zn (by omega), aI_zsN hj (by decide)]
theorem Rw_N {j : Nat} (hj : j < 8) (x : Int32) : sI (RWH h0 n i kf nm pl) (n + 58) (nI j) x = some (RWH h0 n i kf (upd nm j x) pl) := by unfold RWH; rw [sI_zn (by omega), sI_zsN hj (by decide)]; rfl
theorem Rw_p {j : Nat} (hj : j < 1200) : aI (RWH h0 n i kf nm pl) (n + 59) (nI j) = some (pl j) := by unfold RWH; rw [aI_zsN hj (by decide)]
theorem Rw_P {j : Nat} (hj : j < 1200) (x : Int32) : sI (RWH h0 n i kf nm pl) (n + 59) (nI j) x = some (RWH h0 n i kf nm (upd pl j x)) := by unfold RWH; rw [sI_zsN hj (by decide)]
theorem Rw_aI {a : Nat} (h1 : n + 43 ≤ a) (h2 : a ≤ n + 56) (j : Int32) : aI (RWH h0 n i kf nm pl) a j = aI h0 a j := by unfold RWH; rw [aI_zn (by omega), aI_zn (by omega), aI_zn (by omega), aI_zn (by omega)]
theorem Rw_aI2 {a : Nat} (h1 : n + 60 ≤ a) (j : Int32) : aI (RWH h0 n i kf nm pl) a j = aI h0 a j := by unfold RWH; rw [aI_zn (by omega), aI_zn (by omega), aI_zn (by omega), aI_zn (by omega)]
/-! the pile -/
/-- facts by the class's words -/
def FR (kf : Nat → Int32) (t : Nat) : Int32 := kf (pm t - 10)
theorem both_2 {x : Nat} (h : isB2 x = true) (a b : Int32) : p_X12_both (rcO x) a b = bin2 x a b := by
  rcases of_decide_eq_true h with h | h | h | h | h | h | h <;> subst h <;> rfl
theorem rc_op {x : Nat} (h : isB2 x = true) : 3 < rcO x ∧ ¬ rcO x = 4 ∧ ¬ rcO x = 0 := by
  rcases of_decide_eq_true h with h | h | h | h | h | h | h <;> subst h <;> decide
theorem pm_r : ∀ t, t < 21 → 10 ≤ t → pm t - 10 < 11 := by decide
set_option maxHeartbeats 1000000 in
theorem r_worth_L {op one : Nat → Int32} {Mx : Nat} (hMx : Mx ≤ 8) (eo : ∀ j, j < 20400 → aI h0 (n + 55) (nI j) = some (op j)) (e1 : ∀ j, j < 20400 → aI h0 (n + 56) (nI j) = some (one j)) : ∀ (c : List Nat) (p m : Nat) (pl : Nat → Int32) (L L' : List Int32), LST op one p c → op (p + c.length) = 0 → p + c.length < 20400 → (∀ x, x ∈ c → VC Mx x) → pd c L.length → L.length ≤ 32 → ev (FR kf) nm c L = some L' → c.length < m → STK pl L → ∃ pl', f_X12_worth_L4 10000 (n + 42) m (nI L.length) (nI p) (RWH h0 n i kf nm pl) = some (RWH h0 n i kf nm pl') ∧ STK pl' L' := by
  intro c
  induction c with
  | nil =>
    intro p m pl L L' _ h0' hp _ _ _ e hm hs
    obtain ⟨m, rfl⟩ : ∃ m', m = m' + 1 := ⟨m - 1, by omega⟩
    have e' : L' = L := (Option.some.inj e).symm
    subst e'
    have h0'' : op p = 0 := h0'
    have hp' : p < 20400 := hp
    refine ⟨pl, ?_, hs⟩
    rw [f_X12_worth_L4.eq_2]
    simp only [Rw_s20, Option.bind_some, Rw_aI (show n + 43 ≤ n + 55 by omega) (show n + 55 ≤ n + 56 by omega), eo p hp']
    rw [if_pos h0'']
  | cons x c ih =>
    intro p m pl L L' ls hz hp hv hd hl e hm hs
    have hp' : p + (c.length + 1) < 20400 := hp
    have hm' : c.length + 1 < m := hm
    have hz' : op (p + (c.length + 1)) = 0 := hz
    obtain ⟨m, rfl⟩ : ∃ m', m = m' + 1 := ⟨m - 1, by omega⟩
    obtain ⟨⟨x1, x2⟩, ls2⟩ := ls
    obtain ⟨L1, f1, f2⟩ : ∃ L1, evS (FR kf) nm x L = some L1 ∧ ev (FR kf) nm c L1 = some L' := by
      have e9 : (evS (FR kf) nm x L).bind (ev (FR kf) nm c) = some L' := e
      cases h : evS (FR kf) nm x L with
      | none => rw [h] at e9; cases e9
      | some L1 => rw [h] at e9; exact ⟨L1, rfl, e9⟩
    have hx := hv x List.mem_cons_self
    have d1 := hd.1
    have len1 : L1.length = dp x L.length := by
      obtain ⟨s', y1, y2⟩ := ev_pd (FR kf) nm [x] L ⟨d1, trivial⟩
      have y3 : (evS (FR kf) nm x L).bind (ev (FR kf) nm []) = some s' := y1
      rw [f1] at y3
      have y4 : L1 = s' := Option.some.inj y3
      rw [y4]
      exact y2
    have nx : ∀ pl1, STK pl1 L1 → ∃ pl', f_X12_worth_L4 10000 (n + 42) m (nI L1.length) (nI (p + 1)) (RWH h0 n i kf nm pl1) = some (RWH h0 n i kf nm pl') ∧ STK pl' L' := fun pl1 gs => ih (p + 1) m pl1 L1 L' ls2 (by rw [show p + 1 + c.length = p + (c.length + 1) by omega]; exact hz') (by omega) (fun y hy => hv y (List.mem_cons_of_mem _ hy)) (by rw [len1]; exact hd.2) (by rw [len1]; exact d1.2) f2 (by omega) gs
    have a55 := eo p (by omega)
    have a56 := e1 p (by omega)
    rw [x1] at a55
    rw [x2] at a56
    have ra := Rw_aI (h0 := h0) (n := n) (i := i) (kf := kf) (nm := nm) (pl := pl) (show n + 43 ≤ n + 55 by omega) (show n + 55 ≤ n + 56 by omega)
    have rb := Rw_aI (h0 := h0) (n := n) (i := i) (kf := kf) (nm := nm) (pl := pl) (show n + 43 ≤ n + 56 by omega) (show n + 56 ≤ n + 56 by omega)
    rw [f_X12_worth_L4.eq_2]
    simp only [Rw_s20, Option.bind_some, ra, a55, nI_1]
    unfold evS at f1
    by_cases h1 : x < 10000
    · have r1 : rcO x = 1 := if_pos h1
      have r2 : rcA x = nI x := if_pos h1
      rw [if_pos h1] at f1
      have e9 := (Option.some.inj f1).symm
      subst e9
      have l32 : L.length < 32 := by
        have := d1.2
        unfold dp at this
        rw [if_pos (by omega)] at this
        omega
      rw [r1, if_neg (by decide), if_neg (by decide), Rw_s24, Option.bind_some, if_pos rfl]
      simp only [Rw_s21, Option.bind_some, rb, a56, r2, Rw_P (show L.length < 1200 by omega)]
      exact nx _ (STK_push hs (nI x))
    · rw [if_neg h1] at f1
      by_cases h2 : x < 20000
      · have r1 : rcO x = 2 := (if_neg h1).trans (if_pos h2)
        have hr : 10 ≤ x - 10000 ∧ x - 10000 < 21 := by
          rcases hx with h | h | h | h | h
          · omega
          · omega
          · omega
          · omega
          · have := of_decide_eq_true h
            omega
        have r2 : rcA x = nI (pm (x - 10000) - 10) := (if_neg h1).trans (if_pos h2)
        rw [if_pos h2] at f1
        have e9 := (Option.some.inj f1).symm
        subst e9
        have l32 : L.length < 32 := by
          have := d1.2
          unfold dp at this
          rw [if_pos (by omega)] at this
          omega
        have hpm := pm_r _ hr.2 hr.1
        rw [r1, if_neg (by decide), if_neg (by decide), Rw_s24, Option.bind_some, if_neg (by decide), if_pos rfl]
        simp only [Rw_s22, Rw_s21, Option.bind_some, rb, a56, r2, Rw_k hpm, Rw_P (show L.length < 1200 by omega)]
        exact nx _ (STK_push hs _)
      · rw [if_neg h2] at f1
        by_cases h3 : x < 30000
        · obtain ⟨y, rfl⟩ : ∃ y, x = 20000 + y := ⟨x - 20000, by omega⟩
          have r1 : rcO (20000 + y) = 3 := (if_neg h1).trans ((if_neg h2).trans (if_pos h3))
          have r2 : rcA (20000 + y) = nI (20000 + y - 20000) := (if_neg h1).trans ((if_neg h2).trans (if_pos h3))
          rw [if_pos h3] at f1
          rw [Nat.add_sub_cancel_left] at f1 r2
          have hr : y < 8 := by
            rcases hx with h | h | h | h | h
            · omega
            · omega
            · omega
            · omega
            · have := of_decide_eq_true h
              omega
          have e9 := (Option.some.inj f1).symm
          subst e9
          have l32 : L.length < 32 := by
            have := d1.2
            unfold dp at this
            rw [if_pos (by omega)] at this
            omega
          rw [r1, if_neg (by decide), if_neg (by decide), Rw_s24, Option.bind_some, if_neg (by decide), if_neg (by decide)]
          simp only [Rw_s23, Rw_s21, Option.bind_some, rb, a56, r2, Rw_n hr, Rw_P (show L.length < 1200 by omega)]
          exact nx _ (STK_push hs _)
        · rw [if_neg h3] at f1
          by_cases h9 : x = 30009
          · subst h9
            rw [if_pos rfl] at f1
            match L, f1, hs, hl, hd, len1 with
            | b :: L, f1, hs, hl, hd, len1 =>
              have e9 := (Option.some.inj f1).symm
              subst e9
              have hl' : L.length + 1 ≤ 32 := hl
              obtain ⟨p1, p2⟩ := STK_pop hs
              have dn : nI (b :: L).length - 1 = nI L.length := by
                show nI (L.length + 1) - 1 = _
                rw [← nI_1]
                lia
              have lp : nI (b :: L).length = nI ((if b = 0 then 1 else 0) :: L : List Int32).length := rfl
              rw [show rcO 30009 = 4 from rfl, if_neg (by decide), if_pos (by decide), if_pos rfl]
              simp only [Rw_s24, Option.bind_some, dn, Rw_p (show L.length < 1200 by omega), p1]
              by_cases z : b = 0
              · rw [if_pos z, Rw_P (show L.length < 1200 by omega), Option.bind_some]
                have gs := STK_push p2 (if b = 0 then 1 else 0 : Int32)
                rw [if_pos z] at gs
                have g := nx (upd pl L.length 1) (by rw [if_pos z]; exact gs)
                exact g
              · rw [if_neg z, Rw_P (show L.length < 1200 by omega), Option.bind_some]
                have gs := STK_push p2 (if b = 0 then 1 else 0 : Int32)
                rw [if_neg z] at gs
                have g := nx (upd pl L.length 0) (by rw [if_neg z]; exact gs)
                exact g
          · rw [if_neg h9] at f1
            have hb : isB2 x = true := by
              rcases hx with h | h | h | h | h
              · omega
              · omega
              · omega
              · exact absurd h h9
              · exact h
            obtain ⟨o1, o2, o3⟩ := rc_op hb
            match L, f1, hs, hl, hd, len1 with
            | b :: a :: L, f1, hs, hl, hd, len1 =>
              have e9 := (Option.some.inj f1).symm
              subst e9
              have hl' : L.length + 1 + 1 ≤ 32 := hl
              obtain ⟨p1, p2⟩ := STK_pop hs
              obtain ⟨p3, p4⟩ := STK_pop p2
              have p1' : pl (L.length + 1) = b := p1
              have d1' : nI (b :: a :: L).length + (-1) = nI (L.length + 1) := by
                show nI (L.length + 1 + 1) + (-1) = _
                rw [← nI_1]
                lia
              have d2' : nI (L.length + 1) - 1 = nI L.length := by
                rw [← nI_1]
                lia
              rw [if_neg o3, if_pos o1, if_neg o2]
              simp only [Rw_s24, Option.bind_some, d1', d2', Rw_p (show L.length < 1200 by omega), Rw_p (show L.length + 1 < 1200 by omega), p1', p3, Rw_P (show L.length < 1200 by omega), both_2 hb]
              exact nx _ (STK_push p4 (bin2 x a b))
theorem r_worth {op one : Nat → Int32} {Mx p : Nat} {c : List Nat} (hMx : Mx ≤ 8) (eo : ∀ j, j < 20400 → aI h0 (n + 55) (nI j) = some (op j)) (e1 : ∀ j, j < 20400 → aI h0 (n + 56) (nI j) = some (one j)) (ls : LST op one p c) (hz : op (p + c.length) = 0) (hp : p + c.length < 20400) (hv : ∀ x, x ∈ c → VC Mx x) (v1 : pd c 0) (v2 : fd c 0 = 1) (hc : c.length < 10000) : ∃ pl', f_X12_worth 10000 (n + 42) (nI p) (RWH h0 n i kf nm pl) = some (vl (FR kf) nm c, RWH h0 n i kf nm pl') := by
  obtain ⟨pl', f1, f2⟩ := r_worth_L (i := i) (kf := kf) (nm := nm) hMx eo e1 c p 10000 pl [] [vl (FR kf) nm c] ls hz hp hv v1 (Nat.zero_le _) (vl_ok v1 v2) hc (fun j hj => absurd hj (Nat.not_lt_zero _))
  have f1' : f_X12_worth_L4 10000 (n + 42) 10000 0 (nI p) (RWH h0 n i kf nm pl) = _ := f1
  have e0 : pl' 0 = vl (FR kf) nm c := (STK_pop f2).1
  unfold f_X12_worth
  rw [f1', Option.bind_some]
  have r0 : aI (RWH h0 n i kf nm pl') (n + 59) 0 = some (pl' 0) := Rw_p (j := 0) (by decide)
  simp only [Rw_s24, Option.bind_some, r0, e0]
  exact ⟨pl', rfl⟩
end RHS
