/-! what a law says, in two passes -/
theorem evS_congr {F F' V V' : Nat → Int32} {M x : Nat} {st : List Int32} (hF : ∀ t, 10 ≤ t → t ≤ 20 → F' t = F t) (hV : ∀ j, j < M → V' j = V j) (hx : VC M x) : evS F' V' x st = evS F V x st := by
  unfold evS
  by_cases h1 : x < 10000
  · rw [if_pos h1, if_pos h1]
  · rw [if_neg h1, if_neg h1]
    by_cases h2 : x < 20000
    · have hr : 10 ≤ x - 10000 ∧ x - 10000 ≤ 20 := by
        rcases hx with h | h | h | h | h
        · omega
        · omega
        · omega
        · omega
        · have := of_decide_eq_true h
          omega
      rw [if_pos h2, if_pos h2, hF _ hr.1 hr.2]
    · rw [if_neg h2, if_neg h2]
      by_cases h3 : x < 30000
      · have hr : x - 20000 < M := by
          rcases hx with h | h | h | h | h
          · omega
          · omega
          · omega
          · omega
          · have := of_decide_eq_true h
            omega
        rw [if_pos h3, if_pos h3, hV _ hr]
      · rw [if_neg h3, if_neg h3]
theorem ev_congr {F F' V V' : Nat → Int32} {M : Nat} (hF : ∀ t, 10 ≤ t → t ≤ 20 → F' t = F t) (hV : ∀ j, j < M → V' j = V j) : ∀ (c : List Nat) (st : List Int32), (∀ x, x ∈ c → VC M x) → ev F' V' c st = ev F V c st := by
  intro c
  induction c with
  | nil => intro st _; rfl
  | cons x c ih =>
    intro st h
    show (evS F' V' x st).bind (ev F' V' c) = (evS F V x st).bind (ev F V c)
    rw [evS_congr hF hV (h x List.mem_cons_self)]
    cases evS F V x st with
    | none => rfl
    | some s => exact ih s (fun y hy => h y (List.mem_cons_of_mem _ hy))
theorem vl_congr {F F' V V' : Nat → Int32} {M : Nat} {c : List Nat} (hF : ∀ t, 10 ≤ t → t ≤ 20 → F' t = F t) (hV : ∀ j, j < M → V' j = V j) (h : ∀ x, x ∈ c → VC M x) : vl F' V' c = vl F V c := by
  unfold vl
  rw [ev_congr hF hV c [] h]
def nm1 (F : Nat → Int32) : List LnT → (Nat → Int32) → (Nat → Int32)
  | [], V => V
  | x :: ls, V => if x.1 = 4 then nm1 F ls (upd V x.2.1 (vl F V x.2.2)) else nm1 F ls V
def lm1 (F V : Nat → Int32) : List LnT → Int32 → Int32
  | [], l => l
  | x :: ls, l => if x.1 = 20 ∧ l = 0 ∧ ¬ vl F V x.2.2 = 0 then lm1 F V ls (nI x.2.1) else lm1 F V ls l
theorem LNo_l {x : LnT} {ls : List LnT} {M : Nat} (h : LNo (x :: ls) M) (e : x.1 = 4) : x.2.1 = M ∧ M < 8 ∧ LNo ls (M + 1) := by
  obtain ⟨a, b, c⟩ := h
  rw [if_pos e] at c
  rcases a with a | a | a
  · exact ⟨a.2.1, a.2.2, c⟩
  · exact absurd (a.1.symm.trans e) (by decide)
  · exact absurd (a.1.symm.trans e) (by decide)
theorem LNo_n {x : LnT} {ls : List LnT} {M : Nat} (h : LNo (x :: ls) M) (e : ¬ x.1 = 4) : ((x.1 = 20 ∧ 1 ≤ x.2.1 ∧ x.2.1 ≤ 999) ∨ (x.1 = 5 ∧ x.2.1 ≤ 3)) ∧ LNo ls M := by
  obtain ⟨a, b, c⟩ := h
  rw [if_neg e] at c
  exact ⟨a.resolve_left (fun z => e z.1), c⟩
theorem nm1_low {F : Nat → Int32} : ∀ (ls : List LnT) (M : Nat) (V : Nat → Int32), LNo ls M → ∀ j, j < M → nm1 F ls V j = V j := by
  intro ls
  induction ls with
  | nil => intro M V _ j _; rfl
  | cons x ls ih =>
    intro M V h j hj
    unfold nm1
    by_cases e : x.1 = 4
    · rw [if_pos e]
      obtain ⟨a, b, c⟩ := LNo_l h e
      rw [ih (M + 1) _ c j (by omega)]
      exact if_neg (by omega)
    · rw [if_neg e]
      exact ih M V (LNo_n h e).2 j hj
theorem nl1_two {F : Nat → Int32} : ∀ (ls : List LnT) (M : Nat) (V : Nat → Int32) (l : Int32), LNo ls M → nl1 F ls V l = (nm1 F ls V, lm1 F (nm1 F ls V) ls l) := by
  intro ls
  induction ls with
  | nil => intro M V l _; rfl
  | cons x ls ih =>
    intro M V l h
    have lo := nm1_low (F := F) (x :: ls) M V h
    have cg : vl F (nm1 F (x :: ls) V) x.2.2 = vl F V x.2.2 := vl_congr (fun _ _ _ => rfl) lo h.2.1.2.2
    unfold nl1 lm1
    rw [cg]
    by_cases e : x.1 = 4
    · obtain ⟨a, b, c⟩ := LNo_l h e
      have en : nm1 F (x :: ls) V = nm1 F ls (upd V x.2.1 (vl F V x.2.2)) := if_pos e
      rw [if_pos e, if_neg (fun z => absurd (e.symm.trans z.1) (by decide)), en]
      exact ih (M + 1) _ l c
    · obtain ⟨a, c⟩ := LNo_n h e
      have en : nm1 F (x :: ls) V = nm1 F ls V := if_neg e
      rw [if_neg e, en]
      by_cases d : x.1 = 20 ∧ l = 0 ∧ ¬ vl F V x.2.2 = 0
      · rw [if_pos d, if_pos d]
        exact ih M V _ c
      · rw [if_neg d, if_neg d]
        exact ih M V _ c
/-- a law's lines in the reference's heap -/
def RLS (h0 : zH) (n bb : Nat) (op one : Nat → Int32) : Nat → List LnT → Prop
  | _, [] => True
  | k, x :: ls => (aI h0 (n + 51) (nI (20 * bb + k)) = some (kdR x.1) ∧ (¬ x.1 = 4 → aI h0 (n + 52) (nI (20 * bb + k)) = some (nI x.2.1)) ∧ ∃ p, aI h0 (n + 53) (nI (20 * bb + k)) = some (nI p) ∧ LST op one p x.2.2 ∧ op (p + x.2.2.length) = 0 ∧ p + x.2.2.length < 20400 ∧ x.2.2.length < 10000) ∧ RLS h0 n bb op one (k + 1) ls
section RLO
variable {h0 : zH} {n bb tot : Nat} {kf : Nat → Int32} {op one : Nat → Int32}
theorem kd4 {x : Nat} (h : x = 4) : kdR x = 0 := if_pos h
theorem kd20 {x : Nat} (h : x = 20) : kdR x = 19 := by subst h; rfl
theorem kd5 {x : Nat} (h : x = 5) : kdR x = 1 := by subst h; rfl
theorem P_ix' {k : Nat} : (20 : Int32) * nI bb + nI k = nI (20 * bb + k) := P_ix
theorem r_L38 (ht : tot ≤ 20) (et : aI h0 (n + 50) (nI bb) = some (nI tot)) (eo : ∀ j, j < 20400 → aI h0 (n + 55) (nI j) = some (op j)) (e1 : ∀ j, j < 20400 → aI h0 (n + 56) (nI j) = some (one j)) : ∀ (ls : List LnT) (k M m : Nat) (i nm pl : Nat → Int32), LNo ls M → M ≤ 8 → RLS h0 n bb op one k ls → k + ls.length = tot → ls.length < m → ∃ pl', f_X12_says_L38 10000 (n + 42) (nI bb) m (nI M) (nI k) (RWH h0 n i kf nm pl) = some (RWH h0 n i kf (nm1 (FR kf) ls nm) pl') := by
  intro ls
  induction ls with
  | nil =>
    intro k M m i nm pl _ _ _ hk hm
    have hk' : k = tot := hk
    obtain ⟨m, rfl⟩ : ∃ m', m = m' + 1 := ⟨m - 1, by omega⟩
    refine ⟨pl, ?_⟩
    rw [f_X12_says_L38.eq_2, Rw_s13, Option.bind_some, Rw_aI (by omega) (by omega), et, Option.bind_some, hk', if_pos (nle (Nat.le_refl tot) (by omega))]
    rfl
  | cons x ls ih =>
    intro k M m i nm pl hn hM hr hk hm
    have hk' : k + (ls.length + 1) = tot := hk
    have hm' : ls.length + 1 < m := hm
    obtain ⟨m, rfl⟩ : ∃ m', m = m' + 1 := ⟨m - 1, by omega⟩
    obtain ⟨⟨a1, a2, p, a3, a4, a5, a6, a7⟩, hr⟩ := hr
    rw [f_X12_says_L38.eq_2, Rw_s13, Option.bind_some, Rw_aI (by omega) (by omega), et, Option.bind_some, if_neg (nnle (by omega) (by omega)), P_ix', zlet, Rw_s14, Option.bind_some, Rw_aI (by omega) (by omega), a1, Option.bind_some]
    unfold nm1
    by_cases e : x.1 = 4
    · obtain ⟨b1, b2, b3⟩ := LNo_l hn e
      obtain ⟨pl1, w1⟩ := r_worth (h0 := h0) (n := n) (i := i) (kf := kf) (nm := nm) (pl := pl) hM eo e1 a4 a5 a6 hn.2.1.2.2 hn.2.1.1 hn.2.1.2.1 a7
      rw [kd4 e, if_pos rfl, Rw_s23, Option.bind_some, Rw_s16, Option.bind_some, Rw_aI (by omega) (by omega), a3, Option.bind_some, Rw_z, zif_t, w1, Option.bind_some, if_pos e, b1]
      show ∃ pl', ((sI (RWH h0 n i kf nm pl1) (n + 58) (nI M) (vl (FR kf) nm x.2.2)).bind _) = _
      rw [Rw_N (by omega), Option.bind_some, nI_1, nI_1]
      exact ih (k + 1) (M + 1) m i _ pl1 b3 (by omega) hr (by omega) (by omega)
    · obtain ⟨b1, b2⟩ := LNo_n hn e
      have z : ¬ kdR x.1 = 0 := by
        rcases b1 with b | b
        · rw [kd20 b.1]; decide
        · rw [kd5 b.1]; decide
      rw [if_neg z, if_neg e, nI_1]
      exact ih (k + 1) M m i nm pl b2 hM hr (by omega) (by omega)
theorem r_L98 {nm : Nat → Int32} (ht : tot ≤ 20) (et : aI h0 (n + 50) (nI bb) = some (nI tot)) (eo : ∀ j, j < 20400 → aI h0 (n + 55) (nI j) = some (op j)) (e1 : ∀ j, j < 20400 → aI h0 (n + 56) (nI j) = some (one j)) : ∀ (ls : List LnT) (k M m : Nat) (i pl : Nat → Int32), LNo ls M → M ≤ 8 → RLS h0 n bb op one k ls → k + ls.length = tot → ls.length < m → ∃ i' pl', f_X12_says_L98 10000 (n + 42) (nI bb) m (nI k) (RWH h0 n i kf nm pl) = some (RWH h0 n i' kf nm pl') ∧ i' 48 = lm1 (FR kf) nm ls (i 48) ∧ ∀ q, q ≠ 48 → i' q = i q := by
  intro ls
  induction ls with
  | nil =>
    intro k M m i pl _ _ _ hk hm
    have hk' : k = tot := hk
    obtain ⟨m, rfl⟩ : ∃ m', m = m' + 1 := ⟨m - 1, by omega⟩
    refine ⟨i, pl, ?_, rfl, fun _ _ => rfl⟩
    rw [f_X12_says_L98.eq_2, Rw_s13, Option.bind_some, Rw_aI (by omega) (by omega), et, Option.bind_some, hk', if_pos (nle (Nat.le_refl tot) (by omega))]
  | cons x ls ih =>
    intro k M m i pl hn hM hr hk hm
    have hk' : k + (ls.length + 1) = tot := hk
    have hm' : ls.length + 1 < m := hm
    obtain ⟨m, rfl⟩ : ∃ m', m = m' + 1 := ⟨m - 1, by omega⟩
    obtain ⟨⟨a1, a2, p, a3, a4, a5, a6, a7⟩, hr⟩ := hr
    rw [f_X12_says_L98.eq_2, Rw_s13, Option.bind_some, Rw_aI (by omega) (by omega), et, Option.bind_some, if_neg (nnle (by omega) (by omega)), P_ix', zlet, Rw_s14, Option.bind_some, Rw_aI (by omega) (by omega), a1, Option.bind_some]
    unfold lm1
    by_cases e : x.1 = 20
    · have e4 : ¬ x.1 = 4 := by omega
      obtain ⟨b1, b2⟩ := LNo_n hn e4
      rw [kd20 e, if_pos rfl, Rw_q48, Option.bind_some]
      by_cases z : i 48 = 0
      · obtain ⟨pl1, w1⟩ := r_worth (h0 := h0) (n := n) (i := i) (kf := kf) (nm := nm) (pl := pl) hM eo e1 a4 a5 a6 hn.2.1.2.2 hn.2.1.1 hn.2.1.2.1 a7
        rw [if_pos z, Rw_s16, Option.bind_some, Rw_aI (by omega) (by omega), a3, Option.bind_some, Rw_z, zif_t, w1, Option.bind_some]
        by_cases y : vl (FR kf) nm x.2.2 = 0
        · rw [if_pos y, if_neg (fun q => q.2.2 y), nI_1]
          exact ih (k + 1) M m i pl1 b2 hM hr (by omega) (by omega)
        · rw [if_neg y, if_pos ⟨e, z, y⟩]
          show ∃ i' pl', ((gR (RWH h0 n i kf nm pl1) (n + 42) 12 15).bind _) = _ ∧ _
          rw [Rw_s15, Option.bind_some]
          show ∃ i' pl', ((aI (RWH h0 n i kf nm pl1) (n + 52) _).bind _) = _ ∧ _
          rw [Rw_aI (by omega) (by omega), a2 e4, Option.bind_some]
          show ∃ i' pl', ((pF (RWH h0 n i kf nm pl1) (n + 42) 12 48 _).bind _) = _ ∧ _
          rw [Rw_Q48, Option.bind_some, nI_1]
          obtain ⟨i', pl', g1, g2, g3⟩ := ih (k + 1) M m (upd i 48 (nI x.2.1)) pl1 b2 hM hr (by omega) (by omega)
          refine ⟨i', pl', g1, g2, fun q hq => (g3 q hq).trans (if_neg hq)⟩
      · rw [if_neg z, if_neg (fun q => z q.2.1), nI_1]
        exact ih (k + 1) M m i pl b2 hM hr (by omega) (by omega)
    · have z : ¬ kdR x.1 = 19 := by
        by_cases c4 : x.1 = 4
        · rw [kd4 c4]; decide
        · rcases (LNo_n hn c4).1 with b | b
          · exact absurd b.1 e
          · rw [kd5 b.1]; decide
      rw [if_neg z, if_neg (fun q => e q.1), nI_1]
      by_cases c4 : x.1 = 4
      · obtain ⟨b1, b2, b3⟩ := LNo_l hn c4
        exact ih (k + 1) (M + 1) m i pl b3 (by omega) hr (by omega) (by omega)
      · exact ih (k + 1) M m i pl (LNo_n hn c4).2 hM hr (by omega) (by omega)
theorem r_L182 {nm : Nat → Int32} (ht : tot ≤ 20) (et : aI h0 (n + 50) (nI bb) = some (nI tot)) (eo : ∀ j, j < 20400 → aI h0 (n + 55) (nI j) = some (op j)) (e1 : ∀ j, j < 20400 → aI h0 (n + 56) (nI j) = some (one j)) : ∀ (ls : List LnT) (k M m : Nat) (i pl : Nat → Int32), LNo ls M → M ≤ 8 → RLS h0 n bb op one k ls → k + ls.length = tot → ls.length < m → i 47 = -1 → ∃ i' pl', f_X12_says_L182 10000 (n + 42) (nI bb) m (nI k) (RWH h0 n i kf nm pl) = some (RWH h0 n i' kf nm pl') ∧ (ff1 (FR kf) nm ls k = none → i' = i) ∧ (∀ w q, ff1 (FR kf) nm ls k = some (w, q) → i' 46 = nI w ∧ i' 47 = nI q) ∧ ∀ q, q ≠ 46 → q ≠ 47 → i' q = i q := by
  intro ls
  induction ls with
  | nil =>
    intro k M m i pl _ _ _ hk hm _
    have hk' : k = tot := hk
    obtain ⟨m, rfl⟩ : ∃ m', m = m' + 1 := ⟨m - 1, by omega⟩
    refine ⟨i, pl, ?_, fun _ => rfl, (fun w q e => nomatch e), fun _ _ _ => rfl⟩
    rw [f_X12_says_L182.eq_2, Rw_s13, Option.bind_some, Rw_aI (by omega) (by omega), et, Option.bind_some, hk', if_pos (nle (Nat.le_refl tot) (by omega))]
  | cons x ls ih =>
    intro k M m i pl hn hM hr hk hm h47
    have hk' : k + (ls.length + 1) = tot := hk
    have hm' : ls.length + 1 < m := hm
    obtain ⟨m, rfl⟩ : ∃ m', m = m' + 1 := ⟨m - 1, by omega⟩
    obtain ⟨⟨a1, a2, p, a3, a4, a5, a6, a7⟩, hr⟩ := hr
    rw [f_X12_says_L182.eq_2, Rw_s13, Option.bind_some, Rw_aI (by omega) (by omega), et, Option.bind_some, if_neg (nnle (by omega) (by omega)), Rw_q47, Option.bind_some, h47, if_neg (by decide), P_ix', zlet, Rw_s14, Option.bind_some, Rw_aI (by omega) (by omega), a1, Option.bind_some]
    have fe : ff1 (FR kf) nm (x :: ls) k = if x.1 = 5 ∧ ¬ vl (FR kf) nm x.2.2 = 0 then some (x.2.1, k) else ff1 (FR kf) nm ls (k + 1) := rfl
    rw [fe]
    by_cases e : x.1 = 5
    · have e4 : ¬ x.1 = 4 := by omega
      obtain ⟨b1, b2⟩ := LNo_n hn e4
      obtain ⟨pl1, w1⟩ := r_worth (h0 := h0) (n := n) (i := i) (kf := kf) (nm := nm) (pl := pl) hM eo e1 a4 a5 a6 hn.2.1.2.2 hn.2.1.1 hn.2.1.2.1 a7
      rw [kd5 e, if_pos rfl, Rw_s16, Option.bind_some, Rw_aI (by omega) (by omega), a3, Option.bind_some, Rw_z, zif_t, w1, Option.bind_some]
      by_cases y : vl (FR kf) nm x.2.2 = 0
      · rw [if_pos y, if_neg (fun q => q.2 y), nI_1]
        exact ih (k + 1) M m i pl1 b2 hM hr (by omega) (by omega) h47
      · rw [if_neg y, if_pos ⟨e, y⟩]
        show ∃ i' pl', ((gR (RWH h0 n i kf nm pl1) (n + 42) 12 15).bind _) = _ ∧ _
        rw [Rw_s15, Option.bind_some]
        show ∃ i' pl', ((aI (RWH h0 n i kf nm pl1) (n + 52) _).bind _) = _ ∧ _
        rw [Rw_aI (by omega) (by omega), a2 e4, Option.bind_some]
        show ∃ i' pl', ((pF (RWH h0 n i kf nm pl1) (n + 42) 12 46 _).bind _) = _ ∧ _
        rw [Rw_Q46, Option.bind_some, Rw_Q47, Option.bind_some, nI_1]
        refine ⟨upd (upd i 46 (nI x.2.1)) 47 (nI k), pl1, ?_, (fun z => nomatch z), fun w q z => ?_, fun q h1 h2 => (if_neg h2).trans (if_neg h1)⟩
        · obtain ⟨m, rfl⟩ : ∃ m', m = m' + 1 := ⟨m - 1, by omega⟩
          rw [f_X12_says_L182.eq_2, Rw_s13, Option.bind_some, Rw_aI (by omega) (by omega), et, Option.bind_some]
          by_cases c : nI tot ≤ nI (k + 1)
          · rw [if_pos c]
          · rw [if_neg c, Rw_q47, Option.bind_some, if_pos]
            exact (nI_r (show k ≤ 20 by omega) (by decide)).1
        · have z' := Option.some.inj z
          cases z'
          exact ⟨rfl, rfl⟩
    · have z : ¬ kdR x.1 = 1 := by
        by_cases c4 : x.1 = 4
        · rw [kd4 c4]; decide
        · rcases (LNo_n hn c4).1 with b | b
          · rw [kd20 b.1]; decide
          · exact absurd b.1 e
      rw [if_neg z, if_neg (fun q => e q.1), nI_1]
      by_cases c4 : x.1 = 4
      · obtain ⟨b1, b2, b3⟩ := LNo_l hn c4
        exact ih (k + 1) (M + 1) m i pl b3 (by omega) hr (by omega) (by omega) h47
      · exact ih (k + 1) M m i pl (LNo_n hn c4).2 hM hr (by omega) (by omega) h47
end RLO
