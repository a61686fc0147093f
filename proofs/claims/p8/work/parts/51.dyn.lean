/-! meetings, laws and their code -/
theorem wp_zletE {α β : Type} {Q : β → Prop} {x : α} {f : α → Option β} (k : ∀ y, y = x → wp (f y) Q) : wp (zlet x f) Q := k x rfl
theorem wp_bzletE {α β γ : Type} {Q : β → Prop} {x : γ} {p : γ → Option α} {f : α → Option β} (k : ∀ y, y = x → wp ((p y).bind f) Q) : wp ((zlet x p).bind f) Q := k x rfl
theorem ph2_r (a c : Int32) : 0 ≤ p_X2_phaseOf a c ∧ p_X2_phaseOf a c ≤ 3 := and3 _
theorem ph12_r (a c : Int32) : 0 ≤ p_X12_phaseOf a c ∧ p_X12_phaseOf a c ≤ 3 := and3 _
theorem isS_eq (v : Int32) : p_X2_isStream v = if 0 ≤ v ∧ v < 4 then 1 else 0 := by
  unfold p_X2_isStream
  have e1 : v < 0 ↔ ¬ 0 ≤ v := by rw [Int32.not_le]
  have e2 : 4 ≤ v ↔ ¬ v < 4 := by rw [Int32.not_lt]
  by_cases h1 : 0 ≤ v <;> by_cases h2 : v < 4 <;> simp [e1, e2, h1, h2]
theorem inS {v : Int32} {α : Type} {a b : Option α} {Q : α → Prop} (k1 : ¬ (0 ≤ v ∧ v < 4) → wp a Q) (k2 : 0 ≤ v ∧ v < 4 → wp b Q) : wp (if p_X2_isStream v = 0 then a else b) Q := by
  rw [isS_eq]
  by_cases c : 0 ≤ v ∧ v < 4
  · rw [if_pos c]; exact k2 c
  · rw [if_neg c]; exact k1 c
theorem inSb {v : Int32} {α β : Type} {a b : Option α} {f : α → Option β} {Q : β → Prop} (k1 : ¬ (0 ≤ v ∧ v < 4) → wp (a.bind f) Q) (k2 : 0 ≤ v ∧ v < 4 → wp (b.bind f) Q) : wp ((if p_X2_isStream v = 0 then a else b).bind f) Q := by
  rw [isS_eq]
  by_cases c : 0 ≤ v ∧ v < 4
  · rw [if_pos c]; exact k2 c
  · rw [if_neg c]; exact k1 c
theorem shl_r {c : Int32} (h0 : 0 ≤ c) (h1 : c < 9) : 0 < (1 : Int32) <<< (c &&& 31) ∧ (1 : Int32) <<< (c &&& 31) ≤ 256 := by
  have a : (0 : Int) ≤ c.toInt := by simpa using Int32.le_iff_toInt_le.mp h0
  have d : c.toInt < (9 : Int) := by simpa using Int32.lt_iff_toInt_lt.mp h1
  have e : c = Int32.ofInt c.toInt := by simp
  have k : ∃ m : Nat, m < 9 ∧ c.toInt = m := ⟨c.toInt.toNat, by omega, by omega⟩
  obtain ⟨m, hm, e2⟩ := k
  rw [e, e2]
  match m, hm with
  | 0, _ => decide
  | 1, _ => decide
  | 2, _ => decide
  | 3, _ => decide
  | 4, _ => decide
  | 5, _ => decide
  | 6, _ => decide
  | 7, _ => decide
  | 8, _ => decide
  | m + 9, hm => exact absurd hm (by omega)
theorem wp_bindE {α β : Type} {Q : β → Prop} {R : α → Prop} {o : Option α} {f : α → Option β} (e : wp o R) (k : ∀ a, o = some a → R a → wp (f a) Q) : wp (o.bind f) Q := by
  obtain ⟨a, e, r⟩ := e
  subst e
  exact k a rfl r
theorem mu_dp {i : Int32} (h0 : 0 ≤ i) (h1 : i ≤ 9000) {m : Nat} (hm : (i.toInt + 1).toNat < m + 1) : ((i + (-1)).toInt + 1).toNat < m := by
  have e : i + (-1) = i - 1 := by lia
  rw [e]
  exact mu_dn h0 h1 hm
theorem pF_at {h h2 : zH} {o ci k : Nat} {v : Value} (e : pF h o ci k v = some h2) : ∃ fs, h.2 o = some (.inr (ci, fs)) ∧ k < fs.length ∧ h2 = zset h o (.inr (ci, fs.set k v)) := by
  unfold pF at e
  split at e
  · rename_i c fs e0
    split at e
    · rename_i hc
      obtain ⟨rfl, hk⟩ := hc
      cases e
      exact ⟨fs, e0, hk, rfl⟩
    · cases e
  · cases e
theorem pZ_at {h h2 : zH} {o ci k : Nat} {x : Int32} (e : pZ h o ci k x = some h2) : pF h o ci k (.int x) = some h2 := by
  unfold pZ at e
  split at e
  · exact e
  · cases e
theorem gt_l {B : Option Int32} {x y : Int32} (p : 1 ≤ y ∨ B = some 0) (eB : B = some x) (ne : ¬ x = 0) : 1 ≤ y := by
  rcases p with p | p
  · exact p
  · rw [eB] at p
    cases p
    exact absurd rfl ne
theorem gt_ge {A B : Option Int32} {x y : Int32} (p : ∃ e, A = some e ∧ (1 ≤ e ∨ B = some 0)) (eB : B = some x) (ne : ¬ x = 0) (eA : A = some y) : 1 ≤ y := by
  obtain ⟨e, q1, q2⟩ := p
  rw [eA] at q1
  cases q1
  rcases q2 with q2 | q2
  · exact q2
  · rw [eB] at q2
    cases q2
    exact absurd rfl ne
theorem pF_gI {h h2 : zH} {o ci k : Nat} {x : Int32} (e : pF h o ci k (.int x) = some h2) : gI h2 o ci k = some x := by
  obtain ⟨fs, e0, hk, rfl⟩ := pF_at e
  rw [gI_zs, List.getElem?_set_self hk]
  rfl
theorem pF_keep {h h2 : zH} {o ci k : Nat} {v : Value} (e : pF h o ci k v = some h2) {p cj q : Nat} (ne : p ≠ o) : gI h2 p cj q = gI h p cj q := by
  obtain ⟨fs, e0, hk, rfl⟩ := pF_at e
  exact gI_zn ne _ _
theorem pF_keepk {h h2 : zH} {o ci k : Nat} {v : Value} (e : pF h o ci k v = some h2) {q : Nat} (ne : k ≠ q) : gI h2 o ci q = gI h o ci q := by
  obtain ⟨fs, e0, hk, rfl⟩ := pF_at e
  rw [gI_zs, List.getElem?_set_ne ne]
  unfold gI gV
  rw [e0]
  simp
theorem sa_keep {h h2 : zH} {a : Nat} (e : ∃ c, h2 = zset h a c) {p cj q : Nat} (ne : p ≠ a) : gI h2 p cj q = gI h p cj q := by
  obtain ⟨c, rfl⟩ := e
  exact gI_zn ne _ _
theorem keep_sI {h h2 : zH} {a : Nat} {i x : Int32} (e : sI h a i x = some h2) : ∃ c, h2 = zset h a c := by
  unfold sI at e
  split at e
  · split at e
    · cases e; exact ⟨_, rfl⟩
    · cases e
  · cases e
theorem keep_sB {h h2 : zH} {a : Nat} {i x : Int32} (e : sB h a i x = some h2) : ∃ c, h2 = zset h a c := by
  unfold sB at e
  split at e
  · split at e
    · cases e; exact ⟨_, rfl⟩
    · cases e
  · cases e
theorem keep_sZ {h h2 : zH} {a : Nat} {i x : Int32} (e : sZ h a i x = some h2) : ∃ c, h2 = zset h a c := by
  unfold sZ at e
  split at e
  · split at e
    · cases e; exact ⟨_, rfl⟩
    · cases e
  · cases e
theorem keep_sL {h h2 : zH} {a : Nat} {i : Int32} {x : Int64} (e : sL h a i x = some h2) : ∃ c, h2 = zset h a c := by
  unfold sL at e
  split at e
  · split at e
    · cases e; exact ⟨_, rfl⟩
    · cases e
  · cases e
section DYN
variable {n b L : Nat} {xs : Nat → Int32} {τ : Nat → Nat} {g : zGh} {h : zH} {a : Nat}
theorem mt_of (w : WT n b L xs τ g h) (t : τ a = 1) : ∃ c, h.2 a = some c ∧ KM c := by
  obtain ⟨-, -, c, e, k⟩ := w.2.1 a (by rw [t]; decide)
  rw [t] at k
  exact ⟨c, e, k⟩
theorem lw_of (w : WT n b L xs τ g h) (t : τ a = 2) : ∃ c, h.2 a = some c ∧ KL τ c := by
  obtain ⟨-, -, c, e, k⟩ := w.2.1 a (by rw [t]; decide)
  rw [t] at k
  exact ⟨c, e, k⟩
theorem cd_of (w : WT n b L xs τ g h) (t : 3 ≤ τ a) : ∃ c, h.2 a = some c ∧ KC (τ a - 3) c := by
  obtain ⟨-, -, c, e, k⟩ := w.2.1 a (by omega)
  obtain ⟨m, hm⟩ : ∃ m, τ a = m + 3 := ⟨τ a - 3, by omega⟩
  rw [hm] at k
  refine ⟨c, e, ?_⟩
  rw [hm]
  exact k
theorem ob_m (w : WT n b L xs τ g h) (t : τ a = 1) : zob h a 6 = true := by
  obtain ⟨c, e, i, rfl, r⟩ := mt_of w t
  exact zob_of e
theorem ob_l (w : WT n b L xs τ g h) (t : τ a = 2) : zob h a 4 = true := by
  obtain ⟨c, e, x, y, q, rfl, r⟩ := lw_of w t
  exact zob_of e
theorem gI_l_0 (w : WT n b L xs τ g h) (t : τ a = 2) : wp (gI h a 4 0) (fun _ => True) := by
  obtain ⟨c, e, x, y, q, rfl, r⟩ := lw_of w t
  exact ⟨_, gI_of e rfl, trivial⟩
theorem gI_l_1 (w : WT n b L xs τ g h) (t : τ a = 2) : wp (gI h a 4 1) (fun _ => True) := by
  obtain ⟨c, e, x, y, q, rfl, r⟩ := lw_of w t
  exact ⟨_, gI_of e rfl, trivial⟩
theorem gR_l (w : WT n b L xs τ g h) (t : τ a = 2) : wp (gR h a 4 2) (fun q => 3 ≤ τ q) := by
  obtain ⟨c, e, x, y, q, rfl, r⟩ := lw_of w t
  exact ⟨_, gR_of e rfl, r⟩
theorem aN_c (w : WT n b L xs τ g h) (t : 3 ≤ τ a) : wp (aN h a) (fun x => x = Int32.ofNat (τ a - 3) ∧ 0 ≤ x ∧ x ≤ 1000) := by
  obtain ⟨c, e, f, rfl, r1, r2⟩ := cd_of w t
  refine ⟨_, aN_of e (by decide), rfl, ?_, ?_⟩
  · refine Int32.le_iff_toInt_le.mpr ?_
    rw [Int32.toInt_ofNat_of_lt (by omega)]
    show (0 : Int) ≤ _
    omega
  · refine Int32.le_iff_toInt_le.mpr ?_
    rw [Int32.toInt_ofNat_of_lt (by omega)]
    show _ ≤ (1000 : Int)
    omega
theorem aI_c {i : Int32} (w : WT n b L xs τ g h) (t : 3 ≤ τ a) (i0 : 0 ≤ i) (i1 : i < Int32.ofNat (τ a - 3)) : wp (aI h a i) (fun x => 0 ≤ x ∧ x ≤ 40000) := by
  obtain ⟨c, e, f, rfl, r1, r2⟩ := cd_of w t
  exact ⟨_, aI_to e (by omega) i0 i1, r2 _ (i32_clamp i0 (by omega) i1).2⟩
theorem gI_m_0 (w : WT n b L xs τ g h) (t : τ a = 1) : wp (gI h a 6 0) (fun x => True) := by
  obtain ⟨c, e, i, rfl, ⟨r0, r1, r2, r3, r4, r5⟩⟩ := mt_of w t
  exact ⟨_, gI_of e rfl, trivial⟩
theorem pI_m_0 {x : Int32} (w : WT n b L xs τ g h) (t : τ a = 1) : wp (pF h a 6 0 (.int x)) (fun h2 => WT n b L xs τ g h2) := by
  obtain ⟨c, e, i, rfl, ⟨r0, r1, r2, r3, r4, r5⟩⟩ := mt_of w t
  refine ⟨_, pF_of e (Nat.le_of_ble_eq_true rfl), w.dyn (by rw [t]; decide) ?_⟩
  rw [t]
  exact ⟨upd i 0 x, rfl, r0, r1, r2, r3, r4, r5⟩
theorem gI_m_1 (w : WT n b L xs τ g h) (t : τ a = 1) : wp (gI h a 6 1) (fun x => 1 ≤ x ∧ x ≤ 300) := by
  obtain ⟨c, e, i, rfl, ⟨r0, r1, r2, r3, r4, r5⟩⟩ := mt_of w t
  exact ⟨_, gI_of e rfl, ⟨r0, r1⟩⟩
theorem pI_m_1 {x : Int32} (w : WT n b L xs τ g h) (t : τ a = 1) (z0 : 1 ≤ x) (z1 : x ≤ 300) : wp (pF h a 6 1 (.int x)) (fun h2 => WT n b L xs τ g h2) := by
  obtain ⟨c, e, i, rfl, ⟨r0, r1, r2, r3, r4, r5⟩⟩ := mt_of w t
  refine ⟨_, pF_of e (Nat.le_of_ble_eq_true rfl), w.dyn (by rw [t]; decide) ?_⟩
  rw [t]
  exact ⟨upd i 1 x, rfl, z0, z1, r2, r3, r4, r5⟩
theorem gI_m_2 (w : WT n b L xs τ g h) (t : τ a = 1) : wp (gI h a 6 2) (fun x => True) := by
  obtain ⟨c, e, i, rfl, ⟨r0, r1, r2, r3, r4, r5⟩⟩ := mt_of w t
  exact ⟨_, gI_of e rfl, trivial⟩
theorem pI_m_2 {x : Int32} (w : WT n b L xs τ g h) (t : τ a = 1) : wp (pF h a 6 2 (.int x)) (fun h2 => WT n b L xs τ g h2) := by
  obtain ⟨c, e, i, rfl, ⟨r0, r1, r2, r3, r4, r5⟩⟩ := mt_of w t
  refine ⟨_, pF_of e (Nat.le_of_ble_eq_true rfl), w.dyn (by rw [t]; decide) ?_⟩
  rw [t]
  exact ⟨upd i 2 x, rfl, r0, r1, r2, r3, r4, r5⟩
theorem gI_m_3 (w : WT n b L xs τ g h) (t : τ a = 1) : wp (gI h a 6 3) (fun x => True) := by
  obtain ⟨c, e, i, rfl, ⟨r0, r1, r2, r3, r4, r5⟩⟩ := mt_of w t
  exact ⟨_, gI_of e rfl, trivial⟩
theorem pI_m_3 {x : Int32} (w : WT n b L xs τ g h) (t : τ a = 1) : wp (pF h a 6 3 (.int x)) (fun h2 => WT n b L xs τ g h2) := by
  obtain ⟨c, e, i, rfl, ⟨r0, r1, r2, r3, r4, r5⟩⟩ := mt_of w t
  refine ⟨_, pF_of e (Nat.le_of_ble_eq_true rfl), w.dyn (by rw [t]; decide) ?_⟩
  rw [t]
  exact ⟨upd i 3 x, rfl, r0, r1, r2, r3, r4, r5⟩
theorem gI_m_4 (w : WT n b L xs τ g h) (t : τ a = 1) : wp (gI h a 6 4) (fun x => True) := by
  obtain ⟨c, e, i, rfl, ⟨r0, r1, r2, r3, r4, r5⟩⟩ := mt_of w t
  exact ⟨_, gI_of e rfl, trivial⟩
theorem pI_m_4 {x : Int32} (w : WT n b L xs τ g h) (t : τ a = 1) : wp (pF h a 6 4 (.int x)) (fun h2 => WT n b L xs τ g h2) := by
  obtain ⟨c, e, i, rfl, ⟨r0, r1, r2, r3, r4, r5⟩⟩ := mt_of w t
  refine ⟨_, pF_of e (Nat.le_of_ble_eq_true rfl), w.dyn (by rw [t]; decide) ?_⟩
  rw [t]
  exact ⟨upd i 4 x, rfl, r0, r1, r2, r3, r4, r5⟩
theorem gI_m_5 (w : WT n b L xs τ g h) (t : τ a = 1) : wp (gI h a 6 5) (fun x => True) := by
  obtain ⟨c, e, i, rfl, ⟨r0, r1, r2, r3, r4, r5⟩⟩ := mt_of w t
  exact ⟨_, gI_of e rfl, trivial⟩
theorem pI_m_5 {x : Int32} (w : WT n b L xs τ g h) (t : τ a = 1) : wp (pF h a 6 5 (.int x)) (fun h2 => WT n b L xs τ g h2) := by
  obtain ⟨c, e, i, rfl, ⟨r0, r1, r2, r3, r4, r5⟩⟩ := mt_of w t
  refine ⟨_, pF_of e (Nat.le_of_ble_eq_true rfl), w.dyn (by rw [t]; decide) ?_⟩
  rw [t]
  exact ⟨upd i 5 x, rfl, r0, r1, r2, r3, r4, r5⟩
theorem gI_m_6 (w : WT n b L xs τ g h) (t : τ a = 1) : wp (gI h a 6 6) (fun x => True) := by
  obtain ⟨c, e, i, rfl, ⟨r0, r1, r2, r3, r4, r5⟩⟩ := mt_of w t
  exact ⟨_, gI_of e rfl, trivial⟩
theorem pI_m_6 {x : Int32} (w : WT n b L xs τ g h) (t : τ a = 1) : wp (pF h a 6 6 (.int x)) (fun h2 => WT n b L xs τ g h2) := by
  obtain ⟨c, e, i, rfl, ⟨r0, r1, r2, r3, r4, r5⟩⟩ := mt_of w t
  refine ⟨_, pF_of e (Nat.le_of_ble_eq_true rfl), w.dyn (by rw [t]; decide) ?_⟩
  rw [t]
  exact ⟨upd i 6 x, rfl, r0, r1, r2, r3, r4, r5⟩
theorem gI_m_7 (w : WT n b L xs τ g h) (t : τ a = 1) : wp (gI h a 6 7) (fun x => True) := by
  obtain ⟨c, e, i, rfl, ⟨r0, r1, r2, r3, r4, r5⟩⟩ := mt_of w t
  exact ⟨_, gI_of e rfl, trivial⟩
theorem pI_m_7 {x : Int32} (w : WT n b L xs τ g h) (t : τ a = 1) : wp (pF h a 6 7 (.int x)) (fun h2 => WT n b L xs τ g h2) := by
  obtain ⟨c, e, i, rfl, ⟨r0, r1, r2, r3, r4, r5⟩⟩ := mt_of w t
  refine ⟨_, pF_of e (Nat.le_of_ble_eq_true rfl), w.dyn (by rw [t]; decide) ?_⟩
  rw [t]
  exact ⟨upd i 7 x, rfl, r0, r1, r2, r3, r4, r5⟩
theorem gI_m_8 (w : WT n b L xs τ g h) (t : τ a = 1) : wp (gI h a 6 8) (fun x => True) := by
  obtain ⟨c, e, i, rfl, ⟨r0, r1, r2, r3, r4, r5⟩⟩ := mt_of w t
  exact ⟨_, gI_of e rfl, trivial⟩
theorem pI_m_8 {x : Int32} (w : WT n b L xs τ g h) (t : τ a = 1) : wp (pF h a 6 8 (.int x)) (fun h2 => WT n b L xs τ g h2) := by
  obtain ⟨c, e, i, rfl, ⟨r0, r1, r2, r3, r4, r5⟩⟩ := mt_of w t
  refine ⟨_, pF_of e (Nat.le_of_ble_eq_true rfl), w.dyn (by rw [t]; decide) ?_⟩
  rw [t]
  exact ⟨upd i 8 x, rfl, r0, r1, r2, r3, r4, r5⟩
theorem gI_m_9 (w : WT n b L xs τ g h) (t : τ a = 1) : wp (gI h a 6 9) (fun x => 0 ≤ x ∧ x ≤ 2) := by
  obtain ⟨c, e, i, rfl, ⟨r0, r1, r2, r3, r4, r5⟩⟩ := mt_of w t
  exact ⟨_, gI_of e rfl, ⟨r2, r3⟩⟩
theorem pI_m_9 {x : Int32} (w : WT n b L xs τ g h) (t : τ a = 1) (z0 : 0 ≤ x) (z1 : x ≤ 2) : wp (pF h a 6 9 (.int x)) (fun h2 => WT n b L xs τ g h2) := by
  obtain ⟨c, e, i, rfl, ⟨r0, r1, r2, r3, r4, r5⟩⟩ := mt_of w t
  refine ⟨_, pF_of e (Nat.le_of_ble_eq_true rfl), w.dyn (by rw [t]; decide) ?_⟩
  rw [t]
  exact ⟨upd i 9 x, rfl, r0, r1, z0, z1, r4, r5⟩
theorem gI_m_10 (w : WT n b L xs τ g h) (t : τ a = 1) : wp (gI h a 6 10) (fun x => True) := by
  obtain ⟨c, e, i, rfl, ⟨r0, r1, r2, r3, r4, r5⟩⟩ := mt_of w t
  exact ⟨_, gI_of e rfl, trivial⟩
theorem pI_m_10 {x : Int32} (w : WT n b L xs τ g h) (t : τ a = 1) : wp (pF h a 6 10 (.int x)) (fun h2 => WT n b L xs τ g h2) := by
  obtain ⟨c, e, i, rfl, ⟨r0, r1, r2, r3, r4, r5⟩⟩ := mt_of w t
  refine ⟨_, pF_of e (Nat.le_of_ble_eq_true rfl), w.dyn (by rw [t]; decide) ?_⟩
  rw [t]
  exact ⟨upd i 10 x, rfl, r0, r1, r2, r3, r4, r5⟩
theorem gI_m_11 (w : WT n b L xs τ g h) (t : τ a = 1) : wp (gI h a 6 11) (fun x => (-1) ≤ x ∧ x ≤ 60) := by
  obtain ⟨c, e, i, rfl, ⟨r0, r1, r2, r3, r4, r5⟩⟩ := mt_of w t
  exact ⟨_, gI_of e rfl, ⟨r4, r5⟩⟩
theorem pI_m_11 {x : Int32} (w : WT n b L xs τ g h) (t : τ a = 1) (z0 : (-1) ≤ x) (z1 : x ≤ 60) : wp (pF h a 6 11 (.int x)) (fun h2 => WT n b L xs τ g h2) := by
  obtain ⟨c, e, i, rfl, ⟨r0, r1, r2, r3, r4, r5⟩⟩ := mt_of w t
  refine ⟨_, pF_of e (Nat.le_of_ble_eq_true rfl), w.dyn (by rw [t]; decide) ?_⟩
  rw [t]
  exact ⟨upd i 11 x, rfl, r0, r1, r2, r3, z0, z1⟩
theorem gI_m_12 (w : WT n b L xs τ g h) (t : τ a = 1) : wp (gI h a 6 12) (fun x => True) := by
  obtain ⟨c, e, i, rfl, ⟨r0, r1, r2, r3, r4, r5⟩⟩ := mt_of w t
  exact ⟨_, gI_of e rfl, trivial⟩
theorem pI_m_12 {x : Int32} (w : WT n b L xs τ g h) (t : τ a = 1) : wp (pF h a 6 12 (.int x)) (fun h2 => WT n b L xs τ g h2) := by
  obtain ⟨c, e, i, rfl, ⟨r0, r1, r2, r3, r4, r5⟩⟩ := mt_of w t
  refine ⟨_, pF_of e (Nat.le_of_ble_eq_true rfl), w.dyn (by rw [t]; decide) ?_⟩
  rw [t]
  exact ⟨upd i 12 x, rfl, r0, r1, r2, r3, r4, r5⟩
theorem gI_m_13 (w : WT n b L xs τ g h) (t : τ a = 1) : wp (gI h a 6 13) (fun x => True) := by
  obtain ⟨c, e, i, rfl, ⟨r0, r1, r2, r3, r4, r5⟩⟩ := mt_of w t
  exact ⟨_, gI_of e rfl, trivial⟩
theorem pI_m_13 {x : Int32} (w : WT n b L xs τ g h) (t : τ a = 1) : wp (pF h a 6 13 (.int x)) (fun h2 => WT n b L xs τ g h2) := by
  obtain ⟨c, e, i, rfl, ⟨r0, r1, r2, r3, r4, r5⟩⟩ := mt_of w t
  refine ⟨_, pF_of e (Nat.le_of_ble_eq_true rfl), w.dyn (by rw [t]; decide) ?_⟩
  rw [t]
  exact ⟨upd i 13 x, rfl, r0, r1, r2, r3, r4, r5⟩
theorem gI_m_14 (w : WT n b L xs τ g h) (t : τ a = 1) : wp (gI h a 6 14) (fun x => True) := by
  obtain ⟨c, e, i, rfl, ⟨r0, r1, r2, r3, r4, r5⟩⟩ := mt_of w t
  exact ⟨_, gI_of e rfl, trivial⟩
theorem pI_m_14 {x : Int32} (w : WT n b L xs τ g h) (t : τ a = 1) : wp (pF h a 6 14 (.int x)) (fun h2 => WT n b L xs τ g h2) := by
  obtain ⟨c, e, i, rfl, ⟨r0, r1, r2, r3, r4, r5⟩⟩ := mt_of w t
  refine ⟨_, pF_of e (Nat.le_of_ble_eq_true rfl), w.dyn (by rw [t]; decide) ?_⟩
  rw [t]
  exact ⟨upd i 14 x, rfl, r0, r1, r2, r3, r4, r5⟩
theorem gI_m_15 (w : WT n b L xs τ g h) (t : τ a = 1) : wp (gI h a 6 15) (fun x => True) := by
  obtain ⟨c, e, i, rfl, ⟨r0, r1, r2, r3, r4, r5⟩⟩ := mt_of w t
  exact ⟨_, gI_of e rfl, trivial⟩
theorem pI_m_15 {x : Int32} (w : WT n b L xs τ g h) (t : τ a = 1) : wp (pF h a 6 15 (.int x)) (fun h2 => WT n b L xs τ g h2) := by
  obtain ⟨c, e, i, rfl, ⟨r0, r1, r2, r3, r4, r5⟩⟩ := mt_of w t
  refine ⟨_, pF_of e (Nat.le_of_ble_eq_true rfl), w.dyn (by rw [t]; decide) ?_⟩
  rw [t]
  exact ⟨upd i 15 x, rfl, r0, r1, r2, r3, r4, r5⟩
theorem gr_0_10 (w : WT n b L xs τ g h) : 0 ≤ g.1 0 10 ∧ g.1 0 10 ≤ 40 := by
  obtain ⟨x, e, q⟩ := gI_0_10 w
  rw [← q.1]
  exact q.2
theorem gr_0_11 (w : WT n b L xs τ g h) : 0 ≤ g.1 0 11 ∧ g.1 0 11 ≤ 30 := by
  obtain ⟨x, e, q⟩ := gI_0_11 w
  rw [← q.1]
  exact q.2
theorem gr_0_12 (w : WT n b L xs τ g h) : (-1) ≤ g.1 0 12 ∧ g.1 0 12 ≤ 30 := by
  obtain ⟨x, e, q⟩ := gI_0_12 w
  rw [← q.1]
  exact q.2
theorem gr_3_2 (w : WT n b L xs τ g h) : 0 ≤ g.1 3 2 ∧ g.1 3 2 ≤ 1000 := by
  obtain ⟨x, e, q⟩ := gI_3_2 w
  rw [← q.1]
  exact q.2
theorem gr_3_3 (w : WT n b L xs τ g h) : 0 ≤ g.1 3 3 ∧ g.1 3 3 ≤ 1000 := by
  obtain ⟨x, e, q⟩ := gI_3_3 w
  rw [← q.1]
  exact q.2
theorem gr_3_4 (w : WT n b L xs τ g h) : 0 ≤ g.1 3 4 ∧ g.1 3 4 ≤ 203 := by
  obtain ⟨x, e, q⟩ := gI_3_4 w
  rw [← q.1]
  exact q.2
theorem gr_3_5 (w : WT n b L xs τ g h) : 0 ≤ g.1 3 5 ∧ g.1 3 5 ≤ 1000 := by
  obtain ⟨x, e, q⟩ := gI_3_5 w
  rw [← q.1]
  exact q.2
theorem gr_3_6 (w : WT n b L xs τ g h) : 0 ≤ g.1 3 6 ∧ g.1 3 6 ≤ 9999 := by
  obtain ⟨x, e, q⟩ := gI_3_6 w
  rw [← q.1]
  exact q.2
theorem gr_6_4 (w : WT n b L xs τ g h) : 0 ≤ g.1 6 4 ∧ g.1 6 4 ≤ 100 := by
  obtain ⟨x, e, q⟩ := gI_6_4 w
  rw [← q.1]
  exact q.2
theorem gr_6_5 (w : WT n b L xs τ g h) : 0 ≤ g.1 6 5 ∧ g.1 6 5 ≤ 1000 := by
  obtain ⟨x, e, q⟩ := gI_6_5 w
  rw [← q.1]
  exact q.2
theorem gr_6_6 (w : WT n b L xs τ g h) : 0 ≤ g.1 6 6 ∧ g.1 6 6 ≤ 32 := by
  obtain ⟨x, e, q⟩ := gI_6_6 w
  rw [← q.1]
  exact q.2
theorem gr_10_3 (w : WT n b L xs τ g h) : 0 ≤ g.1 10 3 ∧ g.1 10 3 ≤ 16 := by
  obtain ⟨x, e, q⟩ := gI_10_3 w
  rw [← q.1]
  exact q.2
theorem gr_14_5 (w : WT n b L xs τ g h) : 0 ≤ g.1 14 5 ∧ g.1 14 5 ≤ 80 := by
  obtain ⟨x, e, q⟩ := gI_14_5 w
  rw [← q.1]
  exact q.2
theorem gr_20_4 (w : WT n b L xs τ g h) : 0 ≤ g.1 20 4 ∧ g.1 20 4 ≤ 4 := by
  obtain ⟨x, e, q⟩ := gI_20_4 w
  rw [← q.1]
  exact q.2
theorem gr_25_4 (w : WT n b L xs τ g h) : 0 ≤ g.1 25 4 ∧ g.1 25 4 ≤ 1 := by
  obtain ⟨x, e, q⟩ := gI_25_4 w
  rw [← q.1]
  exact q.2
theorem gr_25_6 (w : WT n b L xs τ g h) : 0 ≤ g.1 25 6 ∧ g.1 25 6 ≤ 8 := by
  obtain ⟨x, e, q⟩ := gI_25_6 w
  rw [← q.1]
  exact q.2
theorem gr_33_10 (w : WT n b L xs τ g h) : 0 ≤ g.1 33 10 ∧ g.1 33 10 ≤ 8 := by
  obtain ⟨x, e, q⟩ := gI_33_10 w
  rw [← q.1]
  exact q.2
theorem gr_42_2 (w : WT n b L xs τ g h) : 0 ≤ g.1 42 2 ∧ g.1 42 2 ≤ 1000 := by
  obtain ⟨x, e, q⟩ := gI_42_2 w
  rw [← q.1]
  exact q.2
theorem gr_42_7 (w : WT n b L xs τ g h) : 0 ≤ g.1 42 7 ∧ g.1 42 7 ≤ 1001 := by
  obtain ⟨x, e, q⟩ := gI_42_7 w
  rw [← q.1]
  exact q.2
theorem gr_42_10 (w : WT n b L xs τ g h) : 0 ≤ g.1 42 10 ∧ g.1 42 10 ≤ 16 := by
  obtain ⟨x, e, q⟩ := gI_42_10 w
  rw [← q.1]
  exact q.2
theorem gr_42_17 (w : WT n b L xs τ g h) : 0 ≤ g.1 42 17 ∧ g.1 42 17 ≤ 8 := by
  obtain ⟨x, e, q⟩ := gI_42_17 w
  rw [← q.1]
  exact q.2
theorem gr_42_19 (w : WT n b L xs τ g h) : 0 ≤ g.1 42 19 ∧ g.1 42 19 ≤ 1199 := by
  obtain ⟨x, e, q⟩ := gI_42_19 w
  rw [← q.1]
  exact q.2
theorem gr_42_25 (w : WT n b L xs τ g h) : 0 ≤ g.1 42 25 ∧ g.1 42 25 ≤ 30 := by
  obtain ⟨x, e, q⟩ := gI_42_25 w
  rw [← q.1]
  exact q.2
theorem gr_42_26 (w : WT n b L xs τ g h) : (-1) ≤ g.1 42 26 ∧ g.1 42 26 ≤ 30 := by
  obtain ⟨x, e, q⟩ := gI_42_26 w
  rw [← q.1]
  exact q.2
theorem gr_42_27 (w : WT n b L xs τ g h) : 0 ≤ g.1 42 27 ∧ g.1 42 27 ≤ 40 := by
  obtain ⟨x, e, q⟩ := gI_42_27 w
  rw [← q.1]
  exact q.2
theorem gr_42_49 (w : WT n b L xs τ g h) : 0 ≤ g.1 42 49 ∧ g.1 42 49 ≤ 80 := by
  obtain ⟨x, e, q⟩ := gI_42_49 w
  rw [← q.1]
  exact q.2
theorem gr_42_63 (w : WT n b L xs τ g h) : (-1) ≤ g.1 42 63 ∧ g.1 42 63 ≤ 255 := by
  obtain ⟨x, e, q⟩ := gI_42_63 w
  rw [← q.1]
  exact q.2
theorem gr_42_67 (w : WT n b L xs τ g h) : 0 ≤ g.1 42 67 ∧ g.1 42 67 ≤ 8 := by
  obtain ⟨x, e, q⟩ := gI_42_67 w
  rw [← q.1]
  exact q.2
theorem gr_42_76 (w : WT n b L xs τ g h) : 0 ≤ g.1 42 76 ∧ g.1 42 76 ≤ 8 := by
  obtain ⟨x, e, q⟩ := gI_42_76 w
  rw [← q.1]
  exact q.2
theorem t_fill_40 {v : Int32} : ∀ (m : Nat) {i : Int32} {h : zH}, WT n b L xs τ g h → 0 ≤ i → (9000 - i.toInt).toNat < m → wp (f_J7_fill_53178_L5 10000 (n + 40) v 9 m i h) (fun r => WT n b L xs τ g r) := by
  intro m
  induction m with
  | zero => intro i h w i0 hm; exact absurd hm (Nat.not_lt_zero _)
  | succ m ih =>
    intro i h w i0 hm
    rw [f_J7_fill_53178_L5.eq_2]
    refine wp_ite (fun c => wp_some w) (fun c => ?_)
    refine wp_bind (sI_40 w i0 (by lia)) fun h2 w2 => ?_
    exact ih w2 (by lia) (mu_up (by lia) (by lia) hm)
theorem fill_40 {v : Int32} (w : WT n b L xs τ g h) : wp (f_J7_fill_53178 10000 (n + 40) v h) (fun r => WT n b L xs τ g r) := by
  unfold f_J7_fill_53178
  refine wp_eq (aN_40 w) ?_
  refine wp_bind (t_fill_40 _ w (by decide) (mu_0 (by decide))) fun r w2 => wp_some w2
theorem sQ_15 {i : Int32} (w : WT n b L xs τ g h) (i0 : 0 ≤ i) (i1 : i < 80) (t : τ a = 1) : wp (sQ h (n + 15) i a) (fun h2 => WT n b L xs τ g h2) := by
  obtain ⟨c, e, ⟨f, rfl, r⟩⟩ := w.1 15 (by decide)
  obtain ⟨p, q⟩ := i32_clamp i0 (N := 80) (by decide) i1
  refine ⟨_, by simp [sQ, e, p, q, ob_m w t]; rfl, w.set (j := 15) (by decide) ⟨_, rfl, fun k x hx => ?_⟩⟩
  by_cases ek : k = i.toNatClampNeg
  · simp [va_up, ek] at hx
    exact hx ▸ t
  · simp [va_up, ek] at hx
    exact r k x hx
theorem sQ_11 {i : Int32} (w : WT n b L xs τ g h) (i0 : 0 ≤ i) (i1 : i < 16) (t : τ a = 2) : wp (sQ h (n + 11) i a) (fun h2 => WT n b L xs τ g h2) := by
  obtain ⟨c, e, ⟨f, rfl, r⟩⟩ := w.1 11 (by decide)
  obtain ⟨p, q⟩ := i32_clamp i0 (N := 16) (by decide) i1
  refine ⟨_, by simp [sQ, e, p, q, ob_l w t]; rfl, w.set (j := 11) (by decide) ⟨_, rfl, fun k x hx => ?_⟩⟩
  by_cases ek : k = i.toNatClampNeg
  · simp [va_up, ek] at hx
    exact hx ▸ t
  · simp [va_up, ek] at hx
    exact r k x hx
theorem cp_18_19 (w : WT n b L xs τ g h) : wp (cpI h (n + 18) 0 (n + 19) 0 128) (fun h2 => WT n b L xs τ g h2) := by
  obtain ⟨c, e, ⟨f, rfl, r⟩⟩ := w.1 18 (by decide)
  obtain ⟨c2, e2, ⟨f2, rfl, r2⟩⟩ := w.1 19 (by decide)
  refine ⟨_, ?_, w.set (j := 19) (by decide) ⟨va_cpy f f2 0 0 128, rfl, trivial⟩⟩
  unfold cpI
  rw [e, e2]
  rfl
end DYN
