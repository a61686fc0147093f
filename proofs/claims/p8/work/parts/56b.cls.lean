/-! the class: feed, law, at, fell -/
section CLS2
variable {n b L : Nat} {xs : Nat → Int32} {τ : Nat → Nat} {g : zGh} {h : zH}
set_option maxHeartbeats 4000000 in
theorem u_X9_put_L3 (v : Int64) : ∀ (m j : Nat) {s : Int32} {f : Nat → Int32} {h : zH}, j ≤ 8 → j < m → WT n b L xs τ (gF g s f) h → wp (f_X9_put_L3 10000 (n + 3) v m (nI (8 * j) - 8) h) (fun r => ∃ f', WT n b L xs τ (gF g (fz v j s) f') r) := by
  intro m
  induction m with
  | zero => intro j s f h _ hm w; exact absurd hm (Nat.not_lt_zero _)
  | succ m ih =>
    intro j s f h hj hm w
    rw [f_X9_put_L3.eq_2]
    cases j with
    | zero =>
      rw [if_pos (by decide)]
      exact wp_some ⟨f, w⟩
    | succ j =>
      rw [sh8, if_neg (nI_pos (by omega))]
      have rs : 0 ≤ s ∧ s ≤ 1000 := gr_3_2 w
      have es : (gF g s f).1 3 2 = s := rfl
      refine wp_zletE fun x ex => ?_
      have ex' : byc v (nI (8 * j)) = x := ex.symm
      have efz : fz v (j + 1) s = fz v j (if (x = 10 ∨ 32 ≤ x ∧ x ≤ 126) ∧ ¬ 1000 ≤ s then s + 1 else s) := by
        rw [← ex']
        rfl
      rw [efz]
      rw [sh8']
      refine wp_bind (R := fun r => match r with | .inl a => a = nI (8 * j) ∧ (x = 10 ∨ 32 ≤ x ∧ x ≤ 126) | .inr a => ∃ f', WT n b L xs τ (gF g (fz v j (if (x = 10 ∨ 32 ≤ x ∧ x ≤ 126) ∧ ¬ 1000 ≤ s then s + 1 else s)) f') a) ?_ (fun m3 p3 => ?_)
      · refine wp_ite (fun c => wp_some ⟨rfl, Or.inl c⟩) (fun c => ?_)
        refine in11 (fun c2 => ?_) (fun c2 => wp_some ⟨rfl, Or.inr c2⟩)
        rw [if_neg (fun q => q.1.elim c c2)]
        exact wp_map (ih j (by omega) (by omega) w)
      rcases m3 with a | a
      · obtain ⟨rfl, cx⟩ := p3
        refine wp_zsL ?_
        rw [sh8']
        refine wp_eq (E_3_2 w) ?_
        rw [es]
        refine wp_ite (fun c => ?_) (fun c => ?_)
        · rw [if_neg (fun q => q.2 c)]
          exact ih j (by omega) (by omega) w
        · rw [if_pos ⟨cx, c⟩]
          refine wp_eq (gR_3_0 w) ?_
          refine wp_eq (E_3_2 w) ?_
          rw [es]
          have x0 : 0 ≤ x ∧ x ≤ 126 := by
            rcases cx with rfl | cx
            · decide
            · exact ⟨by lia, by lia⟩
          have b1 : x.toInt8.toInt32 = x := b8_id x0.1 x0.2
          rw [b1]
          refine wp_bind (sB_4 w (i := s) (x := x) rs.1 (by lia) (by rw [b1]; exact x0.1) (by rw [b1]; exact x0.2)) fun h12 w12 => ?_
          rw [gF_f] at w12
          refine wp_eq (E_3_2 w12) ?_
          refine wp_bind (pI_3_2 w12 (x := s + 1) (by lia) (by lia)) fun h14 w14 => ?_
          rw [gF_s] at w14
          exact ih j (by omega) (by omega) w14
      · exact wp_zsR p3
theorem u_X9_put (v : Int64) {s : Int32} {f : Nat → Int32} (w : WT n b L xs τ (gF g s f) h) : wp (f_X9_put 10000 (n + 3) v h) (fun r => ∃ f', WT n b L xs τ (gF g (fz v 8 s) f') r) := by
  unfold f_X9_put
  exact wp_bind (u_X9_put_L3 v 10000 8 (by decide) (by decide) w) fun r q => wp_some q
theorem u_X11_feed {u v z : Int64} (w : WT n b L xs τ g h) : wp (f_X11_feed 10000 n u v z h) (fun r => r.1 = fz z 8 (fz v 8 (fz u 8 (g.1 3 2))) ∧ ∃ f, WT n b L xs τ (gF g (fz z 8 (fz v 8 (fz u 8 (g.1 3 2)))) f) r.2) := by
  unfold f_X11_feed
  have w0 : WT n b L xs τ (gF g (g.1 3 2) (g.2.1 4)) h := by rw [gF_id]; exact w
  refine wp_eq (gR_0_2 w0) ?_
  refine wp_zif (ob_3 w0) ?_
  refine wp_bind (u_X9_put u w0) fun h3 p3 => ?_
  obtain ⟨f3, w3⟩ := p3
  refine wp_eq (gR_0_2 w3) ?_
  refine wp_zif (ob_3 w3) ?_
  refine wp_bind (u_X9_put v w3) fun h6 p6 => ?_
  obtain ⟨f6, w6⟩ := p6
  refine wp_eq (gR_0_2 w6) ?_
  refine wp_zif (ob_3 w6) ?_
  refine wp_bind (u_X9_put z w6) fun h9 p9 => ?_
  obtain ⟨f9, w9⟩ := p9
  refine wp_eq (gR_0_2 w9) ?_
  refine wp_eq (E_3_2 w9) ?_
  exact wp_some ⟨rfl, f9, w9⟩
def SmL (g g' : zGh) : Prop := (∀ j, j ≠ 3 → j ≠ 6 → j ≠ 10 → g'.1 j = g.1 j) ∧ g'.1 3 2 = 0 ∧ g'.2 = g.2
theorem SmL_of {g g' : zGh} (s : Sm g g') : SmL g (gset g' 3 2 0) := ⟨fun j a c d => (gset_out a).trans (s.1 j a c), rfl, s.2.2⟩
theorem SmL_10 {g g' : zGh} {x : Int32} (s : Sm g g') : SmL g (gset (gset g' 10 3 x) 3 2 0) := ⟨fun j a c d => (gset_out a).trans ((gset_out d).trans (s.1 j a c)), rfl, s.2.2⟩
theorem Sm_id (g : zGh) : Sm g g := ⟨fun _ _ _ => rfl, rfl, rfl⟩
theorem u_X1_add {a : Nat} (w : WT n b L xs τ g h) (ta : τ a = 2) : wp (f_X1_add 10000 (n + 10) a h) (fun r => ∃ x, WT n b L xs τ (gset g 10 3 x) r) := by
  unfold f_X1_add
  have rr := gr_10_3 w
  refine wp_eq (E_10_3 w) ?_
  refine wp_ite (fun c => wp_some ⟨g.1 10 3, by rw [gset_id]; exact w⟩) (fun c => ?_)
  refine wp_eq (gR_10_0 w) ?_
  refine wp_eq (E_10_3 w) ?_
  refine wp_bind (sQ_11 w rr.1 (by lia) ta) fun h5 w5 => ?_
  refine wp_eq (E_10_3 w5) ?_
  refine wp_bind (pI_10_3 w5 (x := g.1 10 3 + 1) (by lia) (by lia)) fun h7 w7 => wp_some ⟨_, w7⟩
theorem u_written (w : WT n b L xs τ g h) (hs : g.1 6 5 ≤ 999) : wp (f_X7_written 10000 (n + 6) h) (fun r => r.1 = h.1.1 ∧ ∃ c, r.2 = znew h c ∧ ∃ m, KC m c) := by
  unfold f_X7_written
  have rr := gr_6_5 w
  refine wp_eq (gR_6_1 w) ?_
  refine wp_eq (E_6_5 w) ?_
  refine wp_bind (R := fun r => r.1 = h.1.1 ∧ ∃ c, r.2 = znew h c ∧ ∃ m, KC m c) ?_ (fun q3 p3 => wp_some p3)
  unfold f_J7_copyOf_59c91
  refine wp_eq (aN_8 w) ?_
  generalize g.1 6 5 = s at hs rr
  rw [if_neg (by lia)]
  have cl := i32_clamp (i := s) rr.1 (N := 1000) (by decide) (by show s < 1000; lia)
  refine wp_zif (by simp [zsmall, cl.1]; omega) ?_
  refine wp_zlet ?_
  refine wp_eq (aN_8 (w.new (c := zblank 0 s.toNatClampNeg))) ?_
  rw [if_pos (show s < 1000 by lia)]
  obtain ⟨c8, e8, f, rfl, r8⟩ := w.1 8 (by decide)
  have big := w.big
  have e1 : (znew h (zblank 0 s.toNatClampNeg)).2 (n + 8) = some (.inl (0, 1000, .inl f)) := (zn_ne (by omega)).trans e8
  have e2 : (znew h (zblank 0 s.toNatClampNeg)).2 h.1.1 = some (.inl (0, s.toNatClampNeg, .inl (fun _ => 0))) := zn_same _ _
  have e3 : cpI (znew h (zblank 0 s.toNatClampNeg)) (n + 8) 0 h.1.1 0 s = some (znew h (.inl (0, s.toNatClampNeg, .inl (va_cpy f (fun _ => 0) 0 0 s.toNatClampNeg)))) := by
    unfold cpI
    rw [e1, e2]
    show (if _ then some (zset (znew h (zblank 0 s.toNatClampNeg)) h.1.1 _) else none) = _
    rw [zn_set]
    refine if_pos ⟨rfl, rfl, by decide, by decide, cl.1, ?_, ?_⟩
    · show 0 + s.toNatClampNeg ≤ 1000
      omega
    · show 0 + s.toNatClampNeg ≤ s.toNatClampNeg
      omega
  refine wp_eq e3 ?_
  refine wp_some ⟨rfl, _, rfl, s.toNatClampNeg, _, rfl, by omega, fun k hk => ?_⟩
  unfold va_cpy
  rw [if_pos ⟨Nat.zero_le _, by omega⟩]
  exact r8 _ (by omega)
theorem pF_raw {A k : Nat} {v : Value} {ci : Nat} {fs : List Value} (w : WT n b L xs τ g h) (hA : n + 100 ≤ A) (t : τ A = 0) (e : h.2 A = some (.inr (ci, fs))) (hk : k < fs.length) : wp (pF h A ci k v) (fun r => WT n b L xs τ g r ∧ r.1 = h.1 ∧ r.2 A = some (.inr (ci, fs.set k v)) ∧ ∀ q, q ≠ A → r.2 q = h.2 q) := ⟨_, pF_of e hk, w.raw hA t, rfl, zs_same _ _ _, fun q hq => zs_ne hq⟩
set_option maxHeartbeats 4000000 in
theorem u_X11_law {v : Int32} (w : WT n b L xs τ g h) : wp (f_X11_law 10000 n v h) (fun r => ∃ τ' g', WT n b L xs τ' g' r.2 ∧ SmL g g') := by
  unfold f_X11_law
  refine in11 (fun c => ?_) (fun c => ?_)
  · refine wp_eq (gR_0_2 w) ?_
    exact wp_bind (pI_3_2 w (x := 0) (by decide) (by decide)) fun h3 w3 => wp_some ⟨τ, _, w3, SmL_of (Sm_id g)⟩
  refine wp_eq (gR_0_4 w) ?_
  refine wp_zif (ob_10 w) ?_
  refine wp_bind (t_X1_isFull w) fun q6 _ => ?_
  refine wp_ite (fun c6 => ?_) (fun c6 => ?_)
  · refine wp_eq (gR_0_3 w) ?_
    refine wp_eq (gR_0_2 w) ?_
    refine wp_zif (ob_6 w) ?_
    refine wp_bind (t_X7_read w) fun q13 p13 => ?_
    obtain ⟨g1, w1, s1, z1⟩ := p13
    refine wp_ite (fun c13 => ?_) (fun c13 => ?_)
    · have hs := z1 c13
      generalize q13.2 = hq at w1
      refine wp_eq (gR_0_4 w1) ?_
      refine wp_zlet ?_
      have w2 : WT n b L xs τ g1 (znew hq (.inr (4, [.int 0, .int 0, .null]))) := w1.new
      have eA : (znew hq (.inr (4, [.int 0, .int 0, .null]))).2 hq.1.1 = some (.inr (4, [.int 0, .int 0, .null])) := zn_same _ _
      have sA : (znew hq (.inr (4, [.int 0, .int 0, .null]))).1.1 = hq.1.1 + 1 := rfl
      have big := w1.big
      have tA := τ_new w1 (Nat.le_refl hq.1.1)
      have tB := τ_new w1 (Nat.le_succ hq.1.1)
      generalize znew hq (.inr (4, [.int 0, .int 0, .null])) = h2 at w2 eA sA
      generalize hq.1.1 = A at eA sA big tA tB
      refine wp_eq (E_0_11 w2) ?_
      refine wp_eq (gR_0_3 w2) ?_
      refine wp_zif (ob_6 w2) ?_
      refine wp_bind (u_written w2 hs) fun q22 p22 => ?_
      obtain ⟨e22, c, e23, m, km⟩ := p22
      have w3 : WT n b L xs (tu τ (A + 1) (m + 3)) g1 q22.2 := by
        rw [e23]
        refine w2.new.ext (by omega) (by show A + 1 < h2.1.1 + 1; omega) tB (by rw [← sA]; exact zn_same _ _) ?_
        exact km
      have eA3 : q22.2.2 A = some (.inr (4, [.int 0, .int 0, .null])) := by
        rw [e23]
        exact (zn_ne (by omega)).trans eA
      have sA3 : A < q22.2.1.1 := by
        rw [e23]
        show A < h2.1.1 + 1
        omega
      have tA3 : tu τ (A + 1) (m + 3) A = 0 := by rw [tu_ne (by omega)]; exact tA
      have tB3 : tu τ (A + 1) (m + 3) (A + 1) = m + 3 := tu_same _ _ _
      rw [e22, sA]
      generalize q22.2 = h3 at w3 eA3 sA3
      generalize tu τ (A + 1) (m + 3) = τ3 at w3 tA3 tB3
      refine wp_bind (R := fun r => ∃ τ', WT n b L xs τ' g1 r ∧ τ' A = 2) ?_ (fun h23 p23 => ?_)
      · unfold f_X4_init
        refine wp_bind (pF_raw w3 big tA3 eA3 (Nat.le_of_ble_eq_true rfl)) fun h1 p1 => ?_
        obtain ⟨x1, x2, x3, x4⟩ := p1
        refine wp_bind (pF_raw x1 big tA3 x3 (Nat.le_of_ble_eq_true rfl)) fun h5 p5 => ?_
        obtain ⟨y1, y2, y3, y4⟩ := p5
        refine wp_bind (pF_raw y1 big tA3 y3 (Nat.le_of_ble_eq_true rfl)) fun h6 p6 => ?_
        obtain ⟨u1, u2, u3, u4⟩ := p6
        refine wp_some ⟨tu τ3 A 2, u1.ext big (by rw [u2, y2, x2]; exact sA3) tA3 u3 ?_, tu_same _ _ _⟩
        refine ⟨_, _, A + 1, rfl, ?_⟩
        rw [tu_ne (by omega), tB3]
        omega
      obtain ⟨τ4, w4, t4⟩ := p23
      refine wp_zif (ob_10 w4) ?_
      refine wp_bind (u_X1_add w4 t4) fun h25 p25 => ?_
      obtain ⟨x, w25⟩ := p25
      refine wp_eq (gR_0_2 w25) ?_
      exact wp_bind (pI_3_2 w25 (x := 0) (by decide) (by decide)) fun h27 w27 => wp_some ⟨τ4, _, w27, SmL_10 s1⟩
    · refine wp_eq (gR_0_2 w1) ?_
      exact wp_bind (pI_3_2 w1 (x := 0) (by decide) (by decide)) fun h3 w3 => wp_some ⟨τ, _, w3, SmL_of s1⟩
  · refine wp_eq (gR_0_2 w) ?_
    exact wp_bind (pI_3_2 w (x := 0) (by decide) (by decide)) fun h3 w3 => wp_some ⟨τ, _, w3, SmL_of (Sm_id g)⟩
theorem u_X6_end {a : Nat} (w : WT n b L xs τ g h) (t : τ a = 1) : wp (f_X6_end 10000 a h) (fun r => 0 ≤ r ∧ r ≤ 60 ∨ r ≤ 60) := by
  unfold f_X6_end
  obtain ⟨x, e, p⟩ := gI_m_11 w t
  refine wp_eq e ?_
  refine wp_ite (fun c => wp_some (Or.inr (by decide))) (fun c => ?_)
  refine wp_eq e ?_
  exact wp_some (Or.inr p.2)
theorem u_X11_at {v1 v2 v3 : Int32} (w : WT n b L xs τ g h) : t_X11_at 10000 n v1 v2 v3 h = some true ∨ (t_X11_at 10000 n v1 v2 v3 h = some false ∧ wp (f_X11_at 10000 n v1 v2 v3 h) (fun r => WT n b L xs τ g r.2)) := by
  obtain ⟨q2, e2, p2⟩ := t_X11_meetingOf (v1 := v1) w
  unfold t_X11_at f_X11_at
  rw [ob_0 w, zif_t, zif_t, e2]
  cases q2 with
  | none => exact Or.inl rfl
  | some a =>
    have ta := p2 a rfl
    show (if p_X11_within v2 0 1 = 0 then _ else _) = _ ∨ _
    by_cases c : p_X11_within v2 0 1 = 0
    · rw [if_pos c]; exact Or.inl rfl
    · rw [if_neg c, ob_m w ta, zif_t]
      obtain ⟨q9, e9, p9⟩ := u_X6_end w ta
      have q60 : q9 ≤ 60 := by
        rcases p9 with p9 | p9
        · exact p9.2
        · exact p9
      rw [e9]
      show (if p_X11_within v3 0 q9 = 0 then _ else _) = _ ∨ _
      by_cases c2 : p_X11_within v3 0 q9 = 0
      · rw [if_pos c2]; exact Or.inl rfl
      · rw [if_neg c2]
        refine Or.inr ⟨?_, ?_⟩
        · show (if p_X11_within v2 0 1 = 0 then _ else _) = _
          rw [if_neg c, ob_m w ta, zif_t, e9]
          show (if p_X11_within v3 0 q9 = 0 then _ else _) = _
          rw [if_neg c2]
        have c3 : 0 ≤ v3 ∧ v3 ≤ q9 := by
          rw [within_eq] at c2
          by_cases z : 0 ≤ v3 ∧ v3 ≤ q9
          · exact z
          · rw [if_neg z] at c2; exact absurd rfl c2
        refine wp_bsome ?_
        refine wp_bind (R := fun r => match r with | .inl _ => False | .inr a => WT n b L xs τ g a.2) ?_ (fun m3 p3 => ?_)
        · show wp (if p_X11_within v2 0 1 = 0 then _ else _) _
          rw [if_neg c, ob_m w ta, zif_t, e9]
          show wp (if p_X11_within v3 0 q9 = 0 then _ else _) _
          rw [if_neg c2]
          refine wp_eq (gR_0_1 w) ?_
          refine wp_bind (gI_m_1 w ta) fun x12 _ => ?_
          refine wp_zif (ob_2 w) ?_
          refine wp_bind (t_X8_go w ta c3.1 (by lia)) fun h14 w14 => ?_
          refine wp_ite (fun _ => ?_) (fun _ => ?_)
          · refine wp_eq (gR_0_1 w14) ?_
            refine wp_bind (gI_2_0 w14) fun x20 _ => ?_
            exact wp_map (wp_some w14)
          · refine wp_eq (gR_0_1 w14) ?_
            refine wp_bind (gI_2_1 w14) fun x20 _ => ?_
            exact wp_map (wp_some w14)
        · rcases m3 with a3 | a3
          · exact p3.elim
          · exact wp_zsR p3
end CLS2
