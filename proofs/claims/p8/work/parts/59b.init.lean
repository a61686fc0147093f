/-! writes on a heap with a list of new cells, as simp takes them -/
theorem hL_lt {L : List zE} {k : Nat} {c : zE} (e : L[k]? = some c) : k < L.length := (List.getElem?_eq_some_iff.mp e).1
theorem hL_pF (h0 : zH) (L : List zE) (k ci j : Nat) (v : Value) : pF (hL h0 L) (h0.1.1 + k) ci j v = match L[k]? with
    | some (.inr (c, fs)) => if c = ci ∧ j < fs.length then some (hL h0 (L.set k (.inr (c, fs.set j v)))) else none
    | _ => none := by
  unfold pF
  rw [hL_at]
  cases hc : L[k]? with
  | none => rfl
  | some c =>
    cases c with
    | inl b => rfl
    | inr o =>
      obtain ⟨c, fs⟩ := o
      show (if c = ci ∧ j < fs.length then some (zset (hL h0 L) (h0.1.1 + k) _) else none) = _
      rw [hL_set (hL_lt hc)]
theorem hL_pF0 (h0 : zH) (L : List zE) (ci j : Nat) (v : Value) : pF (hL h0 L) h0.1.1 ci j v = match (L[(0 : Nat)]? : Option zE) with
    | some (.inr (c, fs)) => if c = ci ∧ j < fs.length then some (hL h0 (L.set 0 (.inr (c, fs.set j v)))) else none
    | _ => none := hL_pF h0 L 0 ci j v
theorem hL_pZ (h0 : zH) (L : List zE) (k ci j : Nat) (x : Int32) (hx : x = 0 ∨ x = 1) : pZ (hL h0 L) (h0.1.1 + k) ci j x = pF (hL h0 L) (h0.1.1 + k) ci j (.int x) := by
  unfold pZ
  rw [if_pos hx]
theorem hL_gR (h0 : zH) (L : List zE) (k ci j : Nat) : gR (hL h0 L) (h0.1.1 + k) ci j = match L[k]? with
    | some (.inr (c, fs)) => if c = ci then (fs[j]?).bind vR else none
    | _ => none := by
  unfold gR gV
  rw [hL_at]
  cases hc : L[k]? with
  | none => rfl
  | some c =>
    cases c with
    | inl b => rfl
    | inr o =>
      obtain ⟨c, fs⟩ := o
      show (if c = ci then fs[j]? else none).bind vR = if c = ci then (fs[j]?).bind vR else none
      split <;> rfl
theorem hL_sI (h0 : zH) (L : List zE) (k j : Nat) (x : Int32) (hj : j < 2 ^ 31) : sI (hL h0 L) (h0.1.1 + k) (nI j) x = match L[k]? with
    | some (.inl (t, n, .inl f)) => if t = 0 ∧ j < n then some (hL h0 (L.set k (.inl (t, n, .inl (upd f j x))))) else none
    | _ => none := by
  unfold sI
  rw [hL_at]
  cases hc : L[k]? with
  | none => rfl
  | some c =>
    cases c with
    | inl b =>
      obtain ⟨t, n, A⟩ := b
      cases A with
      | inl f =>
        show (if t = 0 ∧ ¬ nI j < 0 ∧ (nI j).toNatClampNeg < n then some (zset (hL h0 L) (h0.1.1 + k) _) else none) = _
        rw [hL_set (hL_lt hc), nI_clamp hj]
        simp only [nI_pos hj, not_false_eq_true, true_and]
      | inr _ => rfl
    | inr o => rfl
theorem hL_sL (h0 : zH) (L : List zE) (k j : Nat) (x : Int64) (hj : j < 2 ^ 31) : sL (hL h0 L) (h0.1.1 + k) (nI j) x = match L[k]? with
    | some (.inl (t, n, .inr (.inl f))) => if t = 1 ∧ j < n then some (hL h0 (L.set k (.inl (t, n, .inr (.inl (vp_updL f j x)))))) else none
    | _ => none := by
  unfold sL
  rw [hL_at]
  cases hc : L[k]? with
  | none => rfl
  | some c =>
    cases c with
    | inl b =>
      obtain ⟨t, n, A⟩ := b
      cases A with
      | inl f => rfl
      | inr A =>
        cases A with
        | inl f =>
          show (if t = 1 ∧ ¬ nI j < 0 ∧ (nI j).toNatClampNeg < n then some (zset (hL h0 L) (h0.1.1 + k) _) else none) = _
          rw [hL_set (hL_lt hc), nI_clamp hj]
          simp only [nI_pos hj, not_false_eq_true, true_and]
        | inr _ => rfl
    | inr o => rfl
/-! the words' keys -/
def zChar (v4 : Int32) : Option Int32 := if v4 < 0 then none else if v4 < 111 then (rC0 (((zWd v4.toNatClampNeg &&& 255).toUInt32 % 65536).toInt32)).bind rC0 else none
def zKeys : Nat → Int32 → Int64 → Int32 → (Nat → Int64) → Option (Nat → Int64)
  | 0, _, _, _, _ => none
  | n + 1, v1, v2, v4, f => if 111 ≤ v4 then some f else if 21 ≤ v1 then some f else (zChar v4).bind fun q => if q = 32 then (if ¬ v1 < 0 ∧ v1.toNatClampNeg < 21 then zKeys n (v1 + 1) 0 (v4 + 1) (vp_updL f v1.toNatClampNeg v2) else none) else zKeys n v1 (p_X9_withLetter v2 q) (v4 + 1) f
/-- the constants of the Tape's words -/
def zwd (h : zH) : Prop := h.2 (h.1.2 4) = some (.inl (7, 111, .inl zWd))
theorem zwd_v {h : zH} : gSv h (h.1.2 1) = some (h.1.2 4) := by simp [gSv]
theorem zwd_c {h : zH} : gSc h (h.1.2 1) = some 0 := by simp [gSc]
theorem zwd_len {h : zH} {N : Nat} (e : zwd h) : f_J0_length_8abf5 N (h.1.2 1) h = some 111 := by
  have e1 : aN h (h.1.2 4) = some (Int32.ofNat 111) := aN_of e (by decide)
  have e2 : f_J0_coder_7d493 N (h.1.2 1) h = some 0 := by
    unfold f_J0_coder_7d493
    rw [zwd_c]
    rfl
  unfold f_J0_length_8abf5
  rw [zwd_v, e2]
  show (aN h (h.1.2 4)).bind _ = _
  rw [e1]
  rfl
theorem zwd_char {h : zH} {N : Nat} {v4 : Int32} (e : zwd h) : f_J0_charAt_5068e N (h.1.2 1) v4 h = zChar v4 := by
  have e1 : aN h (h.1.2 4) = some (Int32.ofNat 111) := aN_of e (by decide)
  have e2 : f_J0_isLatin1_aae02 N (h.1.2 1) h = some 1 := by
    unfold f_J0_isLatin1_aae02
    rw [zwd_c]
    rfl
  have e3 : f_J1_charAt_3b067 N (h.1.2 4) v4 h = if v4 < 0 then none else if v4 < 111 then rC0 (((zWd v4.toNatClampNeg &&& 255).toUInt32 % 65536).toInt32) else none := by
    unfold f_J1_charAt_3b067 f_J0_checkIndex_df160 f_J3_checkIndex_8e157
    rw [e1]
    show ((((if v4 < 0 then some (.inl ()) else if v4 < 111 then (some v4).map .inr else some (.inl ()) : Option (Unit ⊕ Int32)).bind fun m1 => zsum m1 fun s2 => (none : Option Nat).bind fun a6 => none).bind fun q2 => some ()).bind fun u2 => (aB h (h.1.2 4) v4).bind fun x3 => rC0 (((x3 &&& 255).toUInt32 % 65536).toInt32)) = _
    by_cases h1 : v4 < 0
    · simp [h1, zsum]
    · by_cases h2 : v4 < 111
      · obtain ⟨j, hj, rfl⟩ := nI_of h1
        have h3 : j < 111 := (nI_ltI hj (by decide)).mp h2
        have e4 : aB h (h.1.2 4) (nI j) = some (zWd (nI j).toNatClampNeg) := by
          unfold aB
          rw [e]
          simp [h1, nI_clamp hj, h3]
        rw [e4]
        simp [h1, h2, zsum]
      · simp [h1, h2, zsum]
  unfold f_J0_charAt_5068e
  rw [zwd_v, e2]
  show (f_J1_charAt_3b067 N (h.1.2 4) v4 h).bind (fun q6 => rC0 q6) = _
  rw [e3]
  unfold zChar
  by_cases h1 : v4 < 0
  · simp [h1]
  · by_cases h2 : v4 < 111
    · simp [h1, h2]
    · simp [h1, h2]
theorem keys_loop {N v0 r : Nat} : ∀ (n : Nat) (v1 : Int32) (v2 : Int64) (v4 : Int32) (f : Nat → Int64) (h : zH), zwd h → gR h v0 9 1 = some r → h.2 r = some (.inl (1, 21, .inr (.inl f))) → v0 ≠ r → h.1.2 4 ≠ r →
    f_X9_init_L28 N v0 n v1 v2 v4 h = (zKeys n v1 v2 v4 f).map (fun g => zset h r (.inl (1, 21, .inr (.inl g)))) := by
  intro n
  induction n with
  | zero => intros; rfl
  | succ n ih =>
    intro v1 v2 v4 f h e1 e2 e3 n1 n2
    unfold f_X9_init_L28 zKeys
    rw [zwd_v, zwd_len e1]
    show (if 111 ≤ v4 then some h else _) = _
    by_cases c1 : 111 ≤ v4
    · rw [if_pos c1, if_pos c1, Option.map_some, zs_id e3]
    · rw [if_neg c1, if_neg c1, e2]
      show ((aN h r).bind _) = _
      rw [aN_of e3 (by decide)]
      show (if 21 ≤ v1 then some h else _) = _
      by_cases c2 : 21 ≤ v1
      · rw [if_pos c2, if_pos c2, Option.map_some, zs_id e3]
      · rw [if_neg c2, if_neg c2, zwd_char e1]
        show ((zChar v4).bind _) = _
        cases hq : zChar v4 with
        | none => rfl
        | some q =>
          show (if q = 32 then _ else _) = Option.map _ (if q = 32 then _ else _)
          by_cases c3 : q = 32
          · rw [if_pos c3, if_pos c3]
            show ((sL h r v1 v2).bind _) = _
            unfold sL
            rw [e3]
            by_cases c4 : ¬ v1 < 0 ∧ v1.toNatClampNeg < 21
            · rw [if_pos c4]
              show (if (1 : Nat) = 1 ∧ ¬ v1 < 0 ∧ v1.toNatClampNeg < 21 then _ else _ : Option zH).bind _ = _
              rw [if_pos ⟨rfl, c4⟩]
              show f_X9_init_L28 N v0 n (v1 + 1) 0 (v4 + 1) _ = _
              have q4 : (zset h r (.inl (1, 21, .inr (.inl (vp_updL f v1.toNatClampNeg v2))))).1 = h.1 := rfl
              rw [ih _ _ _ (vp_updL f v1.toNatClampNeg v2) _ (by unfold zwd; rw [q4, zs_ne n2]; exact e1) (by rw [gR_zn n1]; exact e2) (zs_same _ _ _) n1 (by rw [q4]; exact n2)]
              congr 1
              funext g
              rw [zs_zs]
            · rw [if_neg c4]
              show (if (1 : Nat) = 1 ∧ ¬ v1 < 0 ∧ v1.toNatClampNeg < 21 then _ else _ : Option zH).bind _ = _
              rw [if_neg (fun q => c4 q.2)]
              rfl
          · rw [if_neg c3, if_neg c3]
            exact ih _ _ _ _ _ e1 e2 e3 n1 n2
set_option maxRecDepth 100000 in
theorem keys_is : (zKeys 10000 0 0 0 (fun _ => 0)).isSome = true := by decide +kernel
def zKf : Nat → Int64 := (zKeys 10000 0 0 0 (fun _ => 0)).getD (fun _ => 0)
theorem keys_eq : zKeys 10000 0 0 0 (fun _ => 0) = some zKf := by
  unfold zKf
  obtain ⟨g, hg⟩ := Option.isSome_iff_exists.mp keys_is
  rw [hg]
  rfl
/-! the Bench's customs -/
def zC59 (v2 : Int32) : Nat → Int32 → Int32 → (Nat → Int32) → Option (Int32 × (Nat → Int32))
  | 0, _, _, _ => none
  | n + 1, v1, v3, f => if 16 ≤ v3 then some (v1, f) else if v3 - v2 = 8 then zC59 v2 n v1 (v3 + 1) f else if 128 ≤ v1 then zC59 v2 n v1 (v3 + 1) f else if ¬ v1 < 0 ∧ v1.toNatClampNeg < 128 then zC59 v2 n (v1 + 1) (v3 + 1) (upd f v1.toNatClampNeg ((1 <<< (v2 &&& 31)) ||| (1 <<< (v3 &&& 31)))) else none
def zC51 (N : Nat) : Nat → Int32 → Int32 → (Nat → Int32) → Option (Nat → Int32)
  | 0, _, _, _ => none
  | n + 1, v1, v2, f => if 16 ≤ v2 then some f else (zC59 v2 N v1 v2 f).bind fun g => zC51 N n g.1 (v2 + 1) g.2
theorem c59_loop {N v0 r : Nat} {v2 : Int32} : ∀ (n : Nat) (v1 v3 : Int32) (f : Nat → Int32) (h : zH), gR h v0 0 3 = some r → h.2 r = some (.inl (0, 128, .inl f)) → v0 ≠ r →
    f_X0_init_L59 N v0 v2 n v1 v3 h = (zC59 v2 n v1 v3 f).map (fun g => (g.1, zset h r (.inl (0, 128, .inl g.2)))) := by
  intro n
  induction n with
  | zero => intros; rfl
  | succ n ih =>
    intro v1 v3 f h e2 e3 n1
    unfold f_X0_init_L59 zC59
    by_cases c1 : 16 ≤ v3
    · rw [if_pos c1, if_pos c1, Option.map_some, zs_id e3]
    · rw [if_neg c1, if_neg c1]
      by_cases c2 : v3 - v2 = 8
      · rw [if_pos c2, if_pos c2]; exact ih _ _ _ _ e2 e3 n1
      · rw [if_neg c2, if_neg c2]
        by_cases c3 : 128 ≤ v1
        · rw [if_pos c3, if_pos c3]; exact ih _ _ _ _ e2 e3 n1
        · rw [if_neg c3, if_neg c3, e2]
          show ((sI h r v1 _).bind _) = _
          unfold sI
          rw [e3]
          by_cases c4 : ¬ v1 < 0 ∧ v1.toNatClampNeg < 128
          · rw [if_pos c4]
            show (if (0 : Nat) = 0 ∧ ¬ v1 < 0 ∧ v1.toNatClampNeg < 128 then _ else _ : Option zH).bind _ = _
            rw [if_pos ⟨rfl, c4⟩]
            show f_X0_init_L59 N v0 v2 n (v1 + 1) (v3 + 1) _ = _
            rw [ih _ _ (upd f v1.toNatClampNeg ((1 <<< (v2 &&& 31)) ||| (1 <<< (v3 &&& 31)))) _ (by rw [gR_zn n1]; exact e2) (zs_same _ _ _) n1]
            congr 1
            funext g
            rw [zs_zs]
          · rw [if_neg c4]
            show (if (0 : Nat) = 0 ∧ ¬ v1 < 0 ∧ v1.toNatClampNeg < 128 then _ else _ : Option zH).bind _ = _
            rw [if_neg (fun q => c4 q.2)]
            rfl
theorem c51_loop {N v0 r : Nat} : ∀ (n : Nat) (v1 v2 : Int32) (f : Nat → Int32) (h : zH), gR h v0 0 3 = some r → h.2 r = some (.inl (0, 128, .inl f)) → v0 ≠ r →
    f_X0_init_L51 N v0 n v1 v2 h = (zC51 N n v1 v2 f).map (fun g => zset h r (.inl (0, 128, .inl g))) := by
  intro n
  induction n with
  | zero => intros; rfl
  | succ n ih =>
    intro v1 v2 f h e2 e3 n1
    unfold f_X0_init_L51 zC51
    by_cases c1 : 16 ≤ v2
    · rw [if_pos c1, if_pos c1, Option.map_some, zs_id e3]
    · rw [if_neg c1, if_neg c1, c59_loop N v1 v2 f h e2 e3 n1]
      cases hq : zC59 v2 N v1 v2 f with
      | none => rfl
      | some g =>
        show f_X0_init_L51 N v0 n g.1 (v2 + 1) (zset h r (.inl (0, 128, .inl g.2))) = Option.map _ (zC51 N n g.1 (v2 + 1) g.2)
        rw [ih _ _ g.2 _ (by rw [gR_zn n1]; exact e2) (zs_same _ _ _) n1]
        congr 1
        funext g'
        rw [zs_zs]
set_option maxRecDepth 100000 in
theorem cust_is : (zC51 10000 10000 0 0 (fun _ => 0)).isSome = true := by decide +kernel
def zCf : Nat → Int32 := (zC51 10000 10000 0 0 (fun _ => 0)).getD (fun _ => 0)
theorem cust_eq : zC51 10000 10000 0 0 (fun _ => 0) = some zCf := by
  unfold zCf
  obtain ⟨g, hg⟩ := Option.isSome_iff_exists.mp cust_is
  rw [hg]
  rfl
