/-! a heap with a list of new cells behind the old ones -/
def hL (h0 : zH) (L : List zE) : zH := ((h0.1.1 + L.length, h0.1.2), fun q => if q < h0.1.1 then h0.2 q else L[q - h0.1.1]?)
theorem hL_sz (h0 : zH) (L : List zE) : (hL h0 L).1.1 = h0.1.1 + L.length := rfl
theorem hL_cc (h0 : zH) (L : List zE) : (hL h0 L).1.2 = h0.1.2 := rfl
theorem hL_old {h0 : zH} {L : List zE} {a : Nat} (h : a < h0.1.1) : (hL h0 L).2 a = h0.2 a := by simp [hL, h]
theorem hL_at (h0 : zH) (L : List zE) (k : Nat) : (hL h0 L).2 (h0.1.1 + k) = L[k]? := by
  have h : ¬ h0.1.1 + k < h0.1.1 := by omega
  simp [hL, h]
theorem hL_at0 (h0 : zH) (L : List zE) : (hL h0 L).2 h0.1.1 = L[0]? := hL_at h0 L 0
theorem hL_nil {h0 : zH} (h : ∀ q, ¬ q < h0.1.1 → h0.2 q = none) : hL h0 [] = h0 := by
  refine Prod.ext rfl ?_
  funext q
  by_cases hq : q < h0.1.1
  · simp [hL, hq]
  · simp [hL, hq, h q hq]
theorem hL_new (h0 : zH) (L : List zE) (c : zE) : znew (hL h0 L) c = hL h0 (L ++ [c]) := by
  unfold znew hL
  refine Prod.ext (Prod.ext (by simp; omega) rfl) ?_
  funext q
  by_cases hq : q < h0.1.1
  · have : q ≠ h0.1.1 + L.length := by omega
    simp [hq, this]
  · by_cases he : q = h0.1.1 + L.length
    · subst he; simp [hq]
    · have h1 : q - h0.1.1 ≠ L.length := by omega
      by_cases hl : q - h0.1.1 < L.length
      · simp [hq, he, List.getElem?_append_left hl]
      · have h2 : L.length < q - h0.1.1 := by omega
        simp [hq, he, hl]
        omega
theorem hL_set {h0 : zH} {L : List zE} {k : Nat} {c : zE} (hk : k < L.length) : zset (hL h0 L) (h0.1.1 + k) c = hL h0 (L.set k c) := by
  unfold zset hL
  refine Prod.ext (Prod.ext (by simp) rfl) ?_
  funext q
  by_cases hq : q < h0.1.1
  · have : q ≠ h0.1.1 + k := by omega
    simp [hq, this]
  · by_cases he : q = h0.1.1 + k
    · subst he; simp [hk, hq]
    · have h1 : k ≠ q - h0.1.1 := by omega
      simp [hq, he, List.getElem?_set_ne h1]
/-! the same, with what is made beginning at L's end -/
theorem hA_at (h0 : zH) (L R : List zE) (j : Nat) : (hL h0 (L ++ R)).2 (h0.1.1 + (L.length + j)) = R[j]? := by rw [hL_at, List.getElem?_append_right (by omega)]; simp
theorem hA_at0 (h0 : zH) (L R : List zE) : (hL h0 (L ++ R)).2 (h0.1.1 + L.length) = R[0]? := hA_at h0 L R 0
theorem hA_new (h0 : zH) (L R : List zE) (c : zE) : znew (hL h0 (L ++ R)) c = hL h0 (L ++ (R ++ [c])) := by rw [hL_new, List.append_assoc]
theorem hA_sz (h0 : zH) (L R : List zE) : (hL h0 (L ++ R)).1.1 = h0.1.1 + (L.length + R.length) := by rw [hL_sz, List.length_append]
theorem hA_set {h0 : zH} {L R : List zE} {j : Nat} {c : zE} (hj : j < R.length) : zset (hL h0 (L ++ R)) (h0.1.1 + (L.length + j)) c = hL h0 (L ++ R.set j c) := by
  rw [hL_set (by simp; omega), List.set_append_right _ _ (by omega)]
  simp
theorem hA_pF {h0 : zH} {L R : List zE} {ci k : Nat} {fs : List Value} {v : Value} (hk : k < fs.length) : pF (hL h0 (L ++ .inr (ci, fs) :: R)) (h0.1.1 + L.length) ci k v = some (hL h0 (L ++ .inr (ci, fs.set k v) :: R)) := by
  have e : (hL h0 (L ++ .inr (ci, fs) :: R)).2 (h0.1.1 + L.length) = some (.inr (ci, fs)) := by rw [hA_at0]; rfl
  rw [pF_of e hk]
  have := hA_set (h0 := h0) (L := L) (R := .inr (ci, fs) :: R) (j := 0) (c := .inr (ci, fs.set k v)) (by simp)
  simp only [Nat.add_zero] at this
  rw [this]
  rfl
theorem hA_gR {h0 : zH} {L R : List zE} {ci k a : Nat} {fs : List Value} (hk : fs[k]? = some (.ref a)) : gR (hL h0 (L ++ .inr (ci, fs) :: R)) (h0.1.1 + L.length) ci k = some a := gR_of (by rw [hA_at0]; rfl) hk
theorem h0_pF {h0 : zH} {R : List zE} {ci k : Nat} {fs : List Value} {v : Value} (hk : k < fs.length) : pF (hL h0 (.inr (ci, fs) :: R)) h0.1.1 ci k v = some (hL h0 (.inr (ci, fs.set k v) :: R)) := hA_pF (L := []) hk
/-! a loop that writes one value through an array -/
theorem sI_of {h : zH} {a n j : Nat} {f : Nat → Int32} {x : Int32} (e : h.2 a = some (.inl (0, n, .inl f))) (hj : j < n) (hn : n < 2 ^ 31) : sI h a (nI j) x = some (zset h a (.inl (0, n, .inl (upd f j x)))) := by
  have h1 : ¬ nI j < 0 := nI_pos (by omega)
  have h2 : (nI j).toNatClampNeg = j := nI_clamp (by omega)
  simp [sI, e, h1, h2, hj]
theorem fill_upd {f : Nat → Int32} {x : Int32} {j n : Nat} (hj : j < n) : (fun i => if j + 1 ≤ i ∧ i < n then x else upd f j x i) = (fun i => if j ≤ i ∧ i < n then x else f i) := by
  funext i
  by_cases h1 : i = j
  · subst h1; simp [upd, hj]
  · by_cases h2 : j + 1 ≤ i
    · have : j ≤ i := by omega
      simp [h2, this, upd, h1]
    · have : ¬ j ≤ i := by omega
      simp [h2, this, upd, h1]
theorem fill_loop {N a n : Nat} {x : Int32} (hn : n < 2 ^ 31) : ∀ (fuel j : Nat) (h : zH) (f : Nat → Int32), n - j < fuel → j ≤ n → h.2 a = some (.inl (0, n, .inl f)) → f_J7_fill_53178_L5 N a x (nI n) fuel (nI j) h = some (zset h a (.inl (0, n, .inl (fun i => if j ≤ i ∧ i < n then x else f i)))) := by
  intro fuel
  induction fuel with
  | zero => intro j h f h1; omega
  | succ k ih =>
    intro j h f h1 h2 e
    unfold f_J7_fill_53178_L5
    by_cases hj : j = n
    · subst hj
      have ef : (fun i => if j ≤ i ∧ i < j then x else f i) = f := by
        funext i
        have hi : ¬ (j ≤ i ∧ i < j) := by omega
        simp [hi]
      rw [if_pos (Int32.le_refl _), ef, zs_id e]
    · have hlt : j < n := by omega
      rw [if_neg (nI_ge hlt hn), sI_of e hlt hn]
      show f_J7_fill_53178_L5 N a x (nI n) k (nI j + 1) _ = _
      rw [nI_1, ih (j + 1) _ _ (by omega) (by omega) (zs_same _ _ _), zs_zs, fill_upd hlt]
