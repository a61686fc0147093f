/-! the small heap's own laws, for the pure part -/
theorem zs_same (h : zH) (a : Nat) (c : zE) : (zset h a c).2 a = some c := by simp [zset]
theorem zs_ne {h : zH} {a b : Nat} {c : zE} (hne : b ≠ a) : (zset h a c).2 b = h.2 b := by simp [zset, hne]
theorem zs_zs (h : zH) (a : Nat) (c c' : zE) : zset (zset h a c) a c' = zset h a c' := by
  unfold zset
  congr 1
  funext q
  by_cases hq : q = a <;> simp [hq]
theorem zs_1 (h : zH) (a : Nat) (c : zE) : (zset h a c).1 = h.1 := rfl
theorem zs_id {h : zH} {a : Nat} {c : zE} (e : h.2 a = some c) : zset h a c = h := by
  unfold zset
  refine Prod.ext rfl ?_
  funext q
  by_cases hq : q = a <;> simp [hq, e]
theorem gI_of {h : zH} {o ci k : Nat} {fs : List Value} {x : Int32} (e : h.2 o = some (.inr (ci, fs))) (hk : fs[k]? = some (.int x)) : gI h o ci k = some x := by simp [gI, gV, e, hk, vI]
theorem gR_of {h : zH} {o ci k : Nat} {fs : List Value} {x : Nat} (e : h.2 o = some (.inr (ci, fs))) (hk : fs[k]? = some (.ref x)) : gR h o ci k = some x := by simp [gR, gV, e, hk, vR]
theorem gL_of {h : zH} {o ci k : Nat} {fs : List Value} {x : Int64} (e : h.2 o = some (.inr (ci, fs))) (hk : fs[k]? = some (.long x)) : gL h o ci k = some x := by simp [gL, gV, e, hk, vL]
theorem pF_of {h : zH} {o ci k : Nat} {fs : List Value} {v : Value} (e : h.2 o = some (.inr (ci, fs))) (hk : k < fs.length) : pF h o ci k v = some (zset h o (.inr (ci, fs.set k v))) := by simp [pF, e, hk]
theorem zob_of {h : zH} {o ci : Nat} {fs : List Value} (e : h.2 o = some (.inr (ci, fs))) : zob h o ci = true := by simp [zob, e]
theorem zif_t {β : Type} (a : Option β) : zif true a = a := rfl
theorem within_eq (v lo hi : Int32) : p_X11_within v lo hi = if lo ≤ v ∧ v ≤ hi then 1 else 0 := by
  unfold p_X11_within
  have e1 : v < lo ↔ ¬ lo ≤ v := by rw [Int32.not_le]
  have e2 : hi < v ↔ ¬ v ≤ hi := by rw [Int32.not_le]
  by_cases h1 : lo ≤ v <;> by_cases h2 : v ≤ hi <;> simp [e1, e2, h1, h2]
/-! reads and writes over written cells -/
theorem gI_zs (h : zH) (o ci k : Nat) (fs : List Value) : gI (zset h o (.inr (ci, fs))) o ci k = (fs[k]?).bind vI := by simp [gI, gV, zs_same]
theorem gR_zs (h : zH) (o ci k : Nat) (fs : List Value) : gR (zset h o (.inr (ci, fs))) o ci k = (fs[k]?).bind vR := by simp [gR, gV, zs_same]
theorem gL_zs (h : zH) (o ci k : Nat) (fs : List Value) : gL (zset h o (.inr (ci, fs))) o ci k = (fs[k]?).bind vL := by simp [gL, gV, zs_same]
theorem gI_zn {h : zH} {o b : Nat} {c : zE} (hne : b ≠ o) (ci k : Nat) : gI (zset h o c) b ci k = gI h b ci k := by simp [gI, gV, zs_ne hne]
theorem gR_zn {h : zH} {o b : Nat} {c : zE} (hne : b ≠ o) (ci k : Nat) : gR (zset h o c) b ci k = gR h b ci k := by simp [gR, gV, zs_ne hne]
theorem gL_zn {h : zH} {o b : Nat} {c : zE} (hne : b ≠ o) (ci k : Nat) : gL (zset h o c) b ci k = gL h b ci k := by simp [gL, gV, zs_ne hne]
theorem pF_zs (h : zH) (o ci k : Nat) (fs : List Value) (v : Value) : pF (zset h o (.inr (ci, fs))) o ci k v = if k < fs.length then some (zset h o (.inr (ci, fs.set k v))) else none := by
  simp [pF, zs_same, zs_zs]
theorem zob_zs (h : zH) (o ci : Nat) (fs : List Value) : zob (zset h o (.inr (ci, fs))) o ci = true := by simp [zob, zs_same]
theorem zob_zn {h : zH} {o b : Nat} {c : zE} (hne : b ≠ o) (ci : Nat) : zob (zset h o c) b ci = zob h b ci := by simp [zob, zs_ne hne]
theorem aI_zn {h : zH} {o b : Nat} {c : zE} (hne : b ≠ o) (i : Int32) : aI (zset h o c) b i = aI h b i := by simp [aI, zs_ne hne]
theorem aN_zn {h : zH} {o b : Nat} {c : zE} (hne : b ≠ o) : aN (zset h o c) b = aN h b := by simp [aN, zs_ne hne]
theorem aI_of {h : zH} {a n : Nat} {f : Nat → Int32} {i : Int32} {t : Nat} (e : h.2 a = some (.inl (t, n, .inl f))) (ht : t = 0 ∨ t = 6 ∨ t = 8) (h0 : ¬ i < 0) (hl : i.toNatClampNeg < n) : aI h a i = some (f i.toNatClampNeg) := by simp [aI, e, ht, h0, hl]
theorem aN_of {h : zH} {a n : Nat} {f : (Nat → Int32) ⊕ (Nat → Int64) ⊕ (Nat → UInt32) ⊕ (Nat → UInt64) ⊕ (Nat → Option Nat)} {t : Nat} (e : h.2 a = some (.inl (t, n, f))) (ht : t < 10) : aN h a = some (Int32.ofNat n) := by simp [aN, e, ht]
/-- a truth as an int -/
def bI (b : Bool) : Int32 := if b = true then 1 else 0
theorem bI_0 (b : Bool) : (bI b = 0) = (b = false) := by cases b <;> simp [bI]
theorem bI_t : bI true = 1 := rfl
theorem bI_f : bI false = 0 := rfl
theorem zs_comm {h : zH} {a b : Nat} {c d : zE} (hne : a ≠ b) : zset (zset h a c) b d = zset (zset h b d) a c := by
  unfold zset
  refine Prod.ext rfl ?_
  funext q
  by_cases h1 : q = a
  · subst h1; simp [hne]
  · by_cases h2 : q = b <;> simp [h1, h2, Ne.symm hne]
theorem pF_zn {h : zH} {o a : Nat} {c : zE} (hne : o ≠ a) (ci k : Nat) (v : Value) : pF (zset h a c) o ci k v = (pF h o ci k v).map (fun g => zset g a c) := by
  unfold pF
  rw [zs_ne hne]
  split
  · split
    · simp [zs_comm (Ne.symm hne)]
    · rfl
  · rfl
theorem pZ_zn {h : zH} {o a : Nat} {c : zE} (hne : o ≠ a) (ci k : Nat) (v : Int32) : pZ (zset h a c) o ci k v = (pZ h o ci k v).map (fun g => zset g a c) := by
  unfold pZ
  split
  · exact pF_zn hne ci k _
  · rfl
theorem sI_zn {h : zH} {o a : Nat} {c : zE} (hne : o ≠ a) (i x : Int32) : sI (zset h a c) o i x = (sI h o i x).map (fun g => zset g a c) := by
  unfold sI
  rw [zs_ne hne]
  split
  · split
    · simp [zs_comm (Ne.symm hne)]
    · rfl
  · rfl
theorem aI_zs (h : zH) (a n : Nat) (f : Nat → Int32) (i : Int32) : aI (zset h a (.inl (0, n, .inl f))) a i = if ¬ i < 0 ∧ i.toNatClampNeg < n then some (f i.toNatClampNeg) else none := by simp [aI, zs_same]
theorem sI_zs (h : zH) (a n : Nat) (f : Nat → Int32) (i x : Int32) : sI (zset h a (.inl (0, n, .inl f))) a i x = if ¬ i < 0 ∧ i.toNatClampNeg < n then some (zset h a (.inl (0, n, .inl (upd f i.toNatClampNeg x)))) else none := by simp [sI, zs_same, zs_zs]
theorem aI_zsN {h : zH} {a n : Nat} {f : Nat → Int32} {j : Nat} (hj : j < n) (hn : n < 2 ^ 31) : aI (zset h a (.inl (0, n, .inl f))) a (nI j) = some (f j) := by
  have h1 : ¬ nI j < 0 := nI_pos (by omega)
  have h2 : (nI j).toNatClampNeg = j := nI_clamp (by omega)
  rw [aI_zs, h2, if_pos ⟨h1, hj⟩]
theorem sI_zsN {h : zH} {a n : Nat} {f : Nat → Int32} {j : Nat} {x : Int32} (hj : j < n) (hn : n < 2 ^ 31) : sI (zset h a (.inl (0, n, .inl f))) a (nI j) x = some (zset h a (.inl (0, n, .inl (upd f j x)))) := by
  have h1 : ¬ nI j < 0 := nI_pos (by omega)
  have h2 : (nI j).toNatClampNeg = j := nI_clamp (by omega)
  rw [sI_zs, h2, if_pos ⟨h1, hj⟩]
theorem upd_upd (f : Nat → Int32) (k : Nat) (x z : Int32) : upd (upd f k x) k z = upd f k z := by
  funext j
  by_cases hj : j = k <;> simp [upd, hj]
