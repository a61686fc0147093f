/-! the reference's own heap for a walk: its object, and the three rows that the walk writes -/
def NH (h0 : zH) (m : Nat) (r : Nat → Nat) (i : Nat → Int32) (f g w : Nat → Int32) : zH := zset (zset (zset (zset h0 m (oX12 r i)) (r 39) (.inl (0, 61, .inl f))) (r 40) (.inl (0, 61, .inl g))) (r 41) (.inl (0, 61, .inl w))
def nhD (m : Nat) (r : Nat → Nat) : Prop := m ≠ r 39 ∧ m ≠ r 40 ∧ m ≠ r 41 ∧ r 39 ≠ r 40 ∧ r 39 ≠ r 41 ∧ r 40 ≠ r 41
/-- a row that the walk only reads -/
def nhO (m : Nat) (r : Nat → Nat) (k : Nat) : Prop := r k ≠ m ∧ r k ≠ r 39 ∧ r k ≠ r 40 ∧ r k ≠ r 41
section NHS
variable {h0 : zH} {m : Nat} {r : Nat → Nat} {i : Nat → Int32} {f g w : Nat → Int32}
theorem NH_g43 (D : nhD m r) : gI (NH h0 m r i f g w) m 12 43 = some (i 43) := by unfold NH; rw [gI_zn D.2.2.1, gI_zn D.2.1, gI_zn D.1, gX12_43]
theorem NH_g44 (D : nhD m r) : gI (NH h0 m r i f g w) m 12 44 = some (i 44) := by unfold NH; rw [gI_zn D.2.2.1, gI_zn D.2.1, gI_zn D.1, gX12_44]
theorem NH_g45 (D : nhD m r) : gI (NH h0 m r i f g w) m 12 45 = some (i 45) := by unfold NH; rw [gI_zn D.2.2.1, gI_zn D.2.1, gI_zn D.1, gX12_45]
theorem NH_zo (D : nhD m r) : zob (NH h0 m r i f g w) m 12 = true := by unfold NH; rw [zob_zn D.2.2.1, zob_zn D.2.1, zob_zn D.1, zo_X12]
theorem NH_p42 (D : nhD m r) (z : Int32) : pF (NH h0 m r i f g w) m 12 42 (.int z) = some (NH h0 m r (upd i 42 z) f g w) := by unfold NH; rw [pF_zn D.2.2.1, pF_zn D.2.1, pF_zn D.1, pX12_42]; rfl
theorem NH_p43 (D : nhD m r) (z : Int32) : pF (NH h0 m r i f g w) m 12 43 (.int z) = some (NH h0 m r (upd i 43 z) f g w) := by unfold NH; rw [pF_zn D.2.2.1, pF_zn D.2.1, pF_zn D.1, pX12_43]; rfl
theorem NH_p44 (D : nhD m r) (z : Int32) : pF (NH h0 m r i f g w) m 12 44 (.int z) = some (NH h0 m r (upd i 44 z) f g w) := by unfold NH; rw [pF_zn D.2.2.1, pF_zn D.2.1, pF_zn D.1, pX12_44]; rfl
theorem NH_p45 (D : nhD m r) (z : Int32) : pF (NH h0 m r i f g w) m 12 45 (.int z) = some (NH h0 m r (upd i 45 z) f g w) := by unfold NH; rw [pF_zn D.2.2.1, pF_zn D.2.1, pF_zn D.1, pX12_45]; rfl
theorem NH_z43 (D : nhD m r) (z : Int32) (hz : z = 0 ∨ z = 1) : pZ (NH h0 m r i f g w) m 12 43 z = some (NH h0 m r (upd i 43 z) f g w) := by unfold pZ; rw [if_pos hz, NH_p43 D]
theorem NH_s39 (D : nhD m r) {j : Nat} (hj : j < 61) (x : Int32) : sI (NH h0 m r i f g w) (r 39) (nI j) x = some (NH h0 m r i (upd f j x) g w) := by unfold NH; rw [sI_zn D.2.2.2.2.1, sI_zn D.2.2.2.1, sI_zsN hj (by decide)]; rfl
theorem NH_s40 (D : nhD m r) {j : Nat} (hj : j < 61) (x : Int32) : sI (NH h0 m r i f g w) (r 40) (nI j) x = some (NH h0 m r i f (upd g j x) w) := by unfold NH; rw [sI_zn D.2.2.2.2.2, sI_zsN hj (by decide)]; rfl
theorem NH_s41 {j : Nat} (hj : j < 61) (x : Int32) : sI (NH h0 m r i f g w) (r 41) (nI j) x = some (NH h0 m r i f g (upd w j x)) := by unfold NH; rw [sI_zsN hj (by decide)]
theorem NH_a {k : Nat} (O : nhO m r k) (z : Int32) : aI (NH h0 m r i f g w) (r k) z = aI h0 (r k) z := by unfold NH; rw [aI_zn O.2.2.2, aI_zn O.2.2.1, aI_zn O.2.1, aI_zn O.1]
theorem NH_r (D : nhD m r) (k : Nat) (e : gR (zset h0 m (oX12 r i)) m 12 k = some (r k)) : gR (NH h0 m r i f g w) m 12 k = some (r k) := by unfold NH; rw [gR_zn D.2.2.1, gR_zn D.2.1, gR_zn D.1]; exact e
end NHS
