/-! the reference's way in the typed heap -/
def rf12 (n : Nat) (k : Nat) : Nat := ([0, n + 43, 0, 0, n + 44, n + 45, n + 46, 0, 0, n + 47, 0, n + 48, n + 49, n + 50, n + 51, n + 52, n + 53, 0, n + 54, 0, n + 55, n + 56, n + 57, n + 58, n + 59, 0, 0, 0, n + 60, n + 61, n + 62, n + 63, n + 64, n + 65, n + 66, n + 67, n + 68, n + 69, n + 70, n + 71, n + 72, n + 73, 0, 0, 0, 0, 0, 0, 0, 0, n + 74, n + 75, n + 76, n + 77, n + 78, n + 79, n + 80, n + 81, n + 82, n + 83, n + 84, n + 85, n + 86, 0, 0, 0, n + 87, 0, n + 88, n + 89, n + 90, n + 91, n + 92, n + 93, n + 94, n + 95, 0, n + 96, n + 97, n + 98] : List Nat).getD k 0
theorem rf_D (n : Nat) : nhD (n + 42) (rf12 n) := ⟨by show n + 42 ≠ n + 71; omega, by show n + 42 ≠ n + 72; omega, by show n + 42 ≠ n + 73; omega, by show n + 71 ≠ n + 72; omega, by show n + 71 ≠ n + 73; omega, by show n + 72 ≠ n + 73; omega⟩
section GOES
variable {n b L : Nat} {xs : Nat → Int32} {τ : Nat → Nat} {g : zGh} {h : zH}
theorem v_X12_goes {v1 : Int32} {K : Nat} {F : Nat → Int32} (w : WT n b L xs τ g h) (p0 : 0 ≤ v1) (p1 : v1 < g.1 42 27) (p2 : ∀ i : Int32, 0 ≤ i → i < g.1 42 27 → 1 ≤ g.2.1 65 i.toNatClampNeg) (eK : v1.toNatClampNeg = K) (mk : MK F (g.2.1 61 K) (g.2.1 62 K) (g.2.1 63 K) (g.2.1 64 K) (g.2.1 65 K) (g.2.1 66 K) (g.2.1 67 K) (g.2.1 68 K) (g.2.1 69 K) (g.2.1 70 K)) : ∃ r, f_X12_goesThrough 10000 (n + 42) v1 (g.2.1 62 K) h = some r ∧ WT n b L xs τ g r ∧ gI r (n + 42) 12 42 = some (nI (rE F)) ∧ gI r (n + 42) 12 43 = some (bI (decide (0 < rE F ∧ rMt (rQ F (rE F)) = true))) ∧ gI r (n + 42) 12 44 = some (rQ F (rE F)).2.2.2.1 ∧ ∀ t, t ≤ rE F → aI r (n + 71) (nI t) = some (rQ F t).1 ∧ aI r (n + 72) (nI t) = some (rQ F t).2.1 := by
  subst eK
  obtain ⟨⟨m0, m1, m2, m3, m4⟩, m5, m6, ⟨m7, m8, m9, m10⟩, m7r, m9r, m1r, m4r, m11, m12⟩ := mk
  have r27 := gr_42_27 w
  have k40 : v1 < 40 := by lia
  have f1 : 0 ≤ F 1 := by lia
  have es : nI (F 1).toNatClampNeg = g.2.1 62 v1.toNatClampNeg := (i32_nI f1).trans m1
  have hs : (F 1).toNatClampNeg ≤ 300 := by
    have := (i32_clamp (i := F 1) f1 (N := 301) (by decide) (by show F 1 < 301; lia)).2
    omega
  have hq : rSeq (g.2.1 61 v1.toNatClampNeg) (g.2.1 64 v1.toNatClampNeg) (nI (F 1).toNatClampNeg) (g.2.1 63 v1.toNatClampNeg) (g.2.1 65 v1.toNatClampNeg) (F 5) (g.2.1 67 v1.toNatClampNeg) (g.2.1 68 v1.toNatClampNeg) (g.2.1 69 v1.toNatClampNeg) = rQ F := by
    unfold rQ
    rw [← m0, ← m3, ← m2, ← m4, ← m7, ← m9, i32_nI f1]
    by_cases c : F 7 = 0
    · rw [c]
      exact rSeq_0
    · rw [m8 c]
  obtain ⟨c, e42, i, rfl, -⟩ := w.1 42 (by decide)
  obtain ⟨c1, e71, f, rfl, -⟩ := w.1 71 (by decide)
  obtain ⟨c2, e72, fg, rfl, -⟩ := w.1 72 (by decide)
  obtain ⟨c3, e73, fw, rfl, -⟩ := w.1 73 (by decide)
  have eh : NH h (n + 42) (rf12 n) i f fg fw = h := by
    unfold NH
    rw [show zset h (n + 42) (oX12 (rf12 n) i) = h from zs_id e42, show zset h (rf12 n 39) (.inl (0, 61, .inl f)) = h from zs_id e71, show zset h (rf12 n 40) (.inl (0, 61, .inl fg)) = h from zs_id e72]
    exact zs_id e73
  obtain ⟨i', f', g', w', e, p42, p43, p44, pf⟩ := goes_eq (N := 10000) (m := n + 42) (h0 := h) (r := rf12 n) (i := i) (f := f) (g := fg) (w := fw) (v1 := v1) (looks := F 5) (rf_D n) (show nhO (n + 42) (rf12 n) 29 from ⟨by show n + 61 ≠ n + 42; omega, by show n + 61 ≠ n + 71; omega, by show n + 61 ≠ n + 72; omega, by show n + 61 ≠ n + 73; omega⟩) (show nhO (n + 42) (rf12 n) 31 from ⟨by show n + 63 ≠ n + 42; omega, by show n + 63 ≠ n + 71; omega, by show n + 63 ≠ n + 72; omega, by show n + 63 ≠ n + 73; omega⟩) (show nhO (n + 42) (rf12 n) 32 from ⟨by show n + 64 ≠ n + 42; omega, by show n + 64 ≠ n + 71; omega, by show n + 64 ≠ n + 72; omega, by show n + 64 ≠ n + 73; omega⟩) (show nhO (n + 42) (rf12 n) 33 from ⟨by show n + 65 ≠ n + 42; omega, by show n + 65 ≠ n + 71; omega, by show n + 65 ≠ n + 72; omega, by show n + 65 ≠ n + 73; omega⟩) (show nhO (n + 42) (rf12 n) 34 from ⟨by show n + 66 ≠ n + 42; omega, by show n + 66 ≠ n + 71; omega, by show n + 66 ≠ n + 72; omega, by show n + 66 ≠ n + 73; omega⟩) (show nhO (n + 42) (rf12 n) 35 from ⟨by show n + 67 ≠ n + 42; omega, by show n + 67 ≠ n + 71; omega, by show n + 67 ≠ n + 72; omega, by show n + 67 ≠ n + 73; omega⟩) (show nhO (n + 42) (rf12 n) 36 from ⟨by show n + 68 ≠ n + 42; omega, by show n + 68 ≠ n + 71; omega, by show n + 68 ≠ n + 72; omega, by show n + 68 ≠ n + 73; omega⟩) (show nhO (n + 42) (rf12 n) 37 from ⟨by show n + 69 ≠ n + 42; omega, by show n + 69 ≠ n + 71; omega, by show n + 69 ≠ n + 72; omega, by show n + 69 ≠ n + 73; omega⟩) (A_61 w p0 k40) (A_63 w p0 k40) (A_64 w p0 k40) (A_65 w p0 k40) (A_66 w p0 k40) (A_67 w p0 k40) (A_68 w p0 k40) (A_69 w p0 k40) m5 (by rw [← m7]; exact m7r) (by rw [← m4]; lia) (by rw [← m9]; exact m9r) hs hq (by decide)
  rw [eh, es] at e
  obtain ⟨r, er, wr, -⟩ := t_X12_goesThrough (v2 := g.2.1 62 v1.toNatClampNeg) w p0 p1 p2 r27.2
  have e8 := Option.some.inj (er.symm.trans e)
  subst e8
  refine ⟨_, e, wr, ?_, ?_, ?_, fun t ht => ⟨?_, ?_⟩⟩
  · rw [NH_g42 (rf_D n), p42]
    rfl
  · rw [NH_g43 (rf_D n), p43]
    rfl
  · rw [NH_g44 (rf_D n), p44]
    rfl
  · have h60 := rEnd_60 (rQ F)
    have ht' : t ≤ rEnd (rQ F) 60 0 := ht
    rw [← (pf t ht').1]
    exact NH_a39 (rf_D n) (by omega)
  · have h60 := rEnd_60 (rQ F)
    have ht' : t ≤ rEnd (rQ F) 60 0 := ht
    rw [← (pf t ht').2]
    exact NH_a40 (rf_D n) (by omega)
end GOES
