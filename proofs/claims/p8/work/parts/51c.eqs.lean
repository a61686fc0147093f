/-! what is tracked, as equations; new cells and their kinds -/
section EQS
variable {n b L : Nat} {xs : Nat → Int32} {τ : Nat → Nat} {g : zGh} {h : zH}
theorem E_0_10 (w : WT n b L xs τ g h) : gI h n 11 10 = some (g.1 0 10) := by
  obtain ⟨x, e, q⟩ := gI_0_10 w
  rw [e, q.1]
theorem E_0_11 (w : WT n b L xs τ g h) : gI h n 11 11 = some (g.1 0 11) := by
  obtain ⟨x, e, q⟩ := gI_0_11 w
  rw [e, q.1]
theorem E_0_12 (w : WT n b L xs τ g h) : gI h n 11 12 = some (g.1 0 12) := by
  obtain ⟨x, e, q⟩ := gI_0_12 w
  rw [e, q.1]
theorem E_3_2 (w : WT n b L xs τ g h) : gI h (n + 3) 9 2 = some (g.1 3 2) := by
  obtain ⟨x, e, q⟩ := gI_3_2 w
  rw [e, q.1]
theorem E_3_3 (w : WT n b L xs τ g h) : gI h (n + 3) 9 3 = some (g.1 3 3) := by
  obtain ⟨x, e, q⟩ := gI_3_3 w
  rw [e, q.1]
theorem E_3_4 (w : WT n b L xs τ g h) : gI h (n + 3) 9 4 = some (g.1 3 4) := by
  obtain ⟨x, e, q⟩ := gI_3_4 w
  rw [e, q.1]
theorem E_3_5 (w : WT n b L xs τ g h) : gI h (n + 3) 9 5 = some (g.1 3 5) := by
  obtain ⟨x, e, q⟩ := gI_3_5 w
  rw [e, q.1]
theorem E_3_6 (w : WT n b L xs τ g h) : gI h (n + 3) 9 6 = some (g.1 3 6) := by
  obtain ⟨x, e, q⟩ := gI_3_6 w
  rw [e, q.1]
theorem A_4 {i : Int32} (w : WT n b L xs τ g h) (i0 : 0 ≤ i) (i1 : i < 1000) : aB h (n + 4) i = some (g.2.1 4 i.toNatClampNeg) := by
  obtain ⟨x, e, q⟩ := aB_4 w i0 i1
  rw [e, q.1]
theorem E_6_4 (w : WT n b L xs τ g h) : gI h (n + 6) 7 4 = some (g.1 6 4) := by
  obtain ⟨x, e, q⟩ := gI_6_4 w
  rw [e, q.1]
theorem E_6_5 (w : WT n b L xs τ g h) : gI h (n + 6) 7 5 = some (g.1 6 5) := by
  obtain ⟨x, e, q⟩ := gI_6_5 w
  rw [e, q.1]
theorem E_6_6 (w : WT n b L xs τ g h) : gI h (n + 6) 7 6 = some (g.1 6 6) := by
  obtain ⟨x, e, q⟩ := gI_6_6 w
  rw [e, q.1]
theorem E_6_8 (w : WT n b L xs τ g h) : gI h (n + 6) 7 8 = some (g.1 6 8) := by
  obtain ⟨x, e, q⟩ := gI_6_8 w
  rw [e, q]
theorem E_10_3 (w : WT n b L xs τ g h) : gI h (n + 10) 1 3 = some (g.1 10 3) := by
  obtain ⟨x, e, q⟩ := gI_10_3 w
  rw [e, q.1]
theorem E_14_5 (w : WT n b L xs τ g h) : gI h (n + 14) 0 5 = some (g.1 14 5) := by
  obtain ⟨x, e, q⟩ := gI_14_5 w
  rw [e, q.1]
theorem E_20_4 (w : WT n b L xs τ g h) : gI h (n + 20) 2 4 = some (g.1 20 4) := by
  obtain ⟨x, e, q⟩ := gI_20_4 w
  rw [e, q.1]
theorem E_20_5 (w : WT n b L xs τ g h) : gI h (n + 20) 2 5 = some (g.1 20 5) := by
  obtain ⟨x, e, q⟩ := gI_20_5 w
  rw [e, q]
theorem E_20_6 (w : WT n b L xs τ g h) : gI h (n + 20) 2 6 = some (g.1 20 6) := by
  obtain ⟨x, e, q⟩ := gI_20_6 w
  rw [e, q]
theorem E_20_7 (w : WT n b L xs τ g h) : gI h (n + 20) 2 7 = some (g.1 20 7) := by
  obtain ⟨x, e, q⟩ := gI_20_7 w
  rw [e, q]
theorem A_21 {i : Int32} (w : WT n b L xs τ g h) (i0 : 0 ≤ i) (i1 : i < 4) : aI h (n + 21) i = some (g.2.1 21 i.toNatClampNeg) := by
  obtain ⟨x, e, q⟩ := aI_21 w i0 i1
  rw [e, q]
theorem A_22 {i : Int32} (w : WT n b L xs τ g h) (i0 : 0 ≤ i) (i1 : i < 4) : aI h (n + 22) i = some (g.2.1 22 i.toNatClampNeg) := by
  obtain ⟨x, e, q⟩ := aI_22 w i0 i1
  rw [e, q]
theorem A_23 {i : Int32} (w : WT n b L xs τ g h) (i0 : 0 ≤ i) (i1 : i < 4) : aI h (n + 23) i = some (g.2.1 23 i.toNatClampNeg) := by
  obtain ⟨x, e, q⟩ := aI_23 w i0 i1
  rw [e, q.1]
theorem A_24 {i : Int32} (w : WT n b L xs τ g h) (i0 : 0 ≤ i) (i1 : i < 4) : aI h (n + 24) i = some (g.2.1 24 i.toNatClampNeg) := by
  obtain ⟨x, e, q⟩ := aI_24 w i0 i1
  rw [e, q]
theorem E_25_4 (w : WT n b L xs τ g h) : gI h (n + 25) 3 4 = some (g.1 25 4) := by
  obtain ⟨x, e, q⟩ := gI_25_4 w
  rw [e, q.1]
theorem E_25_5 (w : WT n b L xs τ g h) : gI h (n + 25) 3 5 = some (g.1 25 5) := by
  obtain ⟨x, e, q⟩ := gI_25_5 w
  rw [e, q]
theorem E_25_6 (w : WT n b L xs τ g h) : gI h (n + 25) 3 6 = some (g.1 25 6) := by
  obtain ⟨x, e, q⟩ := gI_25_6 w
  rw [e, q.1]
theorem A_26 {i : Int32} (w : WT n b L xs τ g h) (i0 : 0 ≤ i) (i1 : i < 8) : aI h (n + 26) i = some (g.2.1 26 i.toNatClampNeg) := by
  obtain ⟨x, e, q⟩ := aI_26 w i0 i1
  rw [e, q]
theorem A_27 {i : Int32} (w : WT n b L xs τ g h) (i0 : 0 ≤ i) (i1 : i < 72) : aI h (n + 27) i = some (g.2.1 27 i.toNatClampNeg) := by
  obtain ⟨x, e, q⟩ := aI_27 w i0 i1
  rw [e, q]
theorem A_28 {i : Int32} (w : WT n b L xs τ g h) (i0 : 0 ≤ i) (i1 : i < 512) : aI h (n + 28) i = some (g.2.1 28 i.toNatClampNeg) := by
  obtain ⟨x, e, q⟩ := aI_28 w i0 i1
  rw [e, q]
theorem A_29 {i : Int32} (w : WT n b L xs τ g h) (i0 : 0 ≤ i) (i1 : i < 512) : aI h (n + 29) i = some (g.2.1 29 i.toNatClampNeg) := by
  obtain ⟨x, e, q⟩ := aI_29 w i0 i1
  rw [e, q]
theorem A_31 {i : Int32} (w : WT n b L xs τ g h) (i0 : 0 ≤ i) (i1 : i < 248) : aI h (n + 31) i = some (g.2.1 31 i.toNatClampNeg) := by
  obtain ⟨x, e, q⟩ := aI_31 w i0 i1
  rw [e, q]
theorem A_32 {i : Int32} (w : WT n b L xs τ g h) (i0 : 0 ≤ i) (i1 : i < 248) : aI h (n + 32) i = some (g.2.1 32 i.toNatClampNeg) := by
  obtain ⟨x, e, q⟩ := aI_32 w i0 i1
  rw [e, q]
theorem E_33_9 (w : WT n b L xs τ g h) : gI h (n + 33) 10 9 = some (g.1 33 9) := by
  obtain ⟨x, e, q⟩ := gI_33_9 w
  rw [e, q]
theorem E_33_10 (w : WT n b L xs τ g h) : gI h (n + 33) 10 10 = some (g.1 33 10) := by
  obtain ⟨x, e, q⟩ := gI_33_10 w
  rw [e, q.1]
theorem E_42_2 (w : WT n b L xs τ g h) : gI h (n + 42) 12 2 = some (g.1 42 2) := by
  obtain ⟨x, e, q⟩ := gI_42_2 w
  rw [e, q.1]
theorem E_42_7 (w : WT n b L xs τ g h) : gI h (n + 42) 12 7 = some (g.1 42 7) := by
  obtain ⟨x, e, q⟩ := gI_42_7 w
  rw [e, q.1]
theorem E_42_8 (w : WT n b L xs τ g h) : gI h (n + 42) 12 8 = some (g.1 42 8) := by
  obtain ⟨x, e, q⟩ := gI_42_8 w
  rw [e, q]
theorem E_42_10 (w : WT n b L xs τ g h) : gI h (n + 42) 12 10 = some (g.1 42 10) := by
  obtain ⟨x, e, q⟩ := gI_42_10 w
  rw [e, q.1]
theorem E_42_17 (w : WT n b L xs τ g h) : gI h (n + 42) 12 17 = some (g.1 42 17) := by
  obtain ⟨x, e, q⟩ := gI_42_17 w
  rw [e, q.1]
theorem E_42_19 (w : WT n b L xs τ g h) : gI h (n + 42) 12 19 = some (g.1 42 19) := by
  obtain ⟨x, e, q⟩ := gI_42_19 w
  rw [e, q.1]
theorem E_42_25 (w : WT n b L xs τ g h) : gI h (n + 42) 12 25 = some (g.1 42 25) := by
  obtain ⟨x, e, q⟩ := gI_42_25 w
  rw [e, q.1]
theorem E_42_26 (w : WT n b L xs τ g h) : gI h (n + 42) 12 26 = some (g.1 42 26) := by
  obtain ⟨x, e, q⟩ := gI_42_26 w
  rw [e, q.1]
theorem E_42_27 (w : WT n b L xs τ g h) : gI h (n + 42) 12 27 = some (g.1 42 27) := by
  obtain ⟨x, e, q⟩ := gI_42_27 w
  rw [e, q.1]
theorem E_42_49 (w : WT n b L xs τ g h) : gI h (n + 42) 12 49 = some (g.1 42 49) := by
  obtain ⟨x, e, q⟩ := gI_42_49 w
  rw [e, q.1]
theorem E_42_63 (w : WT n b L xs τ g h) : gI h (n + 42) 12 63 = some (g.1 42 63) := by
  obtain ⟨x, e, q⟩ := gI_42_63 w
  rw [e, q.1]
theorem E_42_64 (w : WT n b L xs τ g h) : gI h (n + 42) 12 64 = some (g.1 42 64) := by
  obtain ⟨x, e, q⟩ := gI_42_64 w
  rw [e, q]
theorem E_42_65 (w : WT n b L xs τ g h) : gI h (n + 42) 12 65 = some (g.1 42 65) := by
  obtain ⟨x, e, q⟩ := gI_42_65 w
  rw [e, q]
theorem E_42_67 (w : WT n b L xs τ g h) : gI h (n + 42) 12 67 = some (g.1 42 67) := by
  obtain ⟨x, e, q⟩ := gI_42_67 w
  rw [e, q.1]
theorem E_42_76 (w : WT n b L xs τ g h) : gI h (n + 42) 12 76 = some (g.1 42 76) := by
  obtain ⟨x, e, q⟩ := gI_42_76 w
  rw [e, q.1]
theorem A_44 {i : Int32} (w : WT n b L xs τ g h) (i0 : 0 ≤ i) (i1 : i < 1002) : aI h (n + 44) i = some (g.2.1 44 i.toNatClampNeg) := by
  obtain ⟨x, e, q⟩ := aI_44 w i0 i1
  rw [e, q]
theorem A_46 {i : Int32} (w : WT n b L xs τ g h) (i0 : 0 ≤ i) (i1 : i < 1002) : aL h (n + 46) i = some (g.2.2 46 i.toNatClampNeg) := by
  obtain ⟨x, e, q⟩ := aL_46 w i0 i1
  rw [e, q]
theorem A_47 {i : Int32} (w : WT n b L xs τ g h) (i0 : 0 ≤ i) (i1 : i < 21) : aL h (n + 47) i = some (g.2.2 47 i.toNatClampNeg) := by
  obtain ⟨x, e, q⟩ := aL_47 w i0 i1
  rw [e, q]
theorem A_50 {i : Int32} (w : WT n b L xs τ g h) (i0 : 0 ≤ i) (i1 : i < 17) : aI h (n + 50) i = some (g.2.1 50 i.toNatClampNeg) := by
  obtain ⟨x, e, q⟩ := aI_50 w i0 i1
  rw [e, q]
theorem A_51 {i : Int32} (w : WT n b L xs τ g h) (i0 : 0 ≤ i) (i1 : i < 340) : aI h (n + 51) i = some (g.2.1 51 i.toNatClampNeg) := by
  obtain ⟨x, e, q⟩ := aI_51 w i0 i1
  rw [e, q]
theorem A_53 {i : Int32} (w : WT n b L xs τ g h) (i0 : 0 ≤ i) (i1 : i < 340) : aI h (n + 53) i = some (g.2.1 53 i.toNatClampNeg) := by
  obtain ⟨x, e, q⟩ := aI_53 w i0 i1
  rw [e, q]
theorem A_55 {i : Int32} (w : WT n b L xs τ g h) (i0 : 0 ≤ i) (i1 : i < 20400) : aI h (n + 55) i = some (g.2.1 55 i.toNatClampNeg) := by
  obtain ⟨x, e, q⟩ := aI_55 w i0 i1
  rw [e, q]
theorem A_56 {i : Int32} (w : WT n b L xs τ g h) (i0 : 0 ≤ i) (i1 : i < 20400) : aI h (n + 56) i = some (g.2.1 56 i.toNatClampNeg) := by
  obtain ⟨x, e, q⟩ := aI_56 w i0 i1
  rw [e, q]
theorem A_65 {i : Int32} (w : WT n b L xs τ g h) (i0 : 0 ≤ i) (i1 : i < 40) : aI h (n + 65) i = some (g.2.1 65 i.toNatClampNeg) := by
  obtain ⟨x, e, q⟩ := aI_65 w i0 i1
  rw [e, q]
theorem A_81 {i : Int32} (w : WT n b L xs τ g h) (i0 : 0 ≤ i) (i1 : i < 4) : aZ h (n + 81) i = some (g.2.1 81 i.toNatClampNeg) := by
  obtain ⟨x, e, q⟩ := aZ_81 w i0 i1
  rw [e, q]
theorem A_82 {i : Int32} (w : WT n b L xs τ g h) (i0 : 0 ≤ i) (i1 : i < 4) : aI h (n + 82) i = some (g.2.1 82 i.toNatClampNeg) := by
  obtain ⟨x, e, q⟩ := aI_82 w i0 i1
  rw [e, q]
theorem A_83 {i : Int32} (w : WT n b L xs τ g h) (i0 : 0 ≤ i) (i1 : i < 4) : aI h (n + 83) i = some (g.2.1 83 i.toNatClampNeg) := by
  obtain ⟨x, e, q⟩ := aI_83 w i0 i1
  rw [e, q]
theorem A_84 {i : Int32} (w : WT n b L xs τ g h) (i0 : 0 ≤ i) (i1 : i < 4) : aI h (n + 84) i = some (g.2.1 84 i.toNatClampNeg) := by
  obtain ⟨x, e, q⟩ := aI_84 w i0 i1
  rw [e, q]
theorem A_85 {i : Int32} (w : WT n b L xs τ g h) (i0 : 0 ≤ i) (i1 : i < 4) : aI h (n + 85) i = some (g.2.1 85 i.toNatClampNeg) := by
  obtain ⟨x, e, q⟩ := aI_85 w i0 i1
  rw [e, q]
theorem A_86 {i : Int32} (w : WT n b L xs τ g h) (i0 : 0 ≤ i) (i1 : i < 16) : aZ h (n + 86) i = some (g.2.1 86 i.toNatClampNeg) := by
  obtain ⟨x, e, q⟩ := aZ_86 w i0 i1
  rw [e, q]
theorem A_87 {i : Int32} (w : WT n b L xs τ g h) (i0 : 0 ≤ i) (i1 : i < 4) : aI h (n + 87) i = some (g.2.1 87 i.toNatClampNeg) := by
  obtain ⟨x, e, q⟩ := aI_87 w i0 i1
  rw [e, q]
theorem A_88 {i : Int32} (w : WT n b L xs τ g h) (i0 : 0 ≤ i) (i1 : i < 8) : aI h (n + 88) i = some (g.2.1 88 i.toNatClampNeg) := by
  obtain ⟨x, e, q⟩ := aI_88 w i0 i1
  rw [e, q]
theorem A_89 {i : Int32} (w : WT n b L xs τ g h) (i0 : 0 ≤ i) (i1 : i < 72) : aI h (n + 89) i = some (g.2.1 89 i.toNatClampNeg) := by
  obtain ⟨x, e, q⟩ := aI_89 w i0 i1
  rw [e, q]
theorem A_90 {i : Int32} (w : WT n b L xs τ g h) (i0 : 0 ≤ i) (i1 : i < 248) : aI h (n + 90) i = some (g.2.1 90 i.toNatClampNeg) := by
  obtain ⟨x, e, q⟩ := aI_90 w i0 i1
  rw [e, q]
theorem A_91 {i : Int32} (w : WT n b L xs τ g h) (i0 : 0 ≤ i) (i1 : i < 248) : aI h (n + 91) i = some (g.2.1 91 i.toNatClampNeg) := by
  obtain ⟨x, e, q⟩ := aI_91 w i0 i1
  rw [e, q]
end EQS
