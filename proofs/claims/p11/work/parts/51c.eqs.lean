/-! what is tracked, as equations; new cells and their kinds -/
section EQS
variable {n b L : Nat} {xs : Nat → Int32} {τ : Nat → Nat} {g : zGh} {h : zH}
theorem E_0_10 (w : WT n b L xs τ g h) : gI h n 11 10 = some (g.1 0 10) := by
  obtain ⟨x, e, q⟩ := gI_0_10 w
  rw [e, q.1]
theorem E_0_11 (w : WT n b L xs τ g h) : gI h n 11 11 = some (g.1 0 11) := by
  obtain ⟨x, e, q⟩ := gI_0_11 w
  rw [e, q.1]
theorem E_0_12 (w : WT n b L xs τ g h) : gI h n 11 12 = some (g.1 0 12) := by
  obtain ⟨x, e, q⟩ := gI_0_12 w
  rw [e, q.1]
theorem E_3_2 (w : WT n b L xs τ g h) : gI h (n + 3) 9 2 = some (g.1 3 2) := by
  obtain ⟨x, e, q⟩ := gI_3_2 w
  rw [e, q.1]
theorem E_3_3 (w : WT n b L xs τ g h) : gI h (n + 3) 9 3 = some (g.1 3 3) := by
  obtain ⟨x, e, q⟩ := gI_3_3 w
  rw [e, q.1]
theorem E_3_4 (w : WT n b L xs τ g h) : gI h (n + 3) 9 4 = some (g.1 3 4) := by
  obtain ⟨x, e, q⟩ := gI_3_4 w
  rw [e, q.1]
theorem E_3_5 (w : WT n b L xs τ g h) : gI h (n + 3) 9 5 = some (g.1 3 5) := by
  obtain ⟨x, e, q⟩ := gI_3_5 w
  rw [e, q.1]
theorem E_3_6 (w : WT n b L xs τ g h) : gI h (n + 3) 9 6 = some (g.1 3 6) := by
  obtain ⟨x, e, q⟩ := gI_3_6 w
  rw [e, q.1]
theorem A_4 {i : Int32} (w : WT n b L xs τ g h) (i0 : 0 ≤ i) (i1 : i < 1000) : aB h (n + 4) i = some (g.2.1 4 i.toNatClampNeg) := by
  obtain ⟨x, e, q⟩ := aB_4 w i0 i1
  rw [e, q.1]
theorem A_5 {i : Int32} (w : WT n b L xs τ g h) (i0 : 0 ≤ i) (i1 : i < 21) : aL h (n + 5) i = some (g.2.2 5 i.toNatClampNeg) := by
  obtain ⟨x, e, q⟩ := aL_5 w i0 i1
  rw [e, q]
theorem E_6_4 (w : WT n b L xs τ g h) : gI h (n + 6) 7 4 = some (g.1 6 4) := by
  obtain ⟨x, e, q⟩ := gI_6_4 w
  rw [e, q.1]
theorem E_6_5 (w : WT n b L xs τ g h) : gI h (n + 6) 7 5 = some (g.1 6 5) := by
  obtain ⟨x, e, q⟩ := gI_6_5 w
  rw [e, q.1]
theorem E_6_6 (w : WT n b L xs τ g h) : gI h (n + 6) 7 6 = some (g.1 6 6) := by
  obtain ⟨x, e, q⟩ := gI_6_6 w
  rw [e, q.1]
theorem E_6_8 (w : WT n b L xs τ g h) : gI h (n + 6) 7 8 = some (g.1 6 8) := by
  obtain ⟨x, e, q⟩ := gI_6_8 w
  rw [e, q]
theorem E_10_3 (w : WT n b L xs τ g h) : gI h (n + 10) 1 3 = some (g.1 10 3) := by
  obtain ⟨x, e, q⟩ := gI_10_3 w
  rw [e, q.1]
theorem E_14_5 (w : WT n b L xs τ g h) : gI h (n + 14) 0 5 = some (g.1 14 5) := by
  obtain ⟨x, e, q⟩ := gI_14_5 w
  rw [e, q.1]
theorem E_14_6 (w : WT n b L xs τ g h) : gI h (n + 14) 0 6 = some (g.1 14 6) := by
  obtain ⟨x, e, q⟩ := gI_14_6 w
  rw [e, q.1]
theorem A_16 {i : Int32} (w : WT n b L xs τ g h) (i0 : 0 ≤ i) (i1 : i < 80) : aI h (n + 16) i = some (g.2.1 16 i.toNatClampNeg) := by
  obtain ⟨x, e, q⟩ := aI_16 w i0 i1
  rw [e, q]
theorem A_17 {i : Int32} (w : WT n b L xs τ g h) (i0 : 0 ≤ i) (i1 : i < 80) : aZ h (n + 17) i = some (g.2.1 17 i.toNatClampNeg) := by
  obtain ⟨x, e, q⟩ := aZ_17 w i0 i1
  rw [e, q]
theorem A_18 {i : Int32} (w : WT n b L xs τ g h) (i0 : 0 ≤ i) (i1 : i < 128) : aI h (n + 18) i = some (g.2.1 18 i.toNatClampNeg) := by
  obtain ⟨x, e, q⟩ := aI_18 w i0 i1
  rw [e, q]
theorem A_19 {i : Int32} (w : WT n b L xs τ g h) (i0 : 0 ≤ i) (i1 : i < 128) : aI h (n + 19) i = some (g.2.1 19 i.toNatClampNeg) := by
  obtain ⟨x, e, q⟩ := aI_19 w i0 i1
  rw [e, q]
theorem E_20_4 (w : WT n b L xs τ g h) : gI h (n + 20) 2 4 = some (g.1 20 4) := by
  obtain ⟨x, e, q⟩ := gI_20_4 w
  rw [e, q.1]
theorem E_20_5 (w : WT n b L xs τ g h) : gI h (n + 20) 2 5 = some (g.1 20 5) := by
  obtain ⟨x, e, q⟩ := gI_20_5 w
  rw [e, q]
theorem E_20_6 (w : WT n b L xs τ g h) : gI h (n + 20) 2 6 = some (g.1 20 6) := by
  obtain ⟨x, e, q⟩ := gI_20_6 w
  rw [e, q]
theorem E_20_7 (w : WT n b L xs τ g h) : gI h (n + 20) 2 7 = some (g.1 20 7) := by
  obtain ⟨x, e, q⟩ := gI_20_7 w
  rw [e, q]
theorem A_21 {i : Int32} (w : WT n b L xs τ g h) (i0 : 0 ≤ i) (i1 : i < 4) : aI h (n + 21) i = some (g.2.1 21 i.toNatClampNeg) := by
  obtain ⟨x, e, q⟩ := aI_21 w i0 i1
  rw [e, q]
theorem A_22 {i : Int32} (w : WT n b L xs τ g h) (i0 : 0 ≤ i) (i1 : i < 4) : aI h (n + 22) i = some (g.2.1 22 i.toNatClampNeg) := by
  obtain ⟨x, e, q⟩ := aI_22 w i0 i1
  rw [e, q]
theorem A_23 {i : Int32} (w : WT n b L xs τ g h) (i0 : 0 ≤ i) (i1 : i < 4) : aI h (n + 23) i = some (g.2.1 23 i.toNatClampNeg) := by
  obtain ⟨x, e, q⟩ := aI_23 w i0 i1
  rw [e, q.1]
theorem A_24 {i : Int32} (w : WT n b L xs τ g h) (i0 : 0 ≤ i) (i1 : i < 4) : aI h (n + 24) i = some (g.2.1 24 i.toNatClampNeg) := by
  obtain ⟨x, e, q⟩ := aI_24 w i0 i1
  rw [e, q]
theorem E_25_4 (w : WT n b L xs τ g h) : gI h (n + 25) 3 4 = some (g.1 25 4) := by
  obtain ⟨x, e, q⟩ := gI_25_4 w
  rw [e, q.1]
theorem E_25_5 (w : WT n b L xs τ g h) : gI h (n + 25) 3 5 = some (g.1 25 5) := by
  obtain ⟨x, e, q⟩ := gI_25_5 w
  rw [e, q]
theorem E_25_6 (w : WT n b L xs τ g h) : gI h (n + 25) 3 6 = some (g.1 25 6) := by
  obtain ⟨x, e, q⟩ := gI_25_6 w
  rw [e, q.1]
theorem A_26 {i : Int32} (w : WT n b L xs τ g h) (i0 : 0 ≤ i) (i1 : i < 8) : aI h (n + 26) i = some (g.2.1 26 i.toNatClampNeg) := by
  obtain ⟨x, e, q⟩ := aI_26 w i0 i1
  rw [e, q]
theorem A_27 {i : Int32} (w : WT n b L xs τ g h) (i0 : 0 ≤ i) (i1 : i < 72) : aI h (n + 27) i = some (g.2.1 27 i.toNatClampNeg) := by
  obtain ⟨x, e, q⟩ := aI_27 w i0 i1
  rw [e, q]
theorem A_28 {i : Int32} (w : WT n b L xs τ g h) (i0 : 0 ≤ i) (i1 : i < 512) : aI h (n + 28) i = some (g.2.1 28 i.toNatClampNeg) := by
  obtain ⟨x, e, q⟩ := aI_28 w i0 i1
  rw [e, q]
theorem A_29 {i : Int32} (w : WT n b L xs τ g h) (i0 : 0 ≤ i) (i1 : i < 512) : aI h (n + 29) i = some (g.2.1 29 i.toNatClampNeg) := by
  obtain ⟨x, e, q⟩ := aI_29 w i0 i1
  rw [e, q]
theorem A_31 {i : Int32} (w : WT n b L xs τ g h) (i0 : 0 ≤ i) (i1 : i < 248) : aI h (n + 31) i = some (g.2.1 31 i.toNatClampNeg) := by
  obtain ⟨x, e, q⟩ := aI_31 w i0 i1
  rw [e, q]
theorem A_32 {i : Int32} (w : WT n b L xs τ g h) (i0 : 0 ≤ i) (i1 : i < 248) : aI h (n + 32) i = some (g.2.1 32 i.toNatClampNeg) := by
  obtain ⟨x, e, q⟩ := aI_32 w i0 i1
  rw [e, q]
theorem E_33_8 (w : WT n b L xs τ g h) : gI h (n + 33) 10 8 = some (g.1 33 8) := by
  obtain ⟨x, e, q⟩ := gI_33_8 w
  rw [e, q.1]
theorem E_33_9 (w : WT n b L xs τ g h) : gI h (n + 33) 10 9 = some (g.1 33 9) := by
  obtain ⟨x, e, q⟩ := gI_33_9 w
  rw [e, q.1]
theorem E_33_10 (w : WT n b L xs τ g h) : gI h (n + 33) 10 10 = some (g.1 33 10) := by
  obtain ⟨x, e, q⟩ := gI_33_10 w
  rw [e, q.1]
theorem A_34 {i : Int32} (w : WT n b L xs τ g h) (i0 : 0 ≤ i) (i1 : i < 16) : aI h (n + 34) i = some (g.2.1 34 i.toNatClampNeg) := by
  obtain ⟨x, e, q⟩ := aI_34 w i0 i1
  rw [e, q.1]
theorem A_35 {i : Int32} (w : WT n b L xs τ g h) (i0 : 0 ≤ i) (i1 : i < 24) : aI h (n + 35) i = some (g.2.1 35 i.toNatClampNeg) := by
  obtain ⟨x, e, q⟩ := aI_35 w i0 i1
  rw [e, q.1]
theorem A_36 {i : Int32} (w : WT n b L xs τ g h) (i0 : 0 ≤ i) (i1 : i < 8) : aI h (n + 36) i = some (g.2.1 36 i.toNatClampNeg) := by
  obtain ⟨x, e, q⟩ := aI_36 w i0 i1
  rw [e, q.1]
theorem A_37 {i : Int32} (w : WT n b L xs τ g h) (i0 : 0 ≤ i) (i1 : i < 8) : aI h (n + 37) i = some (g.2.1 37 i.toNatClampNeg) := by
  obtain ⟨x, e, q⟩ := aI_37 w i0 i1
  rw [e, q.1]
theorem A_38 {i : Int32} (w : WT n b L xs τ g h) (i0 : 0 ≤ i) (i1 : i < 256) : aI h (n + 38) i = some (g.2.1 38 i.toNatClampNeg) := by
  obtain ⟨x, e, q⟩ := aI_38 w i0 i1
  rw [e, q]
theorem A_39 {i : Int32} (w : WT n b L xs τ g h) (i0 : 0 ≤ i) (i1 : i < 8) : aI h (n + 39) i = some (g.2.1 39 i.toNatClampNeg) := by
  obtain ⟨x, e, q⟩ := aI_39 w i0 i1
  rw [e, q]
theorem A_40 {i : Int32} (w : WT n b L xs τ g h) (i0 : 0 ≤ i) (i1 : i < 9) : aI h (n + 40) i = some (g.2.1 40 i.toNatClampNeg) := by
  obtain ⟨x, e, q⟩ := aI_40 w i0 i1
  rw [e, q]
theorem A_41 {i : Int32} (w : WT n b L xs τ g h) (i0 : 0 ≤ i) (i1 : i < 9) : aI h (n + 41) i = some (g.2.1 41 i.toNatClampNeg) := by
  obtain ⟨x, e, q⟩ := aI_41 w i0 i1
  rw [e, q]
theorem E_42_2 (w : WT n b L xs τ g h) : gI h (n + 42) 12 2 = some (g.1 42 2) := by
  obtain ⟨x, e, q⟩ := gI_42_2 w
  rw [e, q.1]
theorem E_42_3 (w : WT n b L xs τ g h) : gI h (n + 42) 12 3 = some (g.1 42 3) := by
  obtain ⟨x, e, q⟩ := gI_42_3 w
  rw [e, q.1]
theorem E_42_7 (w : WT n b L xs τ g h) : gI h (n + 42) 12 7 = some (g.1 42 7) := by
  obtain ⟨x, e, q⟩ := gI_42_7 w
  rw [e, q.1]
theorem E_42_8 (w : WT n b L xs τ g h) : gI h (n + 42) 12 8 = some (g.1 42 8) := by
  obtain ⟨x, e, q⟩ := gI_42_8 w
  rw [e, q]
theorem E_42_10 (w : WT n b L xs τ g h) : gI h (n + 42) 12 10 = some (g.1 42 10) := by
  obtain ⟨x, e, q⟩ := gI_42_10 w
  rw [e, q.1]
theorem E_42_17 (w : WT n b L xs τ g h) : gI h (n + 42) 12 17 = some (g.1 42 17) := by
  obtain ⟨x, e, q⟩ := gI_42_17 w
  rw [e, q.1]
theorem E_42_19 (w : WT n b L xs τ g h) : gI h (n + 42) 12 19 = some (g.1 42 19) := by
  obtain ⟨x, e, q⟩ := gI_42_19 w
  rw [e, q.1]
theorem E_42_25 (w : WT n b L xs τ g h) : gI h (n + 42) 12 25 = some (g.1 42 25) := by
  obtain ⟨x, e, q⟩ := gI_42_25 w
  rw [e, q.1]
theorem E_42_26 (w : WT n b L xs τ g h) : gI h (n + 42) 12 26 = some (g.1 42 26) := by
  obtain ⟨x, e, q⟩ := gI_42_26 w
  rw [e, q.1]
theorem E_42_27 (w : WT n b L xs τ g h) : gI h (n + 42) 12 27 = some (g.1 42 27) := by
  obtain ⟨x, e, q⟩ := gI_42_27 w
  rw [e, q.1]
theorem E_42_49 (w : WT n b L xs τ g h) : gI h (n + 42) 12 49 = some (g.1 42 49) := by
  obtain ⟨x, e, q⟩ := gI_42_49 w
  rw [e, q.1]
theorem E_42_63 (w : WT n b L xs τ g h) : gI h (n + 42) 12 63 = some (g.1 42 63) := by
  obtain ⟨x, e, q⟩ := gI_42_63 w
  rw [e, q.1]
theorem E_42_64 (w : WT n b L xs τ g h) : gI h (n + 42) 12 64 = some (g.1 42 64) := by
  obtain ⟨x, e, q⟩ := gI_42_64 w
  rw [e, q]
theorem E_42_65 (w : WT n b L xs τ g h) : gI h (n + 42) 12 65 = some (g.1 42 65) := by
  obtain ⟨x, e, q⟩ := gI_42_65 w
  rw [e, q]
theorem E_42_67 (w : WT n b L xs τ g h) : gI h (n + 42) 12 67 = some (g.1 42 67) := by
  obtain ⟨x, e, q⟩ := gI_42_67 w
  rw [e, q.1]
theorem E_42_76 (w : WT n b L xs τ g h) : gI h (n + 42) 12 76 = some (g.1 42 76) := by
  obtain ⟨x, e, q⟩ := gI_42_76 w
  rw [e, q.1]
theorem A_43 {i : Int32} (w : WT n b L xs τ g h) (i0 : 0 ≤ i) (i1 : i < 1000) : aI h (n + 43) i = some (g.2.1 43 i.toNatClampNeg) := by
  obtain ⟨x, e, q⟩ := aI_43 w i0 i1
  rw [e, q]
theorem A_44 {i : Int32} (w : WT n b L xs τ g h) (i0 : 0 ≤ i) (i1 : i < 1002) : aI h (n + 44) i = some (g.2.1 44 i.toNatClampNeg) := by
  obtain ⟨x, e, q⟩ := aI_44 w i0 i1
  rw [e, q]
theorem A_45 {i : Int32} (w : WT n b L xs τ g h) (i0 : 0 ≤ i) (i1 : i < 1002) : aI h (n + 45) i = some (g.2.1 45 i.toNatClampNeg) := by
  obtain ⟨x, e, q⟩ := aI_45 w i0 i1
  rw [e, q.1]
theorem A_46 {i : Int32} (w : WT n b L xs τ g h) (i0 : 0 ≤ i) (i1 : i < 1002) : aL h (n + 46) i = some (g.2.2 46 i.toNatClampNeg) := by
  obtain ⟨x, e, q⟩ := aL_46 w i0 i1
  rw [e, q]
theorem A_47 {i : Int32} (w : WT n b L xs τ g h) (i0 : 0 ≤ i) (i1 : i < 21) : aL h (n + 47) i = some (g.2.2 47 i.toNatClampNeg) := by
  obtain ⟨x, e, q⟩ := aL_47 w i0 i1
  rw [e, q]
theorem A_48 {i : Int32} (w : WT n b L xs τ g h) (i0 : 0 ≤ i) (i1 : i < 17) : aI h (n + 48) i = some (g.2.1 48 i.toNatClampNeg) := by
  obtain ⟨x, e, q⟩ := aI_48 w i0 i1
  rw [e, q]
theorem A_49 {i : Int32} (w : WT n b L xs τ g h) (i0 : 0 ≤ i) (i1 : i < 17) : aI h (n + 49) i = some (g.2.1 49 i.toNatClampNeg) := by
  obtain ⟨x, e, q⟩ := aI_49 w i0 i1
  rw [e, q]
theorem A_50 {i : Int32} (w : WT n b L xs τ g h) (i0 : 0 ≤ i) (i1 : i < 17) : aI h (n + 50) i = some (g.2.1 50 i.toNatClampNeg) := by
  obtain ⟨x, e, q⟩ := aI_50 w i0 i1
  rw [e, q]
theorem A_51 {i : Int32} (w : WT n b L xs τ g h) (i0 : 0 ≤ i) (i1 : i < 340) : aI h (n + 51) i = some (g.2.1 51 i.toNatClampNeg) := by
  obtain ⟨x, e, q⟩ := aI_51 w i0 i1
  rw [e, q]
theorem A_52 {i : Int32} (w : WT n b L xs τ g h) (i0 : 0 ≤ i) (i1 : i < 340) : aI h (n + 52) i = some (g.2.1 52 i.toNatClampNeg) := by
  obtain ⟨x, e, q⟩ := aI_52 w i0 i1
  rw [e, q]
theorem A_53 {i : Int32} (w : WT n b L xs τ g h) (i0 : 0 ≤ i) (i1 : i < 340) : aI h (n + 53) i = some (g.2.1 53 i.toNatClampNeg) := by
  obtain ⟨x, e, q⟩ := aI_53 w i0 i1
  rw [e, q]
theorem A_54 {i : Int32} (w : WT n b L xs τ g h) (i0 : 0 ≤ i) (i1 : i < 8) : aL h (n + 54) i = some (g.2.2 54 i.toNatClampNeg) := by
  obtain ⟨x, e, q⟩ := aL_54 w i0 i1
  rw [e, q]
theorem A_55 {i : Int32} (w : WT n b L xs τ g h) (i0 : 0 ≤ i) (i1 : i < 20400) : aI h (n + 55) i = some (g.2.1 55 i.toNatClampNeg) := by
  obtain ⟨x, e, q⟩ := aI_55 w i0 i1
  rw [e, q]
theorem A_56 {i : Int32} (w : WT n b L xs τ g h) (i0 : 0 ≤ i) (i1 : i < 20400) : aI h (n + 56) i = some (g.2.1 56 i.toNatClampNeg) := by
  obtain ⟨x, e, q⟩ := aI_56 w i0 i1
  rw [e, q]
theorem A_61 {i : Int32} (w : WT n b L xs τ g h) (i0 : 0 ≤ i) (i1 : i < 40) : aI h (n + 61) i = some (g.2.1 61 i.toNatClampNeg) := by
  obtain ⟨x, e, q⟩ := aI_61 w i0 i1
  rw [e, q]
theorem A_62 {i : Int32} (w : WT n b L xs τ g h) (i0 : 0 ≤ i) (i1 : i < 40) : aI h (n + 62) i = some (g.2.1 62 i.toNatClampNeg) := by
  obtain ⟨x, e, q⟩ := aI_62 w i0 i1
  rw [e, q.1]
theorem A_63 {i : Int32} (w : WT n b L xs τ g h) (i0 : 0 ≤ i) (i1 : i < 40) : aI h (n + 63) i = some (g.2.1 63 i.toNatClampNeg) := by
  obtain ⟨x, e, q⟩ := aI_63 w i0 i1
  rw [e, q]
theorem A_64 {i : Int32} (w : WT n b L xs τ g h) (i0 : 0 ≤ i) (i1 : i < 40) : aI h (n + 64) i = some (g.2.1 64 i.toNatClampNeg) := by
  obtain ⟨x, e, q⟩ := aI_64 w i0 i1
  rw [e, q]
theorem A_65 {i : Int32} (w : WT n b L xs τ g h) (i0 : 0 ≤ i) (i1 : i < 40) : aI h (n + 65) i = some (g.2.1 65 i.toNatClampNeg) := by
  obtain ⟨x, e, q⟩ := aI_65 w i0 i1
  rw [e, q]
theorem A_66 {i : Int32} (w : WT n b L xs τ g h) (i0 : 0 ≤ i) (i1 : i < 40) : aI h (n + 66) i = some (g.2.1 66 i.toNatClampNeg) := by
  obtain ⟨x, e, q⟩ := aI_66 w i0 i1
  rw [e, q]
theorem A_67 {i : Int32} (w : WT n b L xs τ g h) (i0 : 0 ≤ i) (i1 : i < 40) : aI h (n + 67) i = some (g.2.1 67 i.toNatClampNeg) := by
  obtain ⟨x, e, q⟩ := aI_67 w i0 i1
  rw [e, q]
theorem A_68 {i : Int32} (w : WT n b L xs τ g h) (i0 : 0 ≤ i) (i1 : i < 40) : aI h (n + 68) i = some (g.2.1 68 i.toNatClampNeg) := by
  obtain ⟨x, e, q⟩ := aI_68 w i0 i1
  rw [e, q]
theorem A_69 {i : Int32} (w : WT n b L xs τ g h) (i0 : 0 ≤ i) (i1 : i < 40) : aI h (n + 69) i = some (g.2.1 69 i.toNatClampNeg) := by
  obtain ⟨x, e, q⟩ := aI_69 w i0 i1
  rw [e, q]
theorem A_70 {i : Int32} (w : WT n b L xs τ g h) (i0 : 0 ≤ i) (i1 : i < 40) : aI h (n + 70) i = some (g.2.1 70 i.toNatClampNeg) := by
  obtain ⟨x, e, q⟩ := aI_70 w i0 i1
  rw [e, q]
theorem A_74 {i : Int32} (w : WT n b L xs τ g h) (i0 : 0 ≤ i) (i1 : i < 80) : aI h (n + 74) i = some (g.2.1 74 i.toNatClampNeg) := by
  obtain ⟨x, e, q⟩ := aI_74 w i0 i1
  rw [e, q.1]
theorem A_75 {i : Int32} (w : WT n b L xs τ g h) (i0 : 0 ≤ i) (i1 : i < 80) : aZ h (n + 75) i = some (g.2.1 75 i.toNatClampNeg) := by
  obtain ⟨x, e, q⟩ := aZ_75 w i0 i1
  rw [e, q]
theorem A_76 {i : Int32} (w : WT n b L xs τ g h) (i0 : 0 ≤ i) (i1 : i < 80) : aI h (n + 76) i = some (g.2.1 76 i.toNatClampNeg) := by
  obtain ⟨x, e, q⟩ := aI_76 w i0 i1
  rw [e, q]
theorem A_77 {i : Int32} (w : WT n b L xs τ g h) (i0 : 0 ≤ i) (i1 : i < 40) : aI h (n + 77) i = some (g.2.1 77 i.toNatClampNeg) := by
  obtain ⟨x, e, q⟩ := aI_77 w i0 i1
  rw [e, q]
theorem A_78 {i : Int32} (w : WT n b L xs τ g h) (i0 : 0 ≤ i) (i1 : i < 128) : aI h (n + 78) i = some (g.2.1 78 i.toNatClampNeg) := by
  obtain ⟨x, e, q⟩ := aI_78 w i0 i1
  rw [e, q]
theorem A_79 {i : Int32} (w : WT n b L xs τ g h) (i0 : 0 ≤ i) (i1 : i < 128) : aI h (n + 79) i = some (g.2.1 79 i.toNatClampNeg) := by
  obtain ⟨x, e, q⟩ := aI_79 w i0 i1
  rw [e, q]
theorem A_80 {i : Int32} (w : WT n b L xs τ g h) (i0 : 0 ≤ i) (i1 : i < 128) : aZ h (n + 80) i = some (g.2.1 80 i.toNatClampNeg) := by
  obtain ⟨x, e, q⟩ := aZ_80 w i0 i1
  rw [e, q]
theorem A_81 {i : Int32} (w : WT n b L xs τ g h) (i0 : 0 ≤ i) (i1 : i < 4) : aZ h (n + 81) i = some (g.2.1 81 i.toNatClampNeg) := by
  obtain ⟨x, e, q⟩ := aZ_81 w i0 i1
  rw [e, q]
theorem A_82 {i : Int32} (w : WT n b L xs τ g h) (i0 : 0 ≤ i) (i1 : i < 4) : aI h (n + 82) i = some (g.2.1 82 i.toNatClampNeg) := by
  obtain ⟨x, e, q⟩ := aI_82 w i0 i1
  rw [e, q]
theorem A_83 {i : Int32} (w : WT n b L xs τ g h) (i0 : 0 ≤ i) (i1 : i < 4) : aI h (n + 83) i = some (g.2.1 83 i.toNatClampNeg) := by
  obtain ⟨x, e, q⟩ := aI_83 w i0 i1
  rw [e, q]
theorem A_84 {i : Int32} (w : WT n b L xs τ g h) (i0 : 0 ≤ i) (i1 : i < 4) : aI h (n + 84) i = some (g.2.1 84 i.toNatClampNeg) := by
  obtain ⟨x, e, q⟩ := aI_84 w i0 i1
  rw [e, q]
theorem A_85 {i : Int32} (w : WT n b L xs τ g h) (i0 : 0 ≤ i) (i1 : i < 4) : aI h (n + 85) i = some (g.2.1 85 i.toNatClampNeg) := by
  obtain ⟨x, e, q⟩ := aI_85 w i0 i1
  rw [e, q]
theorem A_86 {i : Int32} (w : WT n b L xs τ g h) (i0 : 0 ≤ i) (i1 : i < 16) : aZ h (n + 86) i = some (g.2.1 86 i.toNatClampNeg) := by
  obtain ⟨x, e, q⟩ := aZ_86 w i0 i1
  rw [e, q]
theorem A_87 {i : Int32} (w : WT n b L xs τ g h) (i0 : 0 ≤ i) (i1 : i < 4) : aI h (n + 87) i = some (g.2.1 87 i.toNatClampNeg) := by
  obtain ⟨x, e, q⟩ := aI_87 w i0 i1
  rw [e, q]
theorem A_88 {i : Int32} (w : WT n b L xs τ g h) (i0 : 0 ≤ i) (i1 : i < 8) : aI h (n + 88) i = some (g.2.1 88 i.toNatClampNeg) := by
  obtain ⟨x, e, q⟩ := aI_88 w i0 i1
  rw [e, q]
theorem A_89 {i : Int32} (w : WT n b L xs τ g h) (i0 : 0 ≤ i) (i1 : i < 72) : aI h (n + 89) i = some (g.2.1 89 i.toNatClampNeg) := by
  obtain ⟨x, e, q⟩ := aI_89 w i0 i1
  rw [e, q]
theorem A_90 {i : Int32} (w : WT n b L xs τ g h) (i0 : 0 ≤ i) (i1 : i < 248) : aI h (n + 90) i = some (g.2.1 90 i.toNatClampNeg) := by
  obtain ⟨x, e, q⟩ := aI_90 w i0 i1
  rw [e, q]
theorem A_91 {i : Int32} (w : WT n b L xs τ g h) (i0 : 0 ≤ i) (i1 : i < 248) : aI h (n + 91) i = some (g.2.1 91 i.toNatClampNeg) := by
  obtain ⟨x, e, q⟩ := aI_91 w i0 i1
  rw [e, q]
theorem A_92 {i : Int32} (w : WT n b L xs τ g h) (i0 : 0 ≤ i) (i1 : i < 8) : aZ h (n + 92) i = some (g.2.1 92 i.toNatClampNeg) := by
  obtain ⟨x, e, q⟩ := aZ_92 w i0 i1
  rw [e, q]
theorem A_93 {i : Int32} (w : WT n b L xs τ g h) (i0 : 0 ≤ i) (i1 : i < 8) : aI h (n + 93) i = some (g.2.1 93 i.toNatClampNeg) := by
  obtain ⟨x, e, q⟩ := aI_93 w i0 i1
  rw [e, q.1]
theorem A_94 {i : Int32} (w : WT n b L xs τ g h) (i0 : 0 ≤ i) (i1 : i < 8) : aI h (n + 94) i = some (g.2.1 94 i.toNatClampNeg) := by
  obtain ⟨x, e, q⟩ := aI_94 w i0 i1
  rw [e, q.1]
theorem A_95 {i : Int32} (w : WT n b L xs τ g h) (i0 : 0 ≤ i) (i1 : i < 24) : aI h (n + 95) i = some (g.2.1 95 i.toNatClampNeg) := by
  obtain ⟨x, e, q⟩ := aI_95 w i0 i1
  rw [e, q]
theorem A_96 {i : Int32} (w : WT n b L xs τ g h) (i0 : 0 ≤ i) (i1 : i < 8) : aI h (n + 96) i = some (g.2.1 96 i.toNatClampNeg) := by
  obtain ⟨x, e, q⟩ := aI_96 w i0 i1
  rw [e, q.1]
theorem A_97 {i : Int32} (w : WT n b L xs τ g h) (i0 : 0 ≤ i) (i1 : i < 8) : aI h (n + 97) i = some (g.2.1 97 i.toNatClampNeg) := by
  obtain ⟨x, e, q⟩ := aI_97 w i0 i1
  rw [e, q.1]
theorem A_98 {i : Int32} (w : WT n b L xs τ g h) (i0 : 0 ≤ i) (i1 : i < 8) : aI h (n + 98) i = some (g.2.1 98 i.toNatClampNeg) := by
  obtain ⟨x, e, q⟩ := aI_98 w i0 i1
  rw [e, q.1]
theorem A_99 {i : Int32} (w : WT n b L xs τ g h) (i0 : 0 ≤ i) (i1 : i < 1) : aL h (n + 99) i = some (g.2.2 99 i.toNatClampNeg) := by
  obtain ⟨x, e, q⟩ := aL_99 w i0 i1
  rw [e, q]
end EQS
