/-! the heap of a fresh class and a fresh reference: G the reference's cells and the script, Fr all -/
def G (h : zH) (n b : Nat) (xs : Nat → Int32) : Prop := (∀ k, k < 57 → h.2 (n + 42 + k) = (L12 (n + 42))[k]?) ∧ h.2 b = some (.inl (6, 8, .inl xs)) ∧ b < n ∧ n + 100 ≤ h.1.1
def Fr (h : zH) (n b : Nat) (xs : Nat → Int32) : Prop := (∀ k, k < 42 → h.2 (n + k) = (L11 n)[k]?) ∧ G h n b xs ∧ h.2 (h.1.2 0) = some (.inl (8, 3, .inl zBrk)) ∧ h.1.2 0 < n
section FR
variable {h : zH} {n b : Nat} {xs : Nat → Int32}
theorem G.zs {k : Nat} {c : zE} (g : G h n b xs) (hk : k < 42) : G (zset h (n + k) c) n b xs := by
  obtain ⟨g1, g2, g3, g4⟩ := g
  exact ⟨fun j hj => by rw [zs_ne (by omega)]; exact g1 j hj, by rw [zs_ne (by omega)]; exact g2, g3, g4⟩
theorem G.zs0 {c : zE} (g : G h n b xs) : G (zset h n c) n b xs := G.zs (k := 0) g (by decide)
theorem G.zn {a : Nat} {c : zE} (g : G h n b xs) (ha : n + 100 ≤ a) : G (zset h a c) n b xs := by
  obtain ⟨g1, g2, g3, g4⟩ := g
  exact ⟨fun j hj => by rw [zs_ne (by omega)]; exact g1 j hj, by rw [zs_ne (by omega)]; exact g2, g3, g4⟩
theorem G.nw {c : zE} (g : G h n b xs) : G (znew h c) n b xs := by
  obtain ⟨g1, g2, g3, g4⟩ := g
  refine ⟨fun j hj => ?_, ?_, g3, ?_⟩
  · show (if n + 42 + j = h.1.1 then _ else h.2 (n + 42 + j)) = _
    rw [if_neg (by omega)]; exact g1 j hj
  · show (if b = h.1.1 then _ else h.2 b) = _
    rw [if_neg (by omega)]; exact g2
  · show n + 100 ≤ h.1.1 + 1
    omega
theorem fr_0 (F : Fr h n b xs) : h.2 (n) = some (.inr (11, [.ref (n + 1), .ref (n + 2), .ref (n + 3), .ref (n + 6), .ref (n + 10), .ref (n + 14), .ref (n + 20), .ref (n + 25), .ref (n + 30), .ref (n + 33), .int 0, .int 0, .int (-1)])) := (F.1 0 (by decide)).trans rfl
theorem fr_1 (F : Fr h n b xs) : h.2 (n + 1) = some (.inl (4, 40, .inr (.inr (.inr (.inr (fun _ => none)))))) := (F.1 1 (by decide)).trans rfl
theorem fr_2 (F : Fr h n b xs) : h.2 (n + 2) = some (.inr (8, [.int 0, .int 0, .int 0, .int 0, .int 0, .int 0, .int 0])) := (F.1 2 (by decide)).trans rfl
theorem fr_3 (F : Fr h n b xs) : h.2 (n + 3) = some (.inr (9, [.ref (n + 4), .ref (n + 5), .int 0, .int 0, .int 0, .int 0, .int 0, .long 0])) := (F.1 3 (by decide)).trans rfl
theorem fr_4 (F : Fr h n b xs) : h.2 (n + 4) = some (.inl (2, 1000, .inl (fun _ => 0))) := (F.1 4 (by decide)).trans rfl
theorem fr_5 (F : Fr h n b xs) : h.2 (n + 5) = some (.inl (1, 21, .inr (.inl zKf))) := (F.1 5 (by decide)).trans rfl
theorem fr_6 (F : Fr h n b xs) : h.2 (n + 6) = some (.inr (7, [.ref (n + 7), .ref (n + 8), .ref (n + 9), .null, .int 0, .int 0, .int 0, .int 0, .int 0])) := (F.1 6 (by decide)).trans rfl
theorem fr_7 (F : Fr h n b xs) : h.2 (n + 7) = some (.inl (1, 8, .inr (.inl (fun _ => 0)))) := (F.1 7 (by decide)).trans rfl
theorem fr_8 (F : Fr h n b xs) : h.2 (n + 8) = some (.inl (0, 1000, .inl (fun _ => 0))) := (F.1 8 (by decide)).trans rfl
theorem fr_9 (F : Fr h n b xs) : h.2 (n + 9) = some (.inl (0, 32, .inl (fun _ => 0))) := (F.1 9 (by decide)).trans rfl
theorem fr_10 (F : Fr h n b xs) : h.2 (n + 10) = some (.inr (1, [.ref (n + 11), .ref (n + 12), .ref (n + 13), .int 0, .int 0, .int 0, .int 0, .int 0, .int 0, .int 0, .int 0])) := (F.1 10 (by decide)).trans rfl
theorem fr_11 (F : Fr h n b xs) : h.2 (n + 11) = some (.inl (5, 16, .inr (.inr (.inr (.inr (fun _ => none)))))) := (F.1 11 (by decide)).trans rfl
theorem fr_12 (F : Fr h n b xs) : h.2 (n + 12) = some (.inl (0, 8, .inl (fun _ => 0))) := (F.1 12 (by decide)).trans rfl
theorem fr_13 (F : Fr h n b xs) : h.2 (n + 13) = some (.inl (0, 32, .inl (fun _ => 0))) := (F.1 13 (by decide)).trans rfl
theorem fr_14 (F : Fr h n b xs) : h.2 (n + 14) = some (.inr (0, [.ref (n + 15), .ref (n + 16), .ref (n + 17), .ref (n + 18), .ref (n + 19), .int 0, .int 0])) := (F.1 14 (by decide)).trans rfl
theorem fr_15 (F : Fr h n b xs) : h.2 (n + 15) = some (.inl (4, 80, .inr (.inr (.inr (.inr (fun _ => none)))))) := (F.1 15 (by decide)).trans rfl
theorem fr_16 (F : Fr h n b xs) : h.2 (n + 16) = some (.inl (0, 80, .inl (fun _ => 0))) := (F.1 16 (by decide)).trans rfl
theorem fr_17 (F : Fr h n b xs) : h.2 (n + 17) = some (.inl (3, 80, .inl (fun _ => 0))) := (F.1 17 (by decide)).trans rfl
theorem fr_18 (F : Fr h n b xs) : h.2 (n + 18) = some (.inl (0, 128, .inl zCf)) := (F.1 18 (by decide)).trans rfl
theorem fr_19 (F : Fr h n b xs) : h.2 (n + 19) = some (.inl (0, 128, .inl (fun _ => 0))) := (F.1 19 (by decide)).trans rfl
theorem fr_20 (F : Fr h n b xs) : h.2 (n + 20) = some (.inr (2, [.ref (n + 21), .ref (n + 22), .ref (n + 23), .ref (n + 24), .int 0, .int 0, .int 0, .int 0])) := (F.1 20 (by decide)).trans rfl
theorem fr_21 (F : Fr h n b xs) : h.2 (n + 21) = some (.inl (0, 4, .inl (fun _ => 0))) := (F.1 21 (by decide)).trans rfl
theorem fr_22 (F : Fr h n b xs) : h.2 (n + 22) = some (.inl (0, 4, .inl (fun _ => 0))) := (F.1 22 (by decide)).trans rfl
theorem fr_23 (F : Fr h n b xs) : h.2 (n + 23) = some (.inl (0, 4, .inl (fun _ => 0))) := (F.1 23 (by decide)).trans rfl
theorem fr_24 (F : Fr h n b xs) : h.2 (n + 24) = some (.inl (0, 4, .inl (fun _ => 0))) := (F.1 24 (by decide)).trans rfl
theorem fr_25 (F : Fr h n b xs) : h.2 (n + 25) = some (.inr (3, [.ref (n + 26), .ref (n + 27), .ref (n + 28), .ref (n + 29), .int 0, .int 0, .int 0])) := (F.1 25 (by decide)).trans rfl
theorem fr_26 (F : Fr h n b xs) : h.2 (n + 26) = some (.inl (0, 8, .inl (fun _ => 0))) := (F.1 26 (by decide)).trans rfl
theorem fr_27 (F : Fr h n b xs) : h.2 (n + 27) = some (.inl (0, 72, .inl (fun _ => 0))) := (F.1 27 (by decide)).trans rfl
theorem fr_28 (F : Fr h n b xs) : h.2 (n + 28) = some (.inl (0, 512, .inl (fun _ => 0))) := (F.1 28 (by decide)).trans rfl
theorem fr_29 (F : Fr h n b xs) : h.2 (n + 29) = some (.inl (0, 512, .inl (fun _ => 0))) := (F.1 29 (by decide)).trans rfl
theorem fr_30 (F : Fr h n b xs) : h.2 (n + 30) = some (.inr (5, [.ref (n + 31), .ref (n + 32)])) := (F.1 30 (by decide)).trans rfl
theorem fr_31 (F : Fr h n b xs) : h.2 (n + 31) = some (.inl (0, 248, .inl zM1)) := (F.1 31 (by decide)).trans rfl
theorem fr_32 (F : Fr h n b xs) : h.2 (n + 32) = some (.inl (0, 248, .inl (fun _ => 0))) := (F.1 32 (by decide)).trans rfl
theorem fr_33 (F : Fr h n b xs) : h.2 (n + 33) = some (.inr (10, [.ref (n + 34), .ref (n + 35), .ref (n + 36), .ref (n + 37), .ref (n + 38), .ref (n + 39), .ref (n + 40), .ref (n + 41), .int 1, .int 0, .int 0])) := (F.1 33 (by decide)).trans rfl
theorem fr_34 (F : Fr h n b xs) : h.2 (n + 34) = some (.inl (0, 16, .inl (fun _ => 0))) := (F.1 34 (by decide)).trans rfl
theorem fr_35 (F : Fr h n b xs) : h.2 (n + 35) = some (.inl (0, 24, .inl (fun _ => 0))) := (F.1 35 (by decide)).trans rfl
theorem fr_36 (F : Fr h n b xs) : h.2 (n + 36) = some (.inl (0, 8, .inl (fun _ => 0))) := (F.1 36 (by decide)).trans rfl
theorem fr_37 (F : Fr h n b xs) : h.2 (n + 37) = some (.inl (0, 8, .inl (fun _ => 0))) := (F.1 37 (by decide)).trans rfl
theorem fr_38 (F : Fr h n b xs) : h.2 (n + 38) = some (.inl (0, 256, .inl (fun _ => 0))) := (F.1 38 (by decide)).trans rfl
theorem fr_39 (F : Fr h n b xs) : h.2 (n + 39) = some (.inl (0, 8, .inl (fun _ => 0))) := (F.1 39 (by decide)).trans rfl
theorem fr_40 (F : Fr h n b xs) : h.2 (n + 40) = some (.inl (0, 9, .inl (fun _ => 0))) := (F.1 40 (by decide)).trans rfl
theorem fr_41 (F : Fr h n b xs) : h.2 (n + 41) = some (.inl (0, 9, .inl (fun _ => 0))) := (F.1 41 (by decide)).trans rfl
theorem fr_42 (F : G h n b xs) : h.2 (n + 42) = some (.inr (12, [.int 0, .ref (n + 43), .int 0, .int 0, .ref (n + 44), .ref (n + 45), .ref (n + 46), .int 0, .int 0, .ref (n + 47), .int 0, .ref (n + 48), .ref (n + 49), .ref (n + 50), .ref (n + 51), .ref (n + 52), .ref (n + 53), .int 0, .ref (n + 54), .int 0, .ref (n + 55), .ref (n + 56), .ref (n + 57), .ref (n + 58), .ref (n + 59), .int 0, .int (-1), .int 0, .ref (n + 60), .ref (n + 61), .ref (n + 62), .ref (n + 63), .ref (n + 64), .ref (n + 65), .ref (n + 66), .ref (n + 67), .ref (n + 68), .ref (n + 69), .ref (n + 70), .ref (n + 71), .ref (n + 72), .ref (n + 73), .int 0, .int 0, .int 0, .int 0, .int 0, .int 0, .int 0, .int 0, .ref (n + 74), .ref (n + 75), .ref (n + 76), .ref (n + 77), .ref (n + 78), .ref (n + 79), .ref (n + 80), .ref (n + 81), .ref (n + 82), .ref (n + 83), .ref (n + 84), .ref (n + 85), .ref (n + 86), .int 0, .int 0, .int 0, .ref (n + 87), .int 0, .ref (n + 88), .ref (n + 89), .ref (n + 90), .ref (n + 91), .ref (n + 92), .ref (n + 93), .ref (n + 94), .ref (n + 95), .int 0, .ref (n + 96), .ref (n + 97), .ref (n + 98)])) := (F.1 0 (by decide)).trans rfl
theorem fr_43 (F : G h n b xs) : h.2 (n + 43) = some (.inl (0, 1000, .inl (fun _ => 0))) := (F.1 1 (by decide)).trans rfl
theorem fr_44 (F : G h n b xs) : h.2 (n + 44) = some (.inl (0, 1002, .inl (fun _ => 0))) := (F.1 2 (by decide)).trans rfl
theorem fr_45 (F : G h n b xs) : h.2 (n + 45) = some (.inl (0, 1002, .inl (fun _ => 0))) := (F.1 3 (by decide)).trans rfl
theorem fr_46 (F : G h n b xs) : h.2 (n + 46) = some (.inl (1, 1002, .inr (.inl (fun _ => 0)))) := (F.1 4 (by decide)).trans rfl
theorem fr_47 (F : G h n b xs) : h.2 (n + 47) = some (.inl (1, 21, .inr (.inl zMw))) := (F.1 5 (by decide)).trans rfl
theorem fr_48 (F : G h n b xs) : h.2 (n + 48) = some (.inl (0, 17, .inl (fun _ => 0))) := (F.1 6 (by decide)).trans rfl
theorem fr_49 (F : G h n b xs) : h.2 (n + 49) = some (.inl (0, 17, .inl (fun _ => 0))) := (F.1 7 (by decide)).trans rfl
theorem fr_50 (F : G h n b xs) : h.2 (n + 50) = some (.inl (0, 17, .inl (fun _ => 0))) := (F.1 8 (by decide)).trans rfl
theorem fr_51 (F : G h n b xs) : h.2 (n + 51) = some (.inl (0, 340, .inl (fun _ => 0))) := (F.1 9 (by decide)).trans rfl
theorem fr_52 (F : G h n b xs) : h.2 (n + 52) = some (.inl (0, 340, .inl (fun _ => 0))) := (F.1 10 (by decide)).trans rfl
theorem fr_53 (F : G h n b xs) : h.2 (n + 53) = some (.inl (0, 340, .inl (fun _ => 0))) := (F.1 11 (by decide)).trans rfl
theorem fr_54 (F : G h n b xs) : h.2 (n + 54) = some (.inl (1, 8, .inr (.inl (fun _ => 0)))) := (F.1 12 (by decide)).trans rfl
theorem fr_55 (F : G h n b xs) : h.2 (n + 55) = some (.inl (0, 20400, .inl (fun _ => 0))) := (F.1 13 (by decide)).trans rfl
theorem fr_56 (F : G h n b xs) : h.2 (n + 56) = some (.inl (0, 20400, .inl (fun _ => 0))) := (F.1 14 (by decide)).trans rfl
theorem fr_57 (F : G h n b xs) : h.2 (n + 57) = some (.inl (0, 11, .inl (fun _ => 0))) := (F.1 15 (by decide)).trans rfl
theorem fr_58 (F : G h n b xs) : h.2 (n + 58) = some (.inl (0, 8, .inl (fun _ => 0))) := (F.1 16 (by decide)).trans rfl
theorem fr_59 (F : G h n b xs) : h.2 (n + 59) = some (.inl (0, 1200, .inl (fun _ => 0))) := (F.1 17 (by decide)).trans rfl
theorem fr_60 (F : G h n b xs) : h.2 (n + 60) = some (.inl (0, 40, .inl (fun _ => 0))) := (F.1 18 (by decide)).trans rfl
theorem fr_61 (F : G h n b xs) : h.2 (n + 61) = some (.inl (0, 40, .inl (fun _ => 0))) := (F.1 19 (by decide)).trans rfl
theorem fr_62 (F : G h n b xs) : h.2 (n + 62) = some (.inl (0, 40, .inl (fun _ => 0))) := (F.1 20 (by decide)).trans rfl
theorem fr_63 (F : G h n b xs) : h.2 (n + 63) = some (.inl (0, 40, .inl (fun _ => 0))) := (F.1 21 (by decide)).trans rfl
theorem fr_64 (F : G h n b xs) : h.2 (n + 64) = some (.inl (0, 40, .inl (fun _ => 0))) := (F.1 22 (by decide)).trans rfl
theorem fr_65 (F : G h n b xs) : h.2 (n + 65) = some (.inl (0, 40, .inl (fun _ => 0))) := (F.1 23 (by decide)).trans rfl
theorem fr_66 (F : G h n b xs) : h.2 (n + 66) = some (.inl (0, 40, .inl (fun _ => 0))) := (F.1 24 (by decide)).trans rfl
theorem fr_67 (F : G h n b xs) : h.2 (n + 67) = some (.inl (0, 40, .inl (fun _ => 0))) := (F.1 25 (by decide)).trans rfl
theorem fr_68 (F : G h n b xs) : h.2 (n + 68) = some (.inl (0, 40, .inl (fun _ => 0))) := (F.1 26 (by decide)).trans rfl
theorem fr_69 (F : G h n b xs) : h.2 (n + 69) = some (.inl (0, 40, .inl (fun _ => 0))) := (F.1 27 (by decide)).trans rfl
theorem fr_70 (F : G h n b xs) : h.2 (n + 70) = some (.inl (0, 40, .inl (fun _ => 0))) := (F.1 28 (by decide)).trans rfl
theorem fr_71 (F : G h n b xs) : h.2 (n + 71) = some (.inl (0, 61, .inl (fun _ => 0))) := (F.1 29 (by decide)).trans rfl
theorem fr_72 (F : G h n b xs) : h.2 (n + 72) = some (.inl (0, 61, .inl (fun _ => 0))) := (F.1 30 (by decide)).trans rfl
theorem fr_73 (F : G h n b xs) : h.2 (n + 73) = some (.inl (0, 61, .inl (fun _ => 0))) := (F.1 31 (by decide)).trans rfl
theorem fr_74 (F : G h n b xs) : h.2 (n + 74) = some (.inl (0, 80, .inl (fun _ => 0))) := (F.1 32 (by decide)).trans rfl
theorem fr_75 (F : G h n b xs) : h.2 (n + 75) = some (.inl (3, 80, .inl (fun _ => 0))) := (F.1 33 (by decide)).trans rfl
theorem fr_76 (F : G h n b xs) : h.2 (n + 76) = some (.inl (0, 80, .inl (fun _ => 0))) := (F.1 34 (by decide)).trans rfl
theorem fr_77 (F : G h n b xs) : h.2 (n + 77) = some (.inl (0, 40, .inl (fun _ => 0))) := (F.1 35 (by decide)).trans rfl
theorem fr_78 (F : G h n b xs) : h.2 (n + 78) = some (.inl (0, 128, .inl (fun _ => 0))) := (F.1 36 (by decide)).trans rfl
theorem fr_79 (F : G h n b xs) : h.2 (n + 79) = some (.inl (0, 128, .inl (fun _ => 0))) := (F.1 37 (by decide)).trans rfl
theorem fr_80 (F : G h n b xs) : h.2 (n + 80) = some (.inl (3, 128, .inl (fun _ => 0))) := (F.1 38 (by decide)).trans rfl
theorem fr_81 (F : G h n b xs) : h.2 (n + 81) = some (.inl (3, 4, .inl (fun _ => 0))) := (F.1 39 (by decide)).trans rfl
theorem fr_82 (F : G h n b xs) : h.2 (n + 82) = some (.inl (0, 4, .inl (fun _ => 0))) := (F.1 40 (by decide)).trans rfl
theorem fr_83 (F : G h n b xs) : h.2 (n + 83) = some (.inl (0, 4, .inl (fun _ => 0))) := (F.1 41 (by decide)).trans rfl
theorem fr_84 (F : G h n b xs) : h.2 (n + 84) = some (.inl (0, 4, .inl (fun _ => 0))) := (F.1 42 (by decide)).trans rfl
theorem fr_85 (F : G h n b xs) : h.2 (n + 85) = some (.inl (0, 4, .inl (fun _ => 0))) := (F.1 43 (by decide)).trans rfl
theorem fr_86 (F : G h n b xs) : h.2 (n + 86) = some (.inl (3, 16, .inl (fun _ => 0))) := (F.1 44 (by decide)).trans rfl
theorem fr_87 (F : G h n b xs) : h.2 (n + 87) = some (.inl (0, 4, .inl (fun _ => 0))) := (F.1 45 (by decide)).trans rfl
theorem fr_88 (F : G h n b xs) : h.2 (n + 88) = some (.inl (0, 8, .inl (fun _ => 0))) := (F.1 46 (by decide)).trans rfl
theorem fr_89 (F : G h n b xs) : h.2 (n + 89) = some (.inl (0, 72, .inl (fun _ => 0))) := (F.1 47 (by decide)).trans rfl
theorem fr_90 (F : G h n b xs) : h.2 (n + 90) = some (.inl (0, 248, .inl zM1)) := (F.1 48 (by decide)).trans rfl
theorem fr_91 (F : G h n b xs) : h.2 (n + 91) = some (.inl (0, 248, .inl (fun _ => 0))) := (F.1 49 (by decide)).trans rfl
theorem fr_92 (F : G h n b xs) : h.2 (n + 92) = some (.inl (3, 8, .inl (fun _ => 0))) := (F.1 50 (by decide)).trans rfl
theorem fr_93 (F : G h n b xs) : h.2 (n + 93) = some (.inl (0, 8, .inl (fun _ => 0))) := (F.1 51 (by decide)).trans rfl
theorem fr_94 (F : G h n b xs) : h.2 (n + 94) = some (.inl (0, 8, .inl (fun _ => 0))) := (F.1 52 (by decide)).trans rfl
theorem fr_95 (F : G h n b xs) : h.2 (n + 95) = some (.inl (0, 24, .inl (fun _ => 0))) := (F.1 53 (by decide)).trans rfl
theorem fr_96 (F : G h n b xs) : h.2 (n + 96) = some (.inl (0, 8, .inl (fun _ => 0))) := (F.1 54 (by decide)).trans rfl
theorem fr_97 (F : G h n b xs) : h.2 (n + 97) = some (.inl (0, 8, .inl (fun _ => 0))) := (F.1 55 (by decide)).trans rfl
theorem fr_98 (F : G h n b xs) : h.2 (n + 98) = some (.inl (0, 8, .inl zPw)) := (F.1 56 (by decide)).trans rfl
theorem sc_at {j : Nat} (F : G h n b xs) (hj : j < 8) : aI h b (nI j) = some (xs j) := by
  have q := aI_of (i := nI j) F.2.1 (Or.inr (Or.inl rfl)) (nI_pos (by omega)) (by rw [nI_clamp (by omega)]; exact hj)
  rw [nI_clamp (by omega)] at q
  exact q
theorem sc_1 (F : G h n b xs) : aI h b (0 + 1) = some (xs 1) := sc_at F (by decide : 1 < 8)
theorem sc_2 (F : G h n b xs) : aI h b (0 + 2) = some (xs 2) := sc_at F (by decide : 2 < 8)
theorem sc_3 (F : G h n b xs) : aI h b (0 + 3) = some (xs 3) := sc_at F (by decide : 3 < 8)
theorem sc_4 (F : G h n b xs) : aI h b (0 + 4) = some (xs 4) := sc_at F (by decide : 4 < 8)
theorem sc_5 (F : G h n b xs) : aI h b (0 + 5) = some (xs 5) := sc_at F (by decide : 5 < 8)
theorem sc_6 (F : G h n b xs) : aI h b (0 + 6) = some (xs 6) := sc_at F (by decide : 6 < 8)
theorem sc_7 (F : G h n b xs) : aI h b (0 + 7) = some (xs 7) := sc_at F (by decide : 7 < 8)
theorem sc_n (F : G h n b xs) : aN h b = some 8 := aN_of F.2.1 (by decide)
theorem t0 (F : G h n b xs) : pF h (n + 42) 12 0 (.int 0) = some h := by
  rw [pF_of (fr_42 F) (by exact Nat.le_of_ble_eq_true rfl)]
  exact congrArg some (zs_id (fr_42 F))
theorem ob11 (F : Fr h n b xs) : zob h n 11 = true := zob_of (fr_0 F)
theorem ob12 (F : G h n b xs) : zob h (n + 42) 12 = true := zob_of (fr_42 F)
end FR
/-! the law's start leaves the fresh heap -/
def hF (sz : Nat) (cc : Nat → Nat) (b : Nat) (xs : Nat → Int32) (L : Nat) : zH := hL (hL (zh0 sz cc b L xs) (L11 sz)) (L12 (sz + 42) ++ [zblank 1 1])
theorem zh0_nil {sz : Nat} {cc : Nat → Nat} {b L : Nat} {xs : Nat → Int32} (had : zad sz cc b) : hL (zh0 sz cc b L xs) [] = zh0 sz cc b L xs := by
  obtain ⟨a1, a2, a3, a4, a5, a6, -⟩ := had
  refine hL_nil (fun q hq => ?_)
  have hq' : ¬ q < sz := hq
  show (if q = b then _ else if q = cc 0 then _ else if q = cc 4 then _ else if q = cc 5 then _ else none) = _
  rw [if_neg (by omega), if_neg (by omega), if_neg (by omega), if_neg (by omega)]
theorem hL_nil2 {h : zH} {L : List zE} : hL (hL h L) [] = hL h L := by
  refine hL_nil (fun q hq => ?_)
  have hq' : ¬ q < h.1.1 + L.length := hq
  show (if q < h.1.1 then h.2 q else L[q - h.1.1]?) = none
  rw [if_neg (by omega)]
  exact List.getElem?_eq_none (by omega)
theorem init_eq {sz : Nat} {cc : Nat → Nat} {b L : Nat} {xs : Nat → Int32} (had : zad sz cc b) : c_L_init 10000 b (zh0 sz cc b L xs) = some (sz, sz + 42, sz + 99, hF sz cc b xs L) := by
  have hw : zwd (zh0 sz cc b L xs) := by
    obtain ⟨a1, a2, a3, a4, a5, a6, a7, a8, a9, a10, -⟩ := had
    show (if cc 4 = b then _ else if cc 4 = cc 0 then _ else if cc 4 = cc 4 then _ else _) = _
    rw [if_neg a8, if_neg a10, if_pos rfl]
  unfold c_L_init zlet
  have e1 : ∀ c, znew (zh0 sz cc b L xs) c = hL (zh0 sz cc b L xs) [c] := fun c => by
    conv => lhs; rw [← zh0_nil had]
    rw [hL_new]; rfl
  rw [e1]
  show (f_X11_init 10000 (zh0 sz cc b L xs).1.1 (hL (zh0 sz cc b L xs) _)).bind _ = _
  rw [i_X11 hw had.2.2.2.2.1]
  show (f_X12_init 10000 (hL (zh0 sz cc b L xs) (L11 sz)).1.1 (znew (hL (zh0 sz cc b L xs) (L11 sz)) (.inr (12, zF0)))).bind _ = _
  have e2 : ∀ c, znew (hL (zh0 sz cc b L xs) (L11 sz)) c = hL (hL (zh0 sz cc b L xs) (L11 sz)) [c] := fun c => by
    conv => lhs; rw [← hL_nil2]
    rw [hL_new]; rfl
  rw [e2, i_X12]
  show some (sz, _, _, znew (hL (hL (zh0 sz cc b L xs) (L11 sz)) (L12 (sz + 42))) (zblank 1 1)) = _
  rw [hL_new]
  rfl
theorem hF_Fr {sz : Nat} {cc : Nat → Nat} {b : Nat} {xs : Nat → Int32} (had : zad sz cc b) : Fr (hF sz cc b xs 8) sz b xs := by
  obtain ⟨a1, a2, a3, a4, a5, a6, a7, a8, -⟩ := had
  have ho : ∀ q, q < sz + 42 → (hF sz cc b xs 8).2 q = (hL (zh0 sz cc b 8 xs) (L11 sz)).2 q := fun q hq => hL_old hq
  have hb : ∀ q, q < sz → (hF sz cc b xs 8).2 q = (zh0 sz cc b 8 xs).2 q := fun q hq => (ho q (by omega)).trans (hL_old hq)
  refine ⟨fun k hk => (ho _ (by omega)).trans (hL_at (zh0 sz cc b 8 xs) (L11 sz) k), ⟨fun k hk => ?_, ?_, a1, ?_⟩, ?_, a2⟩
  · refine (hL_at (hL (zh0 sz cc b 8 xs) (L11 sz)) _ k).trans ?_
    exact List.getElem?_append_left hk
  · rw [hb b a1]
    show (if b = b then _ else _) = _
    rw [if_pos rfl]
  · exact Nat.le_refl _
  · show (hF sz cc b xs 8).2 (cc 0) = _
    rw [hb _ a2]
    show (if cc 0 = b then _ else if cc 0 = cc 0 then _ else _) = _
    rw [if_neg a7, if_pos rfl]
theorem hF_n {sz : Nat} {cc : Nat → Nat} {b L : Nat} {xs : Nat → Int32} (had : zad sz cc b) : aN (hF sz cc b xs L) b = some (nI L) := by
  have hb : (hF sz cc b xs L).2 b = some (.inl (6, L, .inl xs)) := by
    refine (hL_old (show b < sz + 42 by have := had.1; omega)).trans ((hL_old had.1).trans ?_)
    show (if b = b then _ else _) = _
    rw [if_pos rfl]
  exact aN_of hb (by decide)
