/-! the typed heap: the cells of class and reference with their ranges; what is tracked stands in the ghosts (by cell and field) -/
abbrev zGh : Type := (Nat → Nat → Int32) × (Nat → Nat → Int32) × (Nat → Nat → Int64)
def gset (g : zGh) (j k : Nat) (x : Int32) : zGh := (fun p => if p = j then upd (g.1 j) k x else g.1 p, g.2.1, g.2.2)
def gsA (g : zGh) (j : Nat) (f : Nat → Int32) : zGh := (g.1, (fun p => if p = j then f else g.2.1 p), g.2.2)
def gsL (g : zGh) (j : Nat) (f : Nat → Int64) : zGh := (g.1, g.2.1, (fun p => if p = j then f else g.2.2 p))
def K_0 (n : Nat) (gi : Nat → Int32) (c : zE) : Prop := ∃ i : Nat → Int32, c = .inr (11, [.ref (n + 1), .ref (n + 2), .ref (n + 3), .ref (n + 6), .ref (n + 10), .ref (n + 14), .ref (n + 20), .ref (n + 25), .ref (n + 30), .ref (n + 33), .int (i 10), .int (i 11), .int (i 12)]) ∧ i 10 = gi 10 ∧ 0 ≤ i 10 ∧ i 10 ≤ 40 ∧ i 11 = gi 11 ∧ 0 ≤ i 11 ∧ i 11 ≤ 30 ∧ i 12 = gi 12 ∧ (-1) ≤ i 12 ∧ i 12 ≤ 30
def K_1 (τ : Nat → Nat) (gi : Nat → Int32) (c : zE) : Prop := ∃ f : Nat → Option Nat, c = .inl (4, 40, .inr (.inr (.inr (.inr f)))) ∧ (∀ k a, f k = some a → τ a = 1) ∧ ∀ k, k < (gi 0).toNatClampNeg → ∃ a, f k = some a
def K_2 (n : Nat) (gi : Nat → Int32) (c : zE) : Prop := ∃ i : Nat → Int32, c = .inr (8, [.int (i 0), .int (i 1), .int (i 2), .int (i 3), .int (i 4), .int (i 5), .int (i 6)]) ∧ (-1) ≤ i 6 ∧ i 6 ≤ 60
def K_3 (n : Nat) (gi : Nat → Int32) (c : zE) : Prop := ∃ i : Nat → Int32, ∃ l : Int64, c = .inr (9, [.ref (n + 4), .ref (n + 5), .int (i 2), .int (i 3), .int (i 4), .int (i 5), .int (i 6), .long l]) ∧ i 2 = gi 2 ∧ 0 ≤ i 2 ∧ i 2 ≤ 1000 ∧ i 3 = gi 3 ∧ 0 ≤ i 3 ∧ i 3 ≤ 1000 ∧ i 4 = gi 4 ∧ 0 ≤ i 4 ∧ i 4 ≤ 203 ∧ i 5 = gi 5 ∧ 0 ≤ i 5 ∧ i 5 ≤ 1000 ∧ i 6 = gi 6 ∧ 0 ≤ i 6 ∧ i 6 ≤ 9999
def K_4 (ga : Nat → Int32) (c : zE) : Prop := ∃ f : Nat → Int32, c = .inl (2, 1000, .inl f) ∧ f = ga ∧ ∀ k, k < 1000 → 0 ≤ f k ∧ f k ≤ 126
def K_5 (gl : Nat → Int64) (c : zE) : Prop := ∃ f : Nat → Int64, c = .inl (1, 21, .inr (.inl f)) ∧ True
def K_6 (n : Nat) (gi : Nat → Int32) (c : zE) : Prop := ∃ i : Nat → Int32, c = .inr (7, [.ref (n + 7), .ref (n + 8), .ref (n + 9), (if gi 3 = 0 then .null else .ref (n + 3)), .int (i 4), .int (i 5), .int (i 6), .int (i 7), .int (i 8)]) ∧ i 4 = gi 4 ∧ 0 ≤ i 4 ∧ i 4 ≤ 100 ∧ i 5 = gi 5 ∧ 0 ≤ i 5 ∧ i 5 ≤ 1000 ∧ i 6 = gi 6 ∧ 0 ≤ i 6 ∧ i 6 ≤ 32 ∧ i 8 = gi 8
def K_7 (gl : Nat → Int64) (c : zE) : Prop := ∃ f : Nat → Int64, c = .inl (1, 8, .inr (.inl f)) ∧ True
def K_8 (ga : Nat → Int32) (c : zE) : Prop := ∃ f : Nat → Int32, c = .inl (0, 1000, .inl f) ∧ ∀ k, k < 1000 → 0 ≤ f k ∧ f k ≤ 40000
def K_9 (ga : Nat → Int32) (c : zE) : Prop := ∃ f : Nat → Int32, c = .inl (0, 32, .inl f) ∧ ∀ k, k < 32 → 0 ≤ f k ∧ f k ≤ 203
def K_10 (n : Nat) (gi : Nat → Int32) (c : zE) : Prop := ∃ i : Nat → Int32, c = .inr (1, [.ref (n + 11), .ref (n + 12), .ref (n + 13), .int (i 3), .int (i 4), .int (i 5), .int (i 6), .int (i 7), .int (i 8), .int (i 9), .int (i 10)]) ∧ i 3 = gi 3 ∧ 0 ≤ i 3 ∧ i 3 ≤ 16 ∧ 0 ≤ i 8 ∧ i 8 ≤ 32
def K_11 (τ : Nat → Nat) (gi : Nat → Int32) (c : zE) : Prop := ∃ f : Nat → Option Nat, c = .inl (5, 16, .inr (.inr (.inr (.inr f)))) ∧ (∀ k a, f k = some a → τ a = 2)
def K_12 (ga : Nat → Int32) (c : zE) : Prop := ∃ f : Nat → Int32, c = .inl (0, 8, .inl f) ∧ True
def K_13 (ga : Nat → Int32) (c : zE) : Prop := ∃ f : Nat → Int32, c = .inl (0, 32, .inl f) ∧ True
def K_14 (n : Nat) (gi : Nat → Int32) (c : zE) : Prop := ∃ i : Nat → Int32, c = .inr (0, [.ref (n + 15), .ref (n + 16), .ref (n + 17), .ref (n + 18), .ref (n + 19), .int (i 5), .int (i 6)]) ∧ i 5 = gi 5 ∧ 0 ≤ i 5 ∧ i 5 ≤ 80 ∧ 0 ≤ i 6 ∧ i 6 ≤ 128
def K_15 (τ : Nat → Nat) (gi : Nat → Int32) (c : zE) : Prop := ∃ f : Nat → Option Nat, c = .inl (4, 80, .inr (.inr (.inr (.inr f)))) ∧ (∀ k a, f k = some a → τ a = 1)
def K_16 (ga : Nat → Int32) (c : zE) : Prop := ∃ f : Nat → Int32, c = .inl (0, 80, .inl f) ∧ True
def K_17 (ga : Nat → Int32) (c : zE) : Prop := ∃ f : Nat → Int32, c = .inl (3, 80, .inl f) ∧ True
def K_18 (ga : Nat → Int32) (c : zE) : Prop := ∃ f : Nat → Int32, c = .inl (0, 128, .inl f) ∧ True
def K_19 (ga : Nat → Int32) (c : zE) : Prop := ∃ f : Nat → Int32, c = .inl (0, 128, .inl f) ∧ True
def K_20 (n : Nat) (gi : Nat → Int32) (c : zE) : Prop := ∃ i : Nat → Int32, c = .inr (2, [.ref (n + 21), .ref (n + 22), .ref (n + 23), .ref (n + 24), .int (i 4), .int (i 5), .int (i 6), .int (i 7)]) ∧ i 4 = gi 4 ∧ 0 ≤ i 4 ∧ i 4 ≤ 4 ∧ i 5 = gi 5 ∧ i 6 = gi 6 ∧ i 7 = gi 7
def K_21 (ga : Nat → Int32) (c : zE) : Prop := ∃ f : Nat → Int32, c = .inl (0, 4, .inl f) ∧ f = ga
def K_22 (ga : Nat → Int32) (c : zE) : Prop := ∃ f : Nat → Int32, c = .inl (0, 4, .inl f) ∧ f = ga
def K_23 (ga : Nat → Int32) (c : zE) : Prop := ∃ f : Nat → Int32, c = .inl (0, 4, .inl f) ∧ f = ga ∧ ∀ k, k < 4 → 0 ≤ f k ∧ f k ≤ 15
def K_24 (ga : Nat → Int32) (c : zE) : Prop := ∃ f : Nat → Int32, c = .inl (0, 4, .inl f) ∧ f = ga
def K_25 (n : Nat) (gi : Nat → Int32) (c : zE) : Prop := ∃ i : Nat → Int32, c = .inr (3, [.ref (n + 26), .ref (n + 27), .ref (n + 28), .ref (n + 29), .int (i 4), .int (i 5), .int (i 6)]) ∧ i 4 = gi 4 ∧ 0 ≤ i 4 ∧ i 4 ≤ 1 ∧ i 5 = gi 5 ∧ i 6 = gi 6 ∧ 0 ≤ i 6 ∧ i 6 ≤ 8
def K_26 (ga : Nat → Int32) (c : zE) : Prop := ∃ f : Nat → Int32, c = .inl (0, 8, .inl f) ∧ f = ga
def K_27 (ga : Nat → Int32) (c : zE) : Prop := ∃ f : Nat → Int32, c = .inl (0, 72, .inl f) ∧ f = ga
def K_28 (ga : Nat → Int32) (c : zE) : Prop := ∃ f : Nat → Int32, c = .inl (0, 512, .inl f) ∧ f = ga
def K_29 (ga : Nat → Int32) (c : zE) : Prop := ∃ f : Nat → Int32, c = .inl (0, 512, .inl f) ∧ f = ga
def K_30 (n : Nat) (gi : Nat → Int32) (c : zE) : Prop := ∃ i : Nat → Int32, c = .inr (5, [.ref (n + 31), .ref (n + 32)]) ∧ True
def K_31 (ga : Nat → Int32) (c : zE) : Prop := ∃ f : Nat → Int32, c = .inl (0, 248, .inl f) ∧ f = ga
def K_32 (ga : Nat → Int32) (c : zE) : Prop := ∃ f : Nat → Int32, c = .inl (0, 248, .inl f) ∧ f = ga
def K_33 (n : Nat) (gi : Nat → Int32) (c : zE) : Prop := ∃ i : Nat → Int32, c = .inr (10, [.ref (n + 34), .ref (n + 35), .ref (n + 36), .ref (n + 37), .ref (n + 38), .ref (n + 39), .ref (n + 40), .ref (n + 41), .int (i 8), .int (i 9), .int (i 10)]) ∧ 0 ≤ i 8 ∧ i 8 ≤ 1 ∧ i 9 = gi 9 ∧ i 10 = gi 10 ∧ 0 ≤ i 10 ∧ i 10 ≤ 8
def K_34 (ga : Nat → Int32) (c : zE) : Prop := ∃ f : Nat → Int32, c = .inl (0, 16, .inl f) ∧ True
def K_35 (ga : Nat → Int32) (c : zE) : Prop := ∃ f : Nat → Int32, c = .inl (0, 24, .inl f) ∧ True
def K_36 (ga : Nat → Int32) (c : zE) : Prop := ∃ f : Nat → Int32, c = .inl (0, 8, .inl f) ∧ True
def K_37 (ga : Nat → Int32) (c : zE) : Prop := ∃ f : Nat → Int32, c = .inl (0, 8, .inl f) ∧ True
def K_38 (ga : Nat → Int32) (c : zE) : Prop := ∃ f : Nat → Int32, c = .inl (0, 256, .inl f) ∧ True
def K_39 (ga : Nat → Int32) (c : zE) : Prop := ∃ f : Nat → Int32, c = .inl (0, 8, .inl f) ∧ True
def K_40 (ga : Nat → Int32) (c : zE) : Prop := ∃ f : Nat → Int32, c = .inl (0, 9, .inl f) ∧ True
def K_41 (ga : Nat → Int32) (c : zE) : Prop := ∃ f : Nat → Int32, c = .inl (0, 9, .inl f) ∧ True
def K_42 (n : Nat) (gi : Nat → Int32) (c : zE) : Prop := ∃ i : Nat → Int32, c = .inr (12, [.int (i 0), .ref (n + 43), .int (i 2), .int (i 3), .ref (n + 44), .ref (n + 45), .ref (n + 46), .int (i 7), .int (i 8), .ref (n + 47), .int (i 10), .ref (n + 48), .ref (n + 49), .ref (n + 50), .ref (n + 51), .ref (n + 52), .ref (n + 53), .int (i 17), .ref (n + 54), .int (i 19), .ref (n + 55), .ref (n + 56), .ref (n + 57), .ref (n + 58), .ref (n + 59), .int (i 25), .int (i 26), .int (i 27), .ref (n + 60), .ref (n + 61), .ref (n + 62), .ref (n + 63), .ref (n + 64), .ref (n + 65), .ref (n + 66), .ref (n + 67), .ref (n + 68), .ref (n + 69), .ref (n + 70), .ref (n + 71), .ref (n + 72), .ref (n + 73), .int (i 42), .int (i 43), .int (i 44), .int (i 45), .int (i 46), .int (i 47), .int (i 48), .int (i 49), .ref (n + 74), .ref (n + 75), .ref (n + 76), .ref (n + 77), .ref (n + 78), .ref (n + 79), .ref (n + 80), .ref (n + 81), .ref (n + 82), .ref (n + 83), .ref (n + 84), .ref (n + 85), .ref (n + 86), .int (i 63), .int (i 64), .int (i 65), .ref (n + 87), .int (i 67), .ref (n + 88), .ref (n + 89), .ref (n + 90), .ref (n + 91), .ref (n + 92), .ref (n + 93), .ref (n + 94), .ref (n + 95), .int (i 76), .ref (n + 96), .ref (n + 97), .ref (n + 98)]) ∧ i 2 = gi 2 ∧ 0 ≤ i 2 ∧ i 2 ≤ 1000 ∧ 0 ≤ i 3 ∧ i 3 ≤ 1000 ∧ i 7 = gi 7 ∧ 0 ≤ i 7 ∧ i 7 ≤ 1001 ∧ i 8 = gi 8 ∧ i 10 = gi 10 ∧ 0 ≤ i 10 ∧ i 10 ≤ 16 ∧ i 17 = gi 17 ∧ 0 ≤ i 17 ∧ i 17 ≤ 8 ∧ i 19 = gi 19 ∧ 0 ≤ i 19 ∧ i 19 ≤ 1199 ∧ i 25 = gi 25 ∧ 0 ≤ i 25 ∧ i 25 ≤ 30 ∧ i 26 = gi 26 ∧ (-1) ≤ i 26 ∧ i 26 ≤ 30 ∧ i 27 = gi 27 ∧ 0 ≤ i 27 ∧ i 27 ≤ 40 ∧ 0 ≤ i 42 ∧ i 42 ≤ 60 ∧ 0 ≤ i 43 ∧ i 43 ≤ 1 ∧ i 49 = gi 49 ∧ 0 ≤ i 49 ∧ i 49 ≤ 80 ∧ i 63 = gi 63 ∧ (-1) ≤ i 63 ∧ i 63 ≤ 255 ∧ i 64 = gi 64 ∧ i 65 = gi 65 ∧ i 67 = gi 67 ∧ 0 ≤ i 67 ∧ i 67 ≤ 8 ∧ i 76 = gi 76 ∧ 0 ≤ i 76 ∧ i 76 ≤ 8
def K_43 (ga : Nat → Int32) (c : zE) : Prop := ∃ f : Nat → Int32, c = .inl (0, 1000, .inl f) ∧ True
def K_44 (ga : Nat → Int32) (c : zE) : Prop := ∃ f : Nat → Int32, c = .inl (0, 1002, .inl f) ∧ f = ga
def K_45 (ga : Nat → Int32) (c : zE) : Prop := ∃ f : Nat → Int32, c = .inl (0, 1002, .inl f) ∧ ∀ k, k < 1002 → 0 ≤ f k ∧ f k ≤ 1000
def K_46 (gl : Nat → Int64) (c : zE) : Prop := ∃ f : Nat → Int64, c = .inl (1, 1002, .inr (.inl f)) ∧ f = gl
def K_47 (gl : Nat → Int64) (c : zE) : Prop := ∃ f : Nat → Int64, c = .inl (1, 21, .inr (.inl f)) ∧ f = gl
def K_48 (ga : Nat → Int32) (c : zE) : Prop := ∃ f : Nat → Int32, c = .inl (0, 17, .inl f) ∧ True
def K_49 (ga : Nat → Int32) (c : zE) : Prop := ∃ f : Nat → Int32, c = .inl (0, 17, .inl f) ∧ True
def K_50 (ga : Nat → Int32) (c : zE) : Prop := ∃ f : Nat → Int32, c = .inl (0, 17, .inl f) ∧ f = ga
def K_51 (ga : Nat → Int32) (c : zE) : Prop := ∃ f : Nat → Int32, c = .inl (0, 340, .inl f) ∧ f = ga
def K_52 (ga : Nat → Int32) (c : zE) : Prop := ∃ f : Nat → Int32, c = .inl (0, 340, .inl f) ∧ True
def K_53 (ga : Nat → Int32) (c : zE) : Prop := ∃ f : Nat → Int32, c = .inl (0, 340, .inl f) ∧ f = ga
def K_54 (gl : Nat → Int64) (c : zE) : Prop := ∃ f : Nat → Int64, c = .inl (1, 8, .inr (.inl f)) ∧ True
def K_55 (ga : Nat → Int32) (c : zE) : Prop := ∃ f : Nat → Int32, c = .inl (0, 20400, .inl f) ∧ f = ga
def K_56 (ga : Nat → Int32) (c : zE) : Prop := ∃ f : Nat → Int32, c = .inl (0, 20400, .inl f) ∧ f = ga
def K_57 (ga : Nat → Int32) (c : zE) : Prop := ∃ f : Nat → Int32, c = .inl (0, 11, .inl f) ∧ True
def K_58 (ga : Nat → Int32) (c : zE) : Prop := ∃ f : Nat → Int32, c = .inl (0, 8, .inl f) ∧ True
def K_59 (ga : Nat → Int32) (c : zE) : Prop := ∃ f : Nat → Int32, c = .inl (0, 1200, .inl f) ∧ True
def K_60 (ga : Nat → Int32) (c : zE) : Prop := ∃ f : Nat → Int32, c = .inl (0, 40, .inl f) ∧ True
def K_61 (ga : Nat → Int32) (c : zE) : Prop := ∃ f : Nat → Int32, c = .inl (0, 40, .inl f) ∧ True
def K_62 (ga : Nat → Int32) (c : zE) : Prop := ∃ f : Nat → Int32, c = .inl (0, 40, .inl f) ∧ ∀ k, k < 40 → 0 ≤ f k ∧ f k ≤ 300
def K_63 (ga : Nat → Int32) (c : zE) : Prop := ∃ f : Nat → Int32, c = .inl (0, 40, .inl f) ∧ True
def K_64 (ga : Nat → Int32) (c : zE) : Prop := ∃ f : Nat → Int32, c = .inl (0, 40, .inl f) ∧ True
def K_65 (ga : Nat → Int32) (c : zE) : Prop := ∃ f : Nat → Int32, c = .inl (0, 40, .inl f) ∧ f = ga
def K_66 (ga : Nat → Int32) (c : zE) : Prop := ∃ f : Nat → Int32, c = .inl (0, 40, .inl f) ∧ True
def K_67 (ga : Nat → Int32) (c : zE) : Prop := ∃ f : Nat → Int32, c = .inl (0, 40, .inl f) ∧ True
def K_68 (ga : Nat → Int32) (c : zE) : Prop := ∃ f : Nat → Int32, c = .inl (0, 40, .inl f) ∧ True
def K_69 (ga : Nat → Int32) (c : zE) : Prop := ∃ f : Nat → Int32, c = .inl (0, 40, .inl f) ∧ True
def K_70 (ga : Nat → Int32) (c : zE) : Prop := ∃ f : Nat → Int32, c = .inl (0, 40, .inl f) ∧ True
def K_71 (ga : Nat → Int32) (c : zE) : Prop := ∃ f : Nat → Int32, c = .inl (0, 61, .inl f) ∧ True
def K_72 (ga : Nat → Int32) (c : zE) : Prop := ∃ f : Nat → Int32, c = .inl (0, 61, .inl f) ∧ True
def K_73 (ga : Nat → Int32) (c : zE) : Prop := ∃ f : Nat → Int32, c = .inl (0, 61, .inl f) ∧ True
def K_74 (ga : Nat → Int32) (c : zE) : Prop := ∃ f : Nat → Int32, c = .inl (0, 80, .inl f) ∧ ∀ k, k < 80 → 0 ≤ f k ∧ f k ≤ 39
def K_75 (ga : Nat → Int32) (c : zE) : Prop := ∃ f : Nat → Int32, c = .inl (3, 80, .inl f) ∧ True
def K_76 (ga : Nat → Int32) (c : zE) : Prop := ∃ f : Nat → Int32, c = .inl (0, 80, .inl f) ∧ True
def K_77 (ga : Nat → Int32) (c : zE) : Prop := ∃ f : Nat → Int32, c = .inl (0, 40, .inl f) ∧ True
def K_78 (ga : Nat → Int32) (c : zE) : Prop := ∃ f : Nat → Int32, c = .inl (0, 128, .inl f) ∧ True
def K_79 (ga : Nat → Int32) (c : zE) : Prop := ∃ f : Nat → Int32, c = .inl (0, 128, .inl f) ∧ True
def K_80 (ga : Nat → Int32) (c : zE) : Prop := ∃ f : Nat → Int32, c = .inl (3, 128, .inl f) ∧ True
def K_81 (ga : Nat → Int32) (c : zE) : Prop := ∃ f : Nat → Int32, c = .inl (3, 4, .inl f) ∧ f = ga
def K_82 (ga : Nat → Int32) (c : zE) : Prop := ∃ f : Nat → Int32, c = .inl (0, 4, .inl f) ∧ f = ga
def K_83 (ga : Nat → Int32) (c : zE) : Prop := ∃ f : Nat → Int32, c = .inl (0, 4, .inl f) ∧ f = ga
def K_84 (ga : Nat → Int32) (c : zE) : Prop := ∃ f : Nat → Int32, c = .inl (0, 4, .inl f) ∧ f = ga
def K_85 (ga : Nat → Int32) (c : zE) : Prop := ∃ f : Nat → Int32, c = .inl (0, 4, .inl f) ∧ f = ga
def K_86 (ga : Nat → Int32) (c : zE) : Prop := ∃ f : Nat → Int32, c = .inl (3, 16, .inl f) ∧ f = ga
def K_87 (ga : Nat → Int32) (c : zE) : Prop := ∃ f : Nat → Int32, c = .inl (0, 4, .inl f) ∧ f = ga
def K_88 (ga : Nat → Int32) (c : zE) : Prop := ∃ f : Nat → Int32, c = .inl (0, 8, .inl f) ∧ f = ga
def K_89 (ga : Nat → Int32) (c : zE) : Prop := ∃ f : Nat → Int32, c = .inl (0, 72, .inl f) ∧ f = ga
def K_90 (ga : Nat → Int32) (c : zE) : Prop := ∃ f : Nat → Int32, c = .inl (0, 248, .inl f) ∧ f = ga
def K_91 (ga : Nat → Int32) (c : zE) : Prop := ∃ f : Nat → Int32, c = .inl (0, 248, .inl f) ∧ f = ga
def K_92 (ga : Nat → Int32) (c : zE) : Prop := ∃ f : Nat → Int32, c = .inl (3, 8, .inl f) ∧ True
def K_93 (ga : Nat → Int32) (c : zE) : Prop := ∃ f : Nat → Int32, c = .inl (0, 8, .inl f) ∧ ∀ k, k < 8 → 0 ≤ f k ∧ f k ≤ 7
def K_94 (ga : Nat → Int32) (c : zE) : Prop := ∃ f : Nat → Int32, c = .inl (0, 8, .inl f) ∧ ∀ k, k < 8 → 0 ≤ f k ∧ f k ≤ 7
def K_95 (ga : Nat → Int32) (c : zE) : Prop := ∃ f : Nat → Int32, c = .inl (0, 24, .inl f) ∧ True
def K_96 (ga : Nat → Int32) (c : zE) : Prop := ∃ f : Nat → Int32, c = .inl (0, 8, .inl f) ∧ ∀ k, k < 8 → 0 ≤ f k ∧ f k ≤ 7
def K_97 (ga : Nat → Int32) (c : zE) : Prop := ∃ f : Nat → Int32, c = .inl (0, 8, .inl f) ∧ True
def K_98 (ga : Nat → Int32) (c : zE) : Prop := ∃ f : Nat → Int32, c = .inl (0, 8, .inl f) ∧ ∀ k, k < 8 → 1 ≤ f k ∧ f k ≤ 2187
def K_99 (gl : Nat → Int64) (c : zE) : Prop := ∃ f : Nat → Int64, c = .inl (1, 1, .inr (.inl f)) ∧ True
def KO (n : Nat) (τ : Nat → Nat) (gi ga : Nat → Int32) (gl : Nat → Int64) (j : Nat) (c : zE) : Prop := match j with
  | 0 => K_0 n gi c
  | 1 => K_1 τ gi c
  | 2 => K_2 n gi c
  | 3 => K_3 n gi c
  | 4 => K_4 ga c
  | 5 => K_5 gl c
  | 6 => K_6 n gi c
  | 7 => K_7 gl c
  | 8 => K_8 ga c
  | 9 => K_9 ga c
  | 10 => K_10 n gi c
  | 11 => K_11 τ gi c
  | 12 => K_12 ga c
  | 13 => K_13 ga c
  | 14 => K_14 n gi c
  | 15 => K_15 τ gi c
  | 16 => K_16 ga c
  | 17 => K_17 ga c
  | 18 => K_18 ga c
  | 19 => K_19 ga c
  | 20 => K_20 n gi c
  | 21 => K_21 ga c
  | 22 => K_22 ga c
  | 23 => K_23 ga c
  | 24 => K_24 ga c
  | 25 => K_25 n gi c
  | 26 => K_26 ga c
  | 27 => K_27 ga c
  | 28 => K_28 ga c
  | 29 => K_29 ga c
  | 30 => K_30 n gi c
  | 31 => K_31 ga c
  | 32 => K_32 ga c
  | 33 => K_33 n gi c
  | 34 => K_34 ga c
  | 35 => K_35 ga c
  | 36 => K_36 ga c
  | 37 => K_37 ga c
  | 38 => K_38 ga c
  | 39 => K_39 ga c
  | 40 => K_40 ga c
  | 41 => K_41 ga c
  | 42 => K_42 n gi c
  | 43 => K_43 ga c
  | 44 => K_44 ga c
  | 45 => K_45 ga c
  | 46 => K_46 gl c
  | 47 => K_47 gl c
  | 48 => K_48 ga c
  | 49 => K_49 ga c
  | 50 => K_50 ga c
  | 51 => K_51 ga c
  | 52 => K_52 ga c
  | 53 => K_53 ga c
  | 54 => K_54 gl c
  | 55 => K_55 ga c
  | 56 => K_56 ga c
  | 57 => K_57 ga c
  | 58 => K_58 ga c
  | 59 => K_59 ga c
  | 60 => K_60 ga c
  | 61 => K_61 ga c
  | 62 => K_62 ga c
  | 63 => K_63 ga c
  | 64 => K_64 ga c
  | 65 => K_65 ga c
  | 66 => K_66 ga c
  | 67 => K_67 ga c
  | 68 => K_68 ga c
  | 69 => K_69 ga c
  | 70 => K_70 ga c
  | 71 => K_71 ga c
  | 72 => K_72 ga c
  | 73 => K_73 ga c
  | 74 => K_74 ga c
  | 75 => K_75 ga c
  | 76 => K_76 ga c
  | 77 => K_77 ga c
  | 78 => K_78 ga c
  | 79 => K_79 ga c
  | 80 => K_80 ga c
  | 81 => K_81 ga c
  | 82 => K_82 ga c
  | 83 => K_83 ga c
  | 84 => K_84 ga c
  | 85 => K_85 ga c
  | 86 => K_86 ga c
  | 87 => K_87 ga c
  | 88 => K_88 ga c
  | 89 => K_89 ga c
  | 90 => K_90 ga c
  | 91 => K_91 ga c
  | 92 => K_92 ga c
  | 93 => K_93 ga c
  | 94 => K_94 ga c
  | 95 => K_95 ga c
  | 96 => K_96 ga c
  | 97 => K_97 ga c
  | 98 => K_98 ga c
  | _ => K_99 gl c
def KM (c : zE) : Prop := ∃ i : Nat → Int32, c = .inr (6, [.int (i 0), .int (i 1), .int (i 2), .int (i 3), .int (i 4), .int (i 5), .int (i 6), .int (i 7), .int (i 8), .int (i 9), .int (i 10), .int (i 11), .int (i 12), .int (i 13), .int (i 14), .int (i 15)]) ∧ 1 ≤ i 1 ∧ i 1 ≤ 300 ∧ 0 ≤ i 9 ∧ i 9 ≤ 2 ∧ (-1) ≤ i 11 ∧ i 11 ≤ 60
def KL (τ : Nat → Nat) (c : zE) : Prop := ∃ (x y : Int32) (q : Nat), c = .inr (4, [.int x, .int y, .ref q]) ∧ 3 ≤ τ q
def KC (m : Nat) (c : zE) : Prop := ∃ f : Nat → Int32, c = .inl (0, m, .inl f) ∧ m ≤ 1000 ∧ ∀ k, k < m → 0 ≤ f k ∧ f k ≤ 40000
def DO (τ : Nat → Nat) (t : Nat) (c : zE) : Prop := match t with
  | 0 => True
  | 1 => KM c
  | 2 => KL τ c
  | m + 3 => KC m c
def WT (n b L : Nat) (xs : Nat → Int32) (τ : Nat → Nat) (g : zGh) (h : zH) : Prop := (∀ j, j < 100 → ∃ c, h.2 (n + j) = some c ∧ KO n τ (g.1 j) (g.2.1 j) (g.2.2 j) j c) ∧ (∀ a, τ a ≠ 0 → n + 100 ≤ a ∧ a < h.1.1 ∧ ∃ c, h.2 a = some c ∧ DO τ (τ a) c) ∧ n + 100 ≤ h.1.1 ∧ (h.2 b = some (.inl (6, L, .inl xs)) ∧ b < n) ∧ (h.2 (h.1.2 0) = some (.inl (8, 3, .inl zBrk)) ∧ h.1.2 0 < n) ∧ (h.2 (h.1.2 5) = some (.inl (9, 8, .inl zSg)) ∧ h.1.2 5 < n ∧ h.1.2 1 ≠ h.1.2 2)
section WTS
variable {n b L : Nat} {xs : Nat → Int32} {τ : Nat → Nat} {g : zGh} {h : zH}
theorem WT.put {j : Nat} {c : zE} {g' : zGh} (w : WT n b L xs τ g h) (hj : j < 100) (k : KO n τ (g'.1 j) (g'.2.1 j) (g'.2.2 j) j c) (hg : ∀ i, i ≠ j → g'.1 i = g.1 i ∧ g'.2.1 i = g.2.1 i ∧ g'.2.2 i = g.2.2 i) : WT n b L xs τ g' (zset h (n + j) c) := by
  obtain ⟨w1, w2, w3, w4, w5, w6⟩ := w
  refine ⟨fun i hi => ?_, fun a ha => ?_, w3, ?_, ?_, ?_⟩
  · by_cases e : i = j
    · subst e
      exact ⟨c, zs_same _ _ _, k⟩
    · obtain ⟨d, e1, e2⟩ := w1 i hi
      obtain ⟨g1, g2, g3⟩ := hg i e
      exact ⟨d, (zs_ne (by omega)).trans e1, by rw [g1, g2, g3]; exact e2⟩
  · obtain ⟨a1, a2, d, e1, e2⟩ := w2 a ha
    exact ⟨a1, a2, d, (zs_ne (by omega)).trans e1, e2⟩
  · exact ⟨(zs_ne (by omega)).trans w4.1, w4.2⟩
  · refine ⟨(zs_ne ?_).trans w5.1, w5.2⟩
    show h.1.2 0 ≠ n + j
    omega
  · refine ⟨(zs_ne ?_).trans w6.1, w6.2⟩
    show h.1.2 5 ≠ n + j
    omega
theorem WT.set {j : Nat} {c : zE} (w : WT n b L xs τ g h) (hj : j < 100) (k : KO n τ (g.1 j) (g.2.1 j) (g.2.2 j) j c) : WT n b L xs τ g (zset h (n + j) c) := w.put hj k (fun _ _ => ⟨rfl, rfl, rfl⟩)
theorem WT.dyn {a : Nat} {c : zE} (w : WT n b L xs τ g h) (ha : τ a ≠ 0) (k : DO τ (τ a) c) : WT n b L xs τ g (zset h a c) := by
  obtain ⟨w1, w2, w3, w4, w5, w6⟩ := w
  obtain ⟨a1, a2, -⟩ := w2 a ha
  refine ⟨fun i hi => ?_, fun q hq => ?_, w3, ?_, ?_, ?_⟩
  · obtain ⟨d, e1, e2⟩ := w1 i hi
    exact ⟨d, (zs_ne (by omega)).trans e1, e2⟩
  · obtain ⟨q1, q2, d, e1, e2⟩ := w2 q hq
    by_cases e : q = a
    · subst e
      exact ⟨q1, q2, c, zs_same _ _ _, k⟩
    · exact ⟨q1, q2, d, (zs_ne e).trans e1, e2⟩
  · exact ⟨(zs_ne (by omega)).trans w4.1, w4.2⟩
  · refine ⟨(zs_ne ?_).trans w5.1, w5.2⟩
    show h.1.2 0 ≠ a
    omega
  · refine ⟨(zs_ne ?_).trans w6.1, w6.2⟩
    show h.1.2 5 ≠ a
    omega
theorem gset_ne {j k : Nat} {x : Int32} {i : Nat} (e : i ≠ j) : (gset g j k x).1 i = g.1 i ∧ (gset g j k x).2.1 i = g.2.1 i ∧ (gset g j k x).2.2 i = g.2.2 i := ⟨if_neg e, rfl, rfl⟩
theorem gsA_ne {j : Nat} {f : Nat → Int32} {i : Nat} (e : i ≠ j) : (gsA g j f).1 i = g.1 i ∧ (gsA g j f).2.1 i = g.2.1 i ∧ (gsA g j f).2.2 i = g.2.2 i := ⟨rfl, if_neg e, rfl⟩
theorem gsL_ne {j : Nat} {f : Nat → Int64} {i : Nat} (e : i ≠ j) : (gsL g j f).1 i = g.1 i ∧ (gsL g j f).2.1 i = g.2.1 i ∧ (gsL g j f).2.2 i = g.2.2 i := ⟨rfl, rfl, if_neg e⟩
theorem aI_to {a m : Nat} {f : Nat → Int32} {i : Int32} (e : h.2 a = some (.inl (0, m, .inl f))) (hN : m < 2 ^ 31) (h0 : 0 ≤ i) (h1 : i < Int32.ofNat m) : aI h a i = some (f i.toNatClampNeg) := by
  obtain ⟨p, q⟩ := i32_clamp h0 hN h1
  simp [aI, e, p, q]
theorem aB_to {a m : Nat} {f : Nat → Int32} {i : Int32} (e : h.2 a = some (.inl (2, m, .inl f))) (hN : m < 2 ^ 31) (h0 : 0 ≤ i) (h1 : i < Int32.ofNat m) : aB h a i = some (f i.toNatClampNeg) := by
  obtain ⟨p, q⟩ := i32_clamp h0 hN h1
  simp [aB, e, p, q]
theorem aZ_to {a m : Nat} {f : Nat → Int32} {i : Int32} (e : h.2 a = some (.inl (3, m, .inl f))) (hN : m < 2 ^ 31) (h0 : 0 ≤ i) (h1 : i < Int32.ofNat m) : aZ h a i = some (f i.toNatClampNeg) := by
  obtain ⟨p, q⟩ := i32_clamp h0 hN h1
  simp [aZ, e, p, q]
theorem aL_to {a m : Nat} {f : Nat → Int64} {i : Int32} (e : h.2 a = some (.inl (1, m, .inr (.inl f)))) (hN : m < 2 ^ 31) (h0 : 0 ≤ i) (h1 : i < Int32.ofNat m) : aL h a i = some (f i.toNatClampNeg) := by
  obtain ⟨p, q⟩ := i32_clamp h0 hN h1
  simp [aL, e, p, q]
theorem aQ_to {a m t : Nat} {f : Nat → Option Nat} {i : Int32} (e : h.2 a = some (.inl (t, m, .inr (.inr (.inr (.inr f)))))) (ht : t = 4 ∨ t = 5) (hN : m < 2 ^ 31) (h0 : 0 ≤ i) (h1 : i < Int32.ofNat m) : aQ h a i = some (f i.toNatClampNeg) := by
  obtain ⟨p, q⟩ := i32_clamp h0 hN h1
  simp [aQ, e, p, q, ht]
theorem sI_to {a m : Nat} {f : Nat → Int32} {i x : Int32} (e : h.2 a = some (.inl (0, m, .inl f))) (hN : m < 2 ^ 31) (h0 : 0 ≤ i) (h1 : i < Int32.ofNat m) : sI h a i x = some (zset h a (.inl (0, m, .inl (upd f i.toNatClampNeg x)))) := by
  obtain ⟨p, q⟩ := i32_clamp h0 hN h1
  simp [sI, e, p, q]
theorem sB_to {a m : Nat} {f : Nat → Int32} {i x : Int32} (e : h.2 a = some (.inl (2, m, .inl f))) (hN : m < 2 ^ 31) (h0 : 0 ≤ i) (h1 : i < Int32.ofNat m) : sB h a i x = some (zset h a (.inl (2, m, .inl (upd f i.toNatClampNeg (x.toInt8.toInt32))))) := by
  obtain ⟨p, q⟩ := i32_clamp h0 hN h1
  simp [sB, e, p, q]
theorem sZ_to {a m : Nat} {f : Nat → Int32} {i x : Int32} (e : h.2 a = some (.inl (3, m, .inl f))) (hN : m < 2 ^ 31) (h0 : 0 ≤ i) (h1 : i < Int32.ofNat m) (hx : x = 0 ∨ x = 1) : sZ h a i x = some (zset h a (.inl (3, m, .inl (upd f i.toNatClampNeg x)))) := by
  obtain ⟨p, q⟩ := i32_clamp h0 hN h1
  simp [sZ, e, p, q, hx]
theorem sL_to {a m : Nat} {f : Nat → Int64} {i : Int32} {x : Int64} (e : h.2 a = some (.inl (1, m, .inr (.inl f)))) (hN : m < 2 ^ 31) (h0 : 0 ≤ i) (h1 : i < Int32.ofNat m) : sL h a i x = some (zset h a (.inl (1, m, .inr (.inl (vp_updL f i.toNatClampNeg x))))) := by
  obtain ⟨p, q⟩ := i32_clamp h0 hN h1
  simp [sL, e, p, q]
theorem upd_all {f : Nat → Int32} {P : Int32 → Prop} {m j : Nat} {x : Int32} (hf : ∀ k, k < m → P (f k)) (hx : P x) : ∀ k, k < m → P (upd f j x k) := by
  intro k hk
  unfold upd
  by_cases e : k = j
  · rw [if_pos e]; exact hx
  · rw [if_neg e]; exact hf k hk
theorem clamp_lt {i m : Int32} (h0 : 0 ≤ i) (h1 : i < m) : i.toNatClampNeg < m.toNatClampNeg := by
  have a : (0 : Int) ≤ i.toInt := by simpa using Int32.le_iff_toInt_le.mp h0
  have c := Int32.lt_iff_toInt_lt.mp h1
  show i.toInt.toNat < m.toInt.toNat
  omega
theorem ob_0 (w : WT n b L xs τ g h) : zob h n 11 = true := by
  obtain ⟨c, e, ⟨i, rfl, r⟩⟩ := w.1 0 (by decide)
  exact zob_of e
theorem gR_0_0 (w : WT n b L xs τ g h) : gR h n 11 0 = some (n + 1) := by
  obtain ⟨c, e, ⟨i, rfl, ⟨r0, r1, r2, r3, r4, r5, r6, r7, r8⟩⟩⟩ := w.1 0 (by decide)
  exact gR_of e rfl
theorem gR_0_1 (w : WT n b L xs τ g h) : gR h n 11 1 = some (n + 2) := by
  obtain ⟨c, e, ⟨i, rfl, ⟨r0, r1, r2, r3, r4, r5, r6, r7, r8⟩⟩⟩ := w.1 0 (by decide)
  exact gR_of e rfl
theorem gR_0_2 (w : WT n b L xs τ g h) : gR h n 11 2 = some (n + 3) := by
  obtain ⟨c, e, ⟨i, rfl, ⟨r0, r1, r2, r3, r4, r5, r6, r7, r8⟩⟩⟩ := w.1 0 (by decide)
  exact gR_of e rfl
theorem gR_0_3 (w : WT n b L xs τ g h) : gR h n 11 3 = some (n + 6) := by
  obtain ⟨c, e, ⟨i, rfl, ⟨r0, r1, r2, r3, r4, r5, r6, r7, r8⟩⟩⟩ := w.1 0 (by decide)
  exact gR_of e rfl
theorem gR_0_4 (w : WT n b L xs τ g h) : gR h n 11 4 = some (n + 10) := by
  obtain ⟨c, e, ⟨i, rfl, ⟨r0, r1, r2, r3, r4, r5, r6, r7, r8⟩⟩⟩ := w.1 0 (by decide)
  exact gR_of e rfl
theorem gR_0_5 (w : WT n b L xs τ g h) : gR h n 11 5 = some (n + 14) := by
  obtain ⟨c, e, ⟨i, rfl, ⟨r0, r1, r2, r3, r4, r5, r6, r7, r8⟩⟩⟩ := w.1 0 (by decide)
  exact gR_of e rfl
theorem gR_0_6 (w : WT n b L xs τ g h) : gR h n 11 6 = some (n + 20) := by
  obtain ⟨c, e, ⟨i, rfl, ⟨r0, r1, r2, r3, r4, r5, r6, r7, r8⟩⟩⟩ := w.1 0 (by decide)
  exact gR_of e rfl
theorem gR_0_7 (w : WT n b L xs τ g h) : gR h n 11 7 = some (n + 25) := by
  obtain ⟨c, e, ⟨i, rfl, ⟨r0, r1, r2, r3, r4, r5, r6, r7, r8⟩⟩⟩ := w.1 0 (by decide)
  exact gR_of e rfl
theorem gR_0_8 (w : WT n b L xs τ g h) : gR h n 11 8 = some (n + 30) := by
  obtain ⟨c, e, ⟨i, rfl, ⟨r0, r1, r2, r3, r4, r5, r6, r7, r8⟩⟩⟩ := w.1 0 (by decide)
  exact gR_of e rfl
theorem gR_0_9 (w : WT n b L xs τ g h) : gR h n 11 9 = some (n + 33) := by
  obtain ⟨c, e, ⟨i, rfl, ⟨r0, r1, r2, r3, r4, r5, r6, r7, r8⟩⟩⟩ := w.1 0 (by decide)
  exact gR_of e rfl
theorem gI_0_10 (w : WT n b L xs τ g h) : wp (gI h n 11 10) (fun x => x = g.1 0 10 ∧ 0 ≤ x ∧ x ≤ 40) := by
  obtain ⟨c, e, ⟨i, rfl, ⟨r0, r1, r2, r3, r4, r5, r6, r7, r8⟩⟩⟩ := w.1 0 (by decide)
  exact ⟨_, gI_of e rfl, ⟨r0, r1, r2⟩⟩
theorem pI_0_10 {x : Int32} (w : WT n b L xs τ g h) (z0 : 0 ≤ x) (z1 : x ≤ 40) : wp (pF h n 11 10 (.int x)) (fun h2 => WT n b L xs τ (gset g 0 10 x) h2) := by
  obtain ⟨c, e, ⟨i, rfl, ⟨r0, r1, r2, r3, r4, r5, r6, r7, r8⟩⟩⟩ := w.1 0 (by decide)
  exact ⟨_, pF_of e (Nat.le_of_ble_eq_true rfl), w.put (j := 0) (by decide) ⟨upd i 10 x, rfl, ⟨rfl, z0, z1, r3, r4, r5, r6, r7, r8⟩⟩ (fun q hq => gset_ne hq)⟩
theorem gI_0_11 (w : WT n b L xs τ g h) : wp (gI h n 11 11) (fun x => x = g.1 0 11 ∧ 0 ≤ x ∧ x ≤ 30) := by
  obtain ⟨c, e, ⟨i, rfl, ⟨r0, r1, r2, r3, r4, r5, r6, r7, r8⟩⟩⟩ := w.1 0 (by decide)
  exact ⟨_, gI_of e rfl, ⟨r3, r4, r5⟩⟩
theorem pI_0_11 {x : Int32} (w : WT n b L xs τ g h) (z0 : 0 ≤ x) (z1 : x ≤ 30) : wp (pF h n 11 11 (.int x)) (fun h2 => WT n b L xs τ (gset g 0 11 x) h2) := by
  obtain ⟨c, e, ⟨i, rfl, ⟨r0, r1, r2, r3, r4, r5, r6, r7, r8⟩⟩⟩ := w.1 0 (by decide)
  exact ⟨_, pF_of e (Nat.le_of_ble_eq_true rfl), w.put (j := 0) (by decide) ⟨upd i 11 x, rfl, ⟨r0, r1, r2, rfl, z0, z1, r6, r7, r8⟩⟩ (fun q hq => gset_ne hq)⟩
theorem gI_0_12 (w : WT n b L xs τ g h) : wp (gI h n 11 12) (fun x => x = g.1 0 12 ∧ (-1) ≤ x ∧ x ≤ 30) := by
  obtain ⟨c, e, ⟨i, rfl, ⟨r0, r1, r2, r3, r4, r5, r6, r7, r8⟩⟩⟩ := w.1 0 (by decide)
  exact ⟨_, gI_of e rfl, ⟨r6, r7, r8⟩⟩
theorem pI_0_12 {x : Int32} (w : WT n b L xs τ g h) (z0 : (-1) ≤ x) (z1 : x ≤ 30) : wp (pF h n 11 12 (.int x)) (fun h2 => WT n b L xs τ (gset g 0 12 x) h2) := by
  obtain ⟨c, e, ⟨i, rfl, ⟨r0, r1, r2, r3, r4, r5, r6, r7, r8⟩⟩⟩ := w.1 0 (by decide)
  exact ⟨_, pF_of e (Nat.le_of_ble_eq_true rfl), w.put (j := 0) (by decide) ⟨upd i 12 x, rfl, ⟨r0, r1, r2, r3, r4, r5, rfl, z0, z1⟩⟩ (fun q hq => gset_ne hq)⟩
theorem aN_1 (w : WT n b L xs τ g h) : aN h (n + 1) = some 40 := by
  obtain ⟨c, e, ⟨f, rfl, r⟩⟩ := w.1 1 (by decide)
  exact aN_of e (by decide)
theorem aQ_1 {i : Int32} (w : WT n b L xs τ g h) (i0 : 0 ≤ i) (i1 : i < 40) : wp (aQ h (n + 1) i) (fun x => (∀ a, x = some a → τ a = 1) ∧ (i < g.1 1 0 → ∃ a, x = some a)) := by
  obtain ⟨c, e, ⟨f, rfl, r, r2⟩⟩ := w.1 1 (by decide)
  exact ⟨_, aQ_to e (by decide) (by decide) i0 i1, fun a q => r _ a q, fun q => r2 _ (clamp_lt i0 q)⟩
theorem ob_2 (w : WT n b L xs τ g h) : zob h (n + 2) 8 = true := by
  obtain ⟨c, e, ⟨i, rfl, r⟩⟩ := w.1 2 (by decide)
  exact zob_of e
theorem gI_2_0 (w : WT n b L xs τ g h) : wp (gI h (n + 2) 8 0) (fun x => True) := by
  obtain ⟨c, e, ⟨i, rfl, ⟨r0, r1⟩⟩⟩ := w.1 2 (by decide)
  exact ⟨_, gI_of e rfl, trivial⟩
theorem pI_2_0 {x : Int32} (w : WT n b L xs τ g h) : wp (pF h (n + 2) 8 0 (.int x)) (fun h2 => WT n b L xs τ g h2) := by
  obtain ⟨c, e, ⟨i, rfl, ⟨r0, r1⟩⟩⟩ := w.1 2 (by decide)
  exact ⟨_, pF_of e (Nat.le_of_ble_eq_true rfl), w.set (j := 2) (by decide) ⟨upd i 0 x, rfl, ⟨r0, r1⟩⟩⟩
theorem gI_2_1 (w : WT n b L xs τ g h) : wp (gI h (n + 2) 8 1) (fun x => True) := by
  obtain ⟨c, e, ⟨i, rfl, ⟨r0, r1⟩⟩⟩ := w.1 2 (by decide)
  exact ⟨_, gI_of e rfl, trivial⟩
theorem pI_2_1 {x : Int32} (w : WT n b L xs τ g h) : wp (pF h (n + 2) 8 1 (.int x)) (fun h2 => WT n b L xs τ g h2) := by
  obtain ⟨c, e, ⟨i, rfl, ⟨r0, r1⟩⟩⟩ := w.1 2 (by decide)
  exact ⟨_, pF_of e (Nat.le_of_ble_eq_true rfl), w.set (j := 2) (by decide) ⟨upd i 1 x, rfl, ⟨r0, r1⟩⟩⟩
theorem gI_2_2 (w : WT n b L xs τ g h) : wp (gI h (n + 2) 8 2) (fun x => True) := by
  obtain ⟨c, e, ⟨i, rfl, ⟨r0, r1⟩⟩⟩ := w.1 2 (by decide)
  exact ⟨_, gI_of e rfl, trivial⟩
theorem pI_2_2 {x : Int32} (w : WT n b L xs τ g h) : wp (pF h (n + 2) 8 2 (.int x)) (fun h2 => WT n b L xs τ g h2) := by
  obtain ⟨c, e, ⟨i, rfl, ⟨r0, r1⟩⟩⟩ := w.1 2 (by decide)
  exact ⟨_, pF_of e (Nat.le_of_ble_eq_true rfl), w.set (j := 2) (by decide) ⟨upd i 2 x, rfl, ⟨r0, r1⟩⟩⟩
theorem gI_2_3 (w : WT n b L xs τ g h) : wp (gI h (n + 2) 8 3) (fun x => True) := by
  obtain ⟨c, e, ⟨i, rfl, ⟨r0, r1⟩⟩⟩ := w.1 2 (by decide)
  exact ⟨_, gI_of e rfl, trivial⟩
theorem pI_2_3 {x : Int32} (w : WT n b L xs τ g h) : wp (pF h (n + 2) 8 3 (.int x)) (fun h2 => WT n b L xs τ g h2) := by
  obtain ⟨c, e, ⟨i, rfl, ⟨r0, r1⟩⟩⟩ := w.1 2 (by decide)
  exact ⟨_, pF_of e (Nat.le_of_ble_eq_true rfl), w.set (j := 2) (by decide) ⟨upd i 3 x, rfl, ⟨r0, r1⟩⟩⟩
theorem gI_2_4 (w : WT n b L xs τ g h) : wp (gI h (n + 2) 8 4) (fun x => True) := by
  obtain ⟨c, e, ⟨i, rfl, ⟨r0, r1⟩⟩⟩ := w.1 2 (by decide)
  exact ⟨_, gI_of e rfl, trivial⟩
theorem pI_2_4 {x : Int32} (w : WT n b L xs τ g h) : wp (pF h (n + 2) 8 4 (.int x)) (fun h2 => WT n b L xs τ g h2) := by
  obtain ⟨c, e, ⟨i, rfl, ⟨r0, r1⟩⟩⟩ := w.1 2 (by decide)
  exact ⟨_, pF_of e (Nat.le_of_ble_eq_true rfl), w.set (j := 2) (by decide) ⟨upd i 4 x, rfl, ⟨r0, r1⟩⟩⟩
theorem gI_2_5 (w : WT n b L xs τ g h) : wp (gI h (n + 2) 8 5) (fun x => True) := by
  obtain ⟨c, e, ⟨i, rfl, ⟨r0, r1⟩⟩⟩ := w.1 2 (by decide)
  exact ⟨_, gI_of e rfl, trivial⟩
theorem pI_2_5 {x : Int32} (w : WT n b L xs τ g h) : wp (pF h (n + 2) 8 5 (.int x)) (fun h2 => WT n b L xs τ g h2) := by
  obtain ⟨c, e, ⟨i, rfl, ⟨r0, r1⟩⟩⟩ := w.1 2 (by decide)
  exact ⟨_, pF_of e (Nat.le_of_ble_eq_true rfl), w.set (j := 2) (by decide) ⟨upd i 5 x, rfl, ⟨r0, r1⟩⟩⟩
theorem gI_2_6 (w : WT n b L xs τ g h) : wp (gI h (n + 2) 8 6) (fun x => (-1) ≤ x ∧ x ≤ 60) := by
  obtain ⟨c, e, ⟨i, rfl, ⟨r0, r1⟩⟩⟩ := w.1 2 (by decide)
  exact ⟨_, gI_of e rfl, ⟨r0, r1⟩⟩
theorem pI_2_6 {x : Int32} (w : WT n b L xs τ g h) (z0 : (-1) ≤ x) (z1 : x ≤ 60) : wp (pF h (n + 2) 8 6 (.int x)) (fun h2 => WT n b L xs τ g h2) := by
  obtain ⟨c, e, ⟨i, rfl, ⟨r0, r1⟩⟩⟩ := w.1 2 (by decide)
  exact ⟨_, pF_of e (Nat.le_of_ble_eq_true rfl), w.set (j := 2) (by decide) ⟨upd i 6 x, rfl, ⟨z0, z1⟩⟩⟩
theorem ob_3 (w : WT n b L xs τ g h) : zob h (n + 3) 9 = true := by
  obtain ⟨c, e, ⟨i, l, rfl, r⟩⟩ := w.1 3 (by decide)
  exact zob_of e
theorem gR_3_0 (w : WT n b L xs τ g h) : gR h (n + 3) 9 0 = some (n + 4) := by
  obtain ⟨c, e, ⟨i, l, rfl, ⟨r0, r1, r2, r3, r4, r5, r6, r7, r8, r9, r10, r11, r12, r13, r14⟩⟩⟩ := w.1 3 (by decide)
  exact gR_of e rfl
theorem gR_3_1 (w : WT n b L xs τ g h) : gR h (n + 3) 9 1 = some (n + 5) := by
  obtain ⟨c, e, ⟨i, l, rfl, ⟨r0, r1, r2, r3, r4, r5, r6, r7, r8, r9, r10, r11, r12, r13, r14⟩⟩⟩ := w.1 3 (by decide)
  exact gR_of e rfl
theorem gI_3_2 (w : WT n b L xs τ g h) : wp (gI h (n + 3) 9 2) (fun x => x = g.1 3 2 ∧ 0 ≤ x ∧ x ≤ 1000) := by
  obtain ⟨c, e, ⟨i, l, rfl, ⟨r0, r1, r2, r3, r4, r5, r6, r7, r8, r9, r10, r11, r12, r13, r14⟩⟩⟩ := w.1 3 (by decide)
  exact ⟨_, gI_of e rfl, ⟨r0, r1, r2⟩⟩
theorem pI_3_2 {x : Int32} (w : WT n b L xs τ g h) (z0 : 0 ≤ x) (z1 : x ≤ 1000) : wp (pF h (n + 3) 9 2 (.int x)) (fun h2 => WT n b L xs τ (gset g 3 2 x) h2) := by
  obtain ⟨c, e, ⟨i, l, rfl, ⟨r0, r1, r2, r3, r4, r5, r6, r7, r8, r9, r10, r11, r12, r13, r14⟩⟩⟩ := w.1 3 (by decide)
  exact ⟨_, pF_of e (Nat.le_of_ble_eq_true rfl), w.put (j := 3) (by decide) ⟨upd i 2 x, l, rfl, ⟨rfl, z0, z1, r3, r4, r5, r6, r7, r8, r9, r10, r11, r12, r13, r14⟩⟩ (fun q hq => gset_ne hq)⟩
theorem gI_3_3 (w : WT n b L xs τ g h) : wp (gI h (n + 3) 9 3) (fun x => x = g.1 3 3 ∧ 0 ≤ x ∧ x ≤ 1000) := by
  obtain ⟨c, e, ⟨i, l, rfl, ⟨r0, r1, r2, r3, r4, r5, r6, r7, r8, r9, r10, r11, r12, r13, r14⟩⟩⟩ := w.1 3 (by decide)
  exact ⟨_, gI_of e rfl, ⟨r3, r4, r5⟩⟩
theorem pI_3_3 {x : Int32} (w : WT n b L xs τ g h) (z0 : 0 ≤ x) (z1 : x ≤ 1000) : wp (pF h (n + 3) 9 3 (.int x)) (fun h2 => WT n b L xs τ (gset g 3 3 x) h2) := by
  obtain ⟨c, e, ⟨i, l, rfl, ⟨r0, r1, r2, r3, r4, r5, r6, r7, r8, r9, r10, r11, r12, r13, r14⟩⟩⟩ := w.1 3 (by decide)
  exact ⟨_, pF_of e (Nat.le_of_ble_eq_true rfl), w.put (j := 3) (by decide) ⟨upd i 3 x, l, rfl, ⟨r0, r1, r2, rfl, z0, z1, r6, r7, r8, r9, r10, r11, r12, r13, r14⟩⟩ (fun q hq => gset_ne hq)⟩
theorem gI_3_4 (w : WT n b L xs τ g h) : wp (gI h (n + 3) 9 4) (fun x => x = g.1 3 4 ∧ 0 ≤ x ∧ x ≤ 203) := by
  obtain ⟨c, e, ⟨i, l, rfl, ⟨r0, r1, r2, r3, r4, r5, r6, r7, r8, r9, r10, r11, r12, r13, r14⟩⟩⟩ := w.1 3 (by decide)
  exact ⟨_, gI_of e rfl, ⟨r6, r7, r8⟩⟩
theorem pI_3_4 {x : Int32} (w : WT n b L xs τ g h) (z0 : 0 ≤ x) (z1 : x ≤ 203) : wp (pF h (n + 3) 9 4 (.int x)) (fun h2 => WT n b L xs τ (gset g 3 4 x) h2) := by
  obtain ⟨c, e, ⟨i, l, rfl, ⟨r0, r1, r2, r3, r4, r5, r6, r7, r8, r9, r10, r11, r12, r13, r14⟩⟩⟩ := w.1 3 (by decide)
  exact ⟨_, pF_of e (Nat.le_of_ble_eq_true rfl), w.put (j := 3) (by decide) ⟨upd i 4 x, l, rfl, ⟨r0, r1, r2, r3, r4, r5, rfl, z0, z1, r9, r10, r11, r12, r13, r14⟩⟩ (fun q hq => gset_ne hq)⟩
theorem gI_3_5 (w : WT n b L xs τ g h) : wp (gI h (n + 3) 9 5) (fun x => x = g.1 3 5 ∧ 0 ≤ x ∧ x ≤ 1000) := by
  obtain ⟨c, e, ⟨i, l, rfl, ⟨r0, r1, r2, r3, r4, r5, r6, r7, r8, r9, r10, r11, r12, r13, r14⟩⟩⟩ := w.1 3 (by decide)
  exact ⟨_, gI_of e rfl, ⟨r9, r10, r11⟩⟩
theorem pI_3_5 {x : Int32} (w : WT n b L xs τ g h) (z0 : 0 ≤ x) (z1 : x ≤ 1000) : wp (pF h (n + 3) 9 5 (.int x)) (fun h2 => WT n b L xs τ (gset g 3 5 x) h2) := by
  obtain ⟨c, e, ⟨i, l, rfl, ⟨r0, r1, r2, r3, r4, r5, r6, r7, r8, r9, r10, r11, r12, r13, r14⟩⟩⟩ := w.1 3 (by decide)
  exact ⟨_, pF_of e (Nat.le_of_ble_eq_true rfl), w.put (j := 3) (by decide) ⟨upd i 5 x, l, rfl, ⟨r0, r1, r2, r3, r4, r5, r6, r7, r8, rfl, z0, z1, r12, r13, r14⟩⟩ (fun q hq => gset_ne hq)⟩
theorem gI_3_6 (w : WT n b L xs τ g h) : wp (gI h (n + 3) 9 6) (fun x => x = g.1 3 6 ∧ 0 ≤ x ∧ x ≤ 9999) := by
  obtain ⟨c, e, ⟨i, l, rfl, ⟨r0, r1, r2, r3, r4, r5, r6, r7, r8, r9, r10, r11, r12, r13, r14⟩⟩⟩ := w.1 3 (by decide)
  exact ⟨_, gI_of e rfl, ⟨r12, r13, r14⟩⟩
theorem pI_3_6 {x : Int32} (w : WT n b L xs τ g h) (z0 : 0 ≤ x) (z1 : x ≤ 9999) : wp (pF h (n + 3) 9 6 (.int x)) (fun h2 => WT n b L xs τ (gset g 3 6 x) h2) := by
  obtain ⟨c, e, ⟨i, l, rfl, ⟨r0, r1, r2, r3, r4, r5, r6, r7, r8, r9, r10, r11, r12, r13, r14⟩⟩⟩ := w.1 3 (by decide)
  exact ⟨_, pF_of e (Nat.le_of_ble_eq_true rfl), w.put (j := 3) (by decide) ⟨upd i 6 x, l, rfl, ⟨r0, r1, r2, r3, r4, r5, r6, r7, r8, r9, r10, r11, rfl, z0, z1⟩⟩ (fun q hq => gset_ne hq)⟩
theorem gL_3_7 (w : WT n b L xs τ g h) : wp (gL h (n + 3) 9 7) (fun _ => True) := by
  obtain ⟨c, e, ⟨i, l, rfl, ⟨r0, r1, r2, r3, r4, r5, r6, r7, r8, r9, r10, r11, r12, r13, r14⟩⟩⟩ := w.1 3 (by decide)
  exact ⟨_, gL_of e rfl, trivial⟩
theorem pL_3_7 {x : Int64} (w : WT n b L xs τ g h) : wp (pF h (n + 3) 9 7 (.long x)) (fun h2 => WT n b L xs τ g h2) := by
  obtain ⟨c, e, ⟨i, l, rfl, ⟨r0, r1, r2, r3, r4, r5, r6, r7, r8, r9, r10, r11, r12, r13, r14⟩⟩⟩ := w.1 3 (by decide)
  refine ⟨_, pF_of e (Nat.le_of_ble_eq_true rfl), w.set (j := 3) (by decide) ⟨i, x, rfl, ⟨r0, r1, r2, r3, r4, r5, r6, r7, r8, r9, r10, r11, r12, r13, r14⟩⟩⟩
theorem aN_4 (w : WT n b L xs τ g h) : aN h (n + 4) = some 1000 := by
  obtain ⟨c, e, ⟨f, rfl, r⟩⟩ := w.1 4 (by decide)
  exact aN_of e (by decide)
theorem aB_4 {i : Int32} (w : WT n b L xs τ g h) (i0 : 0 ≤ i) (i1 : i < 1000) : wp (aB h (n + 4) i) (fun x => x = g.2.1 4 i.toNatClampNeg ∧ 0 ≤ x ∧ x ≤ 126) := by
  obtain ⟨c, e, ⟨f, rfl, ⟨rfl, r⟩⟩⟩ := w.1 4 (by decide)
  exact ⟨_, aB_to e (by decide) i0 i1, ⟨rfl, (r _ (i32_clamp i0 (by decide) i1).2).1, (r _ (i32_clamp i0 (by decide) i1).2).2⟩⟩
theorem sB_4 {i x : Int32} (w : WT n b L xs τ g h) (i0 : 0 ≤ i) (i1 : i < 1000) (z0 : 0 ≤ (x.toInt8.toInt32)) (z1 : (x.toInt8.toInt32) ≤ 126) : wp (sB h (n + 4) i x) (fun h2 => WT n b L xs τ (gsA g 4 (upd (g.2.1 4) i.toNatClampNeg (x.toInt8.toInt32))) h2) := by
  obtain ⟨c, e, ⟨f, rfl, ⟨rfl, r⟩⟩⟩ := w.1 4 (by decide)
  exact ⟨_, sB_to e (by decide) i0 i1, w.put (j := 4) (by decide) ⟨_, rfl, ⟨rfl, upd_all (P := fun x => 0 ≤ x ∧ x ≤ 126) r ⟨z0, z1⟩⟩⟩ (fun q hq => gsA_ne hq)⟩
theorem aN_5 (w : WT n b L xs τ g h) : aN h (n + 5) = some 21 := by
  obtain ⟨c, e, ⟨f, rfl, r⟩⟩ := w.1 5 (by decide)
  exact aN_of e (by decide)
theorem aL_5 {i : Int32} (w : WT n b L xs τ g h) (i0 : 0 ≤ i) (i1 : i < 21) : wp (aL h (n + 5) i) (fun x => True) := by
  obtain ⟨c, e, ⟨f, rfl, -⟩⟩ := w.1 5 (by decide)
  exact ⟨_, aL_to e (by decide) i0 i1, trivial⟩
theorem sL_5 {i : Int32} {x : Int64} (w : WT n b L xs τ g h) (i0 : 0 ≤ i) (i1 : i < 21) : wp (sL h (n + 5) i x) (fun h2 => WT n b L xs τ g h2) := by
  obtain ⟨c, e, ⟨f, rfl, -⟩⟩ := w.1 5 (by decide)
  exact ⟨_, sL_to e (by decide) i0 i1, w.set (by decide) ⟨_, rfl, trivial⟩⟩
theorem ob_6 (w : WT n b L xs τ g h) : zob h (n + 6) 7 = true := by
  obtain ⟨c, e, ⟨i, rfl, r⟩⟩ := w.1 6 (by decide)
  exact zob_of e
theorem gR_6_0 (w : WT n b L xs τ g h) : gR h (n + 6) 7 0 = some (n + 7) := by
  obtain ⟨c, e, ⟨i, rfl, ⟨r0, r1, r2, r3, r4, r5, r6, r7, r8, r9⟩⟩⟩ := w.1 6 (by decide)
  exact gR_of e rfl
theorem gR_6_1 (w : WT n b L xs τ g h) : gR h (n + 6) 7 1 = some (n + 8) := by
  obtain ⟨c, e, ⟨i, rfl, ⟨r0, r1, r2, r3, r4, r5, r6, r7, r8, r9⟩⟩⟩ := w.1 6 (by decide)
  exact gR_of e rfl
theorem gR_6_2 (w : WT n b L xs τ g h) : gR h (n + 6) 7 2 = some (n + 9) := by
  obtain ⟨c, e, ⟨i, rfl, ⟨r0, r1, r2, r3, r4, r5, r6, r7, r8, r9⟩⟩⟩ := w.1 6 (by decide)
  exact gR_of e rfl
theorem gR_6_3 (w : WT n b L xs τ g h) (t : g.1 6 3 = 1) : gR h (n + 6) 7 3 = some (n + 3) := by
  obtain ⟨c, e, ⟨i, rfl, ⟨r0, r1, r2, r3, r4, r5, r6, r7, r8, r9⟩⟩⟩ := w.1 6 (by decide)
  rw [t] at e
  exact gR_of e rfl
theorem pR_6_3 (w : WT n b L xs τ g h) : wp (pF h (n + 6) 7 3 (.ref (n + 3))) (fun h2 => WT n b L xs τ (gset g 6 3 1) h2) := by
  obtain ⟨c, e, ⟨i, rfl, ⟨r0, r1, r2, r3, r4, r5, r6, r7, r8, r9⟩⟩⟩ := w.1 6 (by decide)
  refine ⟨_, pF_of e (Nat.le_of_ble_eq_true rfl), w.put (j := 6) (by decide) ⟨i, rfl, ⟨r0, r1, r2, r3, r4, r5, r6, r7, r8, r9⟩⟩ (fun q hq => gset_ne hq)⟩
theorem gI_6_4 (w : WT n b L xs τ g h) : wp (gI h (n + 6) 7 4) (fun x => x = g.1 6 4 ∧ 0 ≤ x ∧ x ≤ 100) := by
  obtain ⟨c, e, ⟨i, rfl, ⟨r0, r1, r2, r3, r4, r5, r6, r7, r8, r9⟩⟩⟩ := w.1 6 (by decide)
  exact ⟨_, gI_of e rfl, ⟨r0, r1, r2⟩⟩
theorem pI_6_4 {x : Int32} (w : WT n b L xs τ g h) (z0 : 0 ≤ x) (z1 : x ≤ 100) : wp (pF h (n + 6) 7 4 (.int x)) (fun h2 => WT n b L xs τ (gset g 6 4 x) h2) := by
  obtain ⟨c, e, ⟨i, rfl, ⟨r0, r1, r2, r3, r4, r5, r6, r7, r8, r9⟩⟩⟩ := w.1 6 (by decide)
  exact ⟨_, pF_of e (Nat.le_of_ble_eq_true rfl), w.put (j := 6) (by decide) ⟨upd i 4 x, rfl, ⟨rfl, z0, z1, r3, r4, r5, r6, r7, r8, r9⟩⟩ (fun q hq => gset_ne hq)⟩
theorem gI_6_5 (w : WT n b L xs τ g h) : wp (gI h (n + 6) 7 5) (fun x => x = g.1 6 5 ∧ 0 ≤ x ∧ x ≤ 1000) := by
  obtain ⟨c, e, ⟨i, rfl, ⟨r0, r1, r2, r3, r4, r5, r6, r7, r8, r9⟩⟩⟩ := w.1 6 (by decide)
  exact ⟨_, gI_of e rfl, ⟨r3, r4, r5⟩⟩
theorem pI_6_5 {x : Int32} (w : WT n b L xs τ g h) (z0 : 0 ≤ x) (z1 : x ≤ 1000) : wp (pF h (n + 6) 7 5 (.int x)) (fun h2 => WT n b L xs τ (gset g 6 5 x) h2) := by
  obtain ⟨c, e, ⟨i, rfl, ⟨r0, r1, r2, r3, r4, r5, r6, r7, r8, r9⟩⟩⟩ := w.1 6 (by decide)
  exact ⟨_, pF_of e (Nat.le_of_ble_eq_true rfl), w.put (j := 6) (by decide) ⟨upd i 5 x, rfl, ⟨r0, r1, r2, rfl, z0, z1, r6, r7, r8, r9⟩⟩ (fun q hq => gset_ne hq)⟩
theorem gI_6_6 (w : WT n b L xs τ g h) : wp (gI h (n + 6) 7 6) (fun x => x = g.1 6 6 ∧ 0 ≤ x ∧ x ≤ 32) := by
  obtain ⟨c, e, ⟨i, rfl, ⟨r0, r1, r2, r3, r4, r5, r6, r7, r8, r9⟩⟩⟩ := w.1 6 (by decide)
  exact ⟨_, gI_of e rfl, ⟨r6, r7, r8⟩⟩
theorem pI_6_6 {x : Int32} (w : WT n b L xs τ g h) (z0 : 0 ≤ x) (z1 : x ≤ 32) : wp (pF h (n + 6) 7 6 (.int x)) (fun h2 => WT n b L xs τ (gset g 6 6 x) h2) := by
  obtain ⟨c, e, ⟨i, rfl, ⟨r0, r1, r2, r3, r4, r5, r6, r7, r8, r9⟩⟩⟩ := w.1 6 (by decide)
  exact ⟨_, pF_of e (Nat.le_of_ble_eq_true rfl), w.put (j := 6) (by decide) ⟨upd i 6 x, rfl, ⟨r0, r1, r2, r3, r4, r5, rfl, z0, z1, r9⟩⟩ (fun q hq => gset_ne hq)⟩
theorem gI_6_7 (w : WT n b L xs τ g h) : wp (gI h (n + 6) 7 7) (fun x => True) := by
  obtain ⟨c, e, ⟨i, rfl, ⟨r0, r1, r2, r3, r4, r5, r6, r7, r8, r9⟩⟩⟩ := w.1 6 (by decide)
  exact ⟨_, gI_of e rfl, trivial⟩
theorem pI_6_7 {x : Int32} (w : WT n b L xs τ g h) : wp (pF h (n + 6) 7 7 (.int x)) (fun h2 => WT n b L xs τ g h2) := by
  obtain ⟨c, e, ⟨i, rfl, ⟨r0, r1, r2, r3, r4, r5, r6, r7, r8, r9⟩⟩⟩ := w.1 6 (by decide)
  exact ⟨_, pF_of e (Nat.le_of_ble_eq_true rfl), w.set (j := 6) (by decide) ⟨upd i 7 x, rfl, ⟨r0, r1, r2, r3, r4, r5, r6, r7, r8, r9⟩⟩⟩
theorem gI_6_8 (w : WT n b L xs τ g h) : wp (gI h (n + 6) 7 8) (fun x => x = g.1 6 8) := by
  obtain ⟨c, e, ⟨i, rfl, ⟨r0, r1, r2, r3, r4, r5, r6, r7, r8, r9⟩⟩⟩ := w.1 6 (by decide)
  exact ⟨_, gI_of e rfl, r9⟩
theorem pI_6_8 {x : Int32} (w : WT n b L xs τ g h) : wp (pF h (n + 6) 7 8 (.int x)) (fun h2 => WT n b L xs τ (gset g 6 8 x) h2) := by
  obtain ⟨c, e, ⟨i, rfl, ⟨r0, r1, r2, r3, r4, r5, r6, r7, r8, r9⟩⟩⟩ := w.1 6 (by decide)
  exact ⟨_, pF_of e (Nat.le_of_ble_eq_true rfl), w.put (j := 6) (by decide) ⟨upd i 8 x, rfl, ⟨r0, r1, r2, r3, r4, r5, r6, r7, r8, rfl⟩⟩ (fun q hq => gset_ne hq)⟩
theorem aN_7 (w : WT n b L xs τ g h) : aN h (n + 7) = some 8 := by
  obtain ⟨c, e, ⟨f, rfl, r⟩⟩ := w.1 7 (by decide)
  exact aN_of e (by decide)
theorem aL_7 {i : Int32} (w : WT n b L xs τ g h) (i0 : 0 ≤ i) (i1 : i < 8) : wp (aL h (n + 7) i) (fun x => True) := by
  obtain ⟨c, e, ⟨f, rfl, -⟩⟩ := w.1 7 (by decide)
  exact ⟨_, aL_to e (by decide) i0 i1, trivial⟩
theorem sL_7 {i : Int32} {x : Int64} (w : WT n b L xs τ g h) (i0 : 0 ≤ i) (i1 : i < 8) : wp (sL h (n + 7) i x) (fun h2 => WT n b L xs τ g h2) := by
  obtain ⟨c, e, ⟨f, rfl, -⟩⟩ := w.1 7 (by decide)
  exact ⟨_, sL_to e (by decide) i0 i1, w.set (by decide) ⟨_, rfl, trivial⟩⟩
theorem aN_8 (w : WT n b L xs τ g h) : aN h (n + 8) = some 1000 := by
  obtain ⟨c, e, ⟨f, rfl, r⟩⟩ := w.1 8 (by decide)
  exact aN_of e (by decide)
theorem aI_8 {i : Int32} (w : WT n b L xs τ g h) (i0 : 0 ≤ i) (i1 : i < 1000) : wp (aI h (n + 8) i) (fun x => 0 ≤ x ∧ x ≤ 40000) := by
  obtain ⟨c, e, ⟨f, rfl, r⟩⟩ := w.1 8 (by decide)
  exact ⟨_, aI_to e (by decide) i0 i1, ⟨(r _ (i32_clamp i0 (by decide) i1).2).1, (r _ (i32_clamp i0 (by decide) i1).2).2⟩⟩
theorem sI_8 {i x : Int32} (w : WT n b L xs τ g h) (i0 : 0 ≤ i) (i1 : i < 1000) (z0 : 0 ≤ x) (z1 : x ≤ 40000) : wp (sI h (n + 8) i x) (fun h2 => WT n b L xs τ g h2) := by
  obtain ⟨c, e, ⟨f, rfl, r⟩⟩ := w.1 8 (by decide)
  exact ⟨_, sI_to e (by decide) i0 i1, w.set (j := 8) (by decide) ⟨_, rfl, upd_all (P := fun x => 0 ≤ x ∧ x ≤ 40000) r ⟨z0, z1⟩⟩⟩
theorem aN_9 (w : WT n b L xs τ g h) : aN h (n + 9) = some 32 := by
  obtain ⟨c, e, ⟨f, rfl, r⟩⟩ := w.1 9 (by decide)
  exact aN_of e (by decide)
theorem aI_9 {i : Int32} (w : WT n b L xs τ g h) (i0 : 0 ≤ i) (i1 : i < 32) : wp (aI h (n + 9) i) (fun x => 0 ≤ x ∧ x ≤ 203) := by
  obtain ⟨c, e, ⟨f, rfl, r⟩⟩ := w.1 9 (by decide)
  exact ⟨_, aI_to e (by decide) i0 i1, ⟨(r _ (i32_clamp i0 (by decide) i1).2).1, (r _ (i32_clamp i0 (by decide) i1).2).2⟩⟩
theorem sI_9 {i x : Int32} (w : WT n b L xs τ g h) (i0 : 0 ≤ i) (i1 : i < 32) (z0 : 0 ≤ x) (z1 : x ≤ 203) : wp (sI h (n + 9) i x) (fun h2 => WT n b L xs τ g h2) := by
  obtain ⟨c, e, ⟨f, rfl, r⟩⟩ := w.1 9 (by decide)
  exact ⟨_, sI_to e (by decide) i0 i1, w.set (j := 9) (by decide) ⟨_, rfl, upd_all (P := fun x => 0 ≤ x ∧ x ≤ 203) r ⟨z0, z1⟩⟩⟩
theorem ob_10 (w : WT n b L xs τ g h) : zob h (n + 10) 1 = true := by
  obtain ⟨c, e, ⟨i, rfl, r⟩⟩ := w.1 10 (by decide)
  exact zob_of e
theorem gR_10_0 (w : WT n b L xs τ g h) : gR h (n + 10) 1 0 = some (n + 11) := by
  obtain ⟨c, e, ⟨i, rfl, ⟨r0, r1, r2, r3, r4⟩⟩⟩ := w.1 10 (by decide)
  exact gR_of e rfl
theorem gR_10_1 (w : WT n b L xs τ g h) : gR h (n + 10) 1 1 = some (n + 12) := by
  obtain ⟨c, e, ⟨i, rfl, ⟨r0, r1, r2, r3, r4⟩⟩⟩ := w.1 10 (by decide)
  exact gR_of e rfl
theorem gR_10_2 (w : WT n b L xs τ g h) : gR h (n + 10) 1 2 = some (n + 13) := by
  obtain ⟨c, e, ⟨i, rfl, ⟨r0, r1, r2, r3, r4⟩⟩⟩ := w.1 10 (by decide)
  exact gR_of e rfl
theorem gI_10_3 (w : WT n b L xs τ g h) : wp (gI h (n + 10) 1 3) (fun x => x = g.1 10 3 ∧ 0 ≤ x ∧ x ≤ 16) := by
  obtain ⟨c, e, ⟨i, rfl, ⟨r0, r1, r2, r3, r4⟩⟩⟩ := w.1 10 (by decide)
  exact ⟨_, gI_of e rfl, ⟨r0, r1, r2⟩⟩
theorem pI_10_3 {x : Int32} (w : WT n b L xs τ g h) (z0 : 0 ≤ x) (z1 : x ≤ 16) : wp (pF h (n + 10) 1 3 (.int x)) (fun h2 => WT n b L xs τ (gset g 10 3 x) h2) := by
  obtain ⟨c, e, ⟨i, rfl, ⟨r0, r1, r2, r3, r4⟩⟩⟩ := w.1 10 (by decide)
  exact ⟨_, pF_of e (Nat.le_of_ble_eq_true rfl), w.put (j := 10) (by decide) ⟨upd i 3 x, rfl, ⟨rfl, z0, z1, r3, r4⟩⟩ (fun q hq => gset_ne hq)⟩
theorem gI_10_4 (w : WT n b L xs τ g h) : wp (gI h (n + 10) 1 4) (fun x => True) := by
  obtain ⟨c, e, ⟨i, rfl, ⟨r0, r1, r2, r3, r4⟩⟩⟩ := w.1 10 (by decide)
  exact ⟨_, gI_of e rfl, trivial⟩
theorem pI_10_4 {x : Int32} (w : WT n b L xs τ g h) : wp (pF h (n + 10) 1 4 (.int x)) (fun h2 => WT n b L xs τ g h2) := by
  obtain ⟨c, e, ⟨i, rfl, ⟨r0, r1, r2, r3, r4⟩⟩⟩ := w.1 10 (by decide)
  exact ⟨_, pF_of e (Nat.le_of_ble_eq_true rfl), w.set (j := 10) (by decide) ⟨upd i 4 x, rfl, ⟨r0, r1, r2, r3, r4⟩⟩⟩
theorem gI_10_5 (w : WT n b L xs τ g h) : wp (gI h (n + 10) 1 5) (fun x => True) := by
  obtain ⟨c, e, ⟨i, rfl, ⟨r0, r1, r2, r3, r4⟩⟩⟩ := w.1 10 (by decide)
  exact ⟨_, gI_of e rfl, trivial⟩
theorem pI_10_5 {x : Int32} (w : WT n b L xs τ g h) : wp (pF h (n + 10) 1 5 (.int x)) (fun h2 => WT n b L xs τ g h2) := by
  obtain ⟨c, e, ⟨i, rfl, ⟨r0, r1, r2, r3, r4⟩⟩⟩ := w.1 10 (by decide)
  exact ⟨_, pF_of e (Nat.le_of_ble_eq_true rfl), w.set (j := 10) (by decide) ⟨upd i 5 x, rfl, ⟨r0, r1, r2, r3, r4⟩⟩⟩
theorem gI_10_6 (w : WT n b L xs τ g h) : wp (gI h (n + 10) 1 6) (fun x => True) := by
  obtain ⟨c, e, ⟨i, rfl, ⟨r0, r1, r2, r3, r4⟩⟩⟩ := w.1 10 (by decide)
  exact ⟨_, gI_of e rfl, trivial⟩
theorem pI_10_6 {x : Int32} (w : WT n b L xs τ g h) : wp (pF h (n + 10) 1 6 (.int x)) (fun h2 => WT n b L xs τ g h2) := by
  obtain ⟨c, e, ⟨i, rfl, ⟨r0, r1, r2, r3, r4⟩⟩⟩ := w.1 10 (by decide)
  exact ⟨_, pF_of e (Nat.le_of_ble_eq_true rfl), w.set (j := 10) (by decide) ⟨upd i 6 x, rfl, ⟨r0, r1, r2, r3, r4⟩⟩⟩
theorem gI_10_7 (w : WT n b L xs τ g h) : wp (gI h (n + 10) 1 7) (fun x => True) := by
  obtain ⟨c, e, ⟨i, rfl, ⟨r0, r1, r2, r3, r4⟩⟩⟩ := w.1 10 (by decide)
  exact ⟨_, gI_of e rfl, trivial⟩
theorem pI_10_7 {x : Int32} (w : WT n b L xs τ g h) : wp (pF h (n + 10) 1 7 (.int x)) (fun h2 => WT n b L xs τ g h2) := by
  obtain ⟨c, e, ⟨i, rfl, ⟨r0, r1, r2, r3, r4⟩⟩⟩ := w.1 10 (by decide)
  exact ⟨_, pF_of e (Nat.le_of_ble_eq_true rfl), w.set (j := 10) (by decide) ⟨upd i 7 x, rfl, ⟨r0, r1, r2, r3, r4⟩⟩⟩
theorem gI_10_8 (w : WT n b L xs τ g h) : wp (gI h (n + 10) 1 8) (fun x => 0 ≤ x ∧ x ≤ 32) := by
  obtain ⟨c, e, ⟨i, rfl, ⟨r0, r1, r2, r3, r4⟩⟩⟩ := w.1 10 (by decide)
  exact ⟨_, gI_of e rfl, ⟨r3, r4⟩⟩
theorem pI_10_8 {x : Int32} (w : WT n b L xs τ g h) (z0 : 0 ≤ x) (z1 : x ≤ 32) : wp (pF h (n + 10) 1 8 (.int x)) (fun h2 => WT n b L xs τ g h2) := by
  obtain ⟨c, e, ⟨i, rfl, ⟨r0, r1, r2, r3, r4⟩⟩⟩ := w.1 10 (by decide)
  exact ⟨_, pF_of e (Nat.le_of_ble_eq_true rfl), w.set (j := 10) (by decide) ⟨upd i 8 x, rfl, ⟨r0, r1, r2, z0, z1⟩⟩⟩
theorem gI_10_9 (w : WT n b L xs τ g h) : wp (gI h (n + 10) 1 9) (fun x => True) := by
  obtain ⟨c, e, ⟨i, rfl, ⟨r0, r1, r2, r3, r4⟩⟩⟩ := w.1 10 (by decide)
  exact ⟨_, gI_of e rfl, trivial⟩
theorem pI_10_9 {x : Int32} (w : WT n b L xs τ g h) : wp (pF h (n + 10) 1 9 (.int x)) (fun h2 => WT n b L xs τ g h2) := by
  obtain ⟨c, e, ⟨i, rfl, ⟨r0, r1, r2, r3, r4⟩⟩⟩ := w.1 10 (by decide)
  exact ⟨_, pF_of e (Nat.le_of_ble_eq_true rfl), w.set (j := 10) (by decide) ⟨upd i 9 x, rfl, ⟨r0, r1, r2, r3, r4⟩⟩⟩
theorem gI_10_10 (w : WT n b L xs τ g h) : wp (gI h (n + 10) 1 10) (fun x => True) := by
  obtain ⟨c, e, ⟨i, rfl, ⟨r0, r1, r2, r3, r4⟩⟩⟩ := w.1 10 (by decide)
  exact ⟨_, gI_of e rfl, trivial⟩
theorem pI_10_10 {x : Int32} (w : WT n b L xs τ g h) : wp (pF h (n + 10) 1 10 (.int x)) (fun h2 => WT n b L xs τ g h2) := by
  obtain ⟨c, e, ⟨i, rfl, ⟨r0, r1, r2, r3, r4⟩⟩⟩ := w.1 10 (by decide)
  exact ⟨_, pF_of e (Nat.le_of_ble_eq_true rfl), w.set (j := 10) (by decide) ⟨upd i 10 x, rfl, ⟨r0, r1, r2, r3, r4⟩⟩⟩
theorem aN_11 (w : WT n b L xs τ g h) : aN h (n + 11) = some 16 := by
  obtain ⟨c, e, ⟨f, rfl, r⟩⟩ := w.1 11 (by decide)
  exact aN_of e (by decide)
theorem aQ_11 {i : Int32} (w : WT n b L xs τ g h) (i0 : 0 ≤ i) (i1 : i < 16) : wp (aQ h (n + 11) i) (fun x => (∀ a, x = some a → τ a = 2)) := by
  obtain ⟨c, e, ⟨f, rfl, r⟩⟩ := w.1 11 (by decide)
  exact ⟨_, aQ_to e (by decide) (by decide) i0 i1, fun a q => r _ a q⟩
theorem aN_12 (w : WT n b L xs τ g h) : aN h (n + 12) = some 8 := by
  obtain ⟨c, e, ⟨f, rfl, r⟩⟩ := w.1 12 (by decide)
  exact aN_of e (by decide)
theorem aI_12 {i : Int32} (w : WT n b L xs τ g h) (i0 : 0 ≤ i) (i1 : i < 8) : wp (aI h (n + 12) i) (fun x => True) := by
  obtain ⟨c, e, ⟨f, rfl, -⟩⟩ := w.1 12 (by decide)
  exact ⟨_, aI_to e (by decide) i0 i1, trivial⟩
theorem sI_12 {i x : Int32} (w : WT n b L xs τ g h) (i0 : 0 ≤ i) (i1 : i < 8) : wp (sI h (n + 12) i x) (fun h2 => WT n b L xs τ g h2) := by
  obtain ⟨c, e, ⟨f, rfl, -⟩⟩ := w.1 12 (by decide)
  exact ⟨_, sI_to e (by decide) i0 i1, w.set (j := 12) (by decide) ⟨_, rfl, trivial⟩⟩
theorem aN_13 (w : WT n b L xs τ g h) : aN h (n + 13) = some 32 := by
  obtain ⟨c, e, ⟨f, rfl, r⟩⟩ := w.1 13 (by decide)
  exact aN_of e (by decide)
theorem aI_13 {i : Int32} (w : WT n b L xs τ g h) (i0 : 0 ≤ i) (i1 : i < 32) : wp (aI h (n + 13) i) (fun x => True) := by
  obtain ⟨c, e, ⟨f, rfl, -⟩⟩ := w.1 13 (by decide)
  exact ⟨_, aI_to e (by decide) i0 i1, trivial⟩
theorem sI_13 {i x : Int32} (w : WT n b L xs τ g h) (i0 : 0 ≤ i) (i1 : i < 32) : wp (sI h (n + 13) i x) (fun h2 => WT n b L xs τ g h2) := by
  obtain ⟨c, e, ⟨f, rfl, -⟩⟩ := w.1 13 (by decide)
  exact ⟨_, sI_to e (by decide) i0 i1, w.set (j := 13) (by decide) ⟨_, rfl, trivial⟩⟩
theorem ob_14 (w : WT n b L xs τ g h) : zob h (n + 14) 0 = true := by
  obtain ⟨c, e, ⟨i, rfl, r⟩⟩ := w.1 14 (by decide)
  exact zob_of e
theorem gR_14_0 (w : WT n b L xs τ g h) : gR h (n + 14) 0 0 = some (n + 15) := by
  obtain ⟨c, e, ⟨i, rfl, ⟨r0, r1, r2, r3, r4⟩⟩⟩ := w.1 14 (by decide)
  exact gR_of e rfl
theorem gR_14_1 (w : WT n b L xs τ g h) : gR h (n + 14) 0 1 = some (n + 16) := by
  obtain ⟨c, e, ⟨i, rfl, ⟨r0, r1, r2, r3, r4⟩⟩⟩ := w.1 14 (by decide)
  exact gR_of e rfl
theorem gR_14_2 (w : WT n b L xs τ g h) : gR h (n + 14) 0 2 = some (n + 17) := by
  obtain ⟨c, e, ⟨i, rfl, ⟨r0, r1, r2, r3, r4⟩⟩⟩ := w.1 14 (by decide)
  exact gR_of e rfl
theorem gR_14_3 (w : WT n b L xs τ g h) : gR h (n + 14) 0 3 = some (n + 18) := by
  obtain ⟨c, e, ⟨i, rfl, ⟨r0, r1, r2, r3, r4⟩⟩⟩ := w.1 14 (by decide)
  exact gR_of e rfl
theorem gR_14_4 (w : WT n b L xs τ g h) : gR h (n + 14) 0 4 = some (n + 19) := by
  obtain ⟨c, e, ⟨i, rfl, ⟨r0, r1, r2, r3, r4⟩⟩⟩ := w.1 14 (by decide)
  exact gR_of e rfl
theorem gI_14_5 (w : WT n b L xs τ g h) : wp (gI h (n + 14) 0 5) (fun x => x = g.1 14 5 ∧ 0 ≤ x ∧ x ≤ 80) := by
  obtain ⟨c, e, ⟨i, rfl, ⟨r0, r1, r2, r3, r4⟩⟩⟩ := w.1 14 (by decide)
  exact ⟨_, gI_of e rfl, ⟨r0, r1, r2⟩⟩
theorem pI_14_5 {x : Int32} (w : WT n b L xs τ g h) (z0 : 0 ≤ x) (z1 : x ≤ 80) : wp (pF h (n + 14) 0 5 (.int x)) (fun h2 => WT n b L xs τ (gset g 14 5 x) h2) := by
  obtain ⟨c, e, ⟨i, rfl, ⟨r0, r1, r2, r3, r4⟩⟩⟩ := w.1 14 (by decide)
  exact ⟨_, pF_of e (Nat.le_of_ble_eq_true rfl), w.put (j := 14) (by decide) ⟨upd i 5 x, rfl, ⟨rfl, z0, z1, r3, r4⟩⟩ (fun q hq => gset_ne hq)⟩
theorem gI_14_6 (w : WT n b L xs τ g h) : wp (gI h (n + 14) 0 6) (fun x => 0 ≤ x ∧ x ≤ 128) := by
  obtain ⟨c, e, ⟨i, rfl, ⟨r0, r1, r2, r3, r4⟩⟩⟩ := w.1 14 (by decide)
  exact ⟨_, gI_of e rfl, ⟨r3, r4⟩⟩
theorem pI_14_6 {x : Int32} (w : WT n b L xs τ g h) (z0 : 0 ≤ x) (z1 : x ≤ 128) : wp (pF h (n + 14) 0 6 (.int x)) (fun h2 => WT n b L xs τ g h2) := by
  obtain ⟨c, e, ⟨i, rfl, ⟨r0, r1, r2, r3, r4⟩⟩⟩ := w.1 14 (by decide)
  exact ⟨_, pF_of e (Nat.le_of_ble_eq_true rfl), w.set (j := 14) (by decide) ⟨upd i 6 x, rfl, ⟨r0, r1, r2, z0, z1⟩⟩⟩
theorem aN_15 (w : WT n b L xs τ g h) : aN h (n + 15) = some 80 := by
  obtain ⟨c, e, ⟨f, rfl, r⟩⟩ := w.1 15 (by decide)
  exact aN_of e (by decide)
theorem aQ_15 {i : Int32} (w : WT n b L xs τ g h) (i0 : 0 ≤ i) (i1 : i < 80) : wp (aQ h (n + 15) i) (fun x => (∀ a, x = some a → τ a = 1)) := by
  obtain ⟨c, e, ⟨f, rfl, r⟩⟩ := w.1 15 (by decide)
  exact ⟨_, aQ_to e (by decide) (by decide) i0 i1, fun a q => r _ a q⟩
theorem aN_16 (w : WT n b L xs τ g h) : aN h (n + 16) = some 80 := by
  obtain ⟨c, e, ⟨f, rfl, r⟩⟩ := w.1 16 (by decide)
  exact aN_of e (by decide)
theorem aI_16 {i : Int32} (w : WT n b L xs τ g h) (i0 : 0 ≤ i) (i1 : i < 80) : wp (aI h (n + 16) i) (fun x => True) := by
  obtain ⟨c, e, ⟨f, rfl, -⟩⟩ := w.1 16 (by decide)
  exact ⟨_, aI_to e (by decide) i0 i1, trivial⟩
theorem sI_16 {i x : Int32} (w : WT n b L xs τ g h) (i0 : 0 ≤ i) (i1 : i < 80) : wp (sI h (n + 16) i x) (fun h2 => WT n b L xs τ g h2) := by
  obtain ⟨c, e, ⟨f, rfl, -⟩⟩ := w.1 16 (by decide)
  exact ⟨_, sI_to e (by decide) i0 i1, w.set (j := 16) (by decide) ⟨_, rfl, trivial⟩⟩
theorem aN_17 (w : WT n b L xs τ g h) : aN h (n + 17) = some 80 := by
  obtain ⟨c, e, ⟨f, rfl, r⟩⟩ := w.1 17 (by decide)
  exact aN_of e (by decide)
theorem aZ_17 {i : Int32} (w : WT n b L xs τ g h) (i0 : 0 ≤ i) (i1 : i < 80) : wp (aZ h (n + 17) i) (fun x => True) := by
  obtain ⟨c, e, ⟨f, rfl, -⟩⟩ := w.1 17 (by decide)
  exact ⟨_, aZ_to e (by decide) i0 i1, trivial⟩
theorem sZ_17 {i x : Int32} (w : WT n b L xs τ g h) (i0 : 0 ≤ i) (i1 : i < 80) (z : x = 0 ∨ x = 1) : wp (sZ h (n + 17) i x) (fun h2 => WT n b L xs τ g h2) := by
  obtain ⟨c, e, ⟨f, rfl, -⟩⟩ := w.1 17 (by decide)
  exact ⟨_, sZ_to e (by decide) i0 i1 z, w.set (j := 17) (by decide) ⟨_, rfl, trivial⟩⟩
theorem aN_18 (w : WT n b L xs τ g h) : aN h (n + 18) = some 128 := by
  obtain ⟨c, e, ⟨f, rfl, r⟩⟩ := w.1 18 (by decide)
  exact aN_of e (by decide)
theorem aI_18 {i : Int32} (w : WT n b L xs τ g h) (i0 : 0 ≤ i) (i1 : i < 128) : wp (aI h (n + 18) i) (fun x => True) := by
  obtain ⟨c, e, ⟨f, rfl, -⟩⟩ := w.1 18 (by decide)
  exact ⟨_, aI_to e (by decide) i0 i1, trivial⟩
theorem sI_18 {i x : Int32} (w : WT n b L xs τ g h) (i0 : 0 ≤ i) (i1 : i < 128) : wp (sI h (n + 18) i x) (fun h2 => WT n b L xs τ g h2) := by
  obtain ⟨c, e, ⟨f, rfl, -⟩⟩ := w.1 18 (by decide)
  exact ⟨_, sI_to e (by decide) i0 i1, w.set (j := 18) (by decide) ⟨_, rfl, trivial⟩⟩
theorem aN_19 (w : WT n b L xs τ g h) : aN h (n + 19) = some 128 := by
  obtain ⟨c, e, ⟨f, rfl, r⟩⟩ := w.1 19 (by decide)
  exact aN_of e (by decide)
theorem aI_19 {i : Int32} (w : WT n b L xs τ g h) (i0 : 0 ≤ i) (i1 : i < 128) : wp (aI h (n + 19) i) (fun x => True) := by
  obtain ⟨c, e, ⟨f, rfl, -⟩⟩ := w.1 19 (by decide)
  exact ⟨_, aI_to e (by decide) i0 i1, trivial⟩
theorem sI_19 {i x : Int32} (w : WT n b L xs τ g h) (i0 : 0 ≤ i) (i1 : i < 128) : wp (sI h (n + 19) i x) (fun h2 => WT n b L xs τ g h2) := by
  obtain ⟨c, e, ⟨f, rfl, -⟩⟩ := w.1 19 (by decide)
  exact ⟨_, sI_to e (by decide) i0 i1, w.set (j := 19) (by decide) ⟨_, rfl, trivial⟩⟩
theorem ob_20 (w : WT n b L xs τ g h) : zob h (n + 20) 2 = true := by
  obtain ⟨c, e, ⟨i, rfl, r⟩⟩ := w.1 20 (by decide)
  exact zob_of e
theorem gR_20_0 (w : WT n b L xs τ g h) : gR h (n + 20) 2 0 = some (n + 21) := by
  obtain ⟨c, e, ⟨i, rfl, ⟨r0, r1, r2, r3, r4, r5⟩⟩⟩ := w.1 20 (by decide)
  exact gR_of e rfl
theorem gR_20_1 (w : WT n b L xs τ g h) : gR h (n + 20) 2 1 = some (n + 22) := by
  obtain ⟨c, e, ⟨i, rfl, ⟨r0, r1, r2, r3, r4, r5⟩⟩⟩ := w.1 20 (by decide)
  exact gR_of e rfl
theorem gR_20_2 (w : WT n b L xs τ g h) : gR h (n + 20) 2 2 = some (n + 23) := by
  obtain ⟨c, e, ⟨i, rfl, ⟨r0, r1, r2, r3, r4, r5⟩⟩⟩ := w.1 20 (by decide)
  exact gR_of e rfl
theorem gR_20_3 (w : WT n b L xs τ g h) : gR h (n + 20) 2 3 = some (n + 24) := by
  obtain ⟨c, e, ⟨i, rfl, ⟨r0, r1, r2, r3, r4, r5⟩⟩⟩ := w.1 20 (by decide)
  exact gR_of e rfl
theorem gI_20_4 (w : WT n b L xs τ g h) : wp (gI h (n + 20) 2 4) (fun x => x = g.1 20 4 ∧ 0 ≤ x ∧ x ≤ 4) := by
  obtain ⟨c, e, ⟨i, rfl, ⟨r0, r1, r2, r3, r4, r5⟩⟩⟩ := w.1 20 (by decide)
  exact ⟨_, gI_of e rfl, ⟨r0, r1, r2⟩⟩
theorem pI_20_4 {x : Int32} (w : WT n b L xs τ g h) (z0 : 0 ≤ x) (z1 : x ≤ 4) : wp (pF h (n + 20) 2 4 (.int x)) (fun h2 => WT n b L xs τ (gset g 20 4 x) h2) := by
  obtain ⟨c, e, ⟨i, rfl, ⟨r0, r1, r2, r3, r4, r5⟩⟩⟩ := w.1 20 (by decide)
  exact ⟨_, pF_of e (Nat.le_of_ble_eq_true rfl), w.put (j := 20) (by decide) ⟨upd i 4 x, rfl, ⟨rfl, z0, z1, r3, r4, r5⟩⟩ (fun q hq => gset_ne hq)⟩
theorem gI_20_5 (w : WT n b L xs τ g h) : wp (gI h (n + 20) 2 5) (fun x => x = g.1 20 5) := by
  obtain ⟨c, e, ⟨i, rfl, ⟨r0, r1, r2, r3, r4, r5⟩⟩⟩ := w.1 20 (by decide)
  exact ⟨_, gI_of e rfl, r3⟩
theorem pI_20_5 {x : Int32} (w : WT n b L xs τ g h) : wp (pF h (n + 20) 2 5 (.int x)) (fun h2 => WT n b L xs τ (gset g 20 5 x) h2) := by
  obtain ⟨c, e, ⟨i, rfl, ⟨r0, r1, r2, r3, r4, r5⟩⟩⟩ := w.1 20 (by decide)
  exact ⟨_, pF_of e (Nat.le_of_ble_eq_true rfl), w.put (j := 20) (by decide) ⟨upd i 5 x, rfl, ⟨r0, r1, r2, rfl, r4, r5⟩⟩ (fun q hq => gset_ne hq)⟩
theorem gI_20_6 (w : WT n b L xs τ g h) : wp (gI h (n + 20) 2 6) (fun x => x = g.1 20 6) := by
  obtain ⟨c, e, ⟨i, rfl, ⟨r0, r1, r2, r3, r4, r5⟩⟩⟩ := w.1 20 (by decide)
  exact ⟨_, gI_of e rfl, r4⟩
theorem pI_20_6 {x : Int32} (w : WT n b L xs τ g h) : wp (pF h (n + 20) 2 6 (.int x)) (fun h2 => WT n b L xs τ (gset g 20 6 x) h2) := by
  obtain ⟨c, e, ⟨i, rfl, ⟨r0, r1, r2, r3, r4, r5⟩⟩⟩ := w.1 20 (by decide)
  exact ⟨_, pF_of e (Nat.le_of_ble_eq_true rfl), w.put (j := 20) (by decide) ⟨upd i 6 x, rfl, ⟨r0, r1, r2, r3, rfl, r5⟩⟩ (fun q hq => gset_ne hq)⟩
theorem gI_20_7 (w : WT n b L xs τ g h) : wp (gI h (n + 20) 2 7) (fun x => x = g.1 20 7) := by
  obtain ⟨c, e, ⟨i, rfl, ⟨r0, r1, r2, r3, r4, r5⟩⟩⟩ := w.1 20 (by decide)
  exact ⟨_, gI_of e rfl, r5⟩
theorem pI_20_7 {x : Int32} (w : WT n b L xs τ g h) : wp (pF h (n + 20) 2 7 (.int x)) (fun h2 => WT n b L xs τ (gset g 20 7 x) h2) := by
  obtain ⟨c, e, ⟨i, rfl, ⟨r0, r1, r2, r3, r4, r5⟩⟩⟩ := w.1 20 (by decide)
  exact ⟨_, pF_of e (Nat.le_of_ble_eq_true rfl), w.put (j := 20) (by decide) ⟨upd i 7 x, rfl, ⟨r0, r1, r2, r3, r4, rfl⟩⟩ (fun q hq => gset_ne hq)⟩
theorem aN_21 (w : WT n b L xs τ g h) : aN h (n + 21) = some 4 := by
  obtain ⟨c, e, ⟨f, rfl, r⟩⟩ := w.1 21 (by decide)
  exact aN_of e (by decide)
theorem aI_21 {i : Int32} (w : WT n b L xs τ g h) (i0 : 0 ≤ i) (i1 : i < 4) : wp (aI h (n + 21) i) (fun x => x = g.2.1 21 i.toNatClampNeg) := by
  obtain ⟨c, e, ⟨f, rfl, rfl⟩⟩ := w.1 21 (by decide)
  exact ⟨_, aI_to e (by decide) i0 i1, rfl⟩
theorem sI_21 {i x : Int32} (w : WT n b L xs τ g h) (i0 : 0 ≤ i) (i1 : i < 4) : wp (sI h (n + 21) i x) (fun h2 => WT n b L xs τ (gsA g 21 (upd (g.2.1 21) i.toNatClampNeg x)) h2) := by
  obtain ⟨c, e, ⟨f, rfl, rfl⟩⟩ := w.1 21 (by decide)
  exact ⟨_, sI_to e (by decide) i0 i1, w.put (j := 21) (by decide) ⟨_, rfl, rfl⟩ (fun q hq => gsA_ne hq)⟩
theorem aN_22 (w : WT n b L xs τ g h) : aN h (n + 22) = some 4 := by
  obtain ⟨c, e, ⟨f, rfl, r⟩⟩ := w.1 22 (by decide)
  exact aN_of e (by decide)
theorem aI_22 {i : Int32} (w : WT n b L xs τ g h) (i0 : 0 ≤ i) (i1 : i < 4) : wp (aI h (n + 22) i) (fun x => x = g.2.1 22 i.toNatClampNeg) := by
  obtain ⟨c, e, ⟨f, rfl, rfl⟩⟩ := w.1 22 (by decide)
  exact ⟨_, aI_to e (by decide) i0 i1, rfl⟩
theorem sI_22 {i x : Int32} (w : WT n b L xs τ g h) (i0 : 0 ≤ i) (i1 : i < 4) : wp (sI h (n + 22) i x) (fun h2 => WT n b L xs τ (gsA g 22 (upd (g.2.1 22) i.toNatClampNeg x)) h2) := by
  obtain ⟨c, e, ⟨f, rfl, rfl⟩⟩ := w.1 22 (by decide)
  exact ⟨_, sI_to e (by decide) i0 i1, w.put (j := 22) (by decide) ⟨_, rfl, rfl⟩ (fun q hq => gsA_ne hq)⟩
theorem aN_23 (w : WT n b L xs τ g h) : aN h (n + 23) = some 4 := by
  obtain ⟨c, e, ⟨f, rfl, r⟩⟩ := w.1 23 (by decide)
  exact aN_of e (by decide)
theorem aI_23 {i : Int32} (w : WT n b L xs τ g h) (i0 : 0 ≤ i) (i1 : i < 4) : wp (aI h (n + 23) i) (fun x => x = g.2.1 23 i.toNatClampNeg ∧ 0 ≤ x ∧ x ≤ 15) := by
  obtain ⟨c, e, ⟨f, rfl, ⟨rfl, r⟩⟩⟩ := w.1 23 (by decide)
  exact ⟨_, aI_to e (by decide) i0 i1, ⟨rfl, (r _ (i32_clamp i0 (by decide) i1).2).1, (r _ (i32_clamp i0 (by decide) i1).2).2⟩⟩
theorem sI_23 {i x : Int32} (w : WT n b L xs τ g h) (i0 : 0 ≤ i) (i1 : i < 4) (z0 : 0 ≤ x) (z1 : x ≤ 15) : wp (sI h (n + 23) i x) (fun h2 => WT n b L xs τ (gsA g 23 (upd (g.2.1 23) i.toNatClampNeg x)) h2) := by
  obtain ⟨c, e, ⟨f, rfl, ⟨rfl, r⟩⟩⟩ := w.1 23 (by decide)
  exact ⟨_, sI_to e (by decide) i0 i1, w.put (j := 23) (by decide) ⟨_, rfl, ⟨rfl, upd_all (P := fun x => 0 ≤ x ∧ x ≤ 15) r ⟨z0, z1⟩⟩⟩ (fun q hq => gsA_ne hq)⟩
theorem aN_24 (w : WT n b L xs τ g h) : aN h (n + 24) = some 4 := by
  obtain ⟨c, e, ⟨f, rfl, r⟩⟩ := w.1 24 (by decide)
  exact aN_of e (by decide)
theorem aI_24 {i : Int32} (w : WT n b L xs τ g h) (i0 : 0 ≤ i) (i1 : i < 4) : wp (aI h (n + 24) i) (fun x => x = g.2.1 24 i.toNatClampNeg) := by
  obtain ⟨c, e, ⟨f, rfl, rfl⟩⟩ := w.1 24 (by decide)
  exact ⟨_, aI_to e (by decide) i0 i1, rfl⟩
theorem sI_24 {i x : Int32} (w : WT n b L xs τ g h) (i0 : 0 ≤ i) (i1 : i < 4) : wp (sI h (n + 24) i x) (fun h2 => WT n b L xs τ (gsA g 24 (upd (g.2.1 24) i.toNatClampNeg x)) h2) := by
  obtain ⟨c, e, ⟨f, rfl, rfl⟩⟩ := w.1 24 (by decide)
  exact ⟨_, sI_to e (by decide) i0 i1, w.put (j := 24) (by decide) ⟨_, rfl, rfl⟩ (fun q hq => gsA_ne hq)⟩
theorem ob_25 (w : WT n b L xs τ g h) : zob h (n + 25) 3 = true := by
  obtain ⟨c, e, ⟨i, rfl, r⟩⟩ := w.1 25 (by decide)
  exact zob_of e
theorem gR_25_0 (w : WT n b L xs τ g h) : gR h (n + 25) 3 0 = some (n + 26) := by
  obtain ⟨c, e, ⟨i, rfl, ⟨r0, r1, r2, r3, r4, r5, r6⟩⟩⟩ := w.1 25 (by decide)
  exact gR_of e rfl
theorem gR_25_1 (w : WT n b L xs τ g h) : gR h (n + 25) 3 1 = some (n + 27) := by
  obtain ⟨c, e, ⟨i, rfl, ⟨r0, r1, r2, r3, r4, r5, r6⟩⟩⟩ := w.1 25 (by decide)
  exact gR_of e rfl
theorem gR_25_2 (w : WT n b L xs τ g h) : gR h (n + 25) 3 2 = some (n + 28) := by
  obtain ⟨c, e, ⟨i, rfl, ⟨r0, r1, r2, r3, r4, r5, r6⟩⟩⟩ := w.1 25 (by decide)
  exact gR_of e rfl
theorem gR_25_3 (w : WT n b L xs τ g h) : gR h (n + 25) 3 3 = some (n + 29) := by
  obtain ⟨c, e, ⟨i, rfl, ⟨r0, r1, r2, r3, r4, r5, r6⟩⟩⟩ := w.1 25 (by decide)
  exact gR_of e rfl
theorem gI_25_4 (w : WT n b L xs τ g h) : wp (gI h (n + 25) 3 4) (fun x => x = g.1 25 4 ∧ 0 ≤ x ∧ x ≤ 1) := by
  obtain ⟨c, e, ⟨i, rfl, ⟨r0, r1, r2, r3, r4, r5, r6⟩⟩⟩ := w.1 25 (by decide)
  exact ⟨_, gI_of e rfl, ⟨r0, r1, r2⟩⟩
theorem pI_25_4 {x : Int32} (w : WT n b L xs τ g h) (z0 : 0 ≤ x) (z1 : x ≤ 1) : wp (pF h (n + 25) 3 4 (.int x)) (fun h2 => WT n b L xs τ (gset g 25 4 x) h2) := by
  obtain ⟨c, e, ⟨i, rfl, ⟨r0, r1, r2, r3, r4, r5, r6⟩⟩⟩ := w.1 25 (by decide)
  exact ⟨_, pF_of e (Nat.le_of_ble_eq_true rfl), w.put (j := 25) (by decide) ⟨upd i 4 x, rfl, ⟨rfl, z0, z1, r3, r4, r5, r6⟩⟩ (fun q hq => gset_ne hq)⟩
theorem pZ_25_4 {x : Int32} (w : WT n b L xs τ g h) (z : x = 0 ∨ x = 1) : wp (pZ h (n + 25) 3 4 x) (fun h2 => WT n b L xs τ (gset g 25 4 x) h2) := by
  unfold pZ
  rw [if_pos z]
  exact pI_25_4 w (by rcases z with rfl | rfl <;> decide) (by rcases z with rfl | rfl <;> decide)
theorem gI_25_5 (w : WT n b L xs τ g h) : wp (gI h (n + 25) 3 5) (fun x => x = g.1 25 5) := by
  obtain ⟨c, e, ⟨i, rfl, ⟨r0, r1, r2, r3, r4, r5, r6⟩⟩⟩ := w.1 25 (by decide)
  exact ⟨_, gI_of e rfl, r3⟩
theorem pI_25_5 {x : Int32} (w : WT n b L xs τ g h) : wp (pF h (n + 25) 3 5 (.int x)) (fun h2 => WT n b L xs τ (gset g 25 5 x) h2) := by
  obtain ⟨c, e, ⟨i, rfl, ⟨r0, r1, r2, r3, r4, r5, r6⟩⟩⟩ := w.1 25 (by decide)
  exact ⟨_, pF_of e (Nat.le_of_ble_eq_true rfl), w.put (j := 25) (by decide) ⟨upd i 5 x, rfl, ⟨r0, r1, r2, rfl, r4, r5, r6⟩⟩ (fun q hq => gset_ne hq)⟩
theorem gI_25_6 (w : WT n b L xs τ g h) : wp (gI h (n + 25) 3 6) (fun x => x = g.1 25 6 ∧ 0 ≤ x ∧ x ≤ 8) := by
  obtain ⟨c, e, ⟨i, rfl, ⟨r0, r1, r2, r3, r4, r5, r6⟩⟩⟩ := w.1 25 (by decide)
  exact ⟨_, gI_of e rfl, ⟨r4, r5, r6⟩⟩
theorem pI_25_6 {x : Int32} (w : WT n b L xs τ g h) (z0 : 0 ≤ x) (z1 : x ≤ 8) : wp (pF h (n + 25) 3 6 (.int x)) (fun h2 => WT n b L xs τ (gset g 25 6 x) h2) := by
  obtain ⟨c, e, ⟨i, rfl, ⟨r0, r1, r2, r3, r4, r5, r6⟩⟩⟩ := w.1 25 (by decide)
  exact ⟨_, pF_of e (Nat.le_of_ble_eq_true rfl), w.put (j := 25) (by decide) ⟨upd i 6 x, rfl, ⟨r0, r1, r2, r3, rfl, z0, z1⟩⟩ (fun q hq => gset_ne hq)⟩
theorem aN_26 (w : WT n b L xs τ g h) : aN h (n + 26) = some 8 := by
  obtain ⟨c, e, ⟨f, rfl, r⟩⟩ := w.1 26 (by decide)
  exact aN_of e (by decide)
theorem aI_26 {i : Int32} (w : WT n b L xs τ g h) (i0 : 0 ≤ i) (i1 : i < 8) : wp (aI h (n + 26) i) (fun x => x = g.2.1 26 i.toNatClampNeg) := by
  obtain ⟨c, e, ⟨f, rfl, rfl⟩⟩ := w.1 26 (by decide)
  exact ⟨_, aI_to e (by decide) i0 i1, rfl⟩
theorem sI_26 {i x : Int32} (w : WT n b L xs τ g h) (i0 : 0 ≤ i) (i1 : i < 8) : wp (sI h (n + 26) i x) (fun h2 => WT n b L xs τ (gsA g 26 (upd (g.2.1 26) i.toNatClampNeg x)) h2) := by
  obtain ⟨c, e, ⟨f, rfl, rfl⟩⟩ := w.1 26 (by decide)
  exact ⟨_, sI_to e (by decide) i0 i1, w.put (j := 26) (by decide) ⟨_, rfl, rfl⟩ (fun q hq => gsA_ne hq)⟩
theorem aN_27 (w : WT n b L xs τ g h) : aN h (n + 27) = some 72 := by
  obtain ⟨c, e, ⟨f, rfl, r⟩⟩ := w.1 27 (by decide)
  exact aN_of e (by decide)
theorem aI_27 {i : Int32} (w : WT n b L xs τ g h) (i0 : 0 ≤ i) (i1 : i < 72) : wp (aI h (n + 27) i) (fun x => x = g.2.1 27 i.toNatClampNeg) := by
  obtain ⟨c, e, ⟨f, rfl, rfl⟩⟩ := w.1 27 (by decide)
  exact ⟨_, aI_to e (by decide) i0 i1, rfl⟩
theorem sI_27 {i x : Int32} (w : WT n b L xs τ g h) (i0 : 0 ≤ i) (i1 : i < 72) : wp (sI h (n + 27) i x) (fun h2 => WT n b L xs τ (gsA g 27 (upd (g.2.1 27) i.toNatClampNeg x)) h2) := by
  obtain ⟨c, e, ⟨f, rfl, rfl⟩⟩ := w.1 27 (by decide)
  exact ⟨_, sI_to e (by decide) i0 i1, w.put (j := 27) (by decide) ⟨_, rfl, rfl⟩ (fun q hq => gsA_ne hq)⟩
theorem aN_28 (w : WT n b L xs τ g h) : aN h (n + 28) = some 512 := by
  obtain ⟨c, e, ⟨f, rfl, r⟩⟩ := w.1 28 (by decide)
  exact aN_of e (by decide)
theorem aI_28 {i : Int32} (w : WT n b L xs τ g h) (i0 : 0 ≤ i) (i1 : i < 512) : wp (aI h (n + 28) i) (fun x => x = g.2.1 28 i.toNatClampNeg) := by
  obtain ⟨c, e, ⟨f, rfl, rfl⟩⟩ := w.1 28 (by decide)
  exact ⟨_, aI_to e (by decide) i0 i1, rfl⟩
theorem sI_28 {i x : Int32} (w : WT n b L xs τ g h) (i0 : 0 ≤ i) (i1 : i < 512) : wp (sI h (n + 28) i x) (fun h2 => WT n b L xs τ (gsA g 28 (upd (g.2.1 28) i.toNatClampNeg x)) h2) := by
  obtain ⟨c, e, ⟨f, rfl, rfl⟩⟩ := w.1 28 (by decide)
  exact ⟨_, sI_to e (by decide) i0 i1, w.put (j := 28) (by decide) ⟨_, rfl, rfl⟩ (fun q hq => gsA_ne hq)⟩
theorem aN_29 (w : WT n b L xs τ g h) : aN h (n + 29) = some 512 := by
  obtain ⟨c, e, ⟨f, rfl, r⟩⟩ := w.1 29 (by decide)
  exact aN_of e (by decide)
theorem aI_29 {i : Int32} (w : WT n b L xs τ g h) (i0 : 0 ≤ i) (i1 : i < 512) : wp (aI h (n + 29) i) (fun x => x = g.2.1 29 i.toNatClampNeg) := by
  obtain ⟨c, e, ⟨f, rfl, rfl⟩⟩ := w.1 29 (by decide)
  exact ⟨_, aI_to e (by decide) i0 i1, rfl⟩
theorem sI_29 {i x : Int32} (w : WT n b L xs τ g h) (i0 : 0 ≤ i) (i1 : i < 512) : wp (sI h (n + 29) i x) (fun h2 => WT n b L xs τ (gsA g 29 (upd (g.2.1 29) i.toNatClampNeg x)) h2) := by
  obtain ⟨c, e, ⟨f, rfl, rfl⟩⟩ := w.1 29 (by decide)
  exact ⟨_, sI_to e (by decide) i0 i1, w.put (j := 29) (by decide) ⟨_, rfl, rfl⟩ (fun q hq => gsA_ne hq)⟩
theorem ob_30 (w : WT n b L xs τ g h) : zob h (n + 30) 5 = true := by
  obtain ⟨c, e, ⟨i, rfl, r⟩⟩ := w.1 30 (by decide)
  exact zob_of e
theorem gR_30_0 (w : WT n b L xs τ g h) : gR h (n + 30) 5 0 = some (n + 31) := by
  obtain ⟨c, e, ⟨i, rfl, -⟩⟩ := w.1 30 (by decide)
  exact gR_of e rfl
theorem gR_30_1 (w : WT n b L xs τ g h) : gR h (n + 30) 5 1 = some (n + 32) := by
  obtain ⟨c, e, ⟨i, rfl, -⟩⟩ := w.1 30 (by decide)
  exact gR_of e rfl
theorem aN_31 (w : WT n b L xs τ g h) : aN h (n + 31) = some 248 := by
  obtain ⟨c, e, ⟨f, rfl, r⟩⟩ := w.1 31 (by decide)
  exact aN_of e (by decide)
theorem aI_31 {i : Int32} (w : WT n b L xs τ g h) (i0 : 0 ≤ i) (i1 : i < 248) : wp (aI h (n + 31) i) (fun x => x = g.2.1 31 i.toNatClampNeg) := by
  obtain ⟨c, e, ⟨f, rfl, rfl⟩⟩ := w.1 31 (by decide)
  exact ⟨_, aI_to e (by decide) i0 i1, rfl⟩
theorem sI_31 {i x : Int32} (w : WT n b L xs τ g h) (i0 : 0 ≤ i) (i1 : i < 248) : wp (sI h (n + 31) i x) (fun h2 => WT n b L xs τ (gsA g 31 (upd (g.2.1 31) i.toNatClampNeg x)) h2) := by
  obtain ⟨c, e, ⟨f, rfl, rfl⟩⟩ := w.1 31 (by decide)
  exact ⟨_, sI_to e (by decide) i0 i1, w.put (j := 31) (by decide) ⟨_, rfl, rfl⟩ (fun q hq => gsA_ne hq)⟩
theorem aN_32 (w : WT n b L xs τ g h) : aN h (n + 32) = some 248 := by
  obtain ⟨c, e, ⟨f, rfl, r⟩⟩ := w.1 32 (by decide)
  exact aN_of e (by decide)
theorem aI_32 {i : Int32} (w : WT n b L xs τ g h) (i0 : 0 ≤ i) (i1 : i < 248) : wp (aI h (n + 32) i) (fun x => x = g.2.1 32 i.toNatClampNeg) := by
  obtain ⟨c, e, ⟨f, rfl, rfl⟩⟩ := w.1 32 (by decide)
  exact ⟨_, aI_to e (by decide) i0 i1, rfl⟩
theorem sI_32 {i x : Int32} (w : WT n b L xs τ g h) (i0 : 0 ≤ i) (i1 : i < 248) : wp (sI h (n + 32) i x) (fun h2 => WT n b L xs τ (gsA g 32 (upd (g.2.1 32) i.toNatClampNeg x)) h2) := by
  obtain ⟨c, e, ⟨f, rfl, rfl⟩⟩ := w.1 32 (by decide)
  exact ⟨_, sI_to e (by decide) i0 i1, w.put (j := 32) (by decide) ⟨_, rfl, rfl⟩ (fun q hq => gsA_ne hq)⟩
theorem ob_33 (w : WT n b L xs τ g h) : zob h (n + 33) 10 = true := by
  obtain ⟨c, e, ⟨i, rfl, r⟩⟩ := w.1 33 (by decide)
  exact zob_of e
theorem gR_33_0 (w : WT n b L xs τ g h) : gR h (n + 33) 10 0 = some (n + 34) := by
  obtain ⟨c, e, ⟨i, rfl, ⟨r0, r1, r2, r3, r4, r5⟩⟩⟩ := w.1 33 (by decide)
  exact gR_of e rfl
theorem gR_33_1 (w : WT n b L xs τ g h) : gR h (n + 33) 10 1 = some (n + 35) := by
  obtain ⟨c, e, ⟨i, rfl, ⟨r0, r1, r2, r3, r4, r5⟩⟩⟩ := w.1 33 (by decide)
  exact gR_of e rfl
theorem gR_33_2 (w : WT n b L xs τ g h) : gR h (n + 33) 10 2 = some (n + 36) := by
  obtain ⟨c, e, ⟨i, rfl, ⟨r0, r1, r2, r3, r4, r5⟩⟩⟩ := w.1 33 (by decide)
  exact gR_of e rfl
theorem gR_33_3 (w : WT n b L xs τ g h) : gR h (n + 33) 10 3 = some (n + 37) := by
  obtain ⟨c, e, ⟨i, rfl, ⟨r0, r1, r2, r3, r4, r5⟩⟩⟩ := w.1 33 (by decide)
  exact gR_of e rfl
theorem gR_33_4 (w : WT n b L xs τ g h) : gR h (n + 33) 10 4 = some (n + 38) := by
  obtain ⟨c, e, ⟨i, rfl, ⟨r0, r1, r2, r3, r4, r5⟩⟩⟩ := w.1 33 (by decide)
  exact gR_of e rfl
theorem gR_33_5 (w : WT n b L xs τ g h) : gR h (n + 33) 10 5 = some (n + 39) := by
  obtain ⟨c, e, ⟨i, rfl, ⟨r0, r1, r2, r3, r4, r5⟩⟩⟩ := w.1 33 (by decide)
  exact gR_of e rfl
theorem gR_33_6 (w : WT n b L xs τ g h) : gR h (n + 33) 10 6 = some (n + 40) := by
  obtain ⟨c, e, ⟨i, rfl, ⟨r0, r1, r2, r3, r4, r5⟩⟩⟩ := w.1 33 (by decide)
  exact gR_of e rfl
theorem gR_33_7 (w : WT n b L xs τ g h) : gR h (n + 33) 10 7 = some (n + 41) := by
  obtain ⟨c, e, ⟨i, rfl, ⟨r0, r1, r2, r3, r4, r5⟩⟩⟩ := w.1 33 (by decide)
  exact gR_of e rfl
theorem gI_33_8 (w : WT n b L xs τ g h) : wp (gI h (n + 33) 10 8) (fun x => 0 ≤ x ∧ x ≤ 1) := by
  obtain ⟨c, e, ⟨i, rfl, ⟨r0, r1, r2, r3, r4, r5⟩⟩⟩ := w.1 33 (by decide)
  exact ⟨_, gI_of e rfl, ⟨r0, r1⟩⟩
theorem pI_33_8 {x : Int32} (w : WT n b L xs τ g h) (z0 : 0 ≤ x) (z1 : x ≤ 1) : wp (pF h (n + 33) 10 8 (.int x)) (fun h2 => WT n b L xs τ g h2) := by
  obtain ⟨c, e, ⟨i, rfl, ⟨r0, r1, r2, r3, r4, r5⟩⟩⟩ := w.1 33 (by decide)
  exact ⟨_, pF_of e (Nat.le_of_ble_eq_true rfl), w.set (j := 33) (by decide) ⟨upd i 8 x, rfl, ⟨z0, z1, r2, r3, r4, r5⟩⟩⟩
theorem pZ_33_8 {x : Int32} (w : WT n b L xs τ g h) (z : x = 0 ∨ x = 1) : wp (pZ h (n + 33) 10 8 x) (fun h2 => WT n b L xs τ g h2) := by
  unfold pZ
  rw [if_pos z]
  exact pI_33_8 w (by rcases z with rfl | rfl <;> decide) (by rcases z with rfl | rfl <;> decide)
theorem gI_33_9 (w : WT n b L xs τ g h) : wp (gI h (n + 33) 10 9) (fun x => x = g.1 33 9) := by
  obtain ⟨c, e, ⟨i, rfl, ⟨r0, r1, r2, r3, r4, r5⟩⟩⟩ := w.1 33 (by decide)
  exact ⟨_, gI_of e rfl, r2⟩
theorem pI_33_9 {x : Int32} (w : WT n b L xs τ g h) : wp (pF h (n + 33) 10 9 (.int x)) (fun h2 => WT n b L xs τ (gset g 33 9 x) h2) := by
  obtain ⟨c, e, ⟨i, rfl, ⟨r0, r1, r2, r3, r4, r5⟩⟩⟩ := w.1 33 (by decide)
  exact ⟨_, pF_of e (Nat.le_of_ble_eq_true rfl), w.put (j := 33) (by decide) ⟨upd i 9 x, rfl, ⟨r0, r1, rfl, r3, r4, r5⟩⟩ (fun q hq => gset_ne hq)⟩
theorem gI_33_10 (w : WT n b L xs τ g h) : wp (gI h (n + 33) 10 10) (fun x => x = g.1 33 10 ∧ 0 ≤ x ∧ x ≤ 8) := by
  obtain ⟨c, e, ⟨i, rfl, ⟨r0, r1, r2, r3, r4, r5⟩⟩⟩ := w.1 33 (by decide)
  exact ⟨_, gI_of e rfl, ⟨r3, r4, r5⟩⟩
theorem pI_33_10 {x : Int32} (w : WT n b L xs τ g h) (z0 : 0 ≤ x) (z1 : x ≤ 8) : wp (pF h (n + 33) 10 10 (.int x)) (fun h2 => WT n b L xs τ (gset g 33 10 x) h2) := by
  obtain ⟨c, e, ⟨i, rfl, ⟨r0, r1, r2, r3, r4, r5⟩⟩⟩ := w.1 33 (by decide)
  exact ⟨_, pF_of e (Nat.le_of_ble_eq_true rfl), w.put (j := 33) (by decide) ⟨upd i 10 x, rfl, ⟨r0, r1, r2, rfl, z0, z1⟩⟩ (fun q hq => gset_ne hq)⟩
theorem aN_34 (w : WT n b L xs τ g h) : aN h (n + 34) = some 16 := by
  obtain ⟨c, e, ⟨f, rfl, r⟩⟩ := w.1 34 (by decide)
  exact aN_of e (by decide)
theorem aI_34 {i : Int32} (w : WT n b L xs τ g h) (i0 : 0 ≤ i) (i1 : i < 16) : wp (aI h (n + 34) i) (fun x => True) := by
  obtain ⟨c, e, ⟨f, rfl, -⟩⟩ := w.1 34 (by decide)
  exact ⟨_, aI_to e (by decide) i0 i1, trivial⟩
theorem sI_34 {i x : Int32} (w : WT n b L xs τ g h) (i0 : 0 ≤ i) (i1 : i < 16) : wp (sI h (n + 34) i x) (fun h2 => WT n b L xs τ g h2) := by
  obtain ⟨c, e, ⟨f, rfl, -⟩⟩ := w.1 34 (by decide)
  exact ⟨_, sI_to e (by decide) i0 i1, w.set (j := 34) (by decide) ⟨_, rfl, trivial⟩⟩
theorem aN_35 (w : WT n b L xs τ g h) : aN h (n + 35) = some 24 := by
  obtain ⟨c, e, ⟨f, rfl, r⟩⟩ := w.1 35 (by decide)
  exact aN_of e (by decide)
theorem aI_35 {i : Int32} (w : WT n b L xs τ g h) (i0 : 0 ≤ i) (i1 : i < 24) : wp (aI h (n + 35) i) (fun x => True) := by
  obtain ⟨c, e, ⟨f, rfl, -⟩⟩ := w.1 35 (by decide)
  exact ⟨_, aI_to e (by decide) i0 i1, trivial⟩
theorem sI_35 {i x : Int32} (w : WT n b L xs τ g h) (i0 : 0 ≤ i) (i1 : i < 24) : wp (sI h (n + 35) i x) (fun h2 => WT n b L xs τ g h2) := by
  obtain ⟨c, e, ⟨f, rfl, -⟩⟩ := w.1 35 (by decide)
  exact ⟨_, sI_to e (by decide) i0 i1, w.set (j := 35) (by decide) ⟨_, rfl, trivial⟩⟩
theorem aN_36 (w : WT n b L xs τ g h) : aN h (n + 36) = some 8 := by
  obtain ⟨c, e, ⟨f, rfl, r⟩⟩ := w.1 36 (by decide)
  exact aN_of e (by decide)
theorem aI_36 {i : Int32} (w : WT n b L xs τ g h) (i0 : 0 ≤ i) (i1 : i < 8) : wp (aI h (n + 36) i) (fun x => True) := by
  obtain ⟨c, e, ⟨f, rfl, -⟩⟩ := w.1 36 (by decide)
  exact ⟨_, aI_to e (by decide) i0 i1, trivial⟩
theorem sI_36 {i x : Int32} (w : WT n b L xs τ g h) (i0 : 0 ≤ i) (i1 : i < 8) : wp (sI h (n + 36) i x) (fun h2 => WT n b L xs τ g h2) := by
  obtain ⟨c, e, ⟨f, rfl, -⟩⟩ := w.1 36 (by decide)
  exact ⟨_, sI_to e (by decide) i0 i1, w.set (j := 36) (by decide) ⟨_, rfl, trivial⟩⟩
theorem aN_37 (w : WT n b L xs τ g h) : aN h (n + 37) = some 8 := by
  obtain ⟨c, e, ⟨f, rfl, r⟩⟩ := w.1 37 (by decide)
  exact aN_of e (by decide)
theorem aI_37 {i : Int32} (w : WT n b L xs τ g h) (i0 : 0 ≤ i) (i1 : i < 8) : wp (aI h (n + 37) i) (fun x => True) := by
  obtain ⟨c, e, ⟨f, rfl, -⟩⟩ := w.1 37 (by decide)
  exact ⟨_, aI_to e (by decide) i0 i1, trivial⟩
theorem sI_37 {i x : Int32} (w : WT n b L xs τ g h) (i0 : 0 ≤ i) (i1 : i < 8) : wp (sI h (n + 37) i x) (fun h2 => WT n b L xs τ g h2) := by
  obtain ⟨c, e, ⟨f, rfl, -⟩⟩ := w.1 37 (by decide)
  exact ⟨_, sI_to e (by decide) i0 i1, w.set (j := 37) (by decide) ⟨_, rfl, trivial⟩⟩
theorem aN_38 (w : WT n b L xs τ g h) : aN h (n + 38) = some 256 := by
  obtain ⟨c, e, ⟨f, rfl, r⟩⟩ := w.1 38 (by decide)
  exact aN_of e (by decide)
theorem aI_38 {i : Int32} (w : WT n b L xs τ g h) (i0 : 0 ≤ i) (i1 : i < 256) : wp (aI h (n + 38) i) (fun x => True) := by
  obtain ⟨c, e, ⟨f, rfl, -⟩⟩ := w.1 38 (by decide)
  exact ⟨_, aI_to e (by decide) i0 i1, trivial⟩
theorem sI_38 {i x : Int32} (w : WT n b L xs τ g h) (i0 : 0 ≤ i) (i1 : i < 256) : wp (sI h (n + 38) i x) (fun h2 => WT n b L xs τ g h2) := by
  obtain ⟨c, e, ⟨f, rfl, -⟩⟩ := w.1 38 (by decide)
  exact ⟨_, sI_to e (by decide) i0 i1, w.set (j := 38) (by decide) ⟨_, rfl, trivial⟩⟩
theorem aN_39 (w : WT n b L xs τ g h) : aN h (n + 39) = some 8 := by
  obtain ⟨c, e, ⟨f, rfl, r⟩⟩ := w.1 39 (by decide)
  exact aN_of e (by decide)
theorem aI_39 {i : Int32} (w : WT n b L xs τ g h) (i0 : 0 ≤ i) (i1 : i < 8) : wp (aI h (n + 39) i) (fun x => True) := by
  obtain ⟨c, e, ⟨f, rfl, -⟩⟩ := w.1 39 (by decide)
  exact ⟨_, aI_to e (by decide) i0 i1, trivial⟩
theorem sI_39 {i x : Int32} (w : WT n b L xs τ g h) (i0 : 0 ≤ i) (i1 : i < 8) : wp (sI h (n + 39) i x) (fun h2 => WT n b L xs τ g h2) := by
  obtain ⟨c, e, ⟨f, rfl, -⟩⟩ := w.1 39 (by decide)
  exact ⟨_, sI_to e (by decide) i0 i1, w.set (j := 39) (by decide) ⟨_, rfl, trivial⟩⟩
theorem aN_40 (w : WT n b L xs τ g h) : aN h (n + 40) = some 9 := by
  obtain ⟨c, e, ⟨f, rfl, r⟩⟩ := w.1 40 (by decide)
  exact aN_of e (by decide)
theorem aI_40 {i : Int32} (w : WT n b L xs τ g h) (i0 : 0 ≤ i) (i1 : i < 9) : wp (aI h (n + 40) i) (fun x => True) := by
  obtain ⟨c, e, ⟨f, rfl, -⟩⟩ := w.1 40 (by decide)
  exact ⟨_, aI_to e (by decide) i0 i1, trivial⟩
theorem sI_40 {i x : Int32} (w : WT n b L xs τ g h) (i0 : 0 ≤ i) (i1 : i < 9) : wp (sI h (n + 40) i x) (fun h2 => WT n b L xs τ g h2) := by
  obtain ⟨c, e, ⟨f, rfl, -⟩⟩ := w.1 40 (by decide)
  exact ⟨_, sI_to e (by decide) i0 i1, w.set (j := 40) (by decide) ⟨_, rfl, trivial⟩⟩
theorem aN_41 (w : WT n b L xs τ g h) : aN h (n + 41) = some 9 := by
  obtain ⟨c, e, ⟨f, rfl, r⟩⟩ := w.1 41 (by decide)
  exact aN_of e (by decide)
theorem aI_41 {i : Int32} (w : WT n b L xs τ g h) (i0 : 0 ≤ i) (i1 : i < 9) : wp (aI h (n + 41) i) (fun x => True) := by
  obtain ⟨c, e, ⟨f, rfl, -⟩⟩ := w.1 41 (by decide)
  exact ⟨_, aI_to e (by decide) i0 i1, trivial⟩
theorem sI_41 {i x : Int32} (w : WT n b L xs τ g h) (i0 : 0 ≤ i) (i1 : i < 9) : wp (sI h (n + 41) i x) (fun h2 => WT n b L xs τ g h2) := by
  obtain ⟨c, e, ⟨f, rfl, -⟩⟩ := w.1 41 (by decide)
  exact ⟨_, sI_to e (by decide) i0 i1, w.set (j := 41) (by decide) ⟨_, rfl, trivial⟩⟩
theorem ob_42 (w : WT n b L xs τ g h) : zob h (n + 42) 12 = true := by
  obtain ⟨c, e, ⟨i, rfl, r⟩⟩ := w.1 42 (by decide)
  exact zob_of e
theorem gI_42_0 (w : WT n b L xs τ g h) : wp (gI h (n + 42) 12 0) (fun x => True) := by
  obtain ⟨c, e, ⟨i, rfl, ⟨r0, r1, r2, r3, r4, r5, r6, r7, r8, r9, r10, r11, r12, r13, r14, r15, r16, r17, r18, r19, r20, r21, r22, r23, r24, r25, r26, r27, r28, r29, r30, r31, r32, r33, r34, r35, r36, r37, r38, r39, r40, r41, r42, r43, r44⟩⟩⟩ := w.1 42 (by decide)
  exact ⟨_, gI_of e rfl, trivial⟩
theorem pI_42_0 {x : Int32} (w : WT n b L xs τ g h) : wp (pF h (n + 42) 12 0 (.int x)) (fun h2 => WT n b L xs τ g h2) := by
  obtain ⟨c, e, ⟨i, rfl, ⟨r0, r1, r2, r3, r4, r5, r6, r7, r8, r9, r10, r11, r12, r13, r14, r15, r16, r17, r18, r19, r20, r21, r22, r23, r24, r25, r26, r27, r28, r29, r30, r31, r32, r33, r34, r35, r36, r37, r38, r39, r40, r41, r42, r43, r44⟩⟩⟩ := w.1 42 (by decide)
  exact ⟨_, pF_of e (Nat.le_of_ble_eq_true rfl), w.set (j := 42) (by decide) ⟨upd i 0 x, rfl, ⟨r0, r1, r2, r3, r4, r5, r6, r7, r8, r9, r10, r11, r12, r13, r14, r15, r16, r17, r18, r19, r20, r21, r22, r23, r24, r25, r26, r27, r28, r29, r30, r31, r32, r33, r34, r35, r36, r37, r38, r39, r40, r41, r42, r43, r44⟩⟩⟩
theorem gR_42_1 (w : WT n b L xs τ g h) : gR h (n + 42) 12 1 = some (n + 43) := by
  obtain ⟨c, e, ⟨i, rfl, ⟨r0, r1, r2, r3, r4, r5, r6, r7, r8, r9, r10, r11, r12, r13, r14, r15, r16, r17, r18, r19, r20, r21, r22, r23, r24, r25, r26, r27, r28, r29, r30, r31, r32, r33, r34, r35, r36, r37, r38, r39, r40, r41, r42, r43, r44⟩⟩⟩ := w.1 42 (by decide)
  exact gR_of e rfl
theorem gI_42_2 (w : WT n b L xs τ g h) : wp (gI h (n + 42) 12 2) (fun x => x = g.1 42 2 ∧ 0 ≤ x ∧ x ≤ 1000) := by
  obtain ⟨c, e, ⟨i, rfl, ⟨r0, r1, r2, r3, r4, r5, r6, r7, r8, r9, r10, r11, r12, r13, r14, r15, r16, r17, r18, r19, r20, r21, r22, r23, r24, r25, r26, r27, r28, r29, r30, r31, r32, r33, r34, r35, r36, r37, r38, r39, r40, r41, r42, r43, r44⟩⟩⟩ := w.1 42 (by decide)
  exact ⟨_, gI_of e rfl, ⟨r0, r1, r2⟩⟩
theorem pI_42_2 {x : Int32} (w : WT n b L xs τ g h) (z0 : 0 ≤ x) (z1 : x ≤ 1000) : wp (pF h (n + 42) 12 2 (.int x)) (fun h2 => WT n b L xs τ (gset g 42 2 x) h2) := by
  obtain ⟨c, e, ⟨i, rfl, ⟨r0, r1, r2, r3, r4, r5, r6, r7, r8, r9, r10, r11, r12, r13, r14, r15, r16, r17, r18, r19, r20, r21, r22, r23, r24, r25, r26, r27, r28, r29, r30, r31, r32, r33, r34, r35, r36, r37, r38, r39, r40, r41, r42, r43, r44⟩⟩⟩ := w.1 42 (by decide)
  exact ⟨_, pF_of e (Nat.le_of_ble_eq_true rfl), w.put (j := 42) (by decide) ⟨upd i 2 x, rfl, ⟨rfl, z0, z1, r3, r4, r5, r6, r7, r8, r9, r10, r11, r12, r13, r14, r15, r16, r17, r18, r19, r20, r21, r22, r23, r24, r25, r26, r27, r28, r29, r30, r31, r32, r33, r34, r35, r36, r37, r38, r39, r40, r41, r42, r43, r44⟩⟩ (fun q hq => gset_ne hq)⟩
theorem gI_42_3 (w : WT n b L xs τ g h) : wp (gI h (n + 42) 12 3) (fun x => 0 ≤ x ∧ x ≤ 1000) := by
  obtain ⟨c, e, ⟨i, rfl, ⟨r0, r1, r2, r3, r4, r5, r6, r7, r8, r9, r10, r11, r12, r13, r14, r15, r16, r17, r18, r19, r20, r21, r22, r23, r24, r25, r26, r27, r28, r29, r30, r31, r32, r33, r34, r35, r36, r37, r38, r39, r40, r41, r42, r43, r44⟩⟩⟩ := w.1 42 (by decide)
  exact ⟨_, gI_of e rfl, ⟨r3, r4⟩⟩
theorem pI_42_3 {x : Int32} (w : WT n b L xs τ g h) (z0 : 0 ≤ x) (z1 : x ≤ 1000) : wp (pF h (n + 42) 12 3 (.int x)) (fun h2 => WT n b L xs τ g h2) := by
  obtain ⟨c, e, ⟨i, rfl, ⟨r0, r1, r2, r3, r4, r5, r6, r7, r8, r9, r10, r11, r12, r13, r14, r15, r16, r17, r18, r19, r20, r21, r22, r23, r24, r25, r26, r27, r28, r29, r30, r31, r32, r33, r34, r35, r36, r37, r38, r39, r40, r41, r42, r43, r44⟩⟩⟩ := w.1 42 (by decide)
  exact ⟨_, pF_of e (Nat.le_of_ble_eq_true rfl), w.set (j := 42) (by decide) ⟨upd i 3 x, rfl, ⟨r0, r1, r2, z0, z1, r5, r6, r7, r8, r9, r10, r11, r12, r13, r14, r15, r16, r17, r18, r19, r20, r21, r22, r23, r24, r25, r26, r27, r28, r29, r30, r31, r32, r33, r34, r35, r36, r37, r38, r39, r40, r41, r42, r43, r44⟩⟩⟩
theorem gR_42_4 (w : WT n b L xs τ g h) : gR h (n + 42) 12 4 = some (n + 44) := by
  obtain ⟨c, e, ⟨i, rfl, ⟨r0, r1, r2, r3, r4, r5, r6, r7, r8, r9, r10, r11, r12, r13, r14, r15, r16, r17, r18, r19, r20, r21, r22, r23, r24, r25, r26, r27, r28, r29, r30, r31, r32, r33, r34, r35, r36, r37, r38, r39, r40, r41, r42, r43, r44⟩⟩⟩ := w.1 42 (by decide)
  exact gR_of e rfl
theorem gR_42_5 (w : WT n b L xs τ g h) : gR h (n + 42) 12 5 = some (n + 45) := by
  obtain ⟨c, e, ⟨i, rfl, ⟨r0, r1, r2, r3, r4, r5, r6, r7, r8, r9, r10, r11, r12, r13, r14, r15, r16, r17, r18, r19, r20, r21, r22, r23, r24, r25, r26, r27, r28, r29, r30, r31, r32, r33, r34, r35, r36, r37, r38, r39, r40, r41, r42, r43, r44⟩⟩⟩ := w.1 42 (by decide)
  exact gR_of e rfl
theorem gR_42_6 (w : WT n b L xs τ g h) : gR h (n + 42) 12 6 = some (n + 46) := by
  obtain ⟨c, e, ⟨i, rfl, ⟨r0, r1, r2, r3, r4, r5, r6, r7, r8, r9, r10, r11, r12, r13, r14, r15, r16, r17, r18, r19, r20, r21, r22, r23, r24, r25, r26, r27, r28, r29, r30, r31, r32, r33, r34, r35, r36, r37, r38, r39, r40, r41, r42, r43, r44⟩⟩⟩ := w.1 42 (by decide)
  exact gR_of e rfl
theorem gI_42_7 (w : WT n b L xs τ g h) : wp (gI h (n + 42) 12 7) (fun x => x = g.1 42 7 ∧ 0 ≤ x ∧ x ≤ 1001) := by
  obtain ⟨c, e, ⟨i, rfl, ⟨r0, r1, r2, r3, r4, r5, r6, r7, r8, r9, r10, r11, r12, r13, r14, r15, r16, r17, r18, r19, r20, r21, r22, r23, r24, r25, r26, r27, r28, r29, r30, r31, r32, r33, r34, r35, r36, r37, r38, r39, r40, r41, r42, r43, r44⟩⟩⟩ := w.1 42 (by decide)
  exact ⟨_, gI_of e rfl, ⟨r5, r6, r7⟩⟩
theorem pI_42_7 {x : Int32} (w : WT n b L xs τ g h) (z0 : 0 ≤ x) (z1 : x ≤ 1001) : wp (pF h (n + 42) 12 7 (.int x)) (fun h2 => WT n b L xs τ (gset g 42 7 x) h2) := by
  obtain ⟨c, e, ⟨i, rfl, ⟨r0, r1, r2, r3, r4, r5, r6, r7, r8, r9, r10, r11, r12, r13, r14, r15, r16, r17, r18, r19, r20, r21, r22, r23, r24, r25, r26, r27, r28, r29, r30, r31, r32, r33, r34, r35, r36, r37, r38, r39, r40, r41, r42, r43, r44⟩⟩⟩ := w.1 42 (by decide)
  exact ⟨_, pF_of e (Nat.le_of_ble_eq_true rfl), w.put (j := 42) (by decide) ⟨upd i 7 x, rfl, ⟨r0, r1, r2, r3, r4, rfl, z0, z1, r8, r9, r10, r11, r12, r13, r14, r15, r16, r17, r18, r19, r20, r21, r22, r23, r24, r25, r26, r27, r28, r29, r30, r31, r32, r33, r34, r35, r36, r37, r38, r39, r40, r41, r42, r43, r44⟩⟩ (fun q hq => gset_ne hq)⟩
theorem gI_42_8 (w : WT n b L xs τ g h) : wp (gI h (n + 42) 12 8) (fun x => x = g.1 42 8) := by
  obtain ⟨c, e, ⟨i, rfl, ⟨r0, r1, r2, r3, r4, r5, r6, r7, r8, r9, r10, r11, r12, r13, r14, r15, r16, r17, r18, r19, r20, r21, r22, r23, r24, r25, r26, r27, r28, r29, r30, r31, r32, r33, r34, r35, r36, r37, r38, r39, r40, r41, r42, r43, r44⟩⟩⟩ := w.1 42 (by decide)
  exact ⟨_, gI_of e rfl, r8⟩
theorem pI_42_8 {x : Int32} (w : WT n b L xs τ g h) : wp (pF h (n + 42) 12 8 (.int x)) (fun h2 => WT n b L xs τ (gset g 42 8 x) h2) := by
  obtain ⟨c, e, ⟨i, rfl, ⟨r0, r1, r2, r3, r4, r5, r6, r7, r8, r9, r10, r11, r12, r13, r14, r15, r16, r17, r18, r19, r20, r21, r22, r23, r24, r25, r26, r27, r28, r29, r30, r31, r32, r33, r34, r35, r36, r37, r38, r39, r40, r41, r42, r43, r44⟩⟩⟩ := w.1 42 (by decide)
  exact ⟨_, pF_of e (Nat.le_of_ble_eq_true rfl), w.put (j := 42) (by decide) ⟨upd i 8 x, rfl, ⟨r0, r1, r2, r3, r4, r5, r6, r7, rfl, r9, r10, r11, r12, r13, r14, r15, r16, r17, r18, r19, r20, r21, r22, r23, r24, r25, r26, r27, r28, r29, r30, r31, r32, r33, r34, r35, r36, r37, r38, r39, r40, r41, r42, r43, r44⟩⟩ (fun q hq => gset_ne hq)⟩
theorem gR_42_9 (w : WT n b L xs τ g h) : gR h (n + 42) 12 9 = some (n + 47) := by
  obtain ⟨c, e, ⟨i, rfl, ⟨r0, r1, r2, r3, r4, r5, r6, r7, r8, r9, r10, r11, r12, r13, r14, r15, r16, r17, r18, r19, r20, r21, r22, r23, r24, r25, r26, r27, r28, r29, r30, r31, r32, r33, r34, r35, r36, r37, r38, r39, r40, r41, r42, r43, r44⟩⟩⟩ := w.1 42 (by decide)
  exact gR_of e rfl
theorem gI_42_10 (w : WT n b L xs τ g h) : wp (gI h (n + 42) 12 10) (fun x => x = g.1 42 10 ∧ 0 ≤ x ∧ x ≤ 16) := by
  obtain ⟨c, e, ⟨i, rfl, ⟨r0, r1, r2, r3, r4, r5, r6, r7, r8, r9, r10, r11, r12, r13, r14, r15, r16, r17, r18, r19, r20, r21, r22, r23, r24, r25, r26, r27, r28, r29, r30, r31, r32, r33, r34, r35, r36, r37, r38, r39, r40, r41, r42, r43, r44⟩⟩⟩ := w.1 42 (by decide)
  exact ⟨_, gI_of e rfl, ⟨r9, r10, r11⟩⟩
theorem pI_42_10 {x : Int32} (w : WT n b L xs τ g h) (z0 : 0 ≤ x) (z1 : x ≤ 16) : wp (pF h (n + 42) 12 10 (.int x)) (fun h2 => WT n b L xs τ (gset g 42 10 x) h2) := by
  obtain ⟨c, e, ⟨i, rfl, ⟨r0, r1, r2, r3, r4, r5, r6, r7, r8, r9, r10, r11, r12, r13, r14, r15, r16, r17, r18, r19, r20, r21, r22, r23, r24, r25, r26, r27, r28, r29, r30, r31, r32, r33, r34, r35, r36, r37, r38, r39, r40, r41, r42, r43, r44⟩⟩⟩ := w.1 42 (by decide)
  exact ⟨_, pF_of e (Nat.le_of_ble_eq_true rfl), w.put (j := 42) (by decide) ⟨upd i 10 x, rfl, ⟨r0, r1, r2, r3, r4, r5, r6, r7, r8, rfl, z0, z1, r12, r13, r14, r15, r16, r17, r18, r19, r20, r21, r22, r23, r24, r25, r26, r27, r28, r29, r30, r31, r32, r33, r34, r35, r36, r37, r38, r39, r40, r41, r42, r43, r44⟩⟩ (fun q hq => gset_ne hq)⟩
theorem gR_42_11 (w : WT n b L xs τ g h) : gR h (n + 42) 12 11 = some (n + 48) := by
  obtain ⟨c, e, ⟨i, rfl, ⟨r0, r1, r2, r3, r4, r5, r6, r7, r8, r9, r10, r11, r12, r13, r14, r15, r16, r17, r18, r19, r20, r21, r22, r23, r24, r25, r26, r27, r28, r29, r30, r31, r32, r33, r34, r35, r36, r37, r38, r39, r40, r41, r42, r43, r44⟩⟩⟩ := w.1 42 (by decide)
  exact gR_of e rfl
theorem gR_42_12 (w : WT n b L xs τ g h) : gR h (n + 42) 12 12 = some (n + 49) := by
  obtain ⟨c, e, ⟨i, rfl, ⟨r0, r1, r2, r3, r4, r5, r6, r7, r8, r9, r10, r11, r12, r13, r14, r15, r16, r17, r18, r19, r20, r21, r22, r23, r24, r25, r26, r27, r28, r29, r30, r31, r32, r33, r34, r35, r36, r37, r38, r39, r40, r41, r42, r43, r44⟩⟩⟩ := w.1 42 (by decide)
  exact gR_of e rfl
theorem gR_42_13 (w : WT n b L xs τ g h) : gR h (n + 42) 12 13 = some (n + 50) := by
  obtain ⟨c, e, ⟨i, rfl, ⟨r0, r1, r2, r3, r4, r5, r6, r7, r8, r9, r10, r11, r12, r13, r14, r15, r16, r17, r18, r19, r20, r21, r22, r23, r24, r25, r26, r27, r28, r29, r30, r31, r32, r33, r34, r35, r36, r37, r38, r39, r40, r41, r42, r43, r44⟩⟩⟩ := w.1 42 (by decide)
  exact gR_of e rfl
theorem gR_42_14 (w : WT n b L xs τ g h) : gR h (n + 42) 12 14 = some (n + 51) := by
  obtain ⟨c, e, ⟨i, rfl, ⟨r0, r1, r2, r3, r4, r5, r6, r7, r8, r9, r10, r11, r12, r13, r14, r15, r16, r17, r18, r19, r20, r21, r22, r23, r24, r25, r26, r27, r28, r29, r30, r31, r32, r33, r34, r35, r36, r37, r38, r39, r40, r41, r42, r43, r44⟩⟩⟩ := w.1 42 (by decide)
  exact gR_of e rfl
theorem gR_42_15 (w : WT n b L xs τ g h) : gR h (n + 42) 12 15 = some (n + 52) := by
  obtain ⟨c, e, ⟨i, rfl, ⟨r0, r1, r2, r3, r4, r5, r6, r7, r8, r9, r10, r11, r12, r13, r14, r15, r16, r17, r18, r19, r20, r21, r22, r23, r24, r25, r26, r27, r28, r29, r30, r31, r32, r33, r34, r35, r36, r37, r38, r39, r40, r41, r42, r43, r44⟩⟩⟩ := w.1 42 (by decide)
  exact gR_of e rfl
theorem gR_42_16 (w : WT n b L xs τ g h) : gR h (n + 42) 12 16 = some (n + 53) := by
  obtain ⟨c, e, ⟨i, rfl, ⟨r0, r1, r2, r3, r4, r5, r6, r7, r8, r9, r10, r11, r12, r13, r14, r15, r16, r17, r18, r19, r20, r21, r22, r23, r24, r25, r26, r27, r28, r29, r30, r31, r32, r33, r34, r35, r36, r37, r38, r39, r40, r41, r42, r43, r44⟩⟩⟩ := w.1 42 (by decide)
  exact gR_of e rfl
theorem gI_42_17 (w : WT n b L xs τ g h) : wp (gI h (n + 42) 12 17) (fun x => x = g.1 42 17 ∧ 0 ≤ x ∧ x ≤ 8) := by
  obtain ⟨c, e, ⟨i, rfl, ⟨r0, r1, r2, r3, r4, r5, r6, r7, r8, r9, r10, r11, r12, r13, r14, r15, r16, r17, r18, r19, r20, r21, r22, r23, r24, r25, r26, r27, r28, r29, r30, r31, r32, r33, r34, r35, r36, r37, r38, r39, r40, r41, r42, r43, r44⟩⟩⟩ := w.1 42 (by decide)
  exact ⟨_, gI_of e rfl, ⟨r12, r13, r14⟩⟩
theorem pI_42_17 {x : Int32} (w : WT n b L xs τ g h) (z0 : 0 ≤ x) (z1 : x ≤ 8) : wp (pF h (n + 42) 12 17 (.int x)) (fun h2 => WT n b L xs τ (gset g 42 17 x) h2) := by
  obtain ⟨c, e, ⟨i, rfl, ⟨r0, r1, r2, r3, r4, r5, r6, r7, r8, r9, r10, r11, r12, r13, r14, r15, r16, r17, r18, r19, r20, r21, r22, r23, r24, r25, r26, r27, r28, r29, r30, r31, r32, r33, r34, r35, r36, r37, r38, r39, r40, r41, r42, r43, r44⟩⟩⟩ := w.1 42 (by decide)
  exact ⟨_, pF_of e (Nat.le_of_ble_eq_true rfl), w.put (j := 42) (by decide) ⟨upd i 17 x, rfl, ⟨r0, r1, r2, r3, r4, r5, r6, r7, r8, r9, r10, r11, rfl, z0, z1, r15, r16, r17, r18, r19, r20, r21, r22, r23, r24, r25, r26, r27, r28, r29, r30, r31, r32, r33, r34, r35, r36, r37, r38, r39, r40, r41, r42, r43, r44⟩⟩ (fun q hq => gset_ne hq)⟩
theorem gR_42_18 (w : WT n b L xs τ g h) : gR h (n + 42) 12 18 = some (n + 54) := by
  obtain ⟨c, e, ⟨i, rfl, ⟨r0, r1, r2, r3, r4, r5, r6, r7, r8, r9, r10, r11, r12, r13, r14, r15, r16, r17, r18, r19, r20, r21, r22, r23, r24, r25, r26, r27, r28, r29, r30, r31, r32, r33, r34, r35, r36, r37, r38, r39, r40, r41, r42, r43, r44⟩⟩⟩ := w.1 42 (by decide)
  exact gR_of e rfl
theorem gI_42_19 (w : WT n b L xs τ g h) : wp (gI h (n + 42) 12 19) (fun x => x = g.1 42 19 ∧ 0 ≤ x ∧ x ≤ 1199) := by
  obtain ⟨c, e, ⟨i, rfl, ⟨r0, r1, r2, r3, r4, r5, r6, r7, r8, r9, r10, r11, r12, r13, r14, r15, r16, r17, r18, r19, r20, r21, r22, r23, r24, r25, r26, r27, r28, r29, r30, r31, r32, r33, r34, r35, r36, r37, r38, r39, r40, r41, r42, r43, r44⟩⟩⟩ := w.1 42 (by decide)
  exact ⟨_, gI_of e rfl, ⟨r15, r16, r17⟩⟩
theorem pI_42_19 {x : Int32} (w : WT n b L xs τ g h) (z0 : 0 ≤ x) (z1 : x ≤ 1199) : wp (pF h (n + 42) 12 19 (.int x)) (fun h2 => WT n b L xs τ (gset g 42 19 x) h2) := by
  obtain ⟨c, e, ⟨i, rfl, ⟨r0, r1, r2, r3, r4, r5, r6, r7, r8, r9, r10, r11, r12, r13, r14, r15, r16, r17, r18, r19, r20, r21, r22, r23, r24, r25, r26, r27, r28, r29, r30, r31, r32, r33, r34, r35, r36, r37, r38, r39, r40, r41, r42, r43, r44⟩⟩⟩ := w.1 42 (by decide)
  exact ⟨_, pF_of e (Nat.le_of_ble_eq_true rfl), w.put (j := 42) (by decide) ⟨upd i 19 x, rfl, ⟨r0, r1, r2, r3, r4, r5, r6, r7, r8, r9, r10, r11, r12, r13, r14, rfl, z0, z1, r18, r19, r20, r21, r22, r23, r24, r25, r26, r27, r28, r29, r30, r31, r32, r33, r34, r35, r36, r37, r38, r39, r40, r41, r42, r43, r44⟩⟩ (fun q hq => gset_ne hq)⟩
theorem gR_42_20 (w : WT n b L xs τ g h) : gR h (n + 42) 12 20 = some (n + 55) := by
  obtain ⟨c, e, ⟨i, rfl, ⟨r0, r1, r2, r3, r4, r5, r6, r7, r8, r9, r10, r11, r12, r13, r14, r15, r16, r17, r18, r19, r20, r21, r22, r23, r24, r25, r26, r27, r28, r29, r30, r31, r32, r33, r34, r35, r36, r37, r38, r39, r40, r41, r42, r43, r44⟩⟩⟩ := w.1 42 (by decide)
  exact gR_of e rfl
theorem gR_42_21 (w : WT n b L xs τ g h) : gR h (n + 42) 12 21 = some (n + 56) := by
  obtain ⟨c, e, ⟨i, rfl, ⟨r0, r1, r2, r3, r4, r5, r6, r7, r8, r9, r10, r11, r12, r13, r14, r15, r16, r17, r18, r19, r20, r21, r22, r23, r24, r25, r26, r27, r28, r29, r30, r31, r32, r33, r34, r35, r36, r37, r38, r39, r40, r41, r42, r43, r44⟩⟩⟩ := w.1 42 (by decide)
  exact gR_of e rfl
theorem gR_42_22 (w : WT n b L xs τ g h) : gR h (n + 42) 12 22 = some (n + 57) := by
  obtain ⟨c, e, ⟨i, rfl, ⟨r0, r1, r2, r3, r4, r5, r6, r7, r8, r9, r10, r11, r12, r13, r14, r15, r16, r17, r18, r19, r20, r21, r22, r23, r24, r25, r26, r27, r28, r29, r30, r31, r32, r33, r34, r35, r36, r37, r38, r39, r40, r41, r42, r43, r44⟩⟩⟩ := w.1 42 (by decide)
  exact gR_of e rfl
theorem gR_42_23 (w : WT n b L xs τ g h) : gR h (n + 42) 12 23 = some (n + 58) := by
  obtain ⟨c, e, ⟨i, rfl, ⟨r0, r1, r2, r3, r4, r5, r6, r7, r8, r9, r10, r11, r12, r13, r14, r15, r16, r17, r18, r19, r20, r21, r22, r23, r24, r25, r26, r27, r28, r29, r30, r31, r32, r33, r34, r35, r36, r37, r38, r39, r40, r41, r42, r43, r44⟩⟩⟩ := w.1 42 (by decide)
  exact gR_of e rfl
theorem gR_42_24 (w : WT n b L xs τ g h) : gR h (n + 42) 12 24 = some (n + 59) := by
  obtain ⟨c, e, ⟨i, rfl, ⟨r0, r1, r2, r3, r4, r5, r6, r7, r8, r9, r10, r11, r12, r13, r14, r15, r16, r17, r18, r19, r20, r21, r22, r23, r24, r25, r26, r27, r28, r29, r30, r31, r32, r33, r34, r35, r36, r37, r38, r39, r40, r41, r42, r43, r44⟩⟩⟩ := w.1 42 (by decide)
  exact gR_of e rfl
theorem gI_42_25 (w : WT n b L xs τ g h) : wp (gI h (n + 42) 12 25) (fun x => x = g.1 42 25 ∧ 0 ≤ x ∧ x ≤ 30) := by
  obtain ⟨c, e, ⟨i, rfl, ⟨r0, r1, r2, r3, r4, r5, r6, r7, r8, r9, r10, r11, r12, r13, r14, r15, r16, r17, r18, r19, r20, r21, r22, r23, r24, r25, r26, r27, r28, r29, r30, r31, r32, r33, r34, r35, r36, r37, r38, r39, r40, r41, r42, r43, r44⟩⟩⟩ := w.1 42 (by decide)
  exact ⟨_, gI_of e rfl, ⟨r18, r19, r20⟩⟩
theorem pI_42_25 {x : Int32} (w : WT n b L xs τ g h) (z0 : 0 ≤ x) (z1 : x ≤ 30) : wp (pF h (n + 42) 12 25 (.int x)) (fun h2 => WT n b L xs τ (gset g 42 25 x) h2) := by
  obtain ⟨c, e, ⟨i, rfl, ⟨r0, r1, r2, r3, r4, r5, r6, r7, r8, r9, r10, r11, r12, r13, r14, r15, r16, r17, r18, r19, r20, r21, r22, r23, r24, r25, r26, r27, r28, r29, r30, r31, r32, r33, r34, r35, r36, r37, r38, r39, r40, r41, r42, r43, r44⟩⟩⟩ := w.1 42 (by decide)
  exact ⟨_, pF_of e (Nat.le_of_ble_eq_true rfl), w.put (j := 42) (by decide) ⟨upd i 25 x, rfl, ⟨r0, r1, r2, r3, r4, r5, r6, r7, r8, r9, r10, r11, r12, r13, r14, r15, r16, r17, rfl, z0, z1, r21, r22, r23, r24, r25, r26, r27, r28, r29, r30, r31, r32, r33, r34, r35, r36, r37, r38, r39, r40, r41, r42, r43, r44⟩⟩ (fun q hq => gset_ne hq)⟩
theorem gI_42_26 (w : WT n b L xs τ g h) : wp (gI h (n + 42) 12 26) (fun x => x = g.1 42 26 ∧ (-1) ≤ x ∧ x ≤ 30) := by
  obtain ⟨c, e, ⟨i, rfl, ⟨r0, r1, r2, r3, r4, r5, r6, r7, r8, r9, r10, r11, r12, r13, r14, r15, r16, r17, r18, r19, r20, r21, r22, r23, r24, r25, r26, r27, r28, r29, r30, r31, r32, r33, r34, r35, r36, r37, r38, r39, r40, r41, r42, r43, r44⟩⟩⟩ := w.1 42 (by decide)
  exact ⟨_, gI_of e rfl, ⟨r21, r22, r23⟩⟩
theorem pI_42_26 {x : Int32} (w : WT n b L xs τ g h) (z0 : (-1) ≤ x) (z1 : x ≤ 30) : wp (pF h (n + 42) 12 26 (.int x)) (fun h2 => WT n b L xs τ (gset g 42 26 x) h2) := by
  obtain ⟨c, e, ⟨i, rfl, ⟨r0, r1, r2, r3, r4, r5, r6, r7, r8, r9, r10, r11, r12, r13, r14, r15, r16, r17, r18, r19, r20, r21, r22, r23, r24, r25, r26, r27, r28, r29, r30, r31, r32, r33, r34, r35, r36, r37, r38, r39, r40, r41, r42, r43, r44⟩⟩⟩ := w.1 42 (by decide)
  exact ⟨_, pF_of e (Nat.le_of_ble_eq_true rfl), w.put (j := 42) (by decide) ⟨upd i 26 x, rfl, ⟨r0, r1, r2, r3, r4, r5, r6, r7, r8, r9, r10, r11, r12, r13, r14, r15, r16, r17, r18, r19, r20, rfl, z0, z1, r24, r25, r26, r27, r28, r29, r30, r31, r32, r33, r34, r35, r36, r37, r38, r39, r40, r41, r42, r43, r44⟩⟩ (fun q hq => gset_ne hq)⟩
theorem gI_42_27 (w : WT n b L xs τ g h) : wp (gI h (n + 42) 12 27) (fun x => x = g.1 42 27 ∧ 0 ≤ x ∧ x ≤ 40) := by
  obtain ⟨c, e, ⟨i, rfl, ⟨r0, r1, r2, r3, r4, r5, r6, r7, r8, r9, r10, r11, r12, r13, r14, r15, r16, r17, r18, r19, r20, r21, r22, r23, r24, r25, r26, r27, r28, r29, r30, r31, r32, r33, r34, r35, r36, r37, r38, r39, r40, r41, r42, r43, r44⟩⟩⟩ := w.1 42 (by decide)
  exact ⟨_, gI_of e rfl, ⟨r24, r25, r26⟩⟩
theorem pI_42_27 {x : Int32} (w : WT n b L xs τ g h) (z0 : 0 ≤ x) (z1 : x ≤ 40) : wp (pF h (n + 42) 12 27 (.int x)) (fun h2 => WT n b L xs τ (gset g 42 27 x) h2) := by
  obtain ⟨c, e, ⟨i, rfl, ⟨r0, r1, r2, r3, r4, r5, r6, r7, r8, r9, r10, r11, r12, r13, r14, r15, r16, r17, r18, r19, r20, r21, r22, r23, r24, r25, r26, r27, r28, r29, r30, r31, r32, r33, r34, r35, r36, r37, r38, r39, r40, r41, r42, r43, r44⟩⟩⟩ := w.1 42 (by decide)
  exact ⟨_, pF_of e (Nat.le_of_ble_eq_true rfl), w.put (j := 42) (by decide) ⟨upd i 27 x, rfl, ⟨r0, r1, r2, r3, r4, r5, r6, r7, r8, r9, r10, r11, r12, r13, r14, r15, r16, r17, r18, r19, r20, r21, r22, r23, rfl, z0, z1, r27, r28, r29, r30, r31, r32, r33, r34, r35, r36, r37, r38, r39, r40, r41, r42, r43, r44⟩⟩ (fun q hq => gset_ne hq)⟩
theorem gR_42_28 (w : WT n b L xs τ g h) : gR h (n + 42) 12 28 = some (n + 60) := by
  obtain ⟨c, e, ⟨i, rfl, ⟨r0, r1, r2, r3, r4, r5, r6, r7, r8, r9, r10, r11, r12, r13, r14, r15, r16, r17, r18, r19, r20, r21, r22, r23, r24, r25, r26, r27, r28, r29, r30, r31, r32, r33, r34, r35, r36, r37, r38, r39, r40, r41, r42, r43, r44⟩⟩⟩ := w.1 42 (by decide)
  exact gR_of e rfl
theorem gR_42_29 (w : WT n b L xs τ g h) : gR h (n + 42) 12 29 = some (n + 61) := by
  obtain ⟨c, e, ⟨i, rfl, ⟨r0, r1, r2, r3, r4, r5, r6, r7, r8, r9, r10, r11, r12, r13, r14, r15, r16, r17, r18, r19, r20, r21, r22, r23, r24, r25, r26, r27, r28, r29, r30, r31, r32, r33, r34, r35, r36, r37, r38, r39, r40, r41, r42, r43, r44⟩⟩⟩ := w.1 42 (by decide)
  exact gR_of e rfl
theorem gR_42_30 (w : WT n b L xs τ g h) : gR h (n + 42) 12 30 = some (n + 62) := by
  obtain ⟨c, e, ⟨i, rfl, ⟨r0, r1, r2, r3, r4, r5, r6, r7, r8, r9, r10, r11, r12, r13, r14, r15, r16, r17, r18, r19, r20, r21, r22, r23, r24, r25, r26, r27, r28, r29, r30, r31, r32, r33, r34, r35, r36, r37, r38, r39, r40, r41, r42, r43, r44⟩⟩⟩ := w.1 42 (by decide)
  exact gR_of e rfl
theorem gR_42_31 (w : WT n b L xs τ g h) : gR h (n + 42) 12 31 = some (n + 63) := by
  obtain ⟨c, e, ⟨i, rfl, ⟨r0, r1, r2, r3, r4, r5, r6, r7, r8, r9, r10, r11, r12, r13, r14, r15, r16, r17, r18, r19, r20, r21, r22, r23, r24, r25, r26, r27, r28, r29, r30, r31, r32, r33, r34, r35, r36, r37, r38, r39, r40, r41, r42, r43, r44⟩⟩⟩ := w.1 42 (by decide)
  exact gR_of e rfl
theorem gR_42_32 (w : WT n b L xs τ g h) : gR h (n + 42) 12 32 = some (n + 64) := by
  obtain ⟨c, e, ⟨i, rfl, ⟨r0, r1, r2, r3, r4, r5, r6, r7, r8, r9, r10, r11, r12, r13, r14, r15, r16, r17, r18, r19, r20, r21, r22, r23, r24, r25, r26, r27, r28, r29, r30, r31, r32, r33, r34, r35, r36, r37, r38, r39, r40, r41, r42, r43, r44⟩⟩⟩ := w.1 42 (by decide)
  exact gR_of e rfl
theorem gR_42_33 (w : WT n b L xs τ g h) : gR h (n + 42) 12 33 = some (n + 65) := by
  obtain ⟨c, e, ⟨i, rfl, ⟨r0, r1, r2, r3, r4, r5, r6, r7, r8, r9, r10, r11, r12, r13, r14, r15, r16, r17, r18, r19, r20, r21, r22, r23, r24, r25, r26, r27, r28, r29, r30, r31, r32, r33, r34, r35, r36, r37, r38, r39, r40, r41, r42, r43, r44⟩⟩⟩ := w.1 42 (by decide)
  exact gR_of e rfl
theorem gR_42_34 (w : WT n b L xs τ g h) : gR h (n + 42) 12 34 = some (n + 66) := by
  obtain ⟨c, e, ⟨i, rfl, ⟨r0, r1, r2, r3, r4, r5, r6, r7, r8, r9, r10, r11, r12, r13, r14, r15, r16, r17, r18, r19, r20, r21, r22, r23, r24, r25, r26, r27, r28, r29, r30, r31, r32, r33, r34, r35, r36, r37, r38, r39, r40, r41, r42, r43, r44⟩⟩⟩ := w.1 42 (by decide)
  exact gR_of e rfl
theorem gR_42_35 (w : WT n b L xs τ g h) : gR h (n + 42) 12 35 = some (n + 67) := by
  obtain ⟨c, e, ⟨i, rfl, ⟨r0, r1, r2, r3, r4, r5, r6, r7, r8, r9, r10, r11, r12, r13, r14, r15, r16, r17, r18, r19, r20, r21, r22, r23, r24, r25, r26, r27, r28, r29, r30, r31, r32, r33, r34, r35, r36, r37, r38, r39, r40, r41, r42, r43, r44⟩⟩⟩ := w.1 42 (by decide)
  exact gR_of e rfl
theorem gR_42_36 (w : WT n b L xs τ g h) : gR h (n + 42) 12 36 = some (n + 68) := by
  obtain ⟨c, e, ⟨i, rfl, ⟨r0, r1, r2, r3, r4, r5, r6, r7, r8, r9, r10, r11, r12, r13, r14, r15, r16, r17, r18, r19, r20, r21, r22, r23, r24, r25, r26, r27, r28, r29, r30, r31, r32, r33, r34, r35, r36, r37, r38, r39, r40, r41, r42, r43, r44⟩⟩⟩ := w.1 42 (by decide)
  exact gR_of e rfl
theorem gR_42_37 (w : WT n b L xs τ g h) : gR h (n + 42) 12 37 = some (n + 69) := by
  obtain ⟨c, e, ⟨i, rfl, ⟨r0, r1, r2, r3, r4, r5, r6, r7, r8, r9, r10, r11, r12, r13, r14, r15, r16, r17, r18, r19, r20, r21, r22, r23, r24, r25, r26, r27, r28, r29, r30, r31, r32, r33, r34, r35, r36, r37, r38, r39, r40, r41, r42, r43, r44⟩⟩⟩ := w.1 42 (by decide)
  exact gR_of e rfl
theorem gR_42_38 (w : WT n b L xs τ g h) : gR h (n + 42) 12 38 = some (n + 70) := by
  obtain ⟨c, e, ⟨i, rfl, ⟨r0, r1, r2, r3, r4, r5, r6, r7, r8, r9, r10, r11, r12, r13, r14, r15, r16, r17, r18, r19, r20, r21, r22, r23, r24, r25, r26, r27, r28, r29, r30, r31, r32, r33, r34, r35, r36, r37, r38, r39, r40, r41, r42, r43, r44⟩⟩⟩ := w.1 42 (by decide)
  exact gR_of e rfl
theorem gR_42_39 (w : WT n b L xs τ g h) : gR h (n + 42) 12 39 = some (n + 71) := by
  obtain ⟨c, e, ⟨i, rfl, ⟨r0, r1, r2, r3, r4, r5, r6, r7, r8, r9, r10, r11, r12, r13, r14, r15, r16, r17, r18, r19, r20, r21, r22, r23, r24, r25, r26, r27, r28, r29, r30, r31, r32, r33, r34, r35, r36, r37, r38, r39, r40, r41, r42, r43, r44⟩⟩⟩ := w.1 42 (by decide)
  exact gR_of e rfl
theorem gR_42_40 (w : WT n b L xs τ g h) : gR h (n + 42) 12 40 = some (n + 72) := by
  obtain ⟨c, e, ⟨i, rfl, ⟨r0, r1, r2, r3, r4, r5, r6, r7, r8, r9, r10, r11, r12, r13, r14, r15, r16, r17, r18, r19, r20, r21, r22, r23, r24, r25, r26, r27, r28, r29, r30, r31, r32, r33, r34, r35, r36, r37, r38, r39, r40, r41, r42, r43, r44⟩⟩⟩ := w.1 42 (by decide)
  exact gR_of e rfl
theorem gR_42_41 (w : WT n b L xs τ g h) : gR h (n + 42) 12 41 = some (n + 73) := by
  obtain ⟨c, e, ⟨i, rfl, ⟨r0, r1, r2, r3, r4, r5, r6, r7, r8, r9, r10, r11, r12, r13, r14, r15, r16, r17, r18, r19, r20, r21, r22, r23, r24, r25, r26, r27, r28, r29, r30, r31, r32, r33, r34, r35, r36, r37, r38, r39, r40, r41, r42, r43, r44⟩⟩⟩ := w.1 42 (by decide)
  exact gR_of e rfl
theorem gI_42_42 (w : WT n b L xs τ g h) : wp (gI h (n + 42) 12 42) (fun x => 0 ≤ x ∧ x ≤ 60) := by
  obtain ⟨c, e, ⟨i, rfl, ⟨r0, r1, r2, r3, r4, r5, r6, r7, r8, r9, r10, r11, r12, r13, r14, r15, r16, r17, r18, r19, r20, r21, r22, r23, r24, r25, r26, r27, r28, r29, r30, r31, r32, r33, r34, r35, r36, r37, r38, r39, r40, r41, r42, r43, r44⟩⟩⟩ := w.1 42 (by decide)
  exact ⟨_, gI_of e rfl, ⟨r27, r28⟩⟩
theorem pI_42_42 {x : Int32} (w : WT n b L xs τ g h) (z0 : 0 ≤ x) (z1 : x ≤ 60) : wp (pF h (n + 42) 12 42 (.int x)) (fun h2 => WT n b L xs τ g h2) := by
  obtain ⟨c, e, ⟨i, rfl, ⟨r0, r1, r2, r3, r4, r5, r6, r7, r8, r9, r10, r11, r12, r13, r14, r15, r16, r17, r18, r19, r20, r21, r22, r23, r24, r25, r26, r27, r28, r29, r30, r31, r32, r33, r34, r35, r36, r37, r38, r39, r40, r41, r42, r43, r44⟩⟩⟩ := w.1 42 (by decide)
  exact ⟨_, pF_of e (Nat.le_of_ble_eq_true rfl), w.set (j := 42) (by decide) ⟨upd i 42 x, rfl, ⟨r0, r1, r2, r3, r4, r5, r6, r7, r8, r9, r10, r11, r12, r13, r14, r15, r16, r17, r18, r19, r20, r21, r22, r23, r24, r25, r26, z0, z1, r29, r30, r31, r32, r33, r34, r35, r36, r37, r38, r39, r40, r41, r42, r43, r44⟩⟩⟩
theorem gI_42_43 (w : WT n b L xs τ g h) : wp (gI h (n + 42) 12 43) (fun x => 0 ≤ x ∧ x ≤ 1) := by
  obtain ⟨c, e, ⟨i, rfl, ⟨r0, r1, r2, r3, r4, r5, r6, r7, r8, r9, r10, r11, r12, r13, r14, r15, r16, r17, r18, r19, r20, r21, r22, r23, r24, r25, r26, r27, r28, r29, r30, r31, r32, r33, r34, r35, r36, r37, r38, r39, r40, r41, r42, r43, r44⟩⟩⟩ := w.1 42 (by decide)
  exact ⟨_, gI_of e rfl, ⟨r29, r30⟩⟩
theorem pI_42_43 {x : Int32} (w : WT n b L xs τ g h) (z0 : 0 ≤ x) (z1 : x ≤ 1) : wp (pF h (n + 42) 12 43 (.int x)) (fun h2 => WT n b L xs τ g h2) := by
  obtain ⟨c, e, ⟨i, rfl, ⟨r0, r1, r2, r3, r4, r5, r6, r7, r8, r9, r10, r11, r12, r13, r14, r15, r16, r17, r18, r19, r20, r21, r22, r23, r24, r25, r26, r27, r28, r29, r30, r31, r32, r33, r34, r35, r36, r37, r38, r39, r40, r41, r42, r43, r44⟩⟩⟩ := w.1 42 (by decide)
  exact ⟨_, pF_of e (Nat.le_of_ble_eq_true rfl), w.set (j := 42) (by decide) ⟨upd i 43 x, rfl, ⟨r0, r1, r2, r3, r4, r5, r6, r7, r8, r9, r10, r11, r12, r13, r14, r15, r16, r17, r18, r19, r20, r21, r22, r23, r24, r25, r26, r27, r28, z0, z1, r31, r32, r33, r34, r35, r36, r37, r38, r39, r40, r41, r42, r43, r44⟩⟩⟩
theorem pZ_42_43 {x : Int32} (w : WT n b L xs τ g h) (z : x = 0 ∨ x = 1) : wp (pZ h (n + 42) 12 43 x) (fun h2 => WT n b L xs τ g h2) := by
  unfold pZ
  rw [if_pos z]
  exact pI_42_43 w (by rcases z with rfl | rfl <;> decide) (by rcases z with rfl | rfl <;> decide)
theorem gI_42_44 (w : WT n b L xs τ g h) : wp (gI h (n + 42) 12 44) (fun x => True) := by
  obtain ⟨c, e, ⟨i, rfl, ⟨r0, r1, r2, r3, r4, r5, r6, r7, r8, r9, r10, r11, r12, r13, r14, r15, r16, r17, r18, r19, r20, r21, r22, r23, r24, r25, r26, r27, r28, r29, r30, r31, r32, r33, r34, r35, r36, r37, r38, r39, r40, r41, r42, r43, r44⟩⟩⟩ := w.1 42 (by decide)
  exact ⟨_, gI_of e rfl, trivial⟩
theorem pI_42_44 {x : Int32} (w : WT n b L xs τ g h) : wp (pF h (n + 42) 12 44 (.int x)) (fun h2 => WT n b L xs τ g h2) := by
  obtain ⟨c, e, ⟨i, rfl, ⟨r0, r1, r2, r3, r4, r5, r6, r7, r8, r9, r10, r11, r12, r13, r14, r15, r16, r17, r18, r19, r20, r21, r22, r23, r24, r25, r26, r27, r28, r29, r30, r31, r32, r33, r34, r35, r36, r37, r38, r39, r40, r41, r42, r43, r44⟩⟩⟩ := w.1 42 (by decide)
  exact ⟨_, pF_of e (Nat.le_of_ble_eq_true rfl), w.set (j := 42) (by decide) ⟨upd i 44 x, rfl, ⟨r0, r1, r2, r3, r4, r5, r6, r7, r8, r9, r10, r11, r12, r13, r14, r15, r16, r17, r18, r19, r20, r21, r22, r23, r24, r25, r26, r27, r28, r29, r30, r31, r32, r33, r34, r35, r36, r37, r38, r39, r40, r41, r42, r43, r44⟩⟩⟩
theorem gI_42_45 (w : WT n b L xs τ g h) : wp (gI h (n + 42) 12 45) (fun x => True) := by
  obtain ⟨c, e, ⟨i, rfl, ⟨r0, r1, r2, r3, r4, r5, r6, r7, r8, r9, r10, r11, r12, r13, r14, r15, r16, r17, r18, r19, r20, r21, r22, r23, r24, r25, r26, r27, r28, r29, r30, r31, r32, r33, r34, r35, r36, r37, r38, r39, r40, r41, r42, r43, r44⟩⟩⟩ := w.1 42 (by decide)
  exact ⟨_, gI_of e rfl, trivial⟩
theorem pI_42_45 {x : Int32} (w : WT n b L xs τ g h) : wp (pF h (n + 42) 12 45 (.int x)) (fun h2 => WT n b L xs τ g h2) := by
  obtain ⟨c, e, ⟨i, rfl, ⟨r0, r1, r2, r3, r4, r5, r6, r7, r8, r9, r10, r11, r12, r13, r14, r15, r16, r17, r18, r19, r20, r21, r22, r23, r24, r25, r26, r27, r28, r29, r30, r31, r32, r33, r34, r35, r36, r37, r38, r39, r40, r41, r42, r43, r44⟩⟩⟩ := w.1 42 (by decide)
  exact ⟨_, pF_of e (Nat.le_of_ble_eq_true rfl), w.set (j := 42) (by decide) ⟨upd i 45 x, rfl, ⟨r0, r1, r2, r3, r4, r5, r6, r7, r8, r9, r10, r11, r12, r13, r14, r15, r16, r17, r18, r19, r20, r21, r22, r23, r24, r25, r26, r27, r28, r29, r30, r31, r32, r33, r34, r35, r36, r37, r38, r39, r40, r41, r42, r43, r44⟩⟩⟩
theorem gI_42_46 (w : WT n b L xs τ g h) : wp (gI h (n + 42) 12 46) (fun x => True) := by
  obtain ⟨c, e, ⟨i, rfl, ⟨r0, r1, r2, r3, r4, r5, r6, r7, r8, r9, r10, r11, r12, r13, r14, r15, r16, r17, r18, r19, r20, r21, r22, r23, r24, r25, r26, r27, r28, r29, r30, r31, r32, r33, r34, r35, r36, r37, r38, r39, r40, r41, r42, r43, r44⟩⟩⟩ := w.1 42 (by decide)
  exact ⟨_, gI_of e rfl, trivial⟩
theorem pI_42_46 {x : Int32} (w : WT n b L xs τ g h) : wp (pF h (n + 42) 12 46 (.int x)) (fun h2 => WT n b L xs τ g h2) := by
  obtain ⟨c, e, ⟨i, rfl, ⟨r0, r1, r2, r3, r4, r5, r6, r7, r8, r9, r10, r11, r12, r13, r14, r15, r16, r17, r18, r19, r20, r21, r22, r23, r24, r25, r26, r27, r28, r29, r30, r31, r32, r33, r34, r35, r36, r37, r38, r39, r40, r41, r42, r43, r44⟩⟩⟩ := w.1 42 (by decide)
  exact ⟨_, pF_of e (Nat.le_of_ble_eq_true rfl), w.set (j := 42) (by decide) ⟨upd i 46 x, rfl, ⟨r0, r1, r2, r3, r4, r5, r6, r7, r8, r9, r10, r11, r12, r13, r14, r15, r16, r17, r18, r19, r20, r21, r22, r23, r24, r25, r26, r27, r28, r29, r30, r31, r32, r33, r34, r35, r36, r37, r38, r39, r40, r41, r42, r43, r44⟩⟩⟩
theorem gI_42_47 (w : WT n b L xs τ g h) : wp (gI h (n + 42) 12 47) (fun x => True) := by
  obtain ⟨c, e, ⟨i, rfl, ⟨r0, r1, r2, r3, r4, r5, r6, r7, r8, r9, r10, r11, r12, r13, r14, r15, r16, r17, r18, r19, r20, r21, r22, r23, r24, r25, r26, r27, r28, r29, r30, r31, r32, r33, r34, r35, r36, r37, r38, r39, r40, r41, r42, r43, r44⟩⟩⟩ := w.1 42 (by decide)
  exact ⟨_, gI_of e rfl, trivial⟩
theorem pI_42_47 {x : Int32} (w : WT n b L xs τ g h) : wp (pF h (n + 42) 12 47 (.int x)) (fun h2 => WT n b L xs τ g h2) := by
  obtain ⟨c, e, ⟨i, rfl, ⟨r0, r1, r2, r3, r4, r5, r6, r7, r8, r9, r10, r11, r12, r13, r14, r15, r16, r17, r18, r19, r20, r21, r22, r23, r24, r25, r26, r27, r28, r29, r30, r31, r32, r33, r34, r35, r36, r37, r38, r39, r40, r41, r42, r43, r44⟩⟩⟩ := w.1 42 (by decide)
  exact ⟨_, pF_of e (Nat.le_of_ble_eq_true rfl), w.set (j := 42) (by decide) ⟨upd i 47 x, rfl, ⟨r0, r1, r2, r3, r4, r5, r6, r7, r8, r9, r10, r11, r12, r13, r14, r15, r16, r17, r18, r19, r20, r21, r22, r23, r24, r25, r26, r27, r28, r29, r30, r31, r32, r33, r34, r35, r36, r37, r38, r39, r40, r41, r42, r43, r44⟩⟩⟩
theorem gI_42_48 (w : WT n b L xs τ g h) : wp (gI h (n + 42) 12 48) (fun x => True) := by
  obtain ⟨c, e, ⟨i, rfl, ⟨r0, r1, r2, r3, r4, r5, r6, r7, r8, r9, r10, r11, r12, r13, r14, r15, r16, r17, r18, r19, r20, r21, r22, r23, r24, r25, r26, r27, r28, r29, r30, r31, r32, r33, r34, r35, r36, r37, r38, r39, r40, r41, r42, r43, r44⟩⟩⟩ := w.1 42 (by decide)
  exact ⟨_, gI_of e rfl, trivial⟩
theorem pI_42_48 {x : Int32} (w : WT n b L xs τ g h) : wp (pF h (n + 42) 12 48 (.int x)) (fun h2 => WT n b L xs τ g h2) := by
  obtain ⟨c, e, ⟨i, rfl, ⟨r0, r1, r2, r3, r4, r5, r6, r7, r8, r9, r10, r11, r12, r13, r14, r15, r16, r17, r18, r19, r20, r21, r22, r23, r24, r25, r26, r27, r28, r29, r30, r31, r32, r33, r34, r35, r36, r37, r38, r39, r40, r41, r42, r43, r44⟩⟩⟩ := w.1 42 (by decide)
  exact ⟨_, pF_of e (Nat.le_of_ble_eq_true rfl), w.set (j := 42) (by decide) ⟨upd i 48 x, rfl, ⟨r0, r1, r2, r3, r4, r5, r6, r7, r8, r9, r10, r11, r12, r13, r14, r15, r16, r17, r18, r19, r20, r21, r22, r23, r24, r25, r26, r27, r28, r29, r30, r31, r32, r33, r34, r35, r36, r37, r38, r39, r40, r41, r42, r43, r44⟩⟩⟩
theorem gI_42_49 (w : WT n b L xs τ g h) : wp (gI h (n + 42) 12 49) (fun x => x = g.1 42 49 ∧ 0 ≤ x ∧ x ≤ 80) := by
  obtain ⟨c, e, ⟨i, rfl, ⟨r0, r1, r2, r3, r4, r5, r6, r7, r8, r9, r10, r11, r12, r13, r14, r15, r16, r17, r18, r19, r20, r21, r22, r23, r24, r25, r26, r27, r28, r29, r30, r31, r32, r33, r34, r35, r36, r37, r38, r39, r40, r41, r42, r43, r44⟩⟩⟩ := w.1 42 (by decide)
  exact ⟨_, gI_of e rfl, ⟨r31, r32, r33⟩⟩
theorem pI_42_49 {x : Int32} (w : WT n b L xs τ g h) (z0 : 0 ≤ x) (z1 : x ≤ 80) : wp (pF h (n + 42) 12 49 (.int x)) (fun h2 => WT n b L xs τ (gset g 42 49 x) h2) := by
  obtain ⟨c, e, ⟨i, rfl, ⟨r0, r1, r2, r3, r4, r5, r6, r7, r8, r9, r10, r11, r12, r13, r14, r15, r16, r17, r18, r19, r20, r21, r22, r23, r24, r25, r26, r27, r28, r29, r30, r31, r32, r33, r34, r35, r36, r37, r38, r39, r40, r41, r42, r43, r44⟩⟩⟩ := w.1 42 (by decide)
  exact ⟨_, pF_of e (Nat.le_of_ble_eq_true rfl), w.put (j := 42) (by decide) ⟨upd i 49 x, rfl, ⟨r0, r1, r2, r3, r4, r5, r6, r7, r8, r9, r10, r11, r12, r13, r14, r15, r16, r17, r18, r19, r20, r21, r22, r23, r24, r25, r26, r27, r28, r29, r30, rfl, z0, z1, r34, r35, r36, r37, r38, r39, r40, r41, r42, r43, r44⟩⟩ (fun q hq => gset_ne hq)⟩
theorem gR_42_50 (w : WT n b L xs τ g h) : gR h (n + 42) 12 50 = some (n + 74) := by
  obtain ⟨c, e, ⟨i, rfl, ⟨r0, r1, r2, r3, r4, r5, r6, r7, r8, r9, r10, r11, r12, r13, r14, r15, r16, r17, r18, r19, r20, r21, r22, r23, r24, r25, r26, r27, r28, r29, r30, r31, r32, r33, r34, r35, r36, r37, r38, r39, r40, r41, r42, r43, r44⟩⟩⟩ := w.1 42 (by decide)
  exact gR_of e rfl
theorem gR_42_51 (w : WT n b L xs τ g h) : gR h (n + 42) 12 51 = some (n + 75) := by
  obtain ⟨c, e, ⟨i, rfl, ⟨r0, r1, r2, r3, r4, r5, r6, r7, r8, r9, r10, r11, r12, r13, r14, r15, r16, r17, r18, r19, r20, r21, r22, r23, r24, r25, r26, r27, r28, r29, r30, r31, r32, r33, r34, r35, r36, r37, r38, r39, r40, r41, r42, r43, r44⟩⟩⟩ := w.1 42 (by decide)
  exact gR_of e rfl
theorem gR_42_52 (w : WT n b L xs τ g h) : gR h (n + 42) 12 52 = some (n + 76) := by
  obtain ⟨c, e, ⟨i, rfl, ⟨r0, r1, r2, r3, r4, r5, r6, r7, r8, r9, r10, r11, r12, r13, r14, r15, r16, r17, r18, r19, r20, r21, r22, r23, r24, r25, r26, r27, r28, r29, r30, r31, r32, r33, r34, r35, r36, r37, r38, r39, r40, r41, r42, r43, r44⟩⟩⟩ := w.1 42 (by decide)
  exact gR_of e rfl
theorem gR_42_53 (w : WT n b L xs τ g h) : gR h (n + 42) 12 53 = some (n + 77) := by
  obtain ⟨c, e, ⟨i, rfl, ⟨r0, r1, r2, r3, r4, r5, r6, r7, r8, r9, r10, r11, r12, r13, r14, r15, r16, r17, r18, r19, r20, r21, r22, r23, r24, r25, r26, r27, r28, r29, r30, r31, r32, r33, r34, r35, r36, r37, r38, r39, r40, r41, r42, r43, r44⟩⟩⟩ := w.1 42 (by decide)
  exact gR_of e rfl
theorem gR_42_54 (w : WT n b L xs τ g h) : gR h (n + 42) 12 54 = some (n + 78) := by
  obtain ⟨c, e, ⟨i, rfl, ⟨r0, r1, r2, r3, r4, r5, r6, r7, r8, r9, r10, r11, r12, r13, r14, r15, r16, r17, r18, r19, r20, r21, r22, r23, r24, r25, r26, r27, r28, r29, r30, r31, r32, r33, r34, r35, r36, r37, r38, r39, r40, r41, r42, r43, r44⟩⟩⟩ := w.1 42 (by decide)
  exact gR_of e rfl
theorem gR_42_55 (w : WT n b L xs τ g h) : gR h (n + 42) 12 55 = some (n + 79) := by
  obtain ⟨c, e, ⟨i, rfl, ⟨r0, r1, r2, r3, r4, r5, r6, r7, r8, r9, r10, r11, r12, r13, r14, r15, r16, r17, r18, r19, r20, r21, r22, r23, r24, r25, r26, r27, r28, r29, r30, r31, r32, r33, r34, r35, r36, r37, r38, r39, r40, r41, r42, r43, r44⟩⟩⟩ := w.1 42 (by decide)
  exact gR_of e rfl
theorem gR_42_56 (w : WT n b L xs τ g h) : gR h (n + 42) 12 56 = some (n + 80) := by
  obtain ⟨c, e, ⟨i, rfl, ⟨r0, r1, r2, r3, r4, r5, r6, r7, r8, r9, r10, r11, r12, r13, r14, r15, r16, r17, r18, r19, r20, r21, r22, r23, r24, r25, r26, r27, r28, r29, r30, r31, r32, r33, r34, r35, r36, r37, r38, r39, r40, r41, r42, r43, r44⟩⟩⟩ := w.1 42 (by decide)
  exact gR_of e rfl
theorem gR_42_57 (w : WT n b L xs τ g h) : gR h (n + 42) 12 57 = some (n + 81) := by
  obtain ⟨c, e, ⟨i, rfl, ⟨r0, r1, r2, r3, r4, r5, r6, r7, r8, r9, r10, r11, r12, r13, r14, r15, r16, r17, r18, r19, r20, r21, r22, r23, r24, r25, r26, r27, r28, r29, r30, r31, r32, r33, r34, r35, r36, r37, r38, r39, r40, r41, r42, r43, r44⟩⟩⟩ := w.1 42 (by decide)
  exact gR_of e rfl
theorem gR_42_58 (w : WT n b L xs τ g h) : gR h (n + 42) 12 58 = some (n + 82) := by
  obtain ⟨c, e, ⟨i, rfl, ⟨r0, r1, r2, r3, r4, r5, r6, r7, r8, r9, r10, r11, r12, r13, r14, r15, r16, r17, r18, r19, r20, r21, r22, r23, r24, r25, r26, r27, r28, r29, r30, r31, r32, r33, r34, r35, r36, r37, r38, r39, r40, r41, r42, r43, r44⟩⟩⟩ := w.1 42 (by decide)
  exact gR_of e rfl
theorem gR_42_59 (w : WT n b L xs τ g h) : gR h (n + 42) 12 59 = some (n + 83) := by
  obtain ⟨c, e, ⟨i, rfl, ⟨r0, r1, r2, r3, r4, r5, r6, r7, r8, r9, r10, r11, r12, r13, r14, r15, r16, r17, r18, r19, r20, r21, r22, r23, r24, r25, r26, r27, r28, r29, r30, r31, r32, r33, r34, r35, r36, r37, r38, r39, r40, r41, r42, r43, r44⟩⟩⟩ := w.1 42 (by decide)
  exact gR_of e rfl
theorem gR_42_60 (w : WT n b L xs τ g h) : gR h (n + 42) 12 60 = some (n + 84) := by
  obtain ⟨c, e, ⟨i, rfl, ⟨r0, r1, r2, r3, r4, r5, r6, r7, r8, r9, r10, r11, r12, r13, r14, r15, r16, r17, r18, r19, r20, r21, r22, r23, r24, r25, r26, r27, r28, r29, r30, r31, r32, r33, r34, r35, r36, r37, r38, r39, r40, r41, r42, r43, r44⟩⟩⟩ := w.1 42 (by decide)
  exact gR_of e rfl
theorem gR_42_61 (w : WT n b L xs τ g h) : gR h (n + 42) 12 61 = some (n + 85) := by
  obtain ⟨c, e, ⟨i, rfl, ⟨r0, r1, r2, r3, r4, r5, r6, r7, r8, r9, r10, r11, r12, r13, r14, r15, r16, r17, r18, r19, r20, r21, r22, r23, r24, r25, r26, r27, r28, r29, r30, r31, r32, r33, r34, r35, r36, r37, r38, r39, r40, r41, r42, r43, r44⟩⟩⟩ := w.1 42 (by decide)
  exact gR_of e rfl
theorem gR_42_62 (w : WT n b L xs τ g h) : gR h (n + 42) 12 62 = some (n + 86) := by
  obtain ⟨c, e, ⟨i, rfl, ⟨r0, r1, r2, r3, r4, r5, r6, r7, r8, r9, r10, r11, r12, r13, r14, r15, r16, r17, r18, r19, r20, r21, r22, r23, r24, r25, r26, r27, r28, r29, r30, r31, r32, r33, r34, r35, r36, r37, r38, r39, r40, r41, r42, r43, r44⟩⟩⟩ := w.1 42 (by decide)
  exact gR_of e rfl
theorem gI_42_63 (w : WT n b L xs τ g h) : wp (gI h (n + 42) 12 63) (fun x => x = g.1 42 63 ∧ (-1) ≤ x ∧ x ≤ 255) := by
  obtain ⟨c, e, ⟨i, rfl, ⟨r0, r1, r2, r3, r4, r5, r6, r7, r8, r9, r10, r11, r12, r13, r14, r15, r16, r17, r18, r19, r20, r21, r22, r23, r24, r25, r26, r27, r28, r29, r30, r31, r32, r33, r34, r35, r36, r37, r38, r39, r40, r41, r42, r43, r44⟩⟩⟩ := w.1 42 (by decide)
  exact ⟨_, gI_of e rfl, ⟨r34, r35, r36⟩⟩
theorem pI_42_63 {x : Int32} (w : WT n b L xs τ g h) (z0 : (-1) ≤ x) (z1 : x ≤ 255) : wp (pF h (n + 42) 12 63 (.int x)) (fun h2 => WT n b L xs τ (gset g 42 63 x) h2) := by
  obtain ⟨c, e, ⟨i, rfl, ⟨r0, r1, r2, r3, r4, r5, r6, r7, r8, r9, r10, r11, r12, r13, r14, r15, r16, r17, r18, r19, r20, r21, r22, r23, r24, r25, r26, r27, r28, r29, r30, r31, r32, r33, r34, r35, r36, r37, r38, r39, r40, r41, r42, r43, r44⟩⟩⟩ := w.1 42 (by decide)
  exact ⟨_, pF_of e (Nat.le_of_ble_eq_true rfl), w.put (j := 42) (by decide) ⟨upd i 63 x, rfl, ⟨r0, r1, r2, r3, r4, r5, r6, r7, r8, r9, r10, r11, r12, r13, r14, r15, r16, r17, r18, r19, r20, r21, r22, r23, r24, r25, r26, r27, r28, r29, r30, r31, r32, r33, rfl, z0, z1, r37, r38, r39, r40, r41, r42, r43, r44⟩⟩ (fun q hq => gset_ne hq)⟩
theorem gI_42_64 (w : WT n b L xs τ g h) : wp (gI h (n + 42) 12 64) (fun x => x = g.1 42 64) := by
  obtain ⟨c, e, ⟨i, rfl, ⟨r0, r1, r2, r3, r4, r5, r6, r7, r8, r9, r10, r11, r12, r13, r14, r15, r16, r17, r18, r19, r20, r21, r22, r23, r24, r25, r26, r27, r28, r29, r30, r31, r32, r33, r34, r35, r36, r37, r38, r39, r40, r41, r42, r43, r44⟩⟩⟩ := w.1 42 (by decide)
  exact ⟨_, gI_of e rfl, r37⟩
theorem pI_42_64 {x : Int32} (w : WT n b L xs τ g h) : wp (pF h (n + 42) 12 64 (.int x)) (fun h2 => WT n b L xs τ (gset g 42 64 x) h2) := by
  obtain ⟨c, e, ⟨i, rfl, ⟨r0, r1, r2, r3, r4, r5, r6, r7, r8, r9, r10, r11, r12, r13, r14, r15, r16, r17, r18, r19, r20, r21, r22, r23, r24, r25, r26, r27, r28, r29, r30, r31, r32, r33, r34, r35, r36, r37, r38, r39, r40, r41, r42, r43, r44⟩⟩⟩ := w.1 42 (by decide)
  exact ⟨_, pF_of e (Nat.le_of_ble_eq_true rfl), w.put (j := 42) (by decide) ⟨upd i 64 x, rfl, ⟨r0, r1, r2, r3, r4, r5, r6, r7, r8, r9, r10, r11, r12, r13, r14, r15, r16, r17, r18, r19, r20, r21, r22, r23, r24, r25, r26, r27, r28, r29, r30, r31, r32, r33, r34, r35, r36, rfl, r38, r39, r40, r41, r42, r43, r44⟩⟩ (fun q hq => gset_ne hq)⟩
theorem gI_42_65 (w : WT n b L xs τ g h) : wp (gI h (n + 42) 12 65) (fun x => x = g.1 42 65) := by
  obtain ⟨c, e, ⟨i, rfl, ⟨r0, r1, r2, r3, r4, r5, r6, r7, r8, r9, r10, r11, r12, r13, r14, r15, r16, r17, r18, r19, r20, r21, r22, r23, r24, r25, r26, r27, r28, r29, r30, r31, r32, r33, r34, r35, r36, r37, r38, r39, r40, r41, r42, r43, r44⟩⟩⟩ := w.1 42 (by decide)
  exact ⟨_, gI_of e rfl, r38⟩
theorem pI_42_65 {x : Int32} (w : WT n b L xs τ g h) : wp (pF h (n + 42) 12 65 (.int x)) (fun h2 => WT n b L xs τ (gset g 42 65 x) h2) := by
  obtain ⟨c, e, ⟨i, rfl, ⟨r0, r1, r2, r3, r4, r5, r6, r7, r8, r9, r10, r11, r12, r13, r14, r15, r16, r17, r18, r19, r20, r21, r22, r23, r24, r25, r26, r27, r28, r29, r30, r31, r32, r33, r34, r35, r36, r37, r38, r39, r40, r41, r42, r43, r44⟩⟩⟩ := w.1 42 (by decide)
  exact ⟨_, pF_of e (Nat.le_of_ble_eq_true rfl), w.put (j := 42) (by decide) ⟨upd i 65 x, rfl, ⟨r0, r1, r2, r3, r4, r5, r6, r7, r8, r9, r10, r11, r12, r13, r14, r15, r16, r17, r18, r19, r20, r21, r22, r23, r24, r25, r26, r27, r28, r29, r30, r31, r32, r33, r34, r35, r36, r37, rfl, r39, r40, r41, r42, r43, r44⟩⟩ (fun q hq => gset_ne hq)⟩
theorem gR_42_66 (w : WT n b L xs τ g h) : gR h (n + 42) 12 66 = some (n + 87) := by
  obtain ⟨c, e, ⟨i, rfl, ⟨r0, r1, r2, r3, r4, r5, r6, r7, r8, r9, r10, r11, r12, r13, r14, r15, r16, r17, r18, r19, r20, r21, r22, r23, r24, r25, r26, r27, r28, r29, r30, r31, r32, r33, r34, r35, r36, r37, r38, r39, r40, r41, r42, r43, r44⟩⟩⟩ := w.1 42 (by decide)
  exact gR_of e rfl
theorem gI_42_67 (w : WT n b L xs τ g h) : wp (gI h (n + 42) 12 67) (fun x => x = g.1 42 67 ∧ 0 ≤ x ∧ x ≤ 8) := by
  obtain ⟨c, e, ⟨i, rfl, ⟨r0, r1, r2, r3, r4, r5, r6, r7, r8, r9, r10, r11, r12, r13, r14, r15, r16, r17, r18, r19, r20, r21, r22, r23, r24, r25, r26, r27, r28, r29, r30, r31, r32, r33, r34, r35, r36, r37, r38, r39, r40, r41, r42, r43, r44⟩⟩⟩ := w.1 42 (by decide)
  exact ⟨_, gI_of e rfl, ⟨r39, r40, r41⟩⟩
theorem pI_42_67 {x : Int32} (w : WT n b L xs τ g h) (z0 : 0 ≤ x) (z1 : x ≤ 8) : wp (pF h (n + 42) 12 67 (.int x)) (fun h2 => WT n b L xs τ (gset g 42 67 x) h2) := by
  obtain ⟨c, e, ⟨i, rfl, ⟨r0, r1, r2, r3, r4, r5, r6, r7, r8, r9, r10, r11, r12, r13, r14, r15, r16, r17, r18, r19, r20, r21, r22, r23, r24, r25, r26, r27, r28, r29, r30, r31, r32, r33, r34, r35, r36, r37, r38, r39, r40, r41, r42, r43, r44⟩⟩⟩ := w.1 42 (by decide)
  exact ⟨_, pF_of e (Nat.le_of_ble_eq_true rfl), w.put (j := 42) (by decide) ⟨upd i 67 x, rfl, ⟨r0, r1, r2, r3, r4, r5, r6, r7, r8, r9, r10, r11, r12, r13, r14, r15, r16, r17, r18, r19, r20, r21, r22, r23, r24, r25, r26, r27, r28, r29, r30, r31, r32, r33, r34, r35, r36, r37, r38, rfl, z0, z1, r42, r43, r44⟩⟩ (fun q hq => gset_ne hq)⟩
theorem gR_42_68 (w : WT n b L xs τ g h) : gR h (n + 42) 12 68 = some (n + 88) := by
  obtain ⟨c, e, ⟨i, rfl, ⟨r0, r1, r2, r3, r4, r5, r6, r7, r8, r9, r10, r11, r12, r13, r14, r15, r16, r17, r18, r19, r20, r21, r22, r23, r24, r25, r26, r27, r28, r29, r30, r31, r32, r33, r34, r35, r36, r37, r38, r39, r40, r41, r42, r43, r44⟩⟩⟩ := w.1 42 (by decide)
  exact gR_of e rfl
theorem gR_42_69 (w : WT n b L xs τ g h) : gR h (n + 42) 12 69 = some (n + 89) := by
  obtain ⟨c, e, ⟨i, rfl, ⟨r0, r1, r2, r3, r4, r5, r6, r7, r8, r9, r10, r11, r12, r13, r14, r15, r16, r17, r18, r19, r20, r21, r22, r23, r24, r25, r26, r27, r28, r29, r30, r31, r32, r33, r34, r35, r36, r37, r38, r39, r40, r41, r42, r43, r44⟩⟩⟩ := w.1 42 (by decide)
  exact gR_of e rfl
theorem gR_42_70 (w : WT n b L xs τ g h) : gR h (n + 42) 12 70 = some (n + 90) := by
  obtain ⟨c, e, ⟨i, rfl, ⟨r0, r1, r2, r3, r4, r5, r6, r7, r8, r9, r10, r11, r12, r13, r14, r15, r16, r17, r18, r19, r20, r21, r22, r23, r24, r25, r26, r27, r28, r29, r30, r31, r32, r33, r34, r35, r36, r37, r38, r39, r40, r41, r42, r43, r44⟩⟩⟩ := w.1 42 (by decide)
  exact gR_of e rfl
theorem gR_42_71 (w : WT n b L xs τ g h) : gR h (n + 42) 12 71 = some (n + 91) := by
  obtain ⟨c, e, ⟨i, rfl, ⟨r0, r1, r2, r3, r4, r5, r6, r7, r8, r9, r10, r11, r12, r13, r14, r15, r16, r17, r18, r19, r20, r21, r22, r23, r24, r25, r26, r27, r28, r29, r30, r31, r32, r33, r34, r35, r36, r37, r38, r39, r40, r41, r42, r43, r44⟩⟩⟩ := w.1 42 (by decide)
  exact gR_of e rfl
theorem gR_42_72 (w : WT n b L xs τ g h) : gR h (n + 42) 12 72 = some (n + 92) := by
  obtain ⟨c, e, ⟨i, rfl, ⟨r0, r1, r2, r3, r4, r5, r6, r7, r8, r9, r10, r11, r12, r13, r14, r15, r16, r17, r18, r19, r20, r21, r22, r23, r24, r25, r26, r27, r28, r29, r30, r31, r32, r33, r34, r35, r36, r37, r38, r39, r40, r41, r42, r43, r44⟩⟩⟩ := w.1 42 (by decide)
  exact gR_of e rfl
theorem gR_42_73 (w : WT n b L xs τ g h) : gR h (n + 42) 12 73 = some (n + 93) := by
  obtain ⟨c, e, ⟨i, rfl, ⟨r0, r1, r2, r3, r4, r5, r6, r7, r8, r9, r10, r11, r12, r13, r14, r15, r16, r17, r18, r19, r20, r21, r22, r23, r24, r25, r26, r27, r28, r29, r30, r31, r32, r33, r34, r35, r36, r37, r38, r39, r40, r41, r42, r43, r44⟩⟩⟩ := w.1 42 (by decide)
  exact gR_of e rfl
theorem gR_42_74 (w : WT n b L xs τ g h) : gR h (n + 42) 12 74 = some (n + 94) := by
  obtain ⟨c, e, ⟨i, rfl, ⟨r0, r1, r2, r3, r4, r5, r6, r7, r8, r9, r10, r11, r12, r13, r14, r15, r16, r17, r18, r19, r20, r21, r22, r23, r24, r25, r26, r27, r28, r29, r30, r31, r32, r33, r34, r35, r36, r37, r38, r39, r40, r41, r42, r43, r44⟩⟩⟩ := w.1 42 (by decide)
  exact gR_of e rfl
theorem gR_42_75 (w : WT n b L xs τ g h) : gR h (n + 42) 12 75 = some (n + 95) := by
  obtain ⟨c, e, ⟨i, rfl, ⟨r0, r1, r2, r3, r4, r5, r6, r7, r8, r9, r10, r11, r12, r13, r14, r15, r16, r17, r18, r19, r20, r21, r22, r23, r24, r25, r26, r27, r28, r29, r30, r31, r32, r33, r34, r35, r36, r37, r38, r39, r40, r41, r42, r43, r44⟩⟩⟩ := w.1 42 (by decide)
  exact gR_of e rfl
theorem gI_42_76 (w : WT n b L xs τ g h) : wp (gI h (n + 42) 12 76) (fun x => x = g.1 42 76 ∧ 0 ≤ x ∧ x ≤ 8) := by
  obtain ⟨c, e, ⟨i, rfl, ⟨r0, r1, r2, r3, r4, r5, r6, r7, r8, r9, r10, r11, r12, r13, r14, r15, r16, r17, r18, r19, r20, r21, r22, r23, r24, r25, r26, r27, r28, r29, r30, r31, r32, r33, r34, r35, r36, r37, r38, r39, r40, r41, r42, r43, r44⟩⟩⟩ := w.1 42 (by decide)
  exact ⟨_, gI_of e rfl, ⟨r42, r43, r44⟩⟩
theorem pI_42_76 {x : Int32} (w : WT n b L xs τ g h) (z0 : 0 ≤ x) (z1 : x ≤ 8) : wp (pF h (n + 42) 12 76 (.int x)) (fun h2 => WT n b L xs τ (gset g 42 76 x) h2) := by
  obtain ⟨c, e, ⟨i, rfl, ⟨r0, r1, r2, r3, r4, r5, r6, r7, r8, r9, r10, r11, r12, r13, r14, r15, r16, r17, r18, r19, r20, r21, r22, r23, r24, r25, r26, r27, r28, r29, r30, r31, r32, r33, r34, r35, r36, r37, r38, r39, r40, r41, r42, r43, r44⟩⟩⟩ := w.1 42 (by decide)
  exact ⟨_, pF_of e (Nat.le_of_ble_eq_true rfl), w.put (j := 42) (by decide) ⟨upd i 76 x, rfl, ⟨r0, r1, r2, r3, r4, r5, r6, r7, r8, r9, r10, r11, r12, r13, r14, r15, r16, r17, r18, r19, r20, r21, r22, r23, r24, r25, r26, r27, r28, r29, r30, r31, r32, r33, r34, r35, r36, r37, r38, r39, r40, r41, rfl, z0, z1⟩⟩ (fun q hq => gset_ne hq)⟩
theorem gR_42_77 (w : WT n b L xs τ g h) : gR h (n + 42) 12 77 = some (n + 96) := by
  obtain ⟨c, e, ⟨i, rfl, ⟨r0, r1, r2, r3, r4, r5, r6, r7, r8, r9, r10, r11, r12, r13, r14, r15, r16, r17, r18, r19, r20, r21, r22, r23, r24, r25, r26, r27, r28, r29, r30, r31, r32, r33, r34, r35, r36, r37, r38, r39, r40, r41, r42, r43, r44⟩⟩⟩ := w.1 42 (by decide)
  exact gR_of e rfl
theorem gR_42_78 (w : WT n b L xs τ g h) : gR h (n + 42) 12 78 = some (n + 97) := by
  obtain ⟨c, e, ⟨i, rfl, ⟨r0, r1, r2, r3, r4, r5, r6, r7, r8, r9, r10, r11, r12, r13, r14, r15, r16, r17, r18, r19, r20, r21, r22, r23, r24, r25, r26, r27, r28, r29, r30, r31, r32, r33, r34, r35, r36, r37, r38, r39, r40, r41, r42, r43, r44⟩⟩⟩ := w.1 42 (by decide)
  exact gR_of e rfl
theorem gR_42_79 (w : WT n b L xs τ g h) : gR h (n + 42) 12 79 = some (n + 98) := by
  obtain ⟨c, e, ⟨i, rfl, ⟨r0, r1, r2, r3, r4, r5, r6, r7, r8, r9, r10, r11, r12, r13, r14, r15, r16, r17, r18, r19, r20, r21, r22, r23, r24, r25, r26, r27, r28, r29, r30, r31, r32, r33, r34, r35, r36, r37, r38, r39, r40, r41, r42, r43, r44⟩⟩⟩ := w.1 42 (by decide)
  exact gR_of e rfl
theorem aN_43 (w : WT n b L xs τ g h) : aN h (n + 43) = some 1000 := by
  obtain ⟨c, e, ⟨f, rfl, r⟩⟩ := w.1 43 (by decide)
  exact aN_of e (by decide)
theorem aI_43 {i : Int32} (w : WT n b L xs τ g h) (i0 : 0 ≤ i) (i1 : i < 1000) : wp (aI h (n + 43) i) (fun x => True) := by
  obtain ⟨c, e, ⟨f, rfl, -⟩⟩ := w.1 43 (by decide)
  exact ⟨_, aI_to e (by decide) i0 i1, trivial⟩
theorem sI_43 {i x : Int32} (w : WT n b L xs τ g h) (i0 : 0 ≤ i) (i1 : i < 1000) : wp (sI h (n + 43) i x) (fun h2 => WT n b L xs τ g h2) := by
  obtain ⟨c, e, ⟨f, rfl, -⟩⟩ := w.1 43 (by decide)
  exact ⟨_, sI_to e (by decide) i0 i1, w.set (j := 43) (by decide) ⟨_, rfl, trivial⟩⟩
theorem aN_44 (w : WT n b L xs τ g h) : aN h (n + 44) = some 1002 := by
  obtain ⟨c, e, ⟨f, rfl, r⟩⟩ := w.1 44 (by decide)
  exact aN_of e (by decide)
theorem aI_44 {i : Int32} (w : WT n b L xs τ g h) (i0 : 0 ≤ i) (i1 : i < 1002) : wp (aI h (n + 44) i) (fun x => x = g.2.1 44 i.toNatClampNeg) := by
  obtain ⟨c, e, ⟨f, rfl, rfl⟩⟩ := w.1 44 (by decide)
  exact ⟨_, aI_to e (by decide) i0 i1, rfl⟩
theorem sI_44 {i x : Int32} (w : WT n b L xs τ g h) (i0 : 0 ≤ i) (i1 : i < 1002) : wp (sI h (n + 44) i x) (fun h2 => WT n b L xs τ (gsA g 44 (upd (g.2.1 44) i.toNatClampNeg x)) h2) := by
  obtain ⟨c, e, ⟨f, rfl, rfl⟩⟩ := w.1 44 (by decide)
  exact ⟨_, sI_to e (by decide) i0 i1, w.put (j := 44) (by decide) ⟨_, rfl, rfl⟩ (fun q hq => gsA_ne hq)⟩
theorem aN_45 (w : WT n b L xs τ g h) : aN h (n + 45) = some 1002 := by
  obtain ⟨c, e, ⟨f, rfl, r⟩⟩ := w.1 45 (by decide)
  exact aN_of e (by decide)
theorem aI_45 {i : Int32} (w : WT n b L xs τ g h) (i0 : 0 ≤ i) (i1 : i < 1002) : wp (aI h (n + 45) i) (fun x => 0 ≤ x ∧ x ≤ 1000) := by
  obtain ⟨c, e, ⟨f, rfl, r⟩⟩ := w.1 45 (by decide)
  exact ⟨_, aI_to e (by decide) i0 i1, ⟨(r _ (i32_clamp i0 (by decide) i1).2).1, (r _ (i32_clamp i0 (by decide) i1).2).2⟩⟩
theorem sI_45 {i x : Int32} (w : WT n b L xs τ g h) (i0 : 0 ≤ i) (i1 : i < 1002) (z0 : 0 ≤ x) (z1 : x ≤ 1000) : wp (sI h (n + 45) i x) (fun h2 => WT n b L xs τ g h2) := by
  obtain ⟨c, e, ⟨f, rfl, r⟩⟩ := w.1 45 (by decide)
  exact ⟨_, sI_to e (by decide) i0 i1, w.set (j := 45) (by decide) ⟨_, rfl, upd_all (P := fun x => 0 ≤ x ∧ x ≤ 1000) r ⟨z0, z1⟩⟩⟩
theorem aN_46 (w : WT n b L xs τ g h) : aN h (n + 46) = some 1002 := by
  obtain ⟨c, e, ⟨f, rfl, r⟩⟩ := w.1 46 (by decide)
  exact aN_of e (by decide)
theorem aL_46 {i : Int32} (w : WT n b L xs τ g h) (i0 : 0 ≤ i) (i1 : i < 1002) : wp (aL h (n + 46) i) (fun x => x = g.2.2 46 i.toNatClampNeg) := by
  obtain ⟨c, e, ⟨f, rfl, rfl⟩⟩ := w.1 46 (by decide)
  exact ⟨_, aL_to e (by decide) i0 i1, rfl⟩
theorem sL_46 {i : Int32} {x : Int64} (w : WT n b L xs τ g h) (i0 : 0 ≤ i) (i1 : i < 1002) : wp (sL h (n + 46) i x) (fun h2 => WT n b L xs τ (gsL g 46 (vp_updL (g.2.2 46) i.toNatClampNeg x)) h2) := by
  obtain ⟨c, e, ⟨f, rfl, rfl⟩⟩ := w.1 46 (by decide)
  exact ⟨_, sL_to e (by decide) i0 i1, w.put (by decide) ⟨_, rfl, rfl⟩ (fun q hq => gsL_ne hq)⟩
theorem aN_47 (w : WT n b L xs τ g h) : aN h (n + 47) = some 21 := by
  obtain ⟨c, e, ⟨f, rfl, r⟩⟩ := w.1 47 (by decide)
  exact aN_of e (by decide)
theorem aL_47 {i : Int32} (w : WT n b L xs τ g h) (i0 : 0 ≤ i) (i1 : i < 21) : wp (aL h (n + 47) i) (fun x => x = g.2.2 47 i.toNatClampNeg) := by
  obtain ⟨c, e, ⟨f, rfl, rfl⟩⟩ := w.1 47 (by decide)
  exact ⟨_, aL_to e (by decide) i0 i1, rfl⟩
theorem sL_47 {i : Int32} {x : Int64} (w : WT n b L xs τ g h) (i0 : 0 ≤ i) (i1 : i < 21) : wp (sL h (n + 47) i x) (fun h2 => WT n b L xs τ (gsL g 47 (vp_updL (g.2.2 47) i.toNatClampNeg x)) h2) := by
  obtain ⟨c, e, ⟨f, rfl, rfl⟩⟩ := w.1 47 (by decide)
  exact ⟨_, sL_to e (by decide) i0 i1, w.put (by decide) ⟨_, rfl, rfl⟩ (fun q hq => gsL_ne hq)⟩
theorem aN_48 (w : WT n b L xs τ g h) : aN h (n + 48) = some 17 := by
  obtain ⟨c, e, ⟨f, rfl, r⟩⟩ := w.1 48 (by decide)
  exact aN_of e (by decide)
theorem aI_48 {i : Int32} (w : WT n b L xs τ g h) (i0 : 0 ≤ i) (i1 : i < 17) : wp (aI h (n + 48) i) (fun x => True) := by
  obtain ⟨c, e, ⟨f, rfl, -⟩⟩ := w.1 48 (by decide)
  exact ⟨_, aI_to e (by decide) i0 i1, trivial⟩
theorem sI_48 {i x : Int32} (w : WT n b L xs τ g h) (i0 : 0 ≤ i) (i1 : i < 17) : wp (sI h (n + 48) i x) (fun h2 => WT n b L xs τ g h2) := by
  obtain ⟨c, e, ⟨f, rfl, -⟩⟩ := w.1 48 (by decide)
  exact ⟨_, sI_to e (by decide) i0 i1, w.set (j := 48) (by decide) ⟨_, rfl, trivial⟩⟩
theorem aN_49 (w : WT n b L xs τ g h) : aN h (n + 49) = some 17 := by
  obtain ⟨c, e, ⟨f, rfl, r⟩⟩ := w.1 49 (by decide)
  exact aN_of e (by decide)
theorem aI_49 {i : Int32} (w : WT n b L xs τ g h) (i0 : 0 ≤ i) (i1 : i < 17) : wp (aI h (n + 49) i) (fun x => True) := by
  obtain ⟨c, e, ⟨f, rfl, -⟩⟩ := w.1 49 (by decide)
  exact ⟨_, aI_to e (by decide) i0 i1, trivial⟩
theorem sI_49 {i x : Int32} (w : WT n b L xs τ g h) (i0 : 0 ≤ i) (i1 : i < 17) : wp (sI h (n + 49) i x) (fun h2 => WT n b L xs τ g h2) := by
  obtain ⟨c, e, ⟨f, rfl, -⟩⟩ := w.1 49 (by decide)
  exact ⟨_, sI_to e (by decide) i0 i1, w.set (j := 49) (by decide) ⟨_, rfl, trivial⟩⟩
theorem aN_50 (w : WT n b L xs τ g h) : aN h (n + 50) = some 17 := by
  obtain ⟨c, e, ⟨f, rfl, r⟩⟩ := w.1 50 (by decide)
  exact aN_of e (by decide)
theorem aI_50 {i : Int32} (w : WT n b L xs τ g h) (i0 : 0 ≤ i) (i1 : i < 17) : wp (aI h (n + 50) i) (fun x => x = g.2.1 50 i.toNatClampNeg) := by
  obtain ⟨c, e, ⟨f, rfl, rfl⟩⟩ := w.1 50 (by decide)
  exact ⟨_, aI_to e (by decide) i0 i1, rfl⟩
theorem sI_50 {i x : Int32} (w : WT n b L xs τ g h) (i0 : 0 ≤ i) (i1 : i < 17) : wp (sI h (n + 50) i x) (fun h2 => WT n b L xs τ (gsA g 50 (upd (g.2.1 50) i.toNatClampNeg x)) h2) := by
  obtain ⟨c, e, ⟨f, rfl, rfl⟩⟩ := w.1 50 (by decide)
  exact ⟨_, sI_to e (by decide) i0 i1, w.put (j := 50) (by decide) ⟨_, rfl, rfl⟩ (fun q hq => gsA_ne hq)⟩
theorem aN_51 (w : WT n b L xs τ g h) : aN h (n + 51) = some 340 := by
  obtain ⟨c, e, ⟨f, rfl, r⟩⟩ := w.1 51 (by decide)
  exact aN_of e (by decide)
theorem aI_51 {i : Int32} (w : WT n b L xs τ g h) (i0 : 0 ≤ i) (i1 : i < 340) : wp (aI h (n + 51) i) (fun x => x = g.2.1 51 i.toNatClampNeg) := by
  obtain ⟨c, e, ⟨f, rfl, rfl⟩⟩ := w.1 51 (by decide)
  exact ⟨_, aI_to e (by decide) i0 i1, rfl⟩
theorem sI_51 {i x : Int32} (w : WT n b L xs τ g h) (i0 : 0 ≤ i) (i1 : i < 340) : wp (sI h (n + 51) i x) (fun h2 => WT n b L xs τ (gsA g 51 (upd (g.2.1 51) i.toNatClampNeg x)) h2) := by
  obtain ⟨c, e, ⟨f, rfl, rfl⟩⟩ := w.1 51 (by decide)
  exact ⟨_, sI_to e (by decide) i0 i1, w.put (j := 51) (by decide) ⟨_, rfl, rfl⟩ (fun q hq => gsA_ne hq)⟩
theorem aN_52 (w : WT n b L xs τ g h) : aN h (n + 52) = some 340 := by
  obtain ⟨c, e, ⟨f, rfl, r⟩⟩ := w.1 52 (by decide)
  exact aN_of e (by decide)
theorem aI_52 {i : Int32} (w : WT n b L xs τ g h) (i0 : 0 ≤ i) (i1 : i < 340) : wp (aI h (n + 52) i) (fun x => True) := by
  obtain ⟨c, e, ⟨f, rfl, -⟩⟩ := w.1 52 (by decide)
  exact ⟨_, aI_to e (by decide) i0 i1, trivial⟩
theorem sI_52 {i x : Int32} (w : WT n b L xs τ g h) (i0 : 0 ≤ i) (i1 : i < 340) : wp (sI h (n + 52) i x) (fun h2 => WT n b L xs τ g h2) := by
  obtain ⟨c, e, ⟨f, rfl, -⟩⟩ := w.1 52 (by decide)
  exact ⟨_, sI_to e (by decide) i0 i1, w.set (j := 52) (by decide) ⟨_, rfl, trivial⟩⟩
theorem aN_53 (w : WT n b L xs τ g h) : aN h (n + 53) = some 340 := by
  obtain ⟨c, e, ⟨f, rfl, r⟩⟩ := w.1 53 (by decide)
  exact aN_of e (by decide)
theorem aI_53 {i : Int32} (w : WT n b L xs τ g h) (i0 : 0 ≤ i) (i1 : i < 340) : wp (aI h (n + 53) i) (fun x => x = g.2.1 53 i.toNatClampNeg) := by
  obtain ⟨c, e, ⟨f, rfl, rfl⟩⟩ := w.1 53 (by decide)
  exact ⟨_, aI_to e (by decide) i0 i1, rfl⟩
theorem sI_53 {i x : Int32} (w : WT n b L xs τ g h) (i0 : 0 ≤ i) (i1 : i < 340) : wp (sI h (n + 53) i x) (fun h2 => WT n b L xs τ (gsA g 53 (upd (g.2.1 53) i.toNatClampNeg x)) h2) := by
  obtain ⟨c, e, ⟨f, rfl, rfl⟩⟩ := w.1 53 (by decide)
  exact ⟨_, sI_to e (by decide) i0 i1, w.put (j := 53) (by decide) ⟨_, rfl, rfl⟩ (fun q hq => gsA_ne hq)⟩
theorem aN_54 (w : WT n b L xs τ g h) : aN h (n + 54) = some 8 := by
  obtain ⟨c, e, ⟨f, rfl, r⟩⟩ := w.1 54 (by decide)
  exact aN_of e (by decide)
theorem aL_54 {i : Int32} (w : WT n b L xs τ g h) (i0 : 0 ≤ i) (i1 : i < 8) : wp (aL h (n + 54) i) (fun x => True) := by
  obtain ⟨c, e, ⟨f, rfl, -⟩⟩ := w.1 54 (by decide)
  exact ⟨_, aL_to e (by decide) i0 i1, trivial⟩
theorem sL_54 {i : Int32} {x : Int64} (w : WT n b L xs τ g h) (i0 : 0 ≤ i) (i1 : i < 8) : wp (sL h (n + 54) i x) (fun h2 => WT n b L xs τ g h2) := by
  obtain ⟨c, e, ⟨f, rfl, -⟩⟩ := w.1 54 (by decide)
  exact ⟨_, sL_to e (by decide) i0 i1, w.set (by decide) ⟨_, rfl, trivial⟩⟩
theorem aN_55 (w : WT n b L xs τ g h) : aN h (n + 55) = some 20400 := by
  obtain ⟨c, e, ⟨f, rfl, r⟩⟩ := w.1 55 (by decide)
  exact aN_of e (by decide)
theorem aI_55 {i : Int32} (w : WT n b L xs τ g h) (i0 : 0 ≤ i) (i1 : i < 20400) : wp (aI h (n + 55) i) (fun x => x = g.2.1 55 i.toNatClampNeg) := by
  obtain ⟨c, e, ⟨f, rfl, rfl⟩⟩ := w.1 55 (by decide)
  exact ⟨_, aI_to e (by decide) i0 i1, rfl⟩
theorem sI_55 {i x : Int32} (w : WT n b L xs τ g h) (i0 : 0 ≤ i) (i1 : i < 20400) : wp (sI h (n + 55) i x) (fun h2 => WT n b L xs τ (gsA g 55 (upd (g.2.1 55) i.toNatClampNeg x)) h2) := by
  obtain ⟨c, e, ⟨f, rfl, rfl⟩⟩ := w.1 55 (by decide)
  exact ⟨_, sI_to e (by decide) i0 i1, w.put (j := 55) (by decide) ⟨_, rfl, rfl⟩ (fun q hq => gsA_ne hq)⟩
theorem aN_56 (w : WT n b L xs τ g h) : aN h (n + 56) = some 20400 := by
  obtain ⟨c, e, ⟨f, rfl, r⟩⟩ := w.1 56 (by decide)
  exact aN_of e (by decide)
theorem aI_56 {i : Int32} (w : WT n b L xs τ g h) (i0 : 0 ≤ i) (i1 : i < 20400) : wp (aI h (n + 56) i) (fun x => x = g.2.1 56 i.toNatClampNeg) := by
  obtain ⟨c, e, ⟨f, rfl, rfl⟩⟩ := w.1 56 (by decide)
  exact ⟨_, aI_to e (by decide) i0 i1, rfl⟩
theorem sI_56 {i x : Int32} (w : WT n b L xs τ g h) (i0 : 0 ≤ i) (i1 : i < 20400) : wp (sI h (n + 56) i x) (fun h2 => WT n b L xs τ (gsA g 56 (upd (g.2.1 56) i.toNatClampNeg x)) h2) := by
  obtain ⟨c, e, ⟨f, rfl, rfl⟩⟩ := w.1 56 (by decide)
  exact ⟨_, sI_to e (by decide) i0 i1, w.put (j := 56) (by decide) ⟨_, rfl, rfl⟩ (fun q hq => gsA_ne hq)⟩
theorem aN_57 (w : WT n b L xs τ g h) : aN h (n + 57) = some 11 := by
  obtain ⟨c, e, ⟨f, rfl, r⟩⟩ := w.1 57 (by decide)
  exact aN_of e (by decide)
theorem aI_57 {i : Int32} (w : WT n b L xs τ g h) (i0 : 0 ≤ i) (i1 : i < 11) : wp (aI h (n + 57) i) (fun x => True) := by
  obtain ⟨c, e, ⟨f, rfl, -⟩⟩ := w.1 57 (by decide)
  exact ⟨_, aI_to e (by decide) i0 i1, trivial⟩
theorem sI_57 {i x : Int32} (w : WT n b L xs τ g h) (i0 : 0 ≤ i) (i1 : i < 11) : wp (sI h (n + 57) i x) (fun h2 => WT n b L xs τ g h2) := by
  obtain ⟨c, e, ⟨f, rfl, -⟩⟩ := w.1 57 (by decide)
  exact ⟨_, sI_to e (by decide) i0 i1, w.set (j := 57) (by decide) ⟨_, rfl, trivial⟩⟩
theorem aN_58 (w : WT n b L xs τ g h) : aN h (n + 58) = some 8 := by
  obtain ⟨c, e, ⟨f, rfl, r⟩⟩ := w.1 58 (by decide)
  exact aN_of e (by decide)
theorem aI_58 {i : Int32} (w : WT n b L xs τ g h) (i0 : 0 ≤ i) (i1 : i < 8) : wp (aI h (n + 58) i) (fun x => True) := by
  obtain ⟨c, e, ⟨f, rfl, -⟩⟩ := w.1 58 (by decide)
  exact ⟨_, aI_to e (by decide) i0 i1, trivial⟩
theorem sI_58 {i x : Int32} (w : WT n b L xs τ g h) (i0 : 0 ≤ i) (i1 : i < 8) : wp (sI h (n + 58) i x) (fun h2 => WT n b L xs τ g h2) := by
  obtain ⟨c, e, ⟨f, rfl, -⟩⟩ := w.1 58 (by decide)
  exact ⟨_, sI_to e (by decide) i0 i1, w.set (j := 58) (by decide) ⟨_, rfl, trivial⟩⟩
theorem aN_59 (w : WT n b L xs τ g h) : aN h (n + 59) = some 1200 := by
  obtain ⟨c, e, ⟨f, rfl, r⟩⟩ := w.1 59 (by decide)
  exact aN_of e (by decide)
theorem aI_59 {i : Int32} (w : WT n b L xs τ g h) (i0 : 0 ≤ i) (i1 : i < 1200) : wp (aI h (n + 59) i) (fun x => True) := by
  obtain ⟨c, e, ⟨f, rfl, -⟩⟩ := w.1 59 (by decide)
  exact ⟨_, aI_to e (by decide) i0 i1, trivial⟩
theorem sI_59 {i x : Int32} (w : WT n b L xs τ g h) (i0 : 0 ≤ i) (i1 : i < 1200) : wp (sI h (n + 59) i x) (fun h2 => WT n b L xs τ g h2) := by
  obtain ⟨c, e, ⟨f, rfl, -⟩⟩ := w.1 59 (by decide)
  exact ⟨_, sI_to e (by decide) i0 i1, w.set (j := 59) (by decide) ⟨_, rfl, trivial⟩⟩
theorem aN_60 (w : WT n b L xs τ g h) : aN h (n + 60) = some 40 := by
  obtain ⟨c, e, ⟨f, rfl, r⟩⟩ := w.1 60 (by decide)
  exact aN_of e (by decide)
theorem aI_60 {i : Int32} (w : WT n b L xs τ g h) (i0 : 0 ≤ i) (i1 : i < 40) : wp (aI h (n + 60) i) (fun x => True) := by
  obtain ⟨c, e, ⟨f, rfl, -⟩⟩ := w.1 60 (by decide)
  exact ⟨_, aI_to e (by decide) i0 i1, trivial⟩
theorem sI_60 {i x : Int32} (w : WT n b L xs τ g h) (i0 : 0 ≤ i) (i1 : i < 40) : wp (sI h (n + 60) i x) (fun h2 => WT n b L xs τ g h2) := by
  obtain ⟨c, e, ⟨f, rfl, -⟩⟩ := w.1 60 (by decide)
  exact ⟨_, sI_to e (by decide) i0 i1, w.set (j := 60) (by decide) ⟨_, rfl, trivial⟩⟩
theorem aN_61 (w : WT n b L xs τ g h) : aN h (n + 61) = some 40 := by
  obtain ⟨c, e, ⟨f, rfl, r⟩⟩ := w.1 61 (by decide)
  exact aN_of e (by decide)
theorem aI_61 {i : Int32} (w : WT n b L xs τ g h) (i0 : 0 ≤ i) (i1 : i < 40) : wp (aI h (n + 61) i) (fun x => True) := by
  obtain ⟨c, e, ⟨f, rfl, -⟩⟩ := w.1 61 (by decide)
  exact ⟨_, aI_to e (by decide) i0 i1, trivial⟩
theorem sI_61 {i x : Int32} (w : WT n b L xs τ g h) (i0 : 0 ≤ i) (i1 : i < 40) : wp (sI h (n + 61) i x) (fun h2 => WT n b L xs τ g h2) := by
  obtain ⟨c, e, ⟨f, rfl, -⟩⟩ := w.1 61 (by decide)
  exact ⟨_, sI_to e (by decide) i0 i1, w.set (j := 61) (by decide) ⟨_, rfl, trivial⟩⟩
theorem aN_62 (w : WT n b L xs τ g h) : aN h (n + 62) = some 40 := by
  obtain ⟨c, e, ⟨f, rfl, r⟩⟩ := w.1 62 (by decide)
  exact aN_of e (by decide)
theorem aI_62 {i : Int32} (w : WT n b L xs τ g h) (i0 : 0 ≤ i) (i1 : i < 40) : wp (aI h (n + 62) i) (fun x => 0 ≤ x ∧ x ≤ 300) := by
  obtain ⟨c, e, ⟨f, rfl, r⟩⟩ := w.1 62 (by decide)
  exact ⟨_, aI_to e (by decide) i0 i1, ⟨(r _ (i32_clamp i0 (by decide) i1).2).1, (r _ (i32_clamp i0 (by decide) i1).2).2⟩⟩
theorem sI_62 {i x : Int32} (w : WT n b L xs τ g h) (i0 : 0 ≤ i) (i1 : i < 40) (z0 : 0 ≤ x) (z1 : x ≤ 300) : wp (sI h (n + 62) i x) (fun h2 => WT n b L xs τ g h2) := by
  obtain ⟨c, e, ⟨f, rfl, r⟩⟩ := w.1 62 (by decide)
  exact ⟨_, sI_to e (by decide) i0 i1, w.set (j := 62) (by decide) ⟨_, rfl, upd_all (P := fun x => 0 ≤ x ∧ x ≤ 300) r ⟨z0, z1⟩⟩⟩
theorem aN_63 (w : WT n b L xs τ g h) : aN h (n + 63) = some 40 := by
  obtain ⟨c, e, ⟨f, rfl, r⟩⟩ := w.1 63 (by decide)
  exact aN_of e (by decide)
theorem aI_63 {i : Int32} (w : WT n b L xs τ g h) (i0 : 0 ≤ i) (i1 : i < 40) : wp (aI h (n + 63) i) (fun x => True) := by
  obtain ⟨c, e, ⟨f, rfl, -⟩⟩ := w.1 63 (by decide)
  exact ⟨_, aI_to e (by decide) i0 i1, trivial⟩
theorem sI_63 {i x : Int32} (w : WT n b L xs τ g h) (i0 : 0 ≤ i) (i1 : i < 40) : wp (sI h (n + 63) i x) (fun h2 => WT n b L xs τ g h2) := by
  obtain ⟨c, e, ⟨f, rfl, -⟩⟩ := w.1 63 (by decide)
  exact ⟨_, sI_to e (by decide) i0 i1, w.set (j := 63) (by decide) ⟨_, rfl, trivial⟩⟩
theorem aN_64 (w : WT n b L xs τ g h) : aN h (n + 64) = some 40 := by
  obtain ⟨c, e, ⟨f, rfl, r⟩⟩ := w.1 64 (by decide)
  exact aN_of e (by decide)
theorem aI_64 {i : Int32} (w : WT n b L xs τ g h) (i0 : 0 ≤ i) (i1 : i < 40) : wp (aI h (n + 64) i) (fun x => True) := by
  obtain ⟨c, e, ⟨f, rfl, -⟩⟩ := w.1 64 (by decide)
  exact ⟨_, aI_to e (by decide) i0 i1, trivial⟩
theorem sI_64 {i x : Int32} (w : WT n b L xs τ g h) (i0 : 0 ≤ i) (i1 : i < 40) : wp (sI h (n + 64) i x) (fun h2 => WT n b L xs τ g h2) := by
  obtain ⟨c, e, ⟨f, rfl, -⟩⟩ := w.1 64 (by decide)
  exact ⟨_, sI_to e (by decide) i0 i1, w.set (j := 64) (by decide) ⟨_, rfl, trivial⟩⟩
theorem aN_65 (w : WT n b L xs τ g h) : aN h (n + 65) = some 40 := by
  obtain ⟨c, e, ⟨f, rfl, r⟩⟩ := w.1 65 (by decide)
  exact aN_of e (by decide)
theorem aI_65 {i : Int32} (w : WT n b L xs τ g h) (i0 : 0 ≤ i) (i1 : i < 40) : wp (aI h (n + 65) i) (fun x => x = g.2.1 65 i.toNatClampNeg) := by
  obtain ⟨c, e, ⟨f, rfl, rfl⟩⟩ := w.1 65 (by decide)
  exact ⟨_, aI_to e (by decide) i0 i1, rfl⟩
theorem sI_65 {i x : Int32} (w : WT n b L xs τ g h) (i0 : 0 ≤ i) (i1 : i < 40) : wp (sI h (n + 65) i x) (fun h2 => WT n b L xs τ (gsA g 65 (upd (g.2.1 65) i.toNatClampNeg x)) h2) := by
  obtain ⟨c, e, ⟨f, rfl, rfl⟩⟩ := w.1 65 (by decide)
  exact ⟨_, sI_to e (by decide) i0 i1, w.put (j := 65) (by decide) ⟨_, rfl, rfl⟩ (fun q hq => gsA_ne hq)⟩
theorem aN_66 (w : WT n b L xs τ g h) : aN h (n + 66) = some 40 := by
  obtain ⟨c, e, ⟨f, rfl, r⟩⟩ := w.1 66 (by decide)
  exact aN_of e (by decide)
theorem aI_66 {i : Int32} (w : WT n b L xs τ g h) (i0 : 0 ≤ i) (i1 : i < 40) : wp (aI h (n + 66) i) (fun x => True) := by
  obtain ⟨c, e, ⟨f, rfl, -⟩⟩ := w.1 66 (by decide)
  exact ⟨_, aI_to e (by decide) i0 i1, trivial⟩
theorem sI_66 {i x : Int32} (w : WT n b L xs τ g h) (i0 : 0 ≤ i) (i1 : i < 40) : wp (sI h (n + 66) i x) (fun h2 => WT n b L xs τ g h2) := by
  obtain ⟨c, e, ⟨f, rfl, -⟩⟩ := w.1 66 (by decide)
  exact ⟨_, sI_to e (by decide) i0 i1, w.set (j := 66) (by decide) ⟨_, rfl, trivial⟩⟩
theorem aN_67 (w : WT n b L xs τ g h) : aN h (n + 67) = some 40 := by
  obtain ⟨c, e, ⟨f, rfl, r⟩⟩ := w.1 67 (by decide)
  exact aN_of e (by decide)
theorem aI_67 {i : Int32} (w : WT n b L xs τ g h) (i0 : 0 ≤ i) (i1 : i < 40) : wp (aI h (n + 67) i) (fun x => True) := by
  obtain ⟨c, e, ⟨f, rfl, -⟩⟩ := w.1 67 (by decide)
  exact ⟨_, aI_to e (by decide) i0 i1, trivial⟩
theorem sI_67 {i x : Int32} (w : WT n b L xs τ g h) (i0 : 0 ≤ i) (i1 : i < 40) : wp (sI h (n + 67) i x) (fun h2 => WT n b L xs τ g h2) := by
  obtain ⟨c, e, ⟨f, rfl, -⟩⟩ := w.1 67 (by decide)
  exact ⟨_, sI_to e (by decide) i0 i1, w.set (j := 67) (by decide) ⟨_, rfl, trivial⟩⟩
theorem aN_68 (w : WT n b L xs τ g h) : aN h (n + 68) = some 40 := by
  obtain ⟨c, e, ⟨f, rfl, r⟩⟩ := w.1 68 (by decide)
  exact aN_of e (by decide)
theorem aI_68 {i : Int32} (w : WT n b L xs τ g h) (i0 : 0 ≤ i) (i1 : i < 40) : wp (aI h (n + 68) i) (fun x => True) := by
  obtain ⟨c, e, ⟨f, rfl, -⟩⟩ := w.1 68 (by decide)
  exact ⟨_, aI_to e (by decide) i0 i1, trivial⟩
theorem sI_68 {i x : Int32} (w : WT n b L xs τ g h) (i0 : 0 ≤ i) (i1 : i < 40) : wp (sI h (n + 68) i x) (fun h2 => WT n b L xs τ g h2) := by
  obtain ⟨c, e, ⟨f, rfl, -⟩⟩ := w.1 68 (by decide)
  exact ⟨_, sI_to e (by decide) i0 i1, w.set (j := 68) (by decide) ⟨_, rfl, trivial⟩⟩
theorem aN_69 (w : WT n b L xs τ g h) : aN h (n + 69) = some 40 := by
  obtain ⟨c, e, ⟨f, rfl, r⟩⟩ := w.1 69 (by decide)
  exact aN_of e (by decide)
theorem aI_69 {i : Int32} (w : WT n b L xs τ g h) (i0 : 0 ≤ i) (i1 : i < 40) : wp (aI h (n + 69) i) (fun x => True) := by
  obtain ⟨c, e, ⟨f, rfl, -⟩⟩ := w.1 69 (by decide)
  exact ⟨_, aI_to e (by decide) i0 i1, trivial⟩
theorem sI_69 {i x : Int32} (w : WT n b L xs τ g h) (i0 : 0 ≤ i) (i1 : i < 40) : wp (sI h (n + 69) i x) (fun h2 => WT n b L xs τ g h2) := by
  obtain ⟨c, e, ⟨f, rfl, -⟩⟩ := w.1 69 (by decide)
  exact ⟨_, sI_to e (by decide) i0 i1, w.set (j := 69) (by decide) ⟨_, rfl, trivial⟩⟩
theorem aN_70 (w : WT n b L xs τ g h) : aN h (n + 70) = some 40 := by
  obtain ⟨c, e, ⟨f, rfl, r⟩⟩ := w.1 70 (by decide)
  exact aN_of e (by decide)
theorem aI_70 {i : Int32} (w : WT n b L xs τ g h) (i0 : 0 ≤ i) (i1 : i < 40) : wp (aI h (n + 70) i) (fun x => True) := by
  obtain ⟨c, e, ⟨f, rfl, -⟩⟩ := w.1 70 (by decide)
  exact ⟨_, aI_to e (by decide) i0 i1, trivial⟩
theorem sI_70 {i x : Int32} (w : WT n b L xs τ g h) (i0 : 0 ≤ i) (i1 : i < 40) : wp (sI h (n + 70) i x) (fun h2 => WT n b L xs τ g h2) := by
  obtain ⟨c, e, ⟨f, rfl, -⟩⟩ := w.1 70 (by decide)
  exact ⟨_, sI_to e (by decide) i0 i1, w.set (j := 70) (by decide) ⟨_, rfl, trivial⟩⟩
theorem aN_71 (w : WT n b L xs τ g h) : aN h (n + 71) = some 61 := by
  obtain ⟨c, e, ⟨f, rfl, r⟩⟩ := w.1 71 (by decide)
  exact aN_of e (by decide)
theorem aI_71 {i : Int32} (w : WT n b L xs τ g h) (i0 : 0 ≤ i) (i1 : i < 61) : wp (aI h (n + 71) i) (fun x => True) := by
  obtain ⟨c, e, ⟨f, rfl, -⟩⟩ := w.1 71 (by decide)
  exact ⟨_, aI_to e (by decide) i0 i1, trivial⟩
theorem sI_71 {i x : Int32} (w : WT n b L xs τ g h) (i0 : 0 ≤ i) (i1 : i < 61) : wp (sI h (n + 71) i x) (fun h2 => WT n b L xs τ g h2) := by
  obtain ⟨c, e, ⟨f, rfl, -⟩⟩ := w.1 71 (by decide)
  exact ⟨_, sI_to e (by decide) i0 i1, w.set (j := 71) (by decide) ⟨_, rfl, trivial⟩⟩
theorem aN_72 (w : WT n b L xs τ g h) : aN h (n + 72) = some 61 := by
  obtain ⟨c, e, ⟨f, rfl, r⟩⟩ := w.1 72 (by decide)
  exact aN_of e (by decide)
theorem aI_72 {i : Int32} (w : WT n b L xs τ g h) (i0 : 0 ≤ i) (i1 : i < 61) : wp (aI h (n + 72) i) (fun x => True) := by
  obtain ⟨c, e, ⟨f, rfl, -⟩⟩ := w.1 72 (by decide)
  exact ⟨_, aI_to e (by decide) i0 i1, trivial⟩
theorem sI_72 {i x : Int32} (w : WT n b L xs τ g h) (i0 : 0 ≤ i) (i1 : i < 61) : wp (sI h (n + 72) i x) (fun h2 => WT n b L xs τ g h2) := by
  obtain ⟨c, e, ⟨f, rfl, -⟩⟩ := w.1 72 (by decide)
  exact ⟨_, sI_to e (by decide) i0 i1, w.set (j := 72) (by decide) ⟨_, rfl, trivial⟩⟩
theorem aN_73 (w : WT n b L xs τ g h) : aN h (n + 73) = some 61 := by
  obtain ⟨c, e, ⟨f, rfl, r⟩⟩ := w.1 73 (by decide)
  exact aN_of e (by decide)
theorem aI_73 {i : Int32} (w : WT n b L xs τ g h) (i0 : 0 ≤ i) (i1 : i < 61) : wp (aI h (n + 73) i) (fun x => True) := by
  obtain ⟨c, e, ⟨f, rfl, -⟩⟩ := w.1 73 (by decide)
  exact ⟨_, aI_to e (by decide) i0 i1, trivial⟩
theorem sI_73 {i x : Int32} (w : WT n b L xs τ g h) (i0 : 0 ≤ i) (i1 : i < 61) : wp (sI h (n + 73) i x) (fun h2 => WT n b L xs τ g h2) := by
  obtain ⟨c, e, ⟨f, rfl, -⟩⟩ := w.1 73 (by decide)
  exact ⟨_, sI_to e (by decide) i0 i1, w.set (j := 73) (by decide) ⟨_, rfl, trivial⟩⟩
theorem aN_74 (w : WT n b L xs τ g h) : aN h (n + 74) = some 80 := by
  obtain ⟨c, e, ⟨f, rfl, r⟩⟩ := w.1 74 (by decide)
  exact aN_of e (by decide)
theorem aI_74 {i : Int32} (w : WT n b L xs τ g h) (i0 : 0 ≤ i) (i1 : i < 80) : wp (aI h (n + 74) i) (fun x => 0 ≤ x ∧ x ≤ 39) := by
  obtain ⟨c, e, ⟨f, rfl, r⟩⟩ := w.1 74 (by decide)
  exact ⟨_, aI_to e (by decide) i0 i1, ⟨(r _ (i32_clamp i0 (by decide) i1).2).1, (r _ (i32_clamp i0 (by decide) i1).2).2⟩⟩
theorem sI_74 {i x : Int32} (w : WT n b L xs τ g h) (i0 : 0 ≤ i) (i1 : i < 80) (z0 : 0 ≤ x) (z1 : x ≤ 39) : wp (sI h (n + 74) i x) (fun h2 => WT n b L xs τ g h2) := by
  obtain ⟨c, e, ⟨f, rfl, r⟩⟩ := w.1 74 (by decide)
  exact ⟨_, sI_to e (by decide) i0 i1, w.set (j := 74) (by decide) ⟨_, rfl, upd_all (P := fun x => 0 ≤ x ∧ x ≤ 39) r ⟨z0, z1⟩⟩⟩
theorem aN_75 (w : WT n b L xs τ g h) : aN h (n + 75) = some 80 := by
  obtain ⟨c, e, ⟨f, rfl, r⟩⟩ := w.1 75 (by decide)
  exact aN_of e (by decide)
theorem aZ_75 {i : Int32} (w : WT n b L xs τ g h) (i0 : 0 ≤ i) (i1 : i < 80) : wp (aZ h (n + 75) i) (fun x => True) := by
  obtain ⟨c, e, ⟨f, rfl, -⟩⟩ := w.1 75 (by decide)
  exact ⟨_, aZ_to e (by decide) i0 i1, trivial⟩
theorem sZ_75 {i x : Int32} (w : WT n b L xs τ g h) (i0 : 0 ≤ i) (i1 : i < 80) (z : x = 0 ∨ x = 1) : wp (sZ h (n + 75) i x) (fun h2 => WT n b L xs τ g h2) := by
  obtain ⟨c, e, ⟨f, rfl, -⟩⟩ := w.1 75 (by decide)
  exact ⟨_, sZ_to e (by decide) i0 i1 z, w.set (j := 75) (by decide) ⟨_, rfl, trivial⟩⟩
theorem aN_76 (w : WT n b L xs τ g h) : aN h (n + 76) = some 80 := by
  obtain ⟨c, e, ⟨f, rfl, r⟩⟩ := w.1 76 (by decide)
  exact aN_of e (by decide)
theorem aI_76 {i : Int32} (w : WT n b L xs τ g h) (i0 : 0 ≤ i) (i1 : i < 80) : wp (aI h (n + 76) i) (fun x => True) := by
  obtain ⟨c, e, ⟨f, rfl, -⟩⟩ := w.1 76 (by decide)
  exact ⟨_, aI_to e (by decide) i0 i1, trivial⟩
theorem sI_76 {i x : Int32} (w : WT n b L xs τ g h) (i0 : 0 ≤ i) (i1 : i < 80) : wp (sI h (n + 76) i x) (fun h2 => WT n b L xs τ g h2) := by
  obtain ⟨c, e, ⟨f, rfl, -⟩⟩ := w.1 76 (by decide)
  exact ⟨_, sI_to e (by decide) i0 i1, w.set (j := 76) (by decide) ⟨_, rfl, trivial⟩⟩
theorem aN_77 (w : WT n b L xs τ g h) : aN h (n + 77) = some 40 := by
  obtain ⟨c, e, ⟨f, rfl, r⟩⟩ := w.1 77 (by decide)
  exact aN_of e (by decide)
theorem aI_77 {i : Int32} (w : WT n b L xs τ g h) (i0 : 0 ≤ i) (i1 : i < 40) : wp (aI h (n + 77) i) (fun x => True) := by
  obtain ⟨c, e, ⟨f, rfl, -⟩⟩ := w.1 77 (by decide)
  exact ⟨_, aI_to e (by decide) i0 i1, trivial⟩
theorem sI_77 {i x : Int32} (w : WT n b L xs τ g h) (i0 : 0 ≤ i) (i1 : i < 40) : wp (sI h (n + 77) i x) (fun h2 => WT n b L xs τ g h2) := by
  obtain ⟨c, e, ⟨f, rfl, -⟩⟩ := w.1 77 (by decide)
  exact ⟨_, sI_to e (by decide) i0 i1, w.set (j := 77) (by decide) ⟨_, rfl, trivial⟩⟩
theorem aN_78 (w : WT n b L xs τ g h) : aN h (n + 78) = some 128 := by
  obtain ⟨c, e, ⟨f, rfl, r⟩⟩ := w.1 78 (by decide)
  exact aN_of e (by decide)
theorem aI_78 {i : Int32} (w : WT n b L xs τ g h) (i0 : 0 ≤ i) (i1 : i < 128) : wp (aI h (n + 78) i) (fun x => True) := by
  obtain ⟨c, e, ⟨f, rfl, -⟩⟩ := w.1 78 (by decide)
  exact ⟨_, aI_to e (by decide) i0 i1, trivial⟩
theorem sI_78 {i x : Int32} (w : WT n b L xs τ g h) (i0 : 0 ≤ i) (i1 : i < 128) : wp (sI h (n + 78) i x) (fun h2 => WT n b L xs τ g h2) := by
  obtain ⟨c, e, ⟨f, rfl, -⟩⟩ := w.1 78 (by decide)
  exact ⟨_, sI_to e (by decide) i0 i1, w.set (j := 78) (by decide) ⟨_, rfl, trivial⟩⟩
theorem aN_79 (w : WT n b L xs τ g h) : aN h (n + 79) = some 128 := by
  obtain ⟨c, e, ⟨f, rfl, r⟩⟩ := w.1 79 (by decide)
  exact aN_of e (by decide)
theorem aI_79 {i : Int32} (w : WT n b L xs τ g h) (i0 : 0 ≤ i) (i1 : i < 128) : wp (aI h (n + 79) i) (fun x => True) := by
  obtain ⟨c, e, ⟨f, rfl, -⟩⟩ := w.1 79 (by decide)
  exact ⟨_, aI_to e (by decide) i0 i1, trivial⟩
theorem sI_79 {i x : Int32} (w : WT n b L xs τ g h) (i0 : 0 ≤ i) (i1 : i < 128) : wp (sI h (n + 79) i x) (fun h2 => WT n b L xs τ g h2) := by
  obtain ⟨c, e, ⟨f, rfl, -⟩⟩ := w.1 79 (by decide)
  exact ⟨_, sI_to e (by decide) i0 i1, w.set (j := 79) (by decide) ⟨_, rfl, trivial⟩⟩
theorem aN_80 (w : WT n b L xs τ g h) : aN h (n + 80) = some 128 := by
  obtain ⟨c, e, ⟨f, rfl, r⟩⟩ := w.1 80 (by decide)
  exact aN_of e (by decide)
theorem aZ_80 {i : Int32} (w : WT n b L xs τ g h) (i0 : 0 ≤ i) (i1 : i < 128) : wp (aZ h (n + 80) i) (fun x => True) := by
  obtain ⟨c, e, ⟨f, rfl, -⟩⟩ := w.1 80 (by decide)
  exact ⟨_, aZ_to e (by decide) i0 i1, trivial⟩
theorem sZ_80 {i x : Int32} (w : WT n b L xs τ g h) (i0 : 0 ≤ i) (i1 : i < 128) (z : x = 0 ∨ x = 1) : wp (sZ h (n + 80) i x) (fun h2 => WT n b L xs τ g h2) := by
  obtain ⟨c, e, ⟨f, rfl, -⟩⟩ := w.1 80 (by decide)
  exact ⟨_, sZ_to e (by decide) i0 i1 z, w.set (j := 80) (by decide) ⟨_, rfl, trivial⟩⟩
theorem aN_81 (w : WT n b L xs τ g h) : aN h (n + 81) = some 4 := by
  obtain ⟨c, e, ⟨f, rfl, r⟩⟩ := w.1 81 (by decide)
  exact aN_of e (by decide)
theorem aZ_81 {i : Int32} (w : WT n b L xs τ g h) (i0 : 0 ≤ i) (i1 : i < 4) : wp (aZ h (n + 81) i) (fun x => x = g.2.1 81 i.toNatClampNeg) := by
  obtain ⟨c, e, ⟨f, rfl, rfl⟩⟩ := w.1 81 (by decide)
  exact ⟨_, aZ_to e (by decide) i0 i1, rfl⟩
theorem sZ_81 {i x : Int32} (w : WT n b L xs τ g h) (i0 : 0 ≤ i) (i1 : i < 4) (z : x = 0 ∨ x = 1) : wp (sZ h (n + 81) i x) (fun h2 => WT n b L xs τ (gsA g 81 (upd (g.2.1 81) i.toNatClampNeg x)) h2) := by
  obtain ⟨c, e, ⟨f, rfl, rfl⟩⟩ := w.1 81 (by decide)
  exact ⟨_, sZ_to e (by decide) i0 i1 z, w.put (j := 81) (by decide) ⟨_, rfl, rfl⟩ (fun q hq => gsA_ne hq)⟩
theorem aN_82 (w : WT n b L xs τ g h) : aN h (n + 82) = some 4 := by
  obtain ⟨c, e, ⟨f, rfl, r⟩⟩ := w.1 82 (by decide)
  exact aN_of e (by decide)
theorem aI_82 {i : Int32} (w : WT n b L xs τ g h) (i0 : 0 ≤ i) (i1 : i < 4) : wp (aI h (n + 82) i) (fun x => x = g.2.1 82 i.toNatClampNeg) := by
  obtain ⟨c, e, ⟨f, rfl, rfl⟩⟩ := w.1 82 (by decide)
  exact ⟨_, aI_to e (by decide) i0 i1, rfl⟩
theorem sI_82 {i x : Int32} (w : WT n b L xs τ g h) (i0 : 0 ≤ i) (i1 : i < 4) : wp (sI h (n + 82) i x) (fun h2 => WT n b L xs τ (gsA g 82 (upd (g.2.1 82) i.toNatClampNeg x)) h2) := by
  obtain ⟨c, e, ⟨f, rfl, rfl⟩⟩ := w.1 82 (by decide)
  exact ⟨_, sI_to e (by decide) i0 i1, w.put (j := 82) (by decide) ⟨_, rfl, rfl⟩ (fun q hq => gsA_ne hq)⟩
theorem aN_83 (w : WT n b L xs τ g h) : aN h (n + 83) = some 4 := by
  obtain ⟨c, e, ⟨f, rfl, r⟩⟩ := w.1 83 (by decide)
  exact aN_of e (by decide)
theorem aI_83 {i : Int32} (w : WT n b L xs τ g h) (i0 : 0 ≤ i) (i1 : i < 4) : wp (aI h (n + 83) i) (fun x => x = g.2.1 83 i.toNatClampNeg) := by
  obtain ⟨c, e, ⟨f, rfl, rfl⟩⟩ := w.1 83 (by decide)
  exact ⟨_, aI_to e (by decide) i0 i1, rfl⟩
theorem sI_83 {i x : Int32} (w : WT n b L xs τ g h) (i0 : 0 ≤ i) (i1 : i < 4) : wp (sI h (n + 83) i x) (fun h2 => WT n b L xs τ (gsA g 83 (upd (g.2.1 83) i.toNatClampNeg x)) h2) := by
  obtain ⟨c, e, ⟨f, rfl, rfl⟩⟩ := w.1 83 (by decide)
  exact ⟨_, sI_to e (by decide) i0 i1, w.put (j := 83) (by decide) ⟨_, rfl, rfl⟩ (fun q hq => gsA_ne hq)⟩
theorem aN_84 (w : WT n b L xs τ g h) : aN h (n + 84) = some 4 := by
  obtain ⟨c, e, ⟨f, rfl, r⟩⟩ := w.1 84 (by decide)
  exact aN_of e (by decide)
theorem aI_84 {i : Int32} (w : WT n b L xs τ g h) (i0 : 0 ≤ i) (i1 : i < 4) : wp (aI h (n + 84) i) (fun x => x = g.2.1 84 i.toNatClampNeg) := by
  obtain ⟨c, e, ⟨f, rfl, rfl⟩⟩ := w.1 84 (by decide)
  exact ⟨_, aI_to e (by decide) i0 i1, rfl⟩
theorem sI_84 {i x : Int32} (w : WT n b L xs τ g h) (i0 : 0 ≤ i) (i1 : i < 4) : wp (sI h (n + 84) i x) (fun h2 => WT n b L xs τ (gsA g 84 (upd (g.2.1 84) i.toNatClampNeg x)) h2) := by
  obtain ⟨c, e, ⟨f, rfl, rfl⟩⟩ := w.1 84 (by decide)
  exact ⟨_, sI_to e (by decide) i0 i1, w.put (j := 84) (by decide) ⟨_, rfl, rfl⟩ (fun q hq => gsA_ne hq)⟩
theorem aN_85 (w : WT n b L xs τ g h) : aN h (n + 85) = some 4 := by
  obtain ⟨c, e, ⟨f, rfl, r⟩⟩ := w.1 85 (by decide)
  exact aN_of e (by decide)
theorem aI_85 {i : Int32} (w : WT n b L xs τ g h) (i0 : 0 ≤ i) (i1 : i < 4) : wp (aI h (n + 85) i) (fun x => x = g.2.1 85 i.toNatClampNeg) := by
  obtain ⟨c, e, ⟨f, rfl, rfl⟩⟩ := w.1 85 (by decide)
  exact ⟨_, aI_to e (by decide) i0 i1, rfl⟩
theorem sI_85 {i x : Int32} (w : WT n b L xs τ g h) (i0 : 0 ≤ i) (i1 : i < 4) : wp (sI h (n + 85) i x) (fun h2 => WT n b L xs τ (gsA g 85 (upd (g.2.1 85) i.toNatClampNeg x)) h2) := by
  obtain ⟨c, e, ⟨f, rfl, rfl⟩⟩ := w.1 85 (by decide)
  exact ⟨_, sI_to e (by decide) i0 i1, w.put (j := 85) (by decide) ⟨_, rfl, rfl⟩ (fun q hq => gsA_ne hq)⟩
theorem aN_86 (w : WT n b L xs τ g h) : aN h (n + 86) = some 16 := by
  obtain ⟨c, e, ⟨f, rfl, r⟩⟩ := w.1 86 (by decide)
  exact aN_of e (by decide)
theorem aZ_86 {i : Int32} (w : WT n b L xs τ g h) (i0 : 0 ≤ i) (i1 : i < 16) : wp (aZ h (n + 86) i) (fun x => x = g.2.1 86 i.toNatClampNeg) := by
  obtain ⟨c, e, ⟨f, rfl, rfl⟩⟩ := w.1 86 (by decide)
  exact ⟨_, aZ_to e (by decide) i0 i1, rfl⟩
theorem sZ_86 {i x : Int32} (w : WT n b L xs τ g h) (i0 : 0 ≤ i) (i1 : i < 16) (z : x = 0 ∨ x = 1) : wp (sZ h (n + 86) i x) (fun h2 => WT n b L xs τ (gsA g 86 (upd (g.2.1 86) i.toNatClampNeg x)) h2) := by
  obtain ⟨c, e, ⟨f, rfl, rfl⟩⟩ := w.1 86 (by decide)
  exact ⟨_, sZ_to e (by decide) i0 i1 z, w.put (j := 86) (by decide) ⟨_, rfl, rfl⟩ (fun q hq => gsA_ne hq)⟩
theorem aN_87 (w : WT n b L xs τ g h) : aN h (n + 87) = some 4 := by
  obtain ⟨c, e, ⟨f, rfl, r⟩⟩ := w.1 87 (by decide)
  exact aN_of e (by decide)
theorem aI_87 {i : Int32} (w : WT n b L xs τ g h) (i0 : 0 ≤ i) (i1 : i < 4) : wp (aI h (n + 87) i) (fun x => x = g.2.1 87 i.toNatClampNeg) := by
  obtain ⟨c, e, ⟨f, rfl, rfl⟩⟩ := w.1 87 (by decide)
  exact ⟨_, aI_to e (by decide) i0 i1, rfl⟩
theorem sI_87 {i x : Int32} (w : WT n b L xs τ g h) (i0 : 0 ≤ i) (i1 : i < 4) : wp (sI h (n + 87) i x) (fun h2 => WT n b L xs τ (gsA g 87 (upd (g.2.1 87) i.toNatClampNeg x)) h2) := by
  obtain ⟨c, e, ⟨f, rfl, rfl⟩⟩ := w.1 87 (by decide)
  exact ⟨_, sI_to e (by decide) i0 i1, w.put (j := 87) (by decide) ⟨_, rfl, rfl⟩ (fun q hq => gsA_ne hq)⟩
theorem aN_88 (w : WT n b L xs τ g h) : aN h (n + 88) = some 8 := by
  obtain ⟨c, e, ⟨f, rfl, r⟩⟩ := w.1 88 (by decide)
  exact aN_of e (by decide)
theorem aI_88 {i : Int32} (w : WT n b L xs τ g h) (i0 : 0 ≤ i) (i1 : i < 8) : wp (aI h (n + 88) i) (fun x => x = g.2.1 88 i.toNatClampNeg) := by
  obtain ⟨c, e, ⟨f, rfl, rfl⟩⟩ := w.1 88 (by decide)
  exact ⟨_, aI_to e (by decide) i0 i1, rfl⟩
theorem sI_88 {i x : Int32} (w : WT n b L xs τ g h) (i0 : 0 ≤ i) (i1 : i < 8) : wp (sI h (n + 88) i x) (fun h2 => WT n b L xs τ (gsA g 88 (upd (g.2.1 88) i.toNatClampNeg x)) h2) := by
  obtain ⟨c, e, ⟨f, rfl, rfl⟩⟩ := w.1 88 (by decide)
  exact ⟨_, sI_to e (by decide) i0 i1, w.put (j := 88) (by decide) ⟨_, rfl, rfl⟩ (fun q hq => gsA_ne hq)⟩
theorem aN_89 (w : WT n b L xs τ g h) : aN h (n + 89) = some 72 := by
  obtain ⟨c, e, ⟨f, rfl, r⟩⟩ := w.1 89 (by decide)
  exact aN_of e (by decide)
theorem aI_89 {i : Int32} (w : WT n b L xs τ g h) (i0 : 0 ≤ i) (i1 : i < 72) : wp (aI h (n + 89) i) (fun x => x = g.2.1 89 i.toNatClampNeg) := by
  obtain ⟨c, e, ⟨f, rfl, rfl⟩⟩ := w.1 89 (by decide)
  exact ⟨_, aI_to e (by decide) i0 i1, rfl⟩
theorem sI_89 {i x : Int32} (w : WT n b L xs τ g h) (i0 : 0 ≤ i) (i1 : i < 72) : wp (sI h (n + 89) i x) (fun h2 => WT n b L xs τ (gsA g 89 (upd (g.2.1 89) i.toNatClampNeg x)) h2) := by
  obtain ⟨c, e, ⟨f, rfl, rfl⟩⟩ := w.1 89 (by decide)
  exact ⟨_, sI_to e (by decide) i0 i1, w.put (j := 89) (by decide) ⟨_, rfl, rfl⟩ (fun q hq => gsA_ne hq)⟩
theorem aN_90 (w : WT n b L xs τ g h) : aN h (n + 90) = some 248 := by
  obtain ⟨c, e, ⟨f, rfl, r⟩⟩ := w.1 90 (by decide)
  exact aN_of e (by decide)
theorem aI_90 {i : Int32} (w : WT n b L xs τ g h) (i0 : 0 ≤ i) (i1 : i < 248) : wp (aI h (n + 90) i) (fun x => x = g.2.1 90 i.toNatClampNeg) := by
  obtain ⟨c, e, ⟨f, rfl, rfl⟩⟩ := w.1 90 (by decide)
  exact ⟨_, aI_to e (by decide) i0 i1, rfl⟩
theorem sI_90 {i x : Int32} (w : WT n b L xs τ g h) (i0 : 0 ≤ i) (i1 : i < 248) : wp (sI h (n + 90) i x) (fun h2 => WT n b L xs τ (gsA g 90 (upd (g.2.1 90) i.toNatClampNeg x)) h2) := by
  obtain ⟨c, e, ⟨f, rfl, rfl⟩⟩ := w.1 90 (by decide)
  exact ⟨_, sI_to e (by decide) i0 i1, w.put (j := 90) (by decide) ⟨_, rfl, rfl⟩ (fun q hq => gsA_ne hq)⟩
theorem aN_91 (w : WT n b L xs τ g h) : aN h (n + 91) = some 248 := by
  obtain ⟨c, e, ⟨f, rfl, r⟩⟩ := w.1 91 (by decide)
  exact aN_of e (by decide)
theorem aI_91 {i : Int32} (w : WT n b L xs τ g h) (i0 : 0 ≤ i) (i1 : i < 248) : wp (aI h (n + 91) i) (fun x => x = g.2.1 91 i.toNatClampNeg) := by
  obtain ⟨c, e, ⟨f, rfl, rfl⟩⟩ := w.1 91 (by decide)
  exact ⟨_, aI_to e (by decide) i0 i1, rfl⟩
theorem sI_91 {i x : Int32} (w : WT n b L xs τ g h) (i0 : 0 ≤ i) (i1 : i < 248) : wp (sI h (n + 91) i x) (fun h2 => WT n b L xs τ (gsA g 91 (upd (g.2.1 91) i.toNatClampNeg x)) h2) := by
  obtain ⟨c, e, ⟨f, rfl, rfl⟩⟩ := w.1 91 (by decide)
  exact ⟨_, sI_to e (by decide) i0 i1, w.put (j := 91) (by decide) ⟨_, rfl, rfl⟩ (fun q hq => gsA_ne hq)⟩
theorem aN_92 (w : WT n b L xs τ g h) : aN h (n + 92) = some 8 := by
  obtain ⟨c, e, ⟨f, rfl, r⟩⟩ := w.1 92 (by decide)
  exact aN_of e (by decide)
theorem aZ_92 {i : Int32} (w : WT n b L xs τ g h) (i0 : 0 ≤ i) (i1 : i < 8) : wp (aZ h (n + 92) i) (fun x => True) := by
  obtain ⟨c, e, ⟨f, rfl, -⟩⟩ := w.1 92 (by decide)
  exact ⟨_, aZ_to e (by decide) i0 i1, trivial⟩
theorem sZ_92 {i x : Int32} (w : WT n b L xs τ g h) (i0 : 0 ≤ i) (i1 : i < 8) (z : x = 0 ∨ x = 1) : wp (sZ h (n + 92) i x) (fun h2 => WT n b L xs τ g h2) := by
  obtain ⟨c, e, ⟨f, rfl, -⟩⟩ := w.1 92 (by decide)
  exact ⟨_, sZ_to e (by decide) i0 i1 z, w.set (j := 92) (by decide) ⟨_, rfl, trivial⟩⟩
theorem aN_93 (w : WT n b L xs τ g h) : aN h (n + 93) = some 8 := by
  obtain ⟨c, e, ⟨f, rfl, r⟩⟩ := w.1 93 (by decide)
  exact aN_of e (by decide)
theorem aI_93 {i : Int32} (w : WT n b L xs τ g h) (i0 : 0 ≤ i) (i1 : i < 8) : wp (aI h (n + 93) i) (fun x => 0 ≤ x ∧ x ≤ 7) := by
  obtain ⟨c, e, ⟨f, rfl, r⟩⟩ := w.1 93 (by decide)
  exact ⟨_, aI_to e (by decide) i0 i1, ⟨(r _ (i32_clamp i0 (by decide) i1).2).1, (r _ (i32_clamp i0 (by decide) i1).2).2⟩⟩
theorem sI_93 {i x : Int32} (w : WT n b L xs τ g h) (i0 : 0 ≤ i) (i1 : i < 8) (z0 : 0 ≤ x) (z1 : x ≤ 7) : wp (sI h (n + 93) i x) (fun h2 => WT n b L xs τ g h2) := by
  obtain ⟨c, e, ⟨f, rfl, r⟩⟩ := w.1 93 (by decide)
  exact ⟨_, sI_to e (by decide) i0 i1, w.set (j := 93) (by decide) ⟨_, rfl, upd_all (P := fun x => 0 ≤ x ∧ x ≤ 7) r ⟨z0, z1⟩⟩⟩
theorem aN_94 (w : WT n b L xs τ g h) : aN h (n + 94) = some 8 := by
  obtain ⟨c, e, ⟨f, rfl, r⟩⟩ := w.1 94 (by decide)
  exact aN_of e (by decide)
theorem aI_94 {i : Int32} (w : WT n b L xs τ g h) (i0 : 0 ≤ i) (i1 : i < 8) : wp (aI h (n + 94) i) (fun x => 0 ≤ x ∧ x ≤ 7) := by
  obtain ⟨c, e, ⟨f, rfl, r⟩⟩ := w.1 94 (by decide)
  exact ⟨_, aI_to e (by decide) i0 i1, ⟨(r _ (i32_clamp i0 (by decide) i1).2).1, (r _ (i32_clamp i0 (by decide) i1).2).2⟩⟩
theorem sI_94 {i x : Int32} (w : WT n b L xs τ g h) (i0 : 0 ≤ i) (i1 : i < 8) (z0 : 0 ≤ x) (z1 : x ≤ 7) : wp (sI h (n + 94) i x) (fun h2 => WT n b L xs τ g h2) := by
  obtain ⟨c, e, ⟨f, rfl, r⟩⟩ := w.1 94 (by decide)
  exact ⟨_, sI_to e (by decide) i0 i1, w.set (j := 94) (by decide) ⟨_, rfl, upd_all (P := fun x => 0 ≤ x ∧ x ≤ 7) r ⟨z0, z1⟩⟩⟩
theorem aN_95 (w : WT n b L xs τ g h) : aN h (n + 95) = some 24 := by
  obtain ⟨c, e, ⟨f, rfl, r⟩⟩ := w.1 95 (by decide)
  exact aN_of e (by decide)
theorem aI_95 {i : Int32} (w : WT n b L xs τ g h) (i0 : 0 ≤ i) (i1 : i < 24) : wp (aI h (n + 95) i) (fun x => True) := by
  obtain ⟨c, e, ⟨f, rfl, -⟩⟩ := w.1 95 (by decide)
  exact ⟨_, aI_to e (by decide) i0 i1, trivial⟩
theorem sI_95 {i x : Int32} (w : WT n b L xs τ g h) (i0 : 0 ≤ i) (i1 : i < 24) : wp (sI h (n + 95) i x) (fun h2 => WT n b L xs τ g h2) := by
  obtain ⟨c, e, ⟨f, rfl, -⟩⟩ := w.1 95 (by decide)
  exact ⟨_, sI_to e (by decide) i0 i1, w.set (j := 95) (by decide) ⟨_, rfl, trivial⟩⟩
theorem aN_96 (w : WT n b L xs τ g h) : aN h (n + 96) = some 8 := by
  obtain ⟨c, e, ⟨f, rfl, r⟩⟩ := w.1 96 (by decide)
  exact aN_of e (by decide)
theorem aI_96 {i : Int32} (w : WT n b L xs τ g h) (i0 : 0 ≤ i) (i1 : i < 8) : wp (aI h (n + 96) i) (fun x => 0 ≤ x ∧ x ≤ 7) := by
  obtain ⟨c, e, ⟨f, rfl, r⟩⟩ := w.1 96 (by decide)
  exact ⟨_, aI_to e (by decide) i0 i1, ⟨(r _ (i32_clamp i0 (by decide) i1).2).1, (r _ (i32_clamp i0 (by decide) i1).2).2⟩⟩
theorem sI_96 {i x : Int32} (w : WT n b L xs τ g h) (i0 : 0 ≤ i) (i1 : i < 8) (z0 : 0 ≤ x) (z1 : x ≤ 7) : wp (sI h (n + 96) i x) (fun h2 => WT n b L xs τ g h2) := by
  obtain ⟨c, e, ⟨f, rfl, r⟩⟩ := w.1 96 (by decide)
  exact ⟨_, sI_to e (by decide) i0 i1, w.set (j := 96) (by decide) ⟨_, rfl, upd_all (P := fun x => 0 ≤ x ∧ x ≤ 7) r ⟨z0, z1⟩⟩⟩
theorem aN_97 (w : WT n b L xs τ g h) : aN h (n + 97) = some 8 := by
  obtain ⟨c, e, ⟨f, rfl, r⟩⟩ := w.1 97 (by decide)
  exact aN_of e (by decide)
theorem aI_97 {i : Int32} (w : WT n b L xs τ g h) (i0 : 0 ≤ i) (i1 : i < 8) : wp (aI h (n + 97) i) (fun x => True) := by
  obtain ⟨c, e, ⟨f, rfl, -⟩⟩ := w.1 97 (by decide)
  exact ⟨_, aI_to e (by decide) i0 i1, trivial⟩
theorem sI_97 {i x : Int32} (w : WT n b L xs τ g h) (i0 : 0 ≤ i) (i1 : i < 8) : wp (sI h (n + 97) i x) (fun h2 => WT n b L xs τ g h2) := by
  obtain ⟨c, e, ⟨f, rfl, -⟩⟩ := w.1 97 (by decide)
  exact ⟨_, sI_to e (by decide) i0 i1, w.set (j := 97) (by decide) ⟨_, rfl, trivial⟩⟩
theorem aN_98 (w : WT n b L xs τ g h) : aN h (n + 98) = some 8 := by
  obtain ⟨c, e, ⟨f, rfl, r⟩⟩ := w.1 98 (by decide)
  exact aN_of e (by decide)
theorem aI_98 {i : Int32} (w : WT n b L xs τ g h) (i0 : 0 ≤ i) (i1 : i < 8) : wp (aI h (n + 98) i) (fun x => 1 ≤ x ∧ x ≤ 2187) := by
  obtain ⟨c, e, ⟨f, rfl, r⟩⟩ := w.1 98 (by decide)
  exact ⟨_, aI_to e (by decide) i0 i1, ⟨(r _ (i32_clamp i0 (by decide) i1).2).1, (r _ (i32_clamp i0 (by decide) i1).2).2⟩⟩
theorem sI_98 {i x : Int32} (w : WT n b L xs τ g h) (i0 : 0 ≤ i) (i1 : i < 8) (z0 : 1 ≤ x) (z1 : x ≤ 2187) : wp (sI h (n + 98) i x) (fun h2 => WT n b L xs τ g h2) := by
  obtain ⟨c, e, ⟨f, rfl, r⟩⟩ := w.1 98 (by decide)
  exact ⟨_, sI_to e (by decide) i0 i1, w.set (j := 98) (by decide) ⟨_, rfl, upd_all (P := fun x => 1 ≤ x ∧ x ≤ 2187) r ⟨z0, z1⟩⟩⟩
theorem aN_99 (w : WT n b L xs τ g h) : aN h (n + 99) = some 1 := by
  obtain ⟨c, e, ⟨f, rfl, r⟩⟩ := w.1 99 (by decide)
  exact aN_of e (by decide)
theorem aL_99 {i : Int32} (w : WT n b L xs τ g h) (i0 : 0 ≤ i) (i1 : i < 1) : wp (aL h (n + 99) i) (fun x => True) := by
  obtain ⟨c, e, ⟨f, rfl, -⟩⟩ := w.1 99 (by decide)
  exact ⟨_, aL_to e (by decide) i0 i1, trivial⟩
theorem sL_99 {i : Int32} {x : Int64} (w : WT n b L xs τ g h) (i0 : 0 ≤ i) (i1 : i < 1) : wp (sL h (n + 99) i x) (fun h2 => WT n b L xs τ g h2) := by
  obtain ⟨c, e, ⟨f, rfl, -⟩⟩ := w.1 99 (by decide)
  exact ⟨_, sL_to e (by decide) i0 i1, w.set (by decide) ⟨_, rfl, trivial⟩⟩
end WTS
