/-! the fresh heap is typed -/
def hF (sz : Nat) (cc : Nat → Nat) (b : Nat) (xs : Nat → Int32) (L : Nat) : zH := hL (hL (zh0 sz cc b L xs) (L11 sz)) (L12 (sz + 42) ++ [zblank 1 1])
theorem zh0_nil {sz : Nat} {cc : Nat → Nat} {b L : Nat} {xs : Nat → Int32} (had : zad sz cc b) : hL (zh0 sz cc b L xs) [] = zh0 sz cc b L xs := by
  obtain ⟨a1, a2, a3, a4, a5, a6, -⟩ := had
  refine hL_nil (fun q hq => ?_)
  have hq' : ¬ q < sz := hq
  show (if q = b then _ else if q = cc 0 then _ else if q = cc 4 then _ else if q = cc 5 then _ else none) = _
  rw [if_neg (by omega), if_neg (by omega), if_neg (by omega), if_neg (by omega)]
theorem hL_nil2 {h : zH} {L : List zE} : hL (hL h L) [] = hL h L := by
  refine hL_nil (fun q hq => ?_)
  have hq' : ¬ q < h.1.1 + L.length := hq
  show (if q < h.1.1 then h.2 q else L[q - h.1.1]?) = none
  rw [if_neg (by omega)]
  exact List.getElem?_eq_none (by omega)
def g0 : zGh := (fun j k => if (j = 0 ∧ k = 12) ∨ (j = 42 ∧ k = 26) then -1 else 0, fun j => if j = 31 ∨ j = 90 then zM1 else fun _ => 0, fun j => if j = 47 then zMw else fun _ => 0)
theorem zPw_r : ∀ k, k < 8 → 1 ≤ zPw k ∧ zPw k ≤ 2187 := by decide
theorem z_rg {lo hi : Int32} {m : Nat} (h : lo ≤ 0 ∧ 0 ≤ hi) : ∀ k, k < m → lo ≤ (fun _ : Nat => (0 : Int32)) k ∧ (fun _ : Nat => (0 : Int32)) k ≤ hi := fun _ _ => h
section FWT
variable {sz : Nat} {cc : Nat → Nat} {b L : Nat} {xs : Nat → Int32}
theorem hF_old {q : Nat} (hq : q < sz) : (hF sz cc b xs L).2 q = (zh0 sz cc b L xs).2 q := (hL_old (show q < sz + 42 by omega)).trans (hL_old hq)
theorem hF_11 (had : zad sz cc b) (k : Nat) (hk : k < 42) : (hF sz cc b xs L).2 (sz + k) = (L11 sz)[k]? := (hL_old (show sz + k < sz + 42 by omega)).trans (hL_at (zh0 sz cc b L xs) (L11 sz) k)
theorem hF_12 (k : Nat) (hk : k < 57) : (hF sz cc b xs L).2 (sz + (42 + k)) = (L12 (sz + 42))[k]? := by
  rw [← Nat.add_assoc]
  exact (hL_at (hL (zh0 sz cc b L xs) (L11 sz)) _ k).trans (List.getElem?_append_left hk)
theorem hF_99 : (hF sz cc b xs L).2 (sz + 99) = some (zblank 1 1) := by
  rw [show sz + 99 = sz + 42 + 57 by omega]
  exact (hL_at (hL (zh0 sz cc b L xs) (L11 sz)) _ 57).trans rfl
theorem hF_c (had : zad sz cc b) : ∀ j, j < 100 → ∃ c, (hF sz cc b xs L).2 (sz + j) = some c ∧ KO sz (fun _ => 0) (g0.1 j) (g0.2.1 j) (g0.2.2 j) j c
  | 0, _ => ⟨_, ((hF_11 had 0 (by decide)).trans rfl), ⟨fun k => ([0, 0, 0, 0, 0, 0, 0, 0, 0, 0, 0, 0, (-1)] : List Int32).getD k 0, rfl, rfl, (by decide : (0 : Int32) ≤ 0), (by decide : (0 : Int32) ≤ 40), rfl, (by decide : (0 : Int32) ≤ 0), (by decide : (0 : Int32) ≤ 30), rfl, (by decide : ((-1) : Int32) ≤ (-1)), (by decide : ((-1) : Int32) ≤ 30)⟩⟩
  | 1, _ => ⟨_, ((hF_11 had 1 (by decide)).trans rfl), ⟨_, rfl, (fun k a e => nomatch e), fun k hk => absurd hk (Nat.not_lt_zero _)⟩⟩
  | 2, _ => ⟨_, ((hF_11 had 2 (by decide)).trans rfl), ⟨fun k => ([0, 0, 0, 0, 0, 0, 0] : List Int32).getD k 0, rfl, (by decide : ((-1) : Int32) ≤ 0), (by decide : (0 : Int32) ≤ 60)⟩⟩
  | 3, _ => ⟨_, ((hF_11 had 3 (by decide)).trans rfl), ⟨fun k => ([0, 0, 0, 0, 0, 0, 0, 0] : List Int32).getD k 0, 0, rfl, rfl, (by decide : (0 : Int32) ≤ 0), (by decide : (0 : Int32) ≤ 1000), rfl, (by decide : (0 : Int32) ≤ 0), (by decide : (0 : Int32) ≤ 1000), rfl, (by decide : (0 : Int32) ≤ 0), (by decide : (0 : Int32) ≤ 203), rfl, (by decide : (0 : Int32) ≤ 0), (by decide : (0 : Int32) ≤ 1000), rfl, (by decide : (0 : Int32) ≤ 0), (by decide : (0 : Int32) ≤ 9999)⟩⟩
  | 4, _ => ⟨_, ((hF_11 had 4 (by decide)).trans rfl), ⟨_, rfl, rfl, z_rg (by decide)⟩⟩
  | 5, _ => ⟨_, ((hF_11 had 5 (by decide)).trans rfl), ⟨_, rfl, trivial⟩⟩
  | 6, _ => ⟨_, ((hF_11 had 6 (by decide)).trans rfl), ⟨fun k => ([0, 0, 0, 0, 0, 0, 0, 0, 0] : List Int32).getD k 0, rfl, rfl, (by decide : (0 : Int32) ≤ 0), (by decide : (0 : Int32) ≤ 100), rfl, (by decide : (0 : Int32) ≤ 0), (by decide : (0 : Int32) ≤ 1000), rfl, (by decide : (0 : Int32) ≤ 0), (by decide : (0 : Int32) ≤ 32), rfl⟩⟩
  | 7, _ => ⟨_, ((hF_11 had 7 (by decide)).trans rfl), ⟨_, rfl, trivial⟩⟩
  | 8, _ => ⟨_, ((hF_11 had 8 (by decide)).trans rfl), ⟨_, rfl, z_rg (by decide)⟩⟩
  | 9, _ => ⟨_, ((hF_11 had 9 (by decide)).trans rfl), ⟨_, rfl, z_rg (by decide)⟩⟩
  | 10, _ => ⟨_, ((hF_11 had 10 (by decide)).trans rfl), ⟨fun k => ([0, 0, 0, 0, 0, 0, 0, 0, 0, 0, 0] : List Int32).getD k 0, rfl, rfl, (by decide : (0 : Int32) ≤ 0), (by decide : (0 : Int32) ≤ 16), (by decide : (0 : Int32) ≤ 0), (by decide : (0 : Int32) ≤ 32)⟩⟩
  | 11, _ => ⟨_, ((hF_11 had 11 (by decide)).trans rfl), ⟨_, rfl, (fun k a e => nomatch e)⟩⟩
  | 12, _ => ⟨_, ((hF_11 had 12 (by decide)).trans rfl), ⟨_, rfl, trivial⟩⟩
  | 13, _ => ⟨_, ((hF_11 had 13 (by decide)).trans rfl), ⟨_, rfl, trivial⟩⟩
  | 14, _ => ⟨_, ((hF_11 had 14 (by decide)).trans rfl), ⟨fun k => ([0, 0, 0, 0, 0, 0, 0] : List Int32).getD k 0, rfl, rfl, (by decide : (0 : Int32) ≤ 0), (by decide : (0 : Int32) ≤ 80), (by decide : (0 : Int32) ≤ 0), (by decide : (0 : Int32) ≤ 128)⟩⟩
  | 15, _ => ⟨_, ((hF_11 had 15 (by decide)).trans rfl), ⟨_, rfl, (fun k a e => nomatch e)⟩⟩
  | 16, _ => ⟨_, ((hF_11 had 16 (by decide)).trans rfl), ⟨_, rfl, trivial⟩⟩
  | 17, _ => ⟨_, ((hF_11 had 17 (by decide)).trans rfl), ⟨_, rfl, trivial⟩⟩
  | 18, _ => ⟨_, ((hF_11 had 18 (by decide)).trans rfl), ⟨_, rfl, trivial⟩⟩
  | 19, _ => ⟨_, ((hF_11 had 19 (by decide)).trans rfl), ⟨_, rfl, trivial⟩⟩
  | 20, _ => ⟨_, ((hF_11 had 20 (by decide)).trans rfl), ⟨fun k => ([0, 0, 0, 0, 0, 0, 0, 0] : List Int32).getD k 0, rfl, rfl, (by decide : (0 : Int32) ≤ 0), (by decide : (0 : Int32) ≤ 4), rfl, rfl, rfl⟩⟩
  | 21, _ => ⟨_, ((hF_11 had 21 (by decide)).trans rfl), ⟨_, rfl, rfl⟩⟩
  | 22, _ => ⟨_, ((hF_11 had 22 (by decide)).trans rfl), ⟨_, rfl, rfl⟩⟩
  | 23, _ => ⟨_, ((hF_11 had 23 (by decide)).trans rfl), ⟨_, rfl, rfl, z_rg (by decide)⟩⟩
  | 24, _ => ⟨_, ((hF_11 had 24 (by decide)).trans rfl), ⟨_, rfl, rfl⟩⟩
  | 25, _ => ⟨_, ((hF_11 had 25 (by decide)).trans rfl), ⟨fun k => ([0, 0, 0, 0, 0, 0, 0] : List Int32).getD k 0, rfl, rfl, (by decide : (0 : Int32) ≤ 0), (by decide : (0 : Int32) ≤ 1), rfl, rfl, (by decide : (0 : Int32) ≤ 0), (by decide : (0 : Int32) ≤ 8)⟩⟩
  | 26, _ => ⟨_, ((hF_11 had 26 (by decide)).trans rfl), ⟨_, rfl, rfl⟩⟩
  | 27, _ => ⟨_, ((hF_11 had 27 (by decide)).trans rfl), ⟨_, rfl, rfl⟩⟩
  | 28, _ => ⟨_, ((hF_11 had 28 (by decide)).trans rfl), ⟨_, rfl, rfl⟩⟩
  | 29, _ => ⟨_, ((hF_11 had 29 (by decide)).trans rfl), ⟨_, rfl, rfl⟩⟩
  | 30, _ => ⟨_, ((hF_11 had 30 (by decide)).trans rfl), ⟨fun k => ([0, 0] : List Int32).getD k 0, rfl, trivial⟩⟩
  | 31, _ => ⟨_, ((hF_11 had 31 (by decide)).trans rfl), ⟨_, rfl, rfl⟩⟩
  | 32, _ => ⟨_, ((hF_11 had 32 (by decide)).trans rfl), ⟨_, rfl, rfl⟩⟩
  | 33, _ => ⟨_, ((hF_11 had 33 (by decide)).trans rfl), ⟨fun k => ([0, 0, 0, 0, 0, 0, 0, 0, 1, 0, 0] : List Int32).getD k 0, rfl, (by decide : (0 : Int32) ≤ 1), (by decide : (1 : Int32) ≤ 1), rfl, rfl, (by decide : (0 : Int32) ≤ 0), (by decide : (0 : Int32) ≤ 8)⟩⟩
  | 34, _ => ⟨_, ((hF_11 had 34 (by decide)).trans rfl), ⟨_, rfl, trivial⟩⟩
  | 35, _ => ⟨_, ((hF_11 had 35 (by decide)).trans rfl), ⟨_, rfl, trivial⟩⟩
  | 36, _ => ⟨_, ((hF_11 had 36 (by decide)).trans rfl), ⟨_, rfl, trivial⟩⟩
  | 37, _ => ⟨_, ((hF_11 had 37 (by decide)).trans rfl), ⟨_, rfl, trivial⟩⟩
  | 38, _ => ⟨_, ((hF_11 had 38 (by decide)).trans rfl), ⟨_, rfl, trivial⟩⟩
  | 39, _ => ⟨_, ((hF_11 had 39 (by decide)).trans rfl), ⟨_, rfl, trivial⟩⟩
  | 40, _ => ⟨_, ((hF_11 had 40 (by decide)).trans rfl), ⟨_, rfl, trivial⟩⟩
  | 41, _ => ⟨_, ((hF_11 had 41 (by decide)).trans rfl), ⟨_, rfl, trivial⟩⟩
  | 42, _ => ⟨_, ((hF_12 0 (by decide)).trans rfl), ⟨fun k => ([0, 0, 0, 0, 0, 0, 0, 0, 0, 0, 0, 0, 0, 0, 0, 0, 0, 0, 0, 0, 0, 0, 0, 0, 0, 0, (-1), 0, 0, 0, 0, 0, 0, 0, 0, 0, 0, 0, 0, 0, 0, 0, 0, 0, 0, 0, 0, 0, 0, 0, 0, 0, 0, 0, 0, 0, 0, 0, 0, 0, 0, 0, 0, 0, 0, 0, 0, 0, 0, 0, 0, 0, 0, 0, 0, 0, 0, 0, 0, 0] : List Int32).getD k 0, rfl, rfl, (by decide : (0 : Int32) ≤ 0), (by decide : (0 : Int32) ≤ 1000), (by decide : (0 : Int32) ≤ 0), (by decide : (0 : Int32) ≤ 1000), rfl, (by decide : (0 : Int32) ≤ 0), (by decide : (0 : Int32) ≤ 1001), rfl, rfl, (by decide : (0 : Int32) ≤ 0), (by decide : (0 : Int32) ≤ 16), rfl, (by decide : (0 : Int32) ≤ 0), (by decide : (0 : Int32) ≤ 8), rfl, (by decide : (0 : Int32) ≤ 0), (by decide : (0 : Int32) ≤ 1199), rfl, (by decide : (0 : Int32) ≤ 0), (by decide : (0 : Int32) ≤ 30), rfl, (by decide : ((-1) : Int32) ≤ (-1)), (by decide : ((-1) : Int32) ≤ 30), rfl, (by decide : (0 : Int32) ≤ 0), (by decide : (0 : Int32) ≤ 40), (by decide : (0 : Int32) ≤ 0), (by decide : (0 : Int32) ≤ 60), (by decide : (0 : Int32) ≤ 0), (by decide : (0 : Int32) ≤ 1), rfl, (by decide : (0 : Int32) ≤ 0), (by decide : (0 : Int32) ≤ 80), rfl, (by decide : ((-1) : Int32) ≤ 0), (by decide : (0 : Int32) ≤ 255), rfl, rfl, rfl, (by decide : (0 : Int32) ≤ 0), (by decide : (0 : Int32) ≤ 8), rfl, (by decide : (0 : Int32) ≤ 0), (by decide : (0 : Int32) ≤ 8)⟩⟩
  | 43, _ => ⟨_, ((hF_12 1 (by decide)).trans rfl), ⟨_, rfl, trivial⟩⟩
  | 44, _ => ⟨_, ((hF_12 2 (by decide)).trans rfl), ⟨_, rfl, rfl⟩⟩
  | 45, _ => ⟨_, ((hF_12 3 (by decide)).trans rfl), ⟨_, rfl, z_rg (by decide)⟩⟩
  | 46, _ => ⟨_, ((hF_12 4 (by decide)).trans rfl), ⟨_, rfl, rfl⟩⟩
  | 47, _ => ⟨_, ((hF_12 5 (by decide)).trans rfl), ⟨_, rfl, rfl⟩⟩
  | 48, _ => ⟨_, ((hF_12 6 (by decide)).trans rfl), ⟨_, rfl, trivial⟩⟩
  | 49, _ => ⟨_, ((hF_12 7 (by decide)).trans rfl), ⟨_, rfl, trivial⟩⟩
  | 50, _ => ⟨_, ((hF_12 8 (by decide)).trans rfl), ⟨_, rfl, rfl⟩⟩
  | 51, _ => ⟨_, ((hF_12 9 (by decide)).trans rfl), ⟨_, rfl, rfl⟩⟩
  | 52, _ => ⟨_, ((hF_12 10 (by decide)).trans rfl), ⟨_, rfl, trivial⟩⟩
  | 53, _ => ⟨_, ((hF_12 11 (by decide)).trans rfl), ⟨_, rfl, rfl⟩⟩
  | 54, _ => ⟨_, ((hF_12 12 (by decide)).trans rfl), ⟨_, rfl, trivial⟩⟩
  | 55, _ => ⟨_, ((hF_12 13 (by decide)).trans rfl), ⟨_, rfl, rfl⟩⟩
  | 56, _ => ⟨_, ((hF_12 14 (by decide)).trans rfl), ⟨_, rfl, rfl⟩⟩
  | 57, _ => ⟨_, ((hF_12 15 (by decide)).trans rfl), ⟨_, rfl, trivial⟩⟩
  | 58, _ => ⟨_, ((hF_12 16 (by decide)).trans rfl), ⟨_, rfl, trivial⟩⟩
  | 59, _ => ⟨_, ((hF_12 17 (by decide)).trans rfl), ⟨_, rfl, trivial⟩⟩
  | 60, _ => ⟨_, ((hF_12 18 (by decide)).trans rfl), ⟨_, rfl, trivial⟩⟩
  | 61, _ => ⟨_, ((hF_12 19 (by decide)).trans rfl), ⟨_, rfl, trivial⟩⟩
  | 62, _ => ⟨_, ((hF_12 20 (by decide)).trans rfl), ⟨_, rfl, z_rg (by decide)⟩⟩
  | 63, _ => ⟨_, ((hF_12 21 (by decide)).trans rfl), ⟨_, rfl, trivial⟩⟩
  | 64, _ => ⟨_, ((hF_12 22 (by decide)).trans rfl), ⟨_, rfl, trivial⟩⟩
  | 65, _ => ⟨_, ((hF_12 23 (by decide)).trans rfl), ⟨_, rfl, rfl⟩⟩
  | 66, _ => ⟨_, ((hF_12 24 (by decide)).trans rfl), ⟨_, rfl, trivial⟩⟩
  | 67, _ => ⟨_, ((hF_12 25 (by decide)).trans rfl), ⟨_, rfl, trivial⟩⟩
  | 68, _ => ⟨_, ((hF_12 26 (by decide)).trans rfl), ⟨_, rfl, trivial⟩⟩
  | 69, _ => ⟨_, ((hF_12 27 (by decide)).trans rfl), ⟨_, rfl, trivial⟩⟩
  | 70, _ => ⟨_, ((hF_12 28 (by decide)).trans rfl), ⟨_, rfl, trivial⟩⟩
  | 71, _ => ⟨_, ((hF_12 29 (by decide)).trans rfl), ⟨_, rfl, trivial⟩⟩
  | 72, _ => ⟨_, ((hF_12 30 (by decide)).trans rfl), ⟨_, rfl, trivial⟩⟩
  | 73, _ => ⟨_, ((hF_12 31 (by decide)).trans rfl), ⟨_, rfl, trivial⟩⟩
  | 74, _ => ⟨_, ((hF_12 32 (by decide)).trans rfl), ⟨_, rfl, z_rg (by decide)⟩⟩
  | 75, _ => ⟨_, ((hF_12 33 (by decide)).trans rfl), ⟨_, rfl, trivial⟩⟩
  | 76, _ => ⟨_, ((hF_12 34 (by decide)).trans rfl), ⟨_, rfl, trivial⟩⟩
  | 77, _ => ⟨_, ((hF_12 35 (by decide)).trans rfl), ⟨_, rfl, trivial⟩⟩
  | 78, _ => ⟨_, ((hF_12 36 (by decide)).trans rfl), ⟨_, rfl, trivial⟩⟩
  | 79, _ => ⟨_, ((hF_12 37 (by decide)).trans rfl), ⟨_, rfl, trivial⟩⟩
  | 80, _ => ⟨_, ((hF_12 38 (by decide)).trans rfl), ⟨_, rfl, trivial⟩⟩
  | 81, _ => ⟨_, ((hF_12 39 (by decide)).trans rfl), ⟨_, rfl, rfl⟩⟩
  | 82, _ => ⟨_, ((hF_12 40 (by decide)).trans rfl), ⟨_, rfl, rfl⟩⟩
  | 83, _ => ⟨_, ((hF_12 41 (by decide)).trans rfl), ⟨_, rfl, rfl⟩⟩
  | 84, _ => ⟨_, ((hF_12 42 (by decide)).trans rfl), ⟨_, rfl, rfl⟩⟩
  | 85, _ => ⟨_, ((hF_12 43 (by decide)).trans rfl), ⟨_, rfl, rfl⟩⟩
  | 86, _ => ⟨_, ((hF_12 44 (by decide)).trans rfl), ⟨_, rfl, rfl⟩⟩
  | 87, _ => ⟨_, ((hF_12 45 (by decide)).trans rfl), ⟨_, rfl, rfl⟩⟩
  | 88, _ => ⟨_, ((hF_12 46 (by decide)).trans rfl), ⟨_, rfl, rfl⟩⟩
  | 89, _ => ⟨_, ((hF_12 47 (by decide)).trans rfl), ⟨_, rfl, rfl⟩⟩
  | 90, _ => ⟨_, ((hF_12 48 (by decide)).trans rfl), ⟨_, rfl, rfl⟩⟩
  | 91, _ => ⟨_, ((hF_12 49 (by decide)).trans rfl), ⟨_, rfl, rfl⟩⟩
  | 92, _ => ⟨_, ((hF_12 50 (by decide)).trans rfl), ⟨_, rfl, trivial⟩⟩
  | 93, _ => ⟨_, ((hF_12 51 (by decide)).trans rfl), ⟨_, rfl, z_rg (by decide)⟩⟩
  | 94, _ => ⟨_, ((hF_12 52 (by decide)).trans rfl), ⟨_, rfl, z_rg (by decide)⟩⟩
  | 95, _ => ⟨_, ((hF_12 53 (by decide)).trans rfl), ⟨_, rfl, trivial⟩⟩
  | 96, _ => ⟨_, ((hF_12 54 (by decide)).trans rfl), ⟨_, rfl, z_rg (by decide)⟩⟩
  | 97, _ => ⟨_, ((hF_12 55 (by decide)).trans rfl), ⟨_, rfl, trivial⟩⟩
  | 98, _ => ⟨_, ((hF_12 56 (by decide)).trans rfl), ⟨_, rfl, zPw_r⟩⟩
  | 99, _ => ⟨_, hF_99, ⟨_, rfl, trivial⟩⟩
  | j + 100, hj => absurd hj (by omega)
theorem hF_WT (had : zad sz cc b) : WT sz b L xs (fun _ => 0) g0 (hF sz cc b xs L) := by
  obtain ⟨a1, a2, a3, a4, a5, a6, a7, a8, a9, b1, b2, b3, b4⟩ := id had
  refine ⟨hF_c had, fun a ha => absurd rfl ha, Nat.le_refl _, ⟨?_, a1⟩, ⟨?_, a2⟩, ?_, a6, b4⟩
  · rw [hF_old a1]
    show (if b = b then _ else _) = _
    rw [if_pos rfl]
  · show (hF sz cc b xs L).2 (cc 0) = _
    rw [hF_old a2]
    show (if cc 0 = b then _ else if cc 0 = cc 0 then _ else _) = _
    rw [if_neg a7, if_pos rfl]
  · show (hF sz cc b xs L).2 (cc 5) = _
    rw [hF_old a6]
    show (if cc 5 = b then _ else if cc 5 = cc 0 then _ else if cc 5 = cc 4 then _ else if cc 5 = cc 5 then _ else none) = _
    rw [if_neg a9, if_neg b2, if_neg b3, if_pos rfl]
theorem g0_CP : CP g0 := by
  refine ⟨⟨rfl, rfl⟩, rfl, rfl, rfl, rfl, rfl, ⟨rfl, fun _ _ => rfl, fun i => ?_⟩, fun i i0 i1 => ?_, fun i i0 i1 => Or.inl rfl, ⟨0, by omega, rfl, fun bb hb => absurd hb (Nat.not_lt_zero _)⟩, ⟨⟨0, by omega, rfl, rfl, fun _ _ _ => rfl⟩, fun _ _ => rfl, fun _ _ => rfl, fun _ _ _ _ _ => rfl⟩, fun _ _ => rfl, fun s hs t => absurd (show (0 : Int32) < 0 from t) (by decide), fun s q hs hq _ => ⟨fun _ => mt_0 q hq, fun _ => rfl⟩⟩
  · show zM1 i = -1 ∨ 0 ≤ zM1 i
    unfold zM1
    by_cases e : i < 248
    · rw [if_pos e]; exact Or.inl rfl
    · rw [if_neg e]; exact Or.inr (by decide)
  · have i1' : i < 0 := i1
    exact absurd i0 (Int32.not_le.mpr i1')
theorem hF_IV (had : zad sz cc b) : IV sz b L xs (hF sz cc b xs L) := ⟨_, _, hF_WT had, g0_CP⟩
end FWT
