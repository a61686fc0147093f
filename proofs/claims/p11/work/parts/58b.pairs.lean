/-! class and reference side by side -/
def PA (g : zGh) : Prop := ∀ i : Int32, 0 ≤ i → i < g.1 42 27 → 1 ≤ g.2.1 65 i.toNatClampNeg
def HS (g : zGh) : Prop := ∀ i : Int32, 0 ≤ i → i < 4 → g.2.1 82 i.toNatClampNeg = 0 ∨ ¬ g.2.1 83 i.toNatClampNeg = 0
def HU (g : zGh) : Prop := g.2.1 90 = g.2.1 31 ∧ (∀ i, ¬ g.2.1 31 i = -1 → g.2.1 91 i = g.2.1 32 i) ∧ (∀ i, g.2.1 31 i = -1 ∨ 0 ≤ g.2.1 31 i)
/-- the house: class and reference have the same heads and leanings -/
def HQ (g : zGh) : Prop := HC g ∧ (∀ v, v < 8 → g.2.1 88 v = g.2.1 26 v) ∧ (∀ k, k < 72 → g.2.1 89 k = g.2.1 27 k) ∧ (∀ C k, g.1 25 6 = nI C → C ≤ 8 → 9 * C ≤ k → g.2.1 27 k = 0)
/-- the corner: class and reference have the same streams -/
def CQ (g : zGh) : Prop := CR (g.2.1 21) (g.2.1 22) (mtS (g.2.1 23)) g
/-- the meetings: class and reference have the same, and what is settled is so -/
def MtQ (g : zGh) : Prop := g.1 1 1 = g.1 0 10 ∧ ∀ k, k < (g.1 0 10).toNatClampNeg → MK (fun z => g.1 100 (16 * k + z)) (g.2.1 61 k) (g.2.1 62 k) (g.2.1 63 k) (g.2.1 64 k) (g.2.1 65 k) (g.2.1 66 k) (g.2.1 67 k) (g.2.1 68 k) (g.2.1 69 k) (g.2.1 70 k)
theorem MK_congr {F F' : Nat → Int32} {x s re y p l sx sy fl wd : Int32} (e : ∀ z, z < 13 → F z = F' z) (m : MK F' x s re y p l sx sy fl wd) : MK F x s re y p l sx sy fl wd := by
  unfold MK
  rw [mtF_congr (fun z hz => e z (by omega)), fiF_congr (fun z hz => e z (by omega)), e 0 (by decide), e 1 (by decide), e 2 (by decide), e 3 (by decide), e 4 (by decide), e 5 (by decide), e 6 (by decide), e 7 (by decide), e 8 (by decide), e 9 (by decide), e 10 (by decide), e 11 (by decide), e 12 (by decide)]
  exact m
theorem MtQ_eq {g g' : zGh} (c : MtQ g) (h0 : g'.1 0 10 = g.1 0 10) (h1 : g'.1 1 1 = g.1 1 1) (h2 : g'.1 100 = g.1 100) (h3 : ∀ j, 61 ≤ j → j ≤ 70 → g'.2.1 j = g.2.1 j) : MtQ g' := by
  unfold MtQ
  rw [h0, h1, h2, h3 61 (by decide) (by decide), h3 62 (by decide) (by decide), h3 63 (by decide) (by decide), h3 64 (by decide) (by decide), h3 65 (by decide) (by decide), h3 66 (by decide) (by decide), h3 67 (by decide) (by decide), h3 68 (by decide) (by decide), h3 69 (by decide) (by decide), h3 70 (by decide) (by decide)]
  exact c
/-- the rulings: class and reference have the same -/
def RuQ (g : zGh) : Prop := g.1 42 26 = g.1 0 12 ∧ (∀ c, c < 128 → g.2.1 18 c = mkC c) ∧ g.1 15 0 = g.1 14 5 ∧ ∀ r, r < (g.1 14 5).toNatClampNeg → (g.2.1 76 r = g.2.1 16 r ∧ g.2.1 75 r = g.2.1 17 r ∧ g.2.1 74 r = g.2.1 15 r) ∧ (g.2.1 17 r = 0 ∨ g.2.1 17 r = 1) ∧ (0 ≤ g.2.1 15 r ∧ g.2.1 15 r < g.1 0 10)
theorem RuQ_eq {g g' : zGh} (c : RuQ g) (h0 : g'.1 42 26 = g.1 42 26) (h1 : g'.1 0 12 = g.1 0 12) (h2 : g'.1 15 0 = g.1 15 0) (h3 : g'.1 14 5 = g.1 14 5) (h4 : g'.1 0 10 = g.1 0 10) (h5 : ∀ j, 15 ≤ j → j ≤ 18 → g'.2.1 j = g.2.1 j) (h6 : ∀ j, 74 ≤ j → j ≤ 76 → g'.2.1 j = g.2.1 j) : RuQ g' := by
  unfold RuQ
  rw [h0, h1, h2, h3, h4, h5 15 (by decide) (by decide), h5 16 (by decide) (by decide), h5 17 (by decide) (by decide), h5 18 (by decide) (by decide), h6 74 (by decide) (by decide), h6 75 (by decide) (by decide), h6 76 (by decide) (by decide)]
  exact c
/-- the by-laws: class and reference have the same tape, words and number of laws -/
def LwQ (g : zGh) : Prop := g.1 42 10 = g.1 10 3 ∧ (∀ i, i < (g.1 3 2).toNatClampNeg → g.2.1 43 i = g.2.1 4 i) ∧ WKc g ∧ ∀ j, j < 21 → g.2.2 47 j = Int64.ofNat (w37 (pm j))
theorem LwQ_eq {g g' : zGh} (c : LwQ g) (h0 : g'.1 42 10 = g.1 42 10) (h1 : g'.1 10 3 = g.1 10 3) (h2 : g'.1 3 2 = g.1 3 2) (h3 : g'.2.1 43 = g.2.1 43) (h4 : g'.2.1 4 = g.2.1 4) (h5 : g'.2.2 5 = g.2.2 5) (h6 : g'.2.2 47 = g.2.2 47) : LwQ g' := by
  unfold LwQ WKc
  rw [h0, h1, h2, h3, h4, h5, h6]
  exact c
theorem LwQ_feed {g : zGh} {s s' : Int32} {f f' : Nat → Int32} (c : LwQ g) (ag : ∀ i, i < s.toNatClampNeg → f' i = f i) : LwQ (gTp (gF g s f) s' f') := ⟨c.1, ag, c.2.2⟩
theorem gF_42 (g : zGh) (s : Int32) (f : Nat → Int32) : (gF g s f).1 42 2 = g.1 42 2 := rfl
theorem gF_43 (g : zGh) (s : Int32) (f : Nat → Int32) : (gF g s f).2.1 43 = g.2.1 43 := rfl
theorem gTpF_out {g : zGh} {s s' : Int32} {f f' : Nat → Int32} {j : Nat} (h1 : j ≠ 4) (h2 : j ≠ 43) : (gTp (gF g s f) s' f').2.1 j = g.2.1 j := (gsA_out h2).trans (gsA_out h1)
/-- the kept by-laws: both sides keep the same lines -/
def KQ (τ : Nat → Nat) (g : zGh) : Prop := ∃ N LS, N ≤ 16 ∧ g.1 42 10 = nI N ∧ g.1 10 3 = nI N ∧ LWD N LS g ∧ LK τ g N LS (g.2.1 49) (g.2.1 48) ∧ ∀ k, k < N → LNo (LS k) 0 ∧ (LS k).length ≤ 20 ∧ 0 ≤ g.2.1 48 k
theorem KQ_of {τ : Nat → Nat} {g g' : zGh} (l : KQ τ g) (h1 : g'.1 42 10 = g.1 42 10) (h2 : ∀ j, j = 11 ∨ j = 101 ∨ j = 48 ∨ j = 49 ∨ j = 50 ∨ j = 51 ∨ j = 52 ∨ j = 53 ∨ j = 55 ∨ j = 56 → g'.2.1 j = g.2.1 j) (h3 : g'.1 10 3 = g.1 10 3 := by rfl) (h4 : g'.1 11 0 = g.1 11 0 := by rfl) : KQ τ g' := by
  obtain ⟨N, LS, hN, e1, e2, l1, l2, l3⟩ := l
  refine ⟨N, LS, hN, h1.trans e1, h3.trans e2, fun bb hb => ?_, ?_, ?_⟩
  · refine LAWD_keep (l1 bb hb) (by rw [h2 50 (by omega)]) (fun k _ => ⟨by rw [h2 51 (by omega)], by rw [h2 53 (by omega)], by rw [h2 52 (by omega)]⟩) (fun j _ _ => ⟨by rw [h2 55 (by omega)], by rw [h2 56 (by omega)]⟩)
  · rw [h2 48 (by omega), h2 49 (by omega)]
    exact LK_eq l2 h4 (h2 11 (by omega)) (h2 101 (by omega))
  · rw [h2 48 (by omega)]
    exact l3
theorem KQ_1 {τ : Nat → Nat} {g g' : zGh} (l : KQ τ g) (h1 : g'.1 42 10 = g.1 42 10) (h2 : g'.2.1 = g.2.1) (h3 : g'.1 10 3 = g.1 10 3 := by rfl) (h4 : g'.1 11 0 = g.1 11 0 := by rfl) : KQ τ g' := KQ_of l h1 (fun j _ => congrFun h2 j) h3 h4
theorem KQ_tu {τ : Nat → Nat} {g : zGh} {A : Nat} (l : KQ τ g) (t : τ A = 0) : KQ (tu τ A 1) g := by
  obtain ⟨N, LS, hN, e1, e2, l1, ⟨l2, l2'⟩, l3⟩ := l
  refine ⟨N, LS, hN, e1, e2, l1, ⟨l2, fun a ha => ?_⟩, l3⟩
  by_cases z : a = A
  · rw [z, tu_same] at ha
    exact absurd ha (by decide)
  · have ha' : (if a = A then 1 else τ a) = 2 := ha
    rw [if_neg z] at ha'
    obtain ⟨k, hk, k1, k2, k3, k4, k5⟩ := l2' a ha'
    refine ⟨k, hk, k1, k2, k3, ?_, k5⟩
    show (if a + 1 = A then 1 else τ (a + 1)) = _
    by_cases y : a + 1 = A
    · rw [y, t] at k4
      exact absurd k4 (by omega)
    · rw [if_neg y]
      exact k4
theorem KQ_I {τ : Nat → Nat} {g : zGh} (l : KQ τ g) : LWI g := by
  obtain ⟨N, LS, hN, e1, e2, l1, -⟩ := l
  exact LWI_of_D hN e1 l1
def CP (τ : Nat → Nat) (g : zGh) : Prop := (g.1 1 0 = g.1 0 10 ∧ g.1 42 27 = g.1 0 10) ∧ g.1 42 25 = g.1 0 11 ∧ g.1 42 49 = g.1 14 5 ∧ g.1 42 67 = g.1 25 6 ∧ g.1 42 76 = g.1 33 10 ∧ g.1 42 2 = g.1 3 2 ∧ HU g ∧ PA g ∧ HS g ∧ LwQ g ∧ KQ τ g ∧ HQ g ∧ CQ g ∧ TQ g ∧ MtQ g ∧ RuQ g
def IV (n b L : Nat) (xs : Nat → Int32) (h : zH) : Prop := ∃ τ g, WT n b L xs τ g h ∧ CP τ g
def fl (hu wa : Nat → Int32) (v1 v2 v3 : Int32) : Int32 := if hu (v1 * 31 + v2).toNatClampNeg = -1 then -1 else if hu (v1 * 31 + v3).toNatClampNeg = -1 then -1 else if hu (v1 * 31 + v3).toNatClampNeg < hu (v1 * 31 + v2).toNatClampNeg then (if lg_cmp ((hu (v1 * 31 + v3).toNatClampNeg).toInt64 * (wa (v1 * 31 + v2).toNatClampNeg).toInt64) ((hu (v1 * 31 + v2).toNatClampNeg).toInt64 * (wa (v1 * 31 + v3).toNatClampNeg).toInt64) < 0 then 2 else 1) else 0
def flOK (v1 v2 v3 : Int32) : Prop := (0 ≤ v1 ∧ v1 ≤ 7) ∧ (0 ≤ v2 ∧ v2 ≤ 30) ∧ (0 ≤ v3 ∧ v3 ≤ 30) ∧ v2 < v3
theorem CP_HG {τ : Nat → Nat} {g g' : zGh} (c : CP τ g) (hg : HG g g') (hc : HC g') : CP τ g' := by
  obtain ⟨⟨c1, c2⟩, c3, c4, c5, c6, c7, c8, c9, cA, cL, cB, cC, cD, cE, cM, cR⟩ := c
  obtain ⟨h1, h2, h3, h4⟩ := hg
  have a0 := h1 0 (by decide)
  have a1 := h1 1 (by decide)
  have a42 := h1 42 (by decide)
  have a14 := h1 14 (by decide)
  have a33 := h1 33 (by decide)
  have a3 := h1 3 (by decide)
  have a25 := h2 6 (by decide)
  refine ⟨⟨by rw [a1, a0]; exact c1, by rw [a42, a0]; exact c2⟩, by rw [a42, a0]; exact c3, by rw [a42, a14]; exact c4, by rw [a42, a25]; exact c5, by rw [a42, a33]; exact c6, by rw [a42, a3]; exact c7, ?_, ?_, ?_, LwQ_eq cL (congrFun a42 10) (congrFun (h1 10 (by decide)) 3) (congrFun a3 2) (h3 43 (by decide) (by decide)) (h3 4 (by decide) (by decide)) (congrFun h4 5) (congrFun h4 47), KQ_of cB (by rw [a42]) (fun j hj => h3 j (by omega) (by omega)) (congrFun (h1 10 (by decide)) 3) (congrFun (h1 11 (by decide)) 0), ⟨hc, ?_, ?_, ?_⟩, ?_, TQ_eq cE (h1 33 (by decide)) (fun j h1' h2' => h3 j (by omega) (by omega)), MtQ_eq cM (by rw [a0]) (by rw [a1]) (h1 100 (by decide)) (fun j h1' h2' => h3 j (by omega) (by omega)), RuQ_eq cR (congrFun a42 26) (congrFun a0 12) (congrFun (h1 15 (by decide)) 0) (congrFun a14 5) (congrFun a0 10) (fun j h1' h2' => h3 j (by omega) (by omega)) (fun j h1' h2' => h3 j (by omega) (by omega))⟩
  · unfold HU
    rw [h3 90 (by decide) (by decide), h3 91 (by decide) (by decide), h3 31 (by decide) (by decide), h3 32 (by decide) (by decide)]
    exact c8
  · unfold PA
    rw [a42, h3 65 (by decide) (by decide)]
    exact c9
  · unfold HS
    rw [h3 82 (by decide) (by decide), h3 83 (by decide) (by decide)]
    exact cA
  · rw [h3 88 (by decide) (by decide), h3 26 (by decide) (by decide)]
    exact cC.2.1
  · rw [h3 89 (by decide) (by decide), h3 27 (by decide) (by decide)]
    exact cC.2.2.1
  · rw [a25, h3 27 (by decide) (by decide)]
    exact cC.2.2.2
  · unfold CQ CR
    rw [h3 21 (by decide) (by decide), h3 22 (by decide) (by decide), h3 23 (by decide) (by decide), h3 81 (by decide) (by decide), h3 82 (by decide) (by decide), h3 83 (by decide) (by decide), h3 84 (by decide) (by decide), h3 85 (by decide) (by decide), h3 86 (by decide) (by decide)]
    exact cD
theorem CP_CG {τ : Nat → Nat} {g g' : zGh} (c : CP τ g) (p : CG g g') : CP τ g' := by
  obtain ⟨⟨c1, c2⟩, c3, c4, c5, c6, c7, c8, c9, cA, cL, cB, cC, cD, cE, cM, cR⟩ := c
  obtain ⟨h1, h3, h4⟩ := p
  have a (j k : Nat) (e1 : j ≠ 20 := by decide) (e2 : ¬ (j = 42 ∧ 63 ≤ k ∧ k ≤ 65) := by decide) : g'.1 j k = g.1 j k := h1 j k (fun z => e1 z.1) e2
  refine ⟨⟨by rw [a 1 0, a 0 10]; exact c1, by rw [a 42 27, a 0 10]; exact c2⟩, by rw [a 42 25, a 0 11]; exact c3, by rw [a 42 49, a 14 5]; exact c4, by rw [a 42 67, a 25 6]; exact c5, by rw [a 42 76, a 33 10]; exact c6, by rw [a 42 2, a 3 2]; exact c7, ?_, ?_, ?_, LwQ_eq cL (a 42 10) (a 10 3) (a 3 2) (h3 43 (by decide) (by decide)) (h3 4 (by decide) (by decide)) (congrFun h4 5) (congrFun h4 47), KQ_of cB (a 42 10) (fun j hj => h3 j (by omega) (by omega)) (a 10 3) (a 11 0), ⟨?_, ?_, ?_, ?_⟩, ?_, TQ_eq cE (funext fun k => a 33 k (by decide) (fun z => absurd z.1 (by decide))) (fun j h1' h2' => h3 j (by omega) (by omega)), MtQ_eq cM (a 0 10) (a 1 1) (funext fun k => a 100 k (by decide) (fun z => absurd z.1 (by decide))) (fun j h1' h2' => h3 j (by omega) (by omega)), RuQ_eq cR (a 42 26) (a 0 12) (a 15 0) (a 14 5) (a 0 10) (fun j h1' h2' => h3 j (by omega) (by omega)) (fun j h1' h2' => h3 j (by omega) (by omega))⟩
  · unfold HU
    rw [h3 90 (by decide) (by decide), h3 91 (by decide) (by decide), h3 31 (by decide) (by decide), h3 32 (by decide) (by decide)]
    exact c8
  · unfold PA
    rw [a 42 27, h3 65 (by decide) (by decide)]
    exact c9
  · unfold HS
    rw [h3 82 (by decide) (by decide), h3 83 (by decide) (by decide)]
    exact cA
  · unfold HC
    rw [a 25 6, a 25 5, a 25 4, h3 26 (by decide) (by decide), h3 27 (by decide) (by decide), h3 28 (by decide) (by decide)]
    exact cC.1
  · rw [h3 88 (by decide) (by decide), h3 26 (by decide) (by decide)]
    exact cC.2.1
  · rw [h3 89 (by decide) (by decide), h3 27 (by decide) (by decide)]
    exact cC.2.2.1
  · rw [a 25 6, h3 27 (by decide) (by decide)]
    exact cC.2.2.2
  · unfold CQ
    rw [h3 21 (by decide) (by decide), h3 22 (by decide) (by decide), h3 23 (by decide) (by decide)]
    exact CR_CG cD ⟨h1, h3, h4⟩
theorem CP_TG {τ : Nat → Nat} {g g' : zGh} (c : CP τ g) (p : TG g g') (tc : TC (tdG g) (trG g) (tA g) (tB g) (tH g) (tF g) (tE g) g') : CP τ g' := by
  obtain ⟨⟨c1, c2⟩, c3, c4, c5, c6, c7, c8, c9, cA, cL, cB, cC, cD, cE, cM, cR⟩ := c
  have a (j k : Nat) (e : ¬ (j = 33 ∧ k = 8) := by decide) : g'.1 j k = g.1 j k := p.1 j k e
  have ar (j : Nat) (a : j ≠ 38 := by decide) (b : j ≠ 39 := by decide) (c : j ≠ 40 := by decide) (d : j ≠ 41 := by decide) : g'.2.1 j = g.2.1 j := p.2.1 j a b c d
  refine ⟨⟨by rw [a 1 0, a 0 10]; exact c1, by rw [a 42 27, a 0 10]; exact c2⟩, by rw [a 42 25, a 0 11]; exact c3, by rw [a 42 49, a 14 5]; exact c4, by rw [a 42 67, a 25 6]; exact c5, by rw [a 42 76, a 33 10]; exact c6, by rw [a 42 2, a 3 2]; exact c7, ?_, ?_, ?_, LwQ_eq cL (a 42 10) (a 10 3) (a 3 2) (ar 43) (ar 4) (congrFun p.2.2 5) (congrFun p.2.2 47), KQ_of cB (a 42 10 ) (fun j hj => ar j (by omega) (by omega) (by omega) (by omega)) (a 10 3) (a 11 0), ⟨?_, ?_, ?_, ?_⟩, ?_, TQ_TG cE p tc, MtQ_eq cM (a 0 10) (a 1 1) (funext fun k => a 100 k (fun z => absurd z.1 (by decide))) (fun j h1' h2' => ar j (by omega) (by omega) (by omega) (by omega)), RuQ_eq cR (a 42 26) (a 0 12) (a 15 0) (a 14 5) (a 0 10) (fun j h1' h2' => ar j (by omega) (by omega) (by omega) (by omega)) (fun j h1' h2' => ar j (by omega) (by omega) (by omega) (by omega))⟩
  · unfold HU
    rw [ar 90, ar 91, ar 31, ar 32]
    exact c8
  · unfold PA
    rw [a 42 27, ar 65]
    exact c9
  · unfold HS
    rw [ar 82, ar 83]
    exact cA
  · unfold HC
    rw [a 25 6, a 25 5, a 25 4, ar 26, ar 27, ar 28]
    exact cC.1
  · rw [ar 88, ar 26]
    exact cC.2.1
  · rw [ar 89, ar 27]
    exact cC.2.2.1
  · rw [a 25 6, ar 27]
    exact cC.2.2.2
  · unfold CQ CR
    rw [ar 21, ar 22, ar 23, ar 81, ar 82, ar 83, ar 84, ar 85, ar 86]
    exact cD
section PAIR
variable {n b L : Nat} {xs : Nat → Int32} {τ : Nat → Nat} {g : zGh} {h : zH}
theorem u_X11_fell {v1 v2 v3 : Int32} (w : WT n b L xs τ g h) : wp (f_X11_fell 10000 n v1 v2 v3 h) (fun r => yn (flOK v1 v2 v3) (r = fl (g.2.1 31) (g.2.1 32) v1 v2 v3) (r = -1)) := by
  unfold f_X11_fell
  refine in11 (fun c => wp_some (yn_n (fun q => c q.1) rfl)) (fun c => ?_)
  refine in11 (fun c2 => wp_some (yn_n (fun q => c2 q.2.1) rfl)) (fun c2 => ?_)
  refine in11 (fun c3 => wp_some (yn_n (fun q => c3 q.2.2.1) rfl)) (fun c3 => ?_)
  refine wp_ite (fun c4 => ?_) (fun c4 => wp_some (yn_n (fun q => c4 q.2.2.2) rfl))
  refine wp_eq (gR_0_8 w) ?_
  refine wp_zif (ob_30 w) ?_
  refine wp_bind (R := fun r => r = fl (g.2.1 31) (g.2.1 32) v1 v2 v3) ?_ (fun q7 p7 => wp_some (yn_y ⟨c, c2, c3, c4⟩ p7))
  unfold f_X5_compare fl
  refine wp_zletE fun x1 e1 => ?_
  refine wp_zletE fun x2 e2 => ?_
  rw [← e1, ← e2]
  have i0 : 0 ≤ x1 := by lia
  have i1 : x1 < 248 := by lia
  have j0 : 0 ≤ x2 := by lia
  have j1 : x2 < 248 := by lia
  refine wp_eq (gR_30_0 w) ?_
  refine wp_eq (aN_31 w) ?_
  refine in11 (fun z => absurd (show 0 ≤ x1 ∧ x1 ≤ 248 - 1 from ⟨i0, by lia⟩) z) (fun _ => ?_)
  refine wp_eq (gR_30_0 w) ?_
  refine wp_eq (aN_31 w) ?_
  refine in11 (fun z => absurd (show 0 ≤ x2 ∧ x2 ≤ 248 - 1 from ⟨j0, by lia⟩) z) (fun _ => ?_)
  have a1 := A_31 w i0 i1
  have a2 := A_31 w j0 j1
  have b1 := A_32 w i0 i1
  have b2 := A_32 w j0 j1
  generalize g.2.1 31 x1.toNatClampNeg = h1 at a1 ⊢
  generalize g.2.1 31 x2.toNatClampNeg = h2 at a2 ⊢
  generalize g.2.1 32 x1.toNatClampNeg = w1 at b1 ⊢
  generalize g.2.1 32 x2.toNatClampNeg = w2 at b2 ⊢
  refine wp_eq (gR_30_0 w) ?_
  refine wp_eq a1 ?_
  refine wp_ite (fun z => wp_some (by rw [if_pos z])) (fun z => ?_)
  rw [if_neg z]
  refine wp_eq (gR_30_0 w) ?_
  refine wp_eq a2 ?_
  refine wp_ite (fun z => wp_some (by rw [if_pos z])) (fun z => ?_)
  rw [if_neg z]
  refine wp_eq (gR_30_0 w) ?_
  refine wp_eq a2 ?_
  refine wp_eq (gR_30_0 w) ?_
  refine wp_eq a1 ?_
  refine wp_ite (fun z => ?_) (fun z => wp_some (by rw [if_neg z]))
  rw [if_pos z]
  refine wp_eq (gR_30_0 w) ?_
  refine wp_eq a2 ?_
  refine wp_eq (gR_30_1 w) ?_
  refine wp_eq b1 ?_
  refine wp_eq (gR_30_0 w) ?_
  refine wp_eq a1 ?_
  refine wp_eq (gR_30_1 w) ?_
  refine wp_eq b2 ?_
  exact wp_ite (fun z => wp_some (by rw [if_pos z])) (fun z => wp_some (by rw [if_neg z]))
theorem u_X12_fell {v1 v2 v3 : Int32} (w : WT n b L xs τ g h) (hu : HU g) : wp (f_X12_fell 10000 (n + 42) v1 v2 v3 h) (fun r => yn (flOK v1 v2 v3) (r.1 = fl (g.2.1 31) (g.2.1 32) v1 v2 v3 ∧ WT n b L xs τ g r.2) (r.1 = -1 ∧ WT n b L xs τ g r.2)) := by
  obtain ⟨u1, u2, u3⟩ := hu
  unfold f_X12_fell
  refine wp_bind (pI_42_0 w) fun h1 w => ?_
  refine in12 (fun c => wp_some (yn_n (fun q => c q.1) ⟨rfl, w⟩)) (fun c => ?_)
  refine wp_bind (t_X12_isYear w) fun q3 p3 => ?_
  refine wp_ite (fun c2 => wp_some (yn_n (fun q => ?_) ⟨rfl, w⟩)) (fun c2 => ?_)
  · rcases p3 with p3 | p3
    · exact p3.2 q.2.1
    · rw [c2] at p3; exact absurd p3.1 (by decide)
  have d2 := (p3.resolve_left (fun z => c2 z.1)).2
  refine wp_bind (t_X12_isYear w) fun q5 p5 => ?_
  refine wp_ite (fun c3 => wp_some (yn_n (fun q => ?_) ⟨rfl, w⟩)) (fun c3 => ?_)
  · rcases p5 with p5 | p5
    · exact p5.2 q.2.2.1
    · rw [c3] at p5; exact absurd p5.1 (by decide)
  have d3 := (p5.resolve_left (fun z => c3 z.1)).2
  refine wp_ite (fun c4 => ?_) (fun c4 => wp_some (yn_n (fun q => c4 q.2.2.2) ⟨rfl, w⟩))
  refine wp_mono (R := fun r => r.1 = fl (g.2.1 31) (g.2.1 32) v1 v2 v3 ∧ WT n b L xs τ g r.2) ?_ (fun r p => yn_y ⟨c, d2, d3, c4⟩ p)
  unfold fl
  have m1 : v1 * 31 = 31 * v1 := Int32.mul_comm _ _
  rw [m1]
  refine wp_zletE fun x1 e1 => ?_
  refine wp_zletE fun x2 e2 => ?_
  rw [← e1, ← e2]
  have i0 : 0 ≤ x1 := by lia
  have i1 : x1 < 248 := by lia
  have j0 : 0 ≤ x2 := by lia
  have j1 : x2 < 248 := by lia
  have a1 := A_90 w i0 i1
  have a2 := A_90 w j0 j1
  have b1 := A_91 w i0 i1
  have b2 := A_91 w j0 j1
  rw [u1] at a1 a2
  have r1 := u3 x1.toNatClampNeg
  have r2 := u3 x2.toNatClampNeg
  have s1 := u2 x1.toNatClampNeg
  have s2 := u2 x2.toNatClampNeg
  generalize g.2.1 31 x1.toNatClampNeg = h1' at a1 r1 s1 ⊢
  generalize g.2.1 31 x2.toNatClampNeg = h2' at a2 r2 s2 ⊢
  refine wp_eq (gR_42_70 w) ?_
  refine wp_eq a1 ?_
  refine wp_ite (fun z => wp_some ⟨?_, w⟩) (fun z => ?_)
  · have : h1' = -1 := by lia
    rw [if_pos this]
  have z1 : ¬ h1' = -1 := by lia
  rw [if_neg z1]
  refine wp_eq (gR_42_70 w) ?_
  refine wp_eq a2 ?_
  refine wp_ite (fun z => ?_) (fun z => wp_some ⟨?_, w⟩)
  · have z2 : ¬ h2' = -1 := by lia
    rw [if_neg z2]
    rw [s1 z1] at b1
    rw [s2 z2] at b2
    refine wp_eq (gR_42_70 w) ?_
    refine wp_eq a2 ?_
    refine wp_eq (gR_42_70 w) ?_
    refine wp_eq a1 ?_
    refine wp_ite (fun z => ?_) (fun z => wp_some ⟨by rw [if_neg z], w⟩)
    rw [if_pos z]
    refine wp_eq (gR_42_70 w) ?_
    refine wp_eq a2 ?_
    refine wp_eq (gR_42_71 w) ?_
    refine wp_eq b1 ?_
    refine wp_eq (gR_42_70 w) ?_
    refine wp_eq a1 ?_
    refine wp_eq (gR_42_71 w) ?_
    refine wp_eq b2 ?_
    exact wp_ite (fun z => wp_some ⟨by rw [if_pos z], w⟩) (fun z => wp_some ⟨by rw [if_neg z], w⟩)
  · have : h2' = -1 := by lia
    rw [if_pos this]
theorem pr_0 {v : Int32} (w : WT n b L xs τ g h) (c : CP τ g) : wp (f_X11_years 10000 n v h) (fun r => ∃ τ1 g1, WT n b L xs τ1 g1 r.2 ∧ wp (f_X12_years 10000 (n + 42) v r.2) (fun s => r.1 = s.1 ∧ IV n b L xs s.2)) := by
  have hc := c
  obtain ⟨⟨c1, c2⟩, c3, c4, c5, c6, c7, c8, c9, cA, cL, cB, cC, cD, cE, cM, cR⟩ := c
  refine wp_mono (u_X11_years w) fun r p => ?_
  by_cases y : yOK v (g.1 0 11)
  · obtain ⟨p1, p2⟩ := p.1 y
    refine ⟨_, _, p2, wp_mono (u_X12_years p2) fun s q => ?_⟩
    obtain ⟨q1, q2⟩ := q.1 (by show yOK v (g.1 42 25); rw [c3]; exact y)
    refine ⟨?_, _, _, q2, ⟨c1, c2⟩, ?_, c4, c5, c6, c7, c8, c9, cA, cL, KQ_1 cB rfl rfl, cC, cD, cE, cM, cR⟩
    · rw [p1, q1]
      show g.1 0 11 + v = g.1 42 25 + v
      rw [c3]
    · show g.1 42 25 + v = g.1 0 11 + v
      rw [c3]
  · obtain ⟨p1, p2⟩ := p.2 y
    refine ⟨_, _, p2, wp_mono (u_X12_years p2) fun s q => ?_⟩
    obtain ⟨q1, q2⟩ := q.2 (by rw [c3]; exact y)
    exact ⟨by rw [p1, q1], _, _, q2, hc⟩
theorem pr_1 {v : Int32} (w : WT n b L xs τ g h) (c : CP τ g) : wp (f_X11_view 10000 n v h) (fun r => ∃ τ1 g1, WT n b L xs τ1 g1 r.2 ∧ wp (f_X12_view 10000 (n + 42) v r.2) (fun s => r.1 = s.1 ∧ IV n b L xs s.2)) := by
  have hc := c
  obtain ⟨⟨c1, c2⟩, c3, c4, c5, c6, c7, c8, c9, cA, cL, cB, cC, cD, cE, cM, cR⟩ := c
  refine wp_mono (u_X11_view w) fun r p => ?_
  by_cases y : vOK v (g.1 0 11)
  · obtain ⟨p1, p2⟩ := p.1 y
    refine ⟨_, _, p2, wp_mono (u_X12_view p2) fun s q => ?_⟩
    obtain ⟨q1, q2⟩ := q.1 (by show vOK v (g.1 42 25); rw [c3]; exact y)
    refine ⟨by rw [p1, q1], _, _, q2, ⟨c1, c2⟩, c3, c4, c5, c6, c7, c8, c9, cA, cL, KQ_1 cB rfl rfl, cC, cD, cE, cM, ?_, cR.2⟩
    show (if v = g.1 42 25 then (-1 : Int32) else v) = if v = g.1 0 11 then -1 else v
    rw [c3]
  · obtain ⟨p1, p2⟩ := p.2 y
    refine ⟨_, _, p2, wp_mono (u_X12_view p2) fun s q => ?_⟩
    obtain ⟨q1, q2⟩ := q.2 (by rw [c3]; exact y)
    exact ⟨by rw [p1, q1], _, _, q2, hc⟩
theorem n1_clamp {v : Int32} (h0 : 0 ≤ v) (h1 : v < 40) : (v + 1).toNatClampNeg = v.toNatClampNeg + 1 := by
  have x := i32_0 h0
  have y : (v + 1).toInt = v.toInt + 1 := ti_1 h0 (by lia)
  show (v + 1).toInt.toNat = v.toInt.toNat + 1
  omega
set_option maxHeartbeats 4000000 in
theorem u_X11_meeting2 {v1 v2 v3 v4 v5 v6 v7 : Int32} (w : WT n b L xs τ g h) (e1 : g.1 1 0 = g.1 0 10) (e11 : g.1 1 1 = g.1 0 10) : wp (f_X11_meeting 10000 n v1 v2 v3 v4 v5 v6 v7 h) (fun r => yn (mOK v1 v2 v3 v4 v5 v6 v7 (g.1 0 11) (g.1 0 10)) (r.1 = g.1 0 10 ∧ ∃ τ' A lk, (τ' = tu τ A 1 ∧ τ A = 0) ∧ ((v7 &&& 1 = 1) = ¬ lk = 0) ∧ WT n b L xs τ' (gset (gset (gset (gset (gN g A (g.1 0 10).toNatClampNeg (mF v2 v3 v4 v5 v6 lk v7)) 100 (16 * (g.1 0 10).toNatClampNeg + 11) (mtF (mF v2 v3 v4 v5 v6 lk v7))) 100 (16 * (g.1 0 10).toNatClampNeg + 12) (fiF (mF v2 v3 v4 v5 v6 lk v7))) 1 0 (g.1 0 10 + 1)) 0 10 (g.1 0 10 + 1)) r.2) (r.1 = -1 ∧ WT n b L xs τ g r.2)) := by
  unfold f_X11_meeting
  have rr := gr_0_10 w
  refine wp_bind (R := fun r => (r = 0 ∧ ¬ ((-9999 ≤ v2 ∧ v2 ≤ -1) ∧ (1 ≤ v3 ∧ v3 ≤ 300) ∧ (0 ≤ v4 ∧ v4 ≤ 5))) ∨ (r = 1 ∧ ((-9999 ≤ v2 ∧ v2 ≤ -1) ∧ (1 ≤ v3 ∧ v3 ≤ 300) ∧ (0 ≤ v4 ∧ v4 ≤ 5)))) ?_ (fun m1 p1 => ?_)
  · refine in11 (fun c => wp_some (Or.inl ⟨rfl, fun q => c q.1⟩)) (fun c => ?_)
    refine in11 (fun c2 => wp_some (Or.inl ⟨rfl, fun q => c2 q.2.1⟩)) (fun c2 => ?_)
    exact in11 (fun c3 => wp_some (Or.inl ⟨rfl, fun q => c3 q.2.2⟩)) (fun c3 => wp_some (Or.inr ⟨rfl, c, c2, c3⟩))
  refine wp_bind (R := fun r => (r = 0 ∧ ¬ ((-999 ≤ v5 ∧ v5 ≤ -1) ∧ (1 ≤ v6 ∧ v6 ≤ 60) ∧ (0 ≤ v7 ∧ v7 ≤ 5))) ∨ (r = 1 ∧ ((-999 ≤ v5 ∧ v5 ≤ -1) ∧ (1 ≤ v6 ∧ v6 ≤ 60) ∧ (0 ≤ v7 ∧ v7 ≤ 5)))) ?_ (fun m5 p5 => ?_)
  · refine in11 (fun c => wp_some (Or.inl ⟨rfl, fun q => c q.1⟩)) (fun c => ?_)
    refine in11 (fun c2 => wp_some (Or.inl ⟨rfl, fun q => c2 q.2.1⟩)) (fun c2 => ?_)
    exact in11 (fun c3 => wp_some (Or.inl ⟨rfl, fun q => c3 q.2.2⟩)) (fun c3 => wp_some (Or.inr ⟨rfl, c, c2, c3⟩))
  refine wp_eq (E_0_11 w) ?_
  refine in11 (fun c => wp_some (yn_n (fun q => c q.2.2.1) ⟨rfl, w⟩)) (fun c => ?_)
  refine wp_ite (fun c1 => wp_some (yn_n (fun q => ?_) ⟨rfl, w⟩)) (fun c1 => ?_)
  · rcases p1 with p1 | p1
    · exact p1.2 q.1
    · rw [c1] at p1
      exact absurd p1.1 (by decide)
  have q1 := (p1.resolve_left (fun z => c1 z.1)).2
  refine wp_ite (fun c5 => wp_some (yn_n (fun q => ?_) ⟨rfl, w⟩)) (fun c5 => ?_)
  · rcases p5 with p5 | p5
    · exact p5.2 q.2.1
    · rw [c5] at p5
      exact absurd p5.1 (by decide)
  have q5 := (p5.resolve_left (fun z => c5 z.1)).2
  refine wp_eq (E_0_10 w) ?_
  refine wp_ite (fun c9 => ?_) (fun c9 => wp_some (yn_n (fun q => c9 q.2.2.2) ⟨rfl, w⟩))
  refine wp_zlet ?_
  refine wp_bind u_X6_init fun h16 p16 => ?_
  obtain ⟨lk, hlk, rfl⟩ := p16
  have big := w.big
  have t0 := τ_new w (Nat.le_refl h.1.1)
  have hK : (g.1 0 10).toNatClampNeg < 40 := (i32_clamp rr.1 (N := 40) (by decide) c9).2
  have eK : Int32.ofNat (g.1 0 10).toNatClampNeg = g.1 0 10 := ix_nI rr.1
  generalize hKK : (g.1 0 10).toNatClampNeg = K at hK eK ⊢
  generalize hF : mF v2 v3 v4 v5 v6 lk v7 = F
  have w2 : WT n b L xs (tu τ h.1.1 1) (gN g h.1.1 K F) (znew h (mCell v2 v3 v4 v5 v6 lk (v7 >>> (1 &&& 31)))) := by
    refine WT.extM (h := znew h (mCell v2 v3 v4 v5 v6 lk (v7 >>> (1 &&& 31)))) w.new big (Nat.lt_succ_self _) t0 (zn_same _ _) ?_ (by rw [e11, eK]) (by omega)
    rw [← hF]
    exact ⟨mF v2 v3 v4 v5 v6 lk v7, rfl, q1.2.1.1, q1.2.1.2, (by decide : (0 : Int32) ≤ 0), (by decide : (0 : Int32) ≤ 2), (by decide : (-1 : Int32) ≤ 0), (by decide : (0 : Int32) ≤ 60), fun _ _ => rfl⟩
  have t1 : tu τ h.1.1 1 h.1.1 = 1 := tu_same _ _ _
  have i1 : (gN g h.1.1 K F).2.1 1 h.1.1 = g.1 0 10 := (if_pos rfl).trans eK
  generalize h.1.1 = A at w2 t1 i1 t0
  generalize znew h (mCell v2 v3 v4 v5 v6 lk (v7 >>> (1 &&& 31))) = h2 at w2
  refine wp_eq (gR_0_1 w2) ?_
  refine wp_zif (ob_2 w2) ?_
  refine wp_bind (u_X8_settle (K := K) (F := F) w2 t1 (by rw [i1, hKK]) (fun z hz => gN_own (by omega))) fun h19 w19 => ?_
  refine wp_eq (gR_0_0 w19) ?_
  refine wp_eq (by have x := E_0_10 w19; exact x : gI h19 n 11 10 = some (g.1 0 10)) ?_
  refine wp_bind (sQ_1 w19 rr.1 c9 t1 e1 i1) fun h22 w22 => ?_
  refine wp_eq (by have x := E_0_10 w22; exact x : gI h22 n 11 10 = some (g.1 0 10)) ?_
  refine wp_bind (pI_0_10 w22 (x := g.1 0 10 + 1) (by lia) (by lia)) fun h24 w24 => ?_
  refine wp_eq (by have x := E_0_10 w24; exact x : gI h24 n 11 10 = some (g.1 0 10 + 1)) ?_
  refine wp_some (yn_y ⟨q1, q5, c, c9⟩ ⟨?_, tu τ A 1, A, lk, ⟨rfl, t0⟩, hlk, ?_⟩)
  · show g.1 0 10 + 1 - 1 = g.1 0 10
    lia
  · rw [hF]
    exact w24
theorem pr_2 {v1 v2 v3 v4 v5 v6 v7 : Int32} (w : WT n b L xs τ g h) (c : CP τ g) : wp (f_X11_meeting 10000 n v1 v2 v3 v4 v5 v6 v7 h) (fun r => ∃ τ1 g1, WT n b L xs τ1 g1 r.2 ∧ wp (f_X12_meeting 10000 (n + 42) v1 v2 v3 v4 v5 v6 v7 r.2) (fun s => r.1 = s.1 ∧ IV n b L xs s.2)) := by
  have hc := c
  obtain ⟨⟨c1, c2⟩, c3, c4, c5, c6, c7, c8, c9, cA, cL, cB, cC, cD, cE, cM, cR⟩ := c
  have r10 := gr_0_10 w
  have r27 := gr_42_27 w
  refine wp_mono (u_X11_meeting2 w c1 cM.1) fun r p => ?_
  by_cases y : mOK v1 v2 v3 v4 v5 v6 v7 (g.1 0 11) (g.1 0 10)
  · obtain ⟨p1, τ1, A, lk, ⟨ht1, ht0⟩, hlk, p2⟩ := p.1 y
    subst ht1
    refine ⟨_, _, p2, wp_mono (u_X12_meeting p2) fun s q => ?_⟩
    obtain ⟨q1, q2⟩ := q.1 (by show mOK v1 v2 v3 v4 v5 v6 v7 (g.1 42 25) (g.1 42 27); rw [c3, c2]; exact y)
    refine ⟨?_, _, _, q2, ⟨rfl, ?_⟩, c3, c4, c5, c6, c7, c8, ?_, cA, cL, KQ_of (KQ_tu cB ht0) rfl (fun j hj => ?_), cC, cD, cE, ⟨?_, fun k hk => ?_⟩, cR.1, cR.2.1, cR.2.2.1, fun r hr => ⟨(cR.2.2.2 r hr).1, (cR.2.2.2 r hr).2.1, (cR.2.2.2 r hr).2.2.1, ?_⟩⟩
    · rw [p1, q1]
      show g.1 0 10 = g.1 42 27
      rw [c2]
    · show g.1 42 27 + 1 = g.1 0 10 + 1
      rw [c2]
    · intro i i0 i1
      have i1' : i < g.1 42 27 + 1 := i1
      show 1 ≤ upd (g.2.1 65) (g.1 42 27).toNatClampNeg v6 i.toNatClampNeg
      by_cases e : i = g.1 42 27
      · rw [e, upd_at]
        exact y.2.1.2.1.1
      · have lt : i < g.1 42 27 := by lia
        rw [upd_ne (Nat.ne_of_lt (clamp_lt i0 lt))]
        exact c9 i i0 lt
    · exact (gsA_out (by omega)).trans ((gsA_out (by omega)).trans ((gsA_out (by omega)).trans ((gsA_out (by omega)).trans ((gsA_out (by omega)).trans ((gsA_out (by omega)).trans ((gsA_out (by omega)).trans ((gsA_out (by omega)).trans ((gsA_out (by omega)).trans ((gsA_out (by omega)).trans (if_neg (by omega)))))))))))
    · show Int32.ofNat ((g.1 0 10).toNatClampNeg + 1) = g.1 0 10 + 1
      have lt40 : g.1 0 10 < 40 := y.2.2.2
      rw [← n1_clamp r10.1 lt40, ix_nI (by lia)]
    · have lt40 : g.1 0 10 < 40 := y.2.2.2
      have hk' : k < (g.1 0 10 + 1).toNatClampNeg := hk
      rw [n1_clamp r10.1 lt40] at hk'
      show MK (fun z => upd (upd ((gN g A (g.1 0 10).toNatClampNeg (mF v2 v3 v4 v5 v6 lk v7)).1 100) (16 * (g.1 0 10).toNatClampNeg + 11) (mtF (mF v2 v3 v4 v5 v6 lk v7))) (16 * (g.1 0 10).toNatClampNeg + 12) (fiF (mF v2 v3 v4 v5 v6 lk v7)) (16 * k + z)) (upd (g.2.1 61) (g.1 42 27).toNatClampNeg v2 k) (upd (g.2.1 62) (g.1 42 27).toNatClampNeg v3 k) (upd (g.2.1 63) (g.1 42 27).toNatClampNeg v4 k) (upd (g.2.1 64) (g.1 42 27).toNatClampNeg v5 k) (upd (g.2.1 65) (g.1 42 27).toNatClampNeg v6 k) (upd (g.2.1 66) (g.1 42 27).toNatClampNeg v7 k) (upd (g.2.1 67) (g.1 42 27).toNatClampNeg 0 k) (upd (g.2.1 68) (g.1 42 27).toNatClampNeg 0 k) (upd (g.2.1 69) (g.1 42 27).toNatClampNeg 0 k) (upd (g.2.1 70) (g.1 42 27).toNatClampNeg 50 k)
      rw [c2]
      generalize hK : (g.1 0 10).toNatClampNeg = K at hk' ⊢
      by_cases e : k = K
      · subst e
        rw [upd_at, upd_at, upd_at, upd_at, upd_at, upd_at, upd_at, upd_at, upd_at, upd_at]
        have hz : ∀ z, z < 11 → (fun z => upd (upd ((gN g A k (mF v2 v3 v4 v5 v6 lk v7)).1 100) (16 * k + 11) (mtF (mF v2 v3 v4 v5 v6 lk v7))) (16 * k + 12) (fiF (mF v2 v3 v4 v5 v6 lk v7)) (16 * k + z)) z = mF v2 v3 v4 v5 v6 lk v7 z := by
          intro z hz
          show upd (upd ((gN g A k (mF v2 v3 v4 v5 v6 lk v7)).1 100) (16 * k + 11) (mtF (mF v2 v3 v4 v5 v6 lk v7))) (16 * k + 12) (fiF (mF v2 v3 v4 v5 v6 lk v7)) (16 * k + z) = _
          rw [up16, up16, if_neg (by omega), if_neg (by omega), gN_own (by omega)]
        have h11 : (fun z => upd (upd ((gN g A k (mF v2 v3 v4 v5 v6 lk v7)).1 100) (16 * k + 11) (mtF (mF v2 v3 v4 v5 v6 lk v7))) (16 * k + 12) (fiF (mF v2 v3 v4 v5 v6 lk v7)) (16 * k + z)) 11 = mtF (mF v2 v3 v4 v5 v6 lk v7) := by
          show upd (upd ((gN g A k (mF v2 v3 v4 v5 v6 lk v7)).1 100) (16 * k + 11) (mtF (mF v2 v3 v4 v5 v6 lk v7))) (16 * k + 12) (fiF (mF v2 v3 v4 v5 v6 lk v7)) (16 * k + 11) = _
          rw [up16, up16, if_neg (by decide), if_pos rfl]
        have h12 : (fun z => upd (upd ((gN g A k (mF v2 v3 v4 v5 v6 lk v7)).1 100) (16 * k + 11) (mtF (mF v2 v3 v4 v5 v6 lk v7))) (16 * k + 12) (fiF (mF v2 v3 v4 v5 v6 lk v7)) (16 * k + z)) 12 = fiF (mF v2 v3 v4 v5 v6 lk v7) := by
          show upd (upd ((gN g A k (mF v2 v3 v4 v5 v6 lk v7)).1 100) (16 * k + 11) (mtF (mF v2 v3 v4 v5 v6 lk v7))) (16 * k + 12) (fiF (mF v2 v3 v4 v5 v6 lk v7)) (16 * k + 12) = _
          rw [up16, if_pos rfl]
        generalize (fun z => upd (upd ((gN g A k (mF v2 v3 v4 v5 v6 lk v7)).1 100) (16 * k + 11) (mtF (mF v2 v3 v4 v5 v6 lk v7))) (16 * k + 12) (fiF (mF v2 v3 v4 v5 v6 lk v7)) (16 * k + z)) = G at hz h11 h12 ⊢
        have z0 : G 0 = v2 := hz 0 (by decide)
        have z1 : G 1 = v3 := hz 1 (by decide)
        have z4 : G 4 = v6 := hz 4 (by decide)
        have z5 : G 5 = lk := hz 5 (by decide)
        have z7 : G 7 = 0 := hz 7 (by decide)
        have z9 : G 9 = 0 := hz 9 (by decide)
        refine ⟨⟨z0, z1, hz 2 (by decide), hz 3 (by decide), z4⟩, ?_, hz 6 (by decide), ⟨z7, fun z => absurd z7 z, z9, hz 10 (by decide)⟩, Or.inl z7, Or.inl z9, ?_, ?_, ?_, ?_⟩
        · rw [z5]; exact hlk
        · rw [z1]; exact y.1.2.1
        · rw [z4]; exact y.2.1.2.1.1
        · rw [h11]; exact (mtF_congr (fun z hz' => hz z (by omega))).symm
        · rw [h12]; exact (fiF_congr (fun z hz' => hz z (by omega))).symm
      · rw [upd_ne e, upd_ne e, upd_ne e, upd_ne e, upd_ne e, upd_ne e, upd_ne e, upd_ne e, upd_ne e, upd_ne e]
        have mk := cM.2 k (by rw [hK]; omega)
        have hz : ∀ z, z < 13 → (fun z => upd (upd ((gN g A K (mF v2 v3 v4 v5 v6 lk v7)).1 100) (16 * K + 11) (mtF (mF v2 v3 v4 v5 v6 lk v7))) (16 * K + 12) (fiF (mF v2 v3 v4 v5 v6 lk v7)) (16 * k + z)) z = (fun z => g.1 100 (16 * k + z)) z := by
          intro z hz
          show upd (upd ((gN g A K (mF v2 v3 v4 v5 v6 lk v7)).1 100) (16 * K + 11) (mtF (mF v2 v3 v4 v5 v6 lk v7))) (16 * K + 12) (fiF (mF v2 v3 v4 v5 v6 lk v7)) (16 * k + z) = _
          rw [up16n (by decide) (by omega) e, up16n (by decide) (by omega) e, gN_row (by omega) e]
        exact MK_congr hz mk
    · show g.2.1 15 r < g.1 0 10 + 1
      have z := (cR.2.2.2 r hr).2.2.2
      lia
  · obtain ⟨p1, p2⟩ := p.2 y
    refine ⟨_, _, p2, wp_mono (u_X12_meeting p2) fun s q => ?_⟩
    obtain ⟨q1, q2⟩ := q.2 (by rw [c3, c2]; exact y)
    exact ⟨by rw [p1, q1], _, _, q2, hc⟩
theorem pr_3 {v1 v2 v3 v4 v5 : Int32} (w : WT n b L xs τ g h) (c : CP τ g) : wp (f_X11_stand 10000 n v1 v2 v3 v4 v5 h) (fun r => ∃ τ1 g1, WT n b L xs τ1 g1 r.2 ∧ wp (f_X12_stand 10000 (n + 42) v1 v2 v3 v4 v5 r.2) (fun s => r.1 = s.1 ∧ IV n b L xs s.2)) := by
  have hc := c
  obtain ⟨⟨c1, c2⟩, c3, c4, c5, c6, c7, c8, c9, cA, cL, cB, cC, cD, cE, cM, cR⟩ := c
  have r10 := gr_0_10 w
  refine wp_mono (u_X11_stand w c1) fun r p => ?_
  by_cases y : sdOK v1 v2 v3 v4 v5 (g.1 0 10)
  · obtain ⟨p1, p2⟩ := p.1 y
    refine ⟨_, _, p2, wp_mono (u_X12_stand p2) fun s q => ?_⟩
    obtain ⟨q1, q2⟩ := q.1 (by show sdOK v1 v2 v3 v4 v5 (g.1 42 27); rw [c2]; exact y)
    refine ⟨by rw [p1, q1], _, _, q2, ⟨c1, c2⟩, c3, c4, c5, c6, c7, c8, c9, cA, cL, KQ_of cB rfl (fun j hj => ?_), cC, cD, cE, ⟨cM.1, fun k hk => ?_⟩, cR⟩
    · exact (gsA_out (by omega)).trans ((gsA_out (by omega)).trans ((gsA_out (by omega)).trans (gsA_out (by omega))))
    · have mk := cM.2 k hk
      have lt := clamp_lt y.1.1 y.1.2
      show MK (fun z => upd (upd (upd (upd (upd (upd (g.1 100) (16 * v1.toNatClampNeg + 7) v2) (16 * v1.toNatClampNeg + 8) v3) (16 * v1.toNatClampNeg + 9) v4) (16 * v1.toNatClampNeg + 10) v5) (16 * v1.toNatClampNeg + 11) (mtF (sdF (g.1 100) v1.toNatClampNeg v2 v3 v4 v5))) (16 * v1.toNatClampNeg + 12) (fiF (sdF (g.1 100) v1.toNatClampNeg v2 v3 v4 v5)) (16 * k + z)) (g.2.1 61 k) (g.2.1 62 k) (g.2.1 63 k) (g.2.1 64 k) (g.2.1 65 k) (g.2.1 66 k) (upd (g.2.1 67) v1.toNatClampNeg v2 k) (upd (g.2.1 68) v1.toNatClampNeg (if v2 = 0 then 0 else v3) k) (upd (g.2.1 69) v1.toNatClampNeg v4 k) (upd (g.2.1 70) v1.toNatClampNeg v5 k)
      generalize v1.toNatClampNeg = K at lt ⊢
      by_cases e : k = K
      · subst e
        rw [upd_at, upd_at, upd_at, upd_at]
        have hz : ∀ z, z < 11 → (fun z => upd (upd (upd (upd (upd (upd (g.1 100) (16 * k + 7) v2) (16 * k + 8) v3) (16 * k + 9) v4) (16 * k + 10) v5) (16 * k + 11) (mtF (sdF (g.1 100) k v2 v3 v4 v5))) (16 * k + 12) (fiF (sdF (g.1 100) k v2 v3 v4 v5)) (16 * k + z)) z = sdF (g.1 100) k v2 v3 v4 v5 z := by
          intro z hz
          show upd (upd (upd (upd (upd (upd (g.1 100) (16 * k + 7) v2) (16 * k + 8) v3) (16 * k + 9) v4) (16 * k + 10) v5) (16 * k + 11) (mtF (sdF (g.1 100) k v2 v3 v4 v5))) (16 * k + 12) (fiF (sdF (g.1 100) k v2 v3 v4 v5)) (16 * k + z) = _
          rw [up16, if_neg (by omega), up16, if_neg (by omega)]
          exact sdF_eq
        have h11 : (fun z => upd (upd (upd (upd (upd (upd (g.1 100) (16 * k + 7) v2) (16 * k + 8) v3) (16 * k + 9) v4) (16 * k + 10) v5) (16 * k + 11) (mtF (sdF (g.1 100) k v2 v3 v4 v5))) (16 * k + 12) (fiF (sdF (g.1 100) k v2 v3 v4 v5)) (16 * k + z)) 11 = mtF (sdF (g.1 100) k v2 v3 v4 v5) := by
          show upd (upd (upd (upd (upd (upd (g.1 100) (16 * k + 7) v2) (16 * k + 8) v3) (16 * k + 9) v4) (16 * k + 10) v5) (16 * k + 11) (mtF (sdF (g.1 100) k v2 v3 v4 v5))) (16 * k + 12) (fiF (sdF (g.1 100) k v2 v3 v4 v5)) (16 * k + 11) = _
          rw [up16, if_neg (by decide), up16, if_pos rfl]
        have h12 : (fun z => upd (upd (upd (upd (upd (upd (g.1 100) (16 * k + 7) v2) (16 * k + 8) v3) (16 * k + 9) v4) (16 * k + 10) v5) (16 * k + 11) (mtF (sdF (g.1 100) k v2 v3 v4 v5))) (16 * k + 12) (fiF (sdF (g.1 100) k v2 v3 v4 v5)) (16 * k + z)) 12 = fiF (sdF (g.1 100) k v2 v3 v4 v5) := by
          show upd (upd (upd (upd (upd (upd (g.1 100) (16 * k + 7) v2) (16 * k + 8) v3) (16 * k + 9) v4) (16 * k + 10) v5) (16 * k + 11) (mtF (sdF (g.1 100) k v2 v3 v4 v5))) (16 * k + 12) (fiF (sdF (g.1 100) k v2 v3 v4 v5)) (16 * k + 12) = _
          rw [up16, if_pos rfl]
        generalize (fun z => upd (upd (upd (upd (upd (upd (g.1 100) (16 * k + 7) v2) (16 * k + 8) v3) (16 * k + 9) v4) (16 * k + 10) v5) (16 * k + 11) (mtF (sdF (g.1 100) k v2 v3 v4 v5))) (16 * k + 12) (fiF (sdF (g.1 100) k v2 v3 v4 v5)) (16 * k + z)) = G at hz h11 h12 ⊢
        obtain ⟨⟨m0, m1, m2, m3, m4⟩, m5, m6, ⟨m7, m8, m9, m10⟩, m7r, m9r, m1r, m4r, m11, m12⟩ := mk
        have z1 : G 1 = g.1 100 (16 * k + 1) := hz 1 (by decide)
        have z4 : G 4 = g.1 100 (16 * k + 4) := hz 4 (by decide)
        have z5 : G 5 = g.1 100 (16 * k + 5) := hz 5 (by decide)
        have z7 : G 7 = v2 := hz 7 (by decide)
        have z8 : G 8 = v3 := hz 8 (by decide)
        have z9 : G 9 = v4 := hz 9 (by decide)
        refine ⟨⟨(hz 0 (by decide)).trans m0, z1.trans m1, (hz 2 (by decide)).trans m2, (hz 3 (by decide)).trans m3, z4.trans m4⟩, ?_, (hz 6 (by decide)).trans m6, ⟨z7, fun z => ?_, z9, hz 10 (by decide)⟩, ?_, ?_, ?_, ?_, ?_, ?_⟩
        · rw [z5]; exact m5
        · rw [z7] at z
          rw [z8, if_neg z]
        · rw [z7]
          rcases y.2.1 with h9 | h9
          · exact Or.inl h9
          · exact Or.inr (by lia)
        · have y4 := y.2.2.1
          rw [z9]
          lia
        · rw [z1]; exact m1r
        · rw [z4]; exact m4r
        · rw [h11]; exact (mtF_congr (fun z hz' => hz z (by omega))).symm
        · rw [h12]; exact (fiF_congr (fun z hz' => hz z (by omega))).symm
      · rw [upd_ne e, upd_ne e, upd_ne e, upd_ne e]
        refine MK_congr (fun z hz => ?_) mk
        show upd (upd (upd (upd (upd (upd (g.1 100) (16 * K + 7) v2) (16 * K + 8) v3) (16 * K + 9) v4) (16 * K + 10) v5) (16 * K + 11) (mtF (sdF (g.1 100) K v2 v3 v4 v5))) (16 * K + 12) (fiF (sdF (g.1 100) K v2 v3 v4 v5)) (16 * k + z) = _
        rw [up16n (by decide) (by omega) e, up16n (by decide) (by omega) e, up16n (by decide) (by omega) e, up16n (by decide) (by omega) e, up16n (by decide) (by omega) e, up16n (by decide) (by omega) e]
  · obtain ⟨p1, p2⟩ := p.2 y
    refine ⟨_, _, p2, wp_mono (u_X12_stand p2) fun s q => ?_⟩
    obtain ⟨q1, q2⟩ := q.2 (by rw [c2]; exact y)
    exact ⟨by rw [p1, q1], _, _, q2, hc⟩
theorem pr_4 {v1 v2 : Int32} (w : WT n b L xs τ g h) (c : CP τ g) : wp (f_X11_look 10000 n v1 v2 h) (fun r => ∃ τ1 g1, WT n b L xs τ1 g1 r.2 ∧ wp (f_X12_look 10000 (n + 42) v1 v2 r.2) (fun s => IV n b L xs s.2)) := by
  have hc := c
  obtain ⟨⟨c1, c2⟩, c3, c4, c5, c6, c7, c8, c9, cA, cL, cB, cC, cD, cE, cM, cR⟩ := c
  refine wp_mono (t_X11_look w) fun r p => ?_
  have w1 := p
  exact ⟨_, _, w1, wp_mono (t_X12_look w1 c9) fun s q => ⟨_, _, q, hc⟩⟩
theorem pr_6 {v1 v2 v3 : Int64} (w : WT n b L xs τ g h) (c : CP τ g) : wp (f_X11_feed 10000 n v1 v2 v3 h) (fun r => ∃ τ1 g1, WT n b L xs τ1 g1 r.2 ∧ wp (f_X12_feed 10000 (n + 42) v1 v2 v3 r.2) (fun s => r.1 = s.1 ∧ IV n b L xs s.2)) := by
  have hc := c
  obtain ⟨⟨c1, c2⟩, c3, c4, c5, c6, c7, c8, c9, cA, cL, cB, cC, cD, cE, cM, cR⟩ := c
  refine wp_mono (u_X11_feed w) fun r p => ?_
  have r3 := gr_3_2 w
  obtain ⟨p1, p2⟩ := p
  refine ⟨_, _, p2, wp_mono (u_X12_feed p2) fun s q => ?_⟩
  obtain ⟨q1, q2⟩ := q
  refine ⟨?_, _, _, q2, ⟨c1, c2⟩, c3, c4, c5, c6, ?_, c8, c9, cA, LwQ_feed cL (fun i hi => ?_), KQ_of cB rfl (fun j hj => ?_), cC, cD, cE, cM, cR⟩
  · rw [p1, q1]
    show _ = fz v3 8 (fz v2 8 (fz v1 8 (g.1 42 2)))
    rw [c7]
  · show fz v3 8 (fz v2 8 (fz v1 8 (g.1 42 2))) = fz v3 8 (fz v2 8 (fz v1 8 (g.1 3 2)))
    rw [c7]
  · rw [gF_42, gF_43, c7]
    exact fA3_ag v1 v2 v3 r3.1 r3.2 cL.2.1 i hi
  · exact gTpF_out (by omega) (by omega)
theorem TQ_eq2 {g g' : zGh} (t : TQ g) (h1 : g'.1 33 = g.1 33) (h2 : ∀ j, 34 ≤ j → (j ≤ 37 ∨ j = 40 ∨ j = 41 ∨ (92 ≤ j ∧ j ≤ 98)) → g'.2.1 j = g.2.1 j) : TQ g' := by
  unfold TQ TC tdG trG tA tB tH tF tE
  rw [h1, h2 34 (by omega) (by omega), h2 35 (by omega) (by omega), h2 36 (by omega) (by omega), h2 37 (by omega) (by omega), h2 40 (by omega) (by omega), h2 41 (by omega) (by omega), h2 92 (by omega) (by omega), h2 93 (by omega) (by omega), h2 94 (by omega) (by omega), h2 95 (by omega) (by omega), h2 96 (by omega) (by omega), h2 97 (by omega) (by omega), h2 98 (by omega) (by omega)]
  exact t
theorem lw_ok {S : Nat} (w : WT n b L xs τ g h) (k : WKc g) (hS : S ≤ 1000) (e : (lawQ (sgT g) S).2 = 0) : LNo (lwLs (sgT g) S) 0 ∧ (lwLs (sgT g) S).length ≤ 20 := by
  obtain ⟨h0, t, l, q, nm, cd, wt, e0, t2, e1, e2⟩ := QH_of w
  have ts := TKT_of_WT w k e1 e2
  have x := LNo_lwL (tk := tkn wk0 (sgT g) S) (nu := num (sgT g) S) (ky := kyO (sgT g) S) (K := S) (tkn_S _ _ _) (by omega) (fun j hj => num_lt ts hS hj) 21 0 0 0 (fun _ => 0) (Nat.zero_le _) (by decide) e
  exact ⟨x.1, by have := x.2; simpa [lwLs] using this⟩
theorem pr_7 {v : Int32} (w : WT n b L xs τ g h) (c : CP τ g) : wp (f_X11_law 10000 n v h) (fun r => ∃ τ1 g1, WT n b L xs τ1 g1 r.2 ∧ wp (f_X12_law 10000 (n + 42) v r.2) (fun s => r.1 = s.1 ∧ IV n b L xs s.2)) := by
  have hc := c
  obtain ⟨⟨c1, c2⟩, c3, c4, c5, c6, c7, c8, c9, cA, cL, cB, cC, cD, cE, cM, cR⟩ := c
  have r3 := gr_3_2 w
  have eS : g.1 3 2 = nI (g.1 3 2).toNatClampNeg := (i32_nI r3.1).symm
  have hS : (g.1 3 2).toNatClampNeg ≤ 1000 := by
    have a := i32_0 r3.1
    have d := Int32.le_iff_toInt_le.mp r3.2
    have d2 : (1000 : Int32).toInt = 1000 := rfl
    show (g.1 3 2).toInt.toNat ≤ 1000
    omega
  obtain ⟨N, LS, hN, k1, k2, k3, k4, k5⟩ := cB
  refine wp_mono (v_X11_law w hN k2 k4 cL.2.2.1 hS eS) fun r p => ?_
  obtain ⟨τ1, g1, w1, ⟨s1, s2, s3, s4⟩, lA, lR⟩ := p
  have a42 := s1 42 (by decide) (by decide) (by decide) (by decide)
  have l1 : LWD N LS g1 := fun bb hb => LAWD_keep (k3 bb hb) (by rw [s3 50 (by decide) (by decide)]) (fun k _ => ⟨by rw [s3 51 (by decide) (by decide)], by rw [s3 53 (by decide) (by decide)], by rw [s3 52 (by decide) (by decide)]⟩) (fun j _ _ => ⟨by rw [s3 55 (by decide) (by decide)], by rw [s3 56 (by decide) (by decide)]⟩)
  have k1' : g1.1 42 10 = nI N := by rw [a42]; exact k1
  have tp : TPE g1 (sgT g) (g.1 3 2).toNatClampNeg := ⟨hS, fun j hj => by
    rw [s3 43 (by decide) (by decide), cL.2.1 j hj]
    exact ⟨(sgT_r w (by omega)).1.symm, (sgT_r w (by omega)).2⟩⟩
  have eS2 : g1.1 42 2 = nI (g.1 3 2).toNatClampNeg := by
    rw [a42, c7]
    exact eS
  have eW : ∀ j, j < 21 → g1.2.2 47 j = Int64.ofNat (w37 (pm j)) := fun j hj => by
    rw [s4]
    exact cL.2.2.2 j hj
  refine ⟨τ1, g1, w1, wp_mono (u_X12_law w1 hN k1' l1 tp eS2 eW) fun s q => ?_⟩
  obtain ⟨g2, w2, ⟨r1, r2, r3, r4, r5⟩, lB, lS⟩ := q
  have both : r.1 = s.1 ∧ g2.1 42 10 = g1.1 10 3 := by
    have e10 : g1.1 42 10 = g.1 10 3 := by
      rw [a42]
      exact cL.1
    rw [e10] at lB
    by_cases y : noL v (g.1 10 3)
    · have a := lA.1 y
      have b := lB.1 y
      exact ⟨a.1.trans b.1.symm, b.2.trans a.2.symm⟩
    · have a := lA.2 y
      have b := lB.2 y
      exact ⟨a.1.trans b.1.symm, b.2.trans a.2.symm⟩
  have e0 : g2.1 0 = g.1 0 := (r1 0 (by decide)).trans (s1 0 (by decide) (by decide) (by decide) (by decide))
  have e1 : g2.1 1 = g.1 1 := (r1 1 (by decide)).trans (s1 1 (by decide) (by decide) (by decide) (by decide))
  have e100 : g2.1 100 = g.1 100 := (r1 100 (by decide)).trans (s1 100 (by decide) (by decide) (by decide) (by decide))
  have e14 : g2.1 14 = g.1 14 := (r1 14 (by decide)).trans (s1 14 (by decide) (by decide) (by decide) (by decide))
  have e25 : g2.1 25 = g.1 25 := (r1 25 (by decide)).trans (s1 25 (by decide) (by decide) (by decide) (by decide))
  have e33 : g2.1 33 = g.1 33 := (r1 33 (by decide)).trans (s1 33 (by decide) (by decide) (by decide) (by decide))
  have e3 : g2.1 3 2 = 0 := (congrFun (r1 3 (by decide)) 2).trans s2
  have e42 : ∀ k, k ≠ 2 → k ≠ 3 → k ≠ 7 → k ≠ 8 → k ≠ 10 → k ≠ 17 → k ≠ 19 → g2.1 42 k = g.1 42 k := fun k a1 a2 a3 a4 a5 a6 a7 => (r2 k a1 a2 a3 a4 a5 a6 a7).trans (by rw [s1 42 (by decide) (by decide) (by decide) (by decide)])
  have f27 := e42 27 (by decide) (by decide) (by decide) (by decide) (by decide) (by decide) (by decide)
  have ar : ∀ j, ¬ (j = 11 ∨ (44 ≤ j ∧ j ≤ 56) ∨ j = 101) → g2.2.1 j = g.2.1 j := fun j a1 => (r4 j (by omega) (by omega) (by omega) (by omega) (by omega) (by omega) (by omega) (by omega) (by omega) (by omega)).trans (s3 j (by omega) (by omega))
  have kq : KQ τ1 g2 := by
    have t11 : g2.1 11 0 = g1.1 11 0 := by rw [r1 11 (by decide)]
    have t11a : g2.2.1 11 = g1.2.1 11 := r4 11 (by decide) (by decide) (by decide) (by decide) (by decide) (by decide) (by decide) (by decide) (by decide) (by decide)
    have t101 : g2.2.1 101 = g1.2.1 101 := r4 101 (by decide) (by decide) (by decide) (by decide) (by decide) (by decide) (by decide) (by decide) (by decide) (by decide)
    have t10 : g2.1 10 3 = g1.1 10 3 := by rw [r1 10 (by decide)]
    have q48 : g1.2.1 48 = g.2.1 48 := s3 48 (by decide) (by decide)
    have q49 : g1.2.1 49 = g.2.1 49 := s3 49 (by decide) (by decide)
    have q25 : g1.1 42 25 = g.1 0 11 := by rw [a42]; exact c3
    have nl : noL v (g1.1 42 10) ↔ noL v (g.1 10 3) := by rw [k1', k2]
    by_cases y : noL v (g.1 10 3) ∨ ¬ (lawQ (sgT g) (g.1 3 2).toNatClampNeg).2 = 0
    · have y' : noL v (g1.1 42 10) ∨ ¬ (lawQ (sgT g) (g.1 3 2).toNatClampNeg).2 = 0 := y.elim (fun z => Or.inl (nl.mpr z)) Or.inr
      have a := lR.1 y
      obtain ⟨b1, b2, b3⟩ := lS.1 y'
      have e3' : g1.1 10 3 = nI N := by
        by_cases z : noL v (g.1 10 3)
        · rw [(lA.1 z).2]; exact k2
        · rw [(lA.2 z).2, if_neg (y.resolve_left z)]; exact k2
      refine ⟨N, LS, hN, both.2.trans e3', t10.trans e3', b1, ?_, ?_⟩
      · rw [b2, b3, q48, q49]
        exact LK_eq a t11 t11a t101
      · rw [b2, q48]
        exact k5
    · have y1 : ¬ noL v (g.1 10 3) := fun z => y (Or.inl z)
      have y2 : (lawQ (sgT g) (g.1 3 2).toNatClampNeg).2 = 0 := Decidable.not_not.mp (fun z => y (Or.inr z))
      have a := lR.2 y1 y2
      obtain ⟨b1, b2, b3⟩ := lS.2 (fun z => y1 (nl.mp z)) y2
      have n16 : N < 16 := by
        have z : ¬ nI N = 16 := fun z => y1 (Or.inr (Or.inr (by rw [k2]; exact z)))
        have z2 : N ≠ 16 := fun e => z (by rw [e]; rfl)
        omega
      have e3' : g1.1 10 3 = nI (N + 1) := by
        rw [(lA.2 y1).2, if_pos y2, k2, nI_1]
      refine ⟨N + 1, _, n16, both.2.trans e3', t10.trans e3', b1, ?_, fun k hk => ?_⟩
      · rw [b2, b3, q48, q49, q25]
        exact LK_eq a t11 t11a t101
      · rw [b2, q48]
        obtain ⟨o1, o2⟩ := lw_ok w cL.2.2.1 hS y2
        by_cases z : k = N
        · rw [z, if_pos rfl, upd_at]
          refine ⟨o1, o2, ?_⟩
          have : ¬ v < 0 := fun z => y1 (Or.inl z)
          exact Int32.not_lt.mp this
        · rw [if_neg z, upd_ne z]
          exact k5 k (by omega)
  have lq : LwQ g2 := by
    refine ⟨both.2.trans (congrFun (r1 10 (by decide)) 3).symm, fun i hi => ?_, fun j hj => ?_, fun j hj => ?_⟩
    · rw [e3, show (0 : Int32).toNatClampNeg = 0 from by decide] at hi
      exact absurd hi (Nat.not_lt_zero _)
    · rw [r5 5 (by decide) (by decide), s4]
      exact cL.2.2.1 j hj
    · rw [r5 47 (by decide) (by decide), s4]
      exact cL.2.2.2 j hj
  refine ⟨both.1, _, g2, w2, ⟨by rw [e1, e0]; exact c1, by rw [f27, e0]; exact c2⟩, ?_, ?_, ?_, ?_, by rw [r3, e3], ?_, ?_, ?_, lq, kq, ?_, ?_, ?_, MtQ_eq cM (by rw [e0]) (by rw [e1]) e100 (fun j h1 h2 => ar j (by omega)), RuQ_eq cR (e42 26 (by decide) (by decide) (by decide) (by decide) (by decide) (by decide) (by decide)) (by rw [e0]) (congrFun ((r1 15 (by decide)).trans (s1 15 (by decide) (by decide) (by decide) (by decide))) 0) (by rw [e14]) (by rw [e0]) (fun j h1 h2 => ar j (by omega)) (fun j h1 h2 => ar j (by omega))⟩
  · rw [e42 25 (by decide) (by decide) (by decide) (by decide) (by decide) (by decide) (by decide), e0]; exact c3
  · rw [e42 49 (by decide) (by decide) (by decide) (by decide) (by decide) (by decide) (by decide), e14]; exact c4
  · rw [e42 67 (by decide) (by decide) (by decide) (by decide) (by decide) (by decide) (by decide), e25]; exact c5
  · rw [e42 76 (by decide) (by decide) (by decide) (by decide) (by decide) (by decide) (by decide), e33]; exact c6
  · unfold HU
    rw [ar 90 (by decide), ar 91 (by decide), ar 31 (by decide), ar 32 (by decide)]
    exact c8
  · unfold PA
    rw [f27, ar 65 (by decide)]
    exact c9
  · unfold HS
    rw [ar 82 (by decide), ar 83 (by decide)]
    exact cA
  · unfold HQ HC
    rw [e25, ar 26 (by decide), ar 27 (by decide), ar 28 (by decide), ar 88 (by decide), ar 89 (by decide)]
    exact cC
  · unfold CQ CR
    rw [ar 21 (by decide), ar 22 (by decide), ar 23 (by decide), ar 81 (by decide), ar 82 (by decide), ar 83 (by decide), ar 84 (by decide), ar 85 (by decide), ar 86 (by decide)]
    exact cD
  · exact TQ_eq2 cE e33 (fun j h1 h2 => ar j (by omega))
theorem SetQ_of {g : zGh} (m : MtQ g) : SetQ g := fun k hk => by
  obtain ⟨-, -, -, -, -, -, -, -, m11, m12⟩ := m.2 k hk
  exact ⟨m11, m12⟩
theorem vw_eq0 {g : zGh} (w : WT n b L xs τ g h) (c3 : g.1 42 25 = g.1 0 11) (q : RuQ g) : vwR g = vwC g := by
  unfold vwR vwC
  rw [q.1, c3]
  have r := gr_0_12 w
  by_cases c : g.1 0 12 = -1
  · rw [if_pos c, if_neg (by rw [c]; decide)]
  · rw [if_neg c, if_pos (by lia)]
theorem HM_of0 (w : WT n b L xs τ g h) (c2 : g.1 42 27 = g.1 0 10) (c9 : PA g) (m : MtQ g) : HM g (g.1 0 10).toNatClampNeg := by
  have r10 := gr_0_10 w
  refine ⟨?_, c2.trans (i32_nI r10.1).symm, c9, fun k hk => m.2 k hk⟩
  have := (i32_clamp r10.1 (N := 41) (by decide) (by show g.1 0 10 < 41; lia)).2
  omega
theorem pr_8 {v1 v2 v3 : Int32} (w : WT n b L xs τ g h) (c : CP τ g) : wp (f_X11_whose 10000 n v1 v2 v3 h) (fun r => ∃ τ1 g1, WT n b L xs τ1 g1 r.2 ∧ wp (f_X12_whose 10000 (n + 42) v1 v2 v3 r.2) (fun s => r.1 = s.1 ∧ IV n b L xs s.2)) := by
  have hc := c
  obtain ⟨⟨c1, c2⟩, c3, c4, c5, c6, c7, c8, c9, cA, cL, cB, cC, cD, cE, cM, cR⟩ := c
  obtain ⟨N, LS, hN, k1, k2, k3, k4, k5⟩ := cB
  refine wp_mono (v_X11_whose (N := N) (LS := LS) w ⟨hN, k2, k4, k5⟩ c1 (SetQ_of cM)) fun r p => ?_
  obtain ⟨w1, p1, p2⟩ := p
  refine ⟨_, _, w1, wp_mono (v_X12_whose w1 (HM_of0 w1 c2 c9 cM) hN k1 k3 (fun q hq => (k5 q hq).1)) fun s q => ?_⟩
  obtain ⟨w2, q1, q2⟩ := q
  refine ⟨?_, _, _, w2, hc⟩
  rw [c2] at q1 q2
  by_cases y : whOK v1 v2 v3 (g.1 0 10)
  · rw [p1 y, q1 y, vw_eq0 w c3 cR]
  · rw [p2 y, q2 y]
theorem pr_9 {v1 v2 : Int32} (w : WT n b L xs τ g h) (c : CP τ g) : wp (f_X11_changes 10000 n v1 v2 h) (fun r => ∃ τ1 g1, WT n b L xs τ1 g1 r.2 ∧ wp (f_X12_changes 10000 (n + 42) v1 v2 r.2) (fun s => r.1 = s.1 ∧ IV n b L xs s.2)) := by
  have hc := c
  obtain ⟨⟨c1, c2⟩, c3, c4, c5, c6, c7, c8, c9, cA, cL, cB, cC, cD, cE, cM, cR⟩ := c
  obtain ⟨N, LS, hN, k1, k2, k3, k4, k5⟩ := cB
  refine wp_mono (v_X11_changes (N := N) (LS := LS) w ⟨hN, k2, k4, k5⟩ c1 (SetQ_of cM)) fun r p => ?_
  obtain ⟨w1, p1, p2⟩ := p
  refine ⟨_, _, w1, wp_mono (v_X12_changes w1 (HM_of0 w1 c2 c9 cM) hN k1 k3 (fun q hq => (k5 q hq).1)) fun s q => ?_⟩
  obtain ⟨w2, q1, q2⟩ := q
  refine ⟨?_, _, _, w2, hc⟩
  rw [c2] at q1 q2
  by_cases y : chOK v1 v2 (g.1 0 10)
  · rw [p1 y, q1 y, vw_eq0 w c3 cR]
  · rw [p2 y, q2 y]
theorem n1_c80 {v : Int32} (h0 : 0 ≤ v) (h1 : v < 80) : (v + 1).toNatClampNeg = v.toNatClampNeg + 1 := by
  have x := i32_0 h0
  have y : (v + 1).toInt = v.toInt + 1 := ti_1 h0 (by lia)
  show (v + 1).toInt.toNat = v.toInt.toNat + 1
  omega
theorem pr_10 {v1 v2 : Int32} (w : WT n b L xs τ g h) (c : CP τ g) (hb : v2 = 0 ∨ v2 = 1) : wp (f_X11_ruling 10000 n v1 v2 h) (fun r => ∃ τ1 g1, WT n b L xs τ1 g1 r.2 ∧ wp (f_X12_ruling 10000 (n + 42) v1 v2 r.2) (fun s => r.1 = s.1 ∧ IV n b L xs s.2)) := by
  have hc := c
  obtain ⟨⟨c1, c2⟩, c3, c4, c5, c6, c7, c8, c9, cA, cL, cB, cC, cD, cE, cM, cR⟩ := c
  have r5 := gr_14_5 w
  refine wp_mono (u_X11_ruling w c1 cR.2.2.1 hb) fun r p => ?_
  by_cases y : rOK v1 (g.1 0 10) (g.1 14 5)
  · obtain ⟨p1, p2⟩ := p.1 y
    refine ⟨_, _, p2, wp_mono (u_X12_ruling p2 hb) fun s q => ?_⟩
    obtain ⟨q1, q2⟩ := q.1 (by show rOK v1 (g.1 42 27) (g.1 42 49); rw [c2, c4]; exact y)
    refine ⟨by rw [p1, q1], _, _, q2, ⟨c1, c2⟩, c3, ?_, c5, c6, c7, c8, c9, cA, cL, KQ_of cB rfl (fun j hj => ?_), cC, cD, cE, cM, cR.1, cR.2.1, rfl, fun r hr => ?_⟩
    · show g.1 42 49 + 1 = g.1 14 5 + 1
      rw [c4]
    · exact (gsA_out (by omega)).trans ((gsA_out (by omega)).trans ((gsA_out (by omega)).trans ((gsA_out (by omega)).trans ((gsA_out (by omega)).trans (gsA_out (by omega))))))
    · have hr' : r < (g.1 14 5 + 1).toNatClampNeg := hr
      rw [n1_c80 r5.1 y.2] at hr'
      show (upd (g.2.1 76) (g.1 42 49).toNatClampNeg (g.1 42 25) r = upd (g.2.1 16) (g.1 14 5).toNatClampNeg (g.1 0 11) r ∧ upd (g.2.1 75) (g.1 42 49).toNatClampNeg v2 r = upd (g.2.1 17) (g.1 14 5).toNatClampNeg v2 r ∧ upd (g.2.1 74) (g.1 42 49).toNatClampNeg v1 r = upd (g.2.1 15) (g.1 14 5).toNatClampNeg v1 r) ∧ (upd (g.2.1 17) (g.1 14 5).toNatClampNeg v2 r = 0 ∨ upd (g.2.1 17) (g.1 14 5).toNatClampNeg v2 r = 1) ∧ (0 ≤ upd (g.2.1 15) (g.1 14 5).toNatClampNeg v1 r ∧ upd (g.2.1 15) (g.1 14 5).toNatClampNeg v1 r < g.1 0 10)
      rw [c4, c3]
      by_cases e : r = (g.1 14 5).toNatClampNeg
      · rw [e, upd_at, upd_at, upd_at, upd_at, upd_at, upd_at]
        exact ⟨⟨rfl, rfl, rfl⟩, hb, y.1⟩
      · rw [upd_ne e, upd_ne e, upd_ne e, upd_ne e, upd_ne e, upd_ne e]
        exact cR.2.2.2 r (by omega)
  · obtain ⟨p1, p2⟩ := p.2 y
    refine ⟨_, _, p2, wp_mono (u_X12_ruling p2 hb) fun s q => ?_⟩
    obtain ⟨q1, q2⟩ := q.2 (by rw [c2, c4]; exact y)
    exact ⟨by rw [p1, q1], _, _, q2, hc⟩
theorem CP_of {τ : Nat → Nat} {g g' : zGh} (c : CP τ g) (h1 : ∀ j k, ¬ (j = 14 ∧ k = 6) → g'.1 j k = g.1 j k) (h3 : ∀ j, j ≠ 19 → ¬ (77 ≤ j ∧ j ≤ 80) → g'.2.1 j = g.2.1 j) (h4 : g'.2.2 = g.2.2) : CP τ g' := by
  obtain ⟨⟨c1, c2⟩, c3, c4, c5, c6, c7, c8, c9, cA, cL, cB, cC, cD, cE, cM, cR⟩ := c
  have a (j k : Nat) (e : ¬ (j = 14 ∧ k = 6) := by decide) : g'.1 j k = g.1 j k := h1 j k e
  have ar (j : Nat) (e1 : j ≠ 19 := by decide) (e2 : ¬ (77 ≤ j ∧ j ≤ 80) := by decide) : g'.2.1 j = g.2.1 j := h3 j e1 e2
  refine ⟨⟨by rw [a 1 0, a 0 10]; exact c1, by rw [a 42 27, a 0 10]; exact c2⟩, by rw [a 42 25, a 0 11]; exact c3, by rw [a 42 49, a 14 5]; exact c4, by rw [a 42 67, a 25 6]; exact c5, by rw [a 42 76, a 33 10]; exact c6, by rw [a 42 2, a 3 2]; exact c7, ?_, ?_, ?_, LwQ_eq cL (a 42 10) (a 10 3) (a 3 2) (h3 43 (by decide) (by decide)) (h3 4 (by decide) (by decide)) (congrFun h4 5) (congrFun h4 47), KQ_of cB (a 42 10) (fun j hj => h3 j (by omega) (by omega)) (a 10 3) (a 11 0), ⟨?_, ?_, ?_, ?_⟩, ?_, TQ_eq cE (funext fun k => a 33 k (fun z => absurd z.1 (by decide))) (fun j h1' h2' => h3 j (by omega) (by omega)), MtQ_eq cM (a 0 10) (a 1 1) (funext fun k => a 100 k (fun z => absurd z.1 (by decide))) (fun j h1' h2' => h3 j (by omega) (by omega)), RuQ_eq cR (a 42 26) (a 0 12) (a 15 0) (a 14 5) (a 0 10) (fun j h1' h2' => h3 j (by omega) (by omega)) (fun j h1' h2' => h3 j (by omega) (by omega))⟩
  · unfold HU
    rw [ar 90, ar 91, ar 31, ar 32]
    exact c8
  · unfold PA
    rw [a 42 27, ar 65]
    exact c9
  · unfold HS
    rw [ar 82, ar 83]
    exact cA
  · unfold HC
    rw [a 25 6, a 25 5, a 25 4, ar 26, ar 27, ar 28]
    exact cC.1
  · rw [ar 88, ar 26]
    exact cC.2.1
  · rw [ar 89, ar 27]
    exact cC.2.2.1
  · rw [a 25 6, ar 27]
    exact cC.2.2.2
  · unfold CQ CR
    rw [ar 21, ar 22, ar 23, ar 81, ar 82, ar 83, ar 84, ar 85, ar 86]
    exact cD
theorem CP_BG {τ : Nat → Nat} {g g' : zGh} (c : CP τ g) (p : BG g g') : CP τ g' := CP_of c p.1 (fun j e _ => p.2.1 j e) p.2.2
theorem CP_SG {τ : Nat → Nat} {g g' : zGh} (c : CP τ g) (p : SG g g') : CP τ g' := CP_of c (fun j k _ => by rw [p.1]) (fun j _ e => p.2.1 j e) p.2.2
theorem SQ_of (m : MtQ g) : SQ g := ⟨m.1, fun k hk => by
  obtain ⟨-, -, -, -, -, -, -, -, m11, m12⟩ := m.2 k hk
  exact ⟨m11, m12⟩⟩
def rS (g : zGh) (r : Nat) : Nat := sgnF (mRow g (g.2.1 15 r).toNatClampNeg)
theorem RH_of (w : WT n b L xs τ g h) (m : MtQ g) (q : RuQ g) : RH g (g.1 14 5).toNatClampNeg (g.2.1 16) (g.2.1 17) (rS g) := by
  have r5 := gr_14_5 w
  have e5 : g.1 14 5 = nI (g.1 14 5).toNatClampNeg := (i32_nI r5.1).symm
  refine ⟨?_, e5, q.2.2.1.trans e5, rfl, rfl, fun _ _ => rfl, SQ_of m⟩
  have := (i32_clamp r5.1 (N := 81) (by decide) (by show g.1 14 5 < 81; lia)).2
  omega
theorem HM_of (w : WT n b L xs τ g h) (c2 : g.1 42 27 = g.1 0 10) (c9 : PA g) (m : MtQ g) : HM g (g.1 0 10).toNatClampNeg := by
  have r10 := gr_0_10 w
  refine ⟨?_, c2.trans (i32_nI r10.1).symm, c9, fun k hk => m.2 k hk⟩
  have := (i32_clamp r10.1 (N := 41) (by decide) (by show g.1 0 10 < 41; lia)).2
  omega
theorem RG_of (w : WT n b L xs τ g h) (c4 : g.1 42 49 = g.1 14 5) (q : RuQ g) : RG g (g.1 0 10).toNatClampNeg (g.1 14 5).toNatClampNeg (g.2.1 16) (g.2.1 17) (rS g) := by
  have r5 := gr_14_5 w
  refine ⟨?_, c4.trans (i32_nI r5.1).symm, fun r hr => ?_⟩
  · have := (i32_clamp r5.1 (N := 81) (by decide) (by show g.1 14 5 < 81; lia)).2
    omega
  · obtain ⟨⟨a1, a2, a3⟩, a4, a5⟩ := q.2.2.2 r hr
    exact ⟨a1, a2, a4, (g.2.1 15 r).toNatClampNeg, clamp_lt a5.1 a5.2, a3.trans (i32_nI a5.1).symm, rfl⟩
theorem HM_BG {g' : zGh} {M : Nat} (p : BG g g') (q : HM g M) : HM g' M := by
  obtain ⟨q1, q2, q3, q4⟩ := q
  have a (j : Nat) (e : j ≠ 19 := by decide) : g'.2.1 j = g.2.1 j := p.2.1 j e
  have e27 : g'.1 42 27 = g.1 42 27 := p.1 42 27 (by decide)
  refine ⟨q1, e27.trans q2, by rw [e27, a 65]; exact q3, fun k hk => ?_⟩
  rw [BG_row p, a 61, a 62, a 63, a 64, a 65, a 66, a 67, a 68, a 69, a 70]
  exact q4 k hk
theorem RG_BG {g' : zGh} {M R : Nat} {Y D : Nat → Int32} {S : Nat → Nat} (p : BG g g') (q : RG g M R Y D S) : RG g' M R Y D S := by
  obtain ⟨q1, q2, q3⟩ := q
  refine ⟨q1, (p.1 42 49 (by decide)).trans q2, fun r hr => ?_⟩
  rw [p.2.1 76 (by decide), p.2.1 75 (by decide), p.2.1 74 (by decide)]
  obtain ⟨a1, a2, a3, k, a4, a5, a6⟩ := q3 r hr
  exact ⟨a1, a2, a3, k, a4, a5, by rw [BG_row p]; exact a6⟩
theorem vw_eq {g g' : zGh} (w : WT n b L xs τ g h) (p : BG g g') (c3 : g.1 42 25 = g.1 0 11) (q : RuQ g) : (if 0 ≤ g'.1 42 26 then g'.1 42 26 else g'.1 42 25) = if g.1 0 12 = -1 then g.1 0 11 else g.1 0 12 := by
  rw [p.1 42 26 (by decide), p.1 42 25 (by decide), q.1, c3]
  have r := gr_0_12 w
  by_cases c : g.1 0 12 = -1
  · rw [if_pos c, if_neg (by rw [c]; decide)]
  · rw [if_neg c, if_pos (by lia)]
theorem vw_V (w : WT n b L xs τ g h) : ∃ V, V ≤ 30 ∧ (if g.1 0 12 = -1 then g.1 0 11 else g.1 0 12) = nI V := by
  have r := gr_0_12 w
  have r2 := gr_0_11 w
  have z : 0 ≤ (if g.1 0 12 = -1 then g.1 0 11 else g.1 0 12) ∧ (if g.1 0 12 = -1 then g.1 0 11 else g.1 0 12) ≤ 30 := by
    by_cases c : g.1 0 12 = -1
    · rw [if_pos c]; exact r2
    · rw [if_neg c]
      exact ⟨by lia, r.2⟩
  refine ⟨_, ?_, (i32_nI z.1).symm⟩
  have := (i32_clamp z.1 (N := 31) (by decide) (by show _ < (31 : Int32); lia)).2
  omega
theorem pr_11 {v1 : Int32} (w : WT n b L xs τ g h) (c : CP τ g) : wp (f_X11_customs 10000 n v1 h) (fun r => ∃ τ1 g1, WT n b L xs τ1 g1 r.2 ∧ wp (f_X12_customs 10000 (n + 42) v1 r.2) (fun s => r.1 = s.1 ∧ IV n b L xs s.2)) := by
  have hc := c
  obtain ⟨⟨c1, c2⟩, c3, c4, c5, c6, c7, c8, c9, cA, cL, cB, cC, cD, cE, cM, cR⟩ := c
  have rg := RG_of w c4 cR
  have hD : ∀ r, r < (g.1 14 5).toNatClampNeg → g.2.1 17 r = 0 ∨ g.2.1 17 r = 1 := fun r hr => (cR.2.2.2 r hr).2.1
  refine wp_mono (v_X11_customs hD w (RH_of w cM cR) cR.2.1) fun r p => ?_
  obtain ⟨⟨g1, w1, bg⟩, p1, p2⟩ := p
  refine ⟨_, g1, w1, wp_mono (v_X12_customs w1 (HM_BG bg (HM_of w c2 c9 cM)) (RG_BG bg rg) (vw_eq w bg c3 cR)) fun s q => ?_⟩
  obtain ⟨⟨g2, w2, sg⟩, q1, q2⟩ := q
  refine ⟨?_, _, g2, w2, CP_SG (CP_BG hc bg) sg⟩
  by_cases y : 0 ≤ v1 ∧ v1 ≤ 30
  · rw [p1 y, q1 y]
  · rw [p2 y, q2 y]
theorem pr_12 {v1 v2 : Int32} (w : WT n b L xs τ g h) (c : CP τ g) : wp (f_X11_held 10000 n v1 v2 h) (fun r => ∃ τ1 g1, WT n b L xs τ1 g1 r.2 ∧ wp (f_X12_held 10000 (n + 42) v1 v2 r.2) (fun s => r.1 = s.1 ∧ IV n b L xs s.2)) := by
  have hc := c
  obtain ⟨⟨c1, c2⟩, c3, c4, c5, c6, c7, c8, c9, cA, cL, cB, cC, cD, cE, cM, cR⟩ := c
  have rg := RG_of w c4 cR
  have hD : ∀ r, r < (g.1 14 5).toNatClampNeg → g.2.1 17 r = 0 ∨ g.2.1 17 r = 1 := fun r hr => (cR.2.2.2 r hr).2.1
  refine wp_mono (v_X11_held hD w (RH_of w cM cR) cR.2.1 ⟨fun z => u_mOf_i w c1 z.1 z.2, fun z => u_mOf_n w z⟩) fun r p => ?_
  obtain ⟨⟨g1, w1, bg⟩, p1, p2⟩ := p
  refine ⟨_, g1, w1, wp_mono (v_X12_held w1 (HM_BG bg (HM_of w c2 c9 cM)) (RG_BG bg rg) (vw_eq w bg c3 cR)) fun s q => ?_⟩
  obtain ⟨⟨g2, w2, sg⟩, q1, q2⟩ := q
  refine ⟨?_, _, g2, w2, CP_SG (CP_BG hc bg) sg⟩
  have e27 : g1.1 42 27 = g.1 0 10 := (bg.1 42 27 (by decide)).trans c2
  rw [e27, BG_row bg] at q1
  rw [e27] at q2
  by_cases y : (0 ≤ v1 ∧ v1 < g.1 0 10) ∧ (0 ≤ v2 ∧ v2 ≤ 30)
  · rw [p1 y, q1 y]
  · rw [p2 y, q2 y]
theorem pr_13 {v1 : Int32} (w : WT n b L xs τ g h) (c : CP τ g) : wp (f_X11_since 10000 n v1 h) (fun r => ∃ τ1 g1, WT n b L xs τ1 g1 r.2 ∧ wp (f_X12_since 10000 (n + 42) v1 r.2) (fun s => r.1 = s.1 ∧ IV n b L xs s.2)) := by
  have hc := c
  obtain ⟨⟨c1, c2⟩, c3, c4, c5, c6, c7, c8, c9, cA, cL, cB, cC, cD, cE, cM, cR⟩ := c
  have rg := RG_of w c4 cR
  have hD : ∀ r, r < (g.1 14 5).toNatClampNeg → g.2.1 17 r = 0 ∨ g.2.1 17 r = 1 := fun r hr => (cR.2.2.2 r hr).2.1
  obtain ⟨V, hV, eV⟩ := vw_V w
  refine wp_mono (v_X11_since hD w (RH_of w cM cR) cR.2.1 eV hV) fun r p => ?_
  obtain ⟨⟨g1, w1, bg⟩, p1, p2⟩ := p
  refine ⟨_, g1, w1, wp_mono (v_X12_since w1 (HM_BG bg (HM_of w c2 c9 cM)) (RG_BG bg rg) ((vw_eq w bg c3 cR).trans eV) hV) fun s q => ?_⟩
  obtain ⟨⟨g2, w2, sg⟩, q1, q2⟩ := q
  refine ⟨?_, _, g2, w2, CP_SG (CP_BG hc bg) sg⟩
  by_cases y : 0 ≤ v1 ∧ v1 ≤ 15
  · rw [p1 y, q1 y]
  · rw [p2 y, q2 y]
theorem pr_14 {v1 v2 v3 v4 v5 : Int32} (w : WT n b L xs τ g h) (c : CP τ g) : wp (f_X11_stream 10000 n v1 v2 v3 v4 v5 h) (fun r => ∃ τ1 g1, WT n b L xs τ1 g1 r.2 ∧ wp (f_X12_stream 10000 (n + 42) v1 v2 v3 v4 v5 r.2) (fun s => r.1 = s.1 ∧ IV n b L xs s.2)) := by
  have hc := c
  obtain ⟨⟨c1, c2⟩, c3, c4, c5, c6, c7, c8, c9, cA, cL, cB, cC, cD, cE, cM, cR⟩ := c
  refine wp_mono (u_X11_stream w) fun r p => ?_
  by_cases y : srOK v1 v2 v3 v4 v5
  · obtain ⟨p1, p2⟩ := p.1 y
    refine ⟨_, _, p2, wp_mono (u_X12_stream p2) fun s q => ?_⟩
    obtain ⟨q1, q2⟩ := q.1 y
    refine ⟨by rw [p1, q1], _, _, q2, ⟨c1, c2⟩, c3, c4, c5, c6, c7, c8, c9, ?_, cL, KQ_of cB rfl (fun j hj => ?_), cC, ⟨?_, ?_, ?_⟩, cE, cM, cR⟩
    · intro i i0 i1
      show upd (g.2.1 82) v1.toNatClampNeg v2 i.toNatClampNeg = 0 ∨ ¬ upd (g.2.1 83) v1.toNatClampNeg v3 i.toNatClampNeg = 0
      by_cases e : i.toNatClampNeg = v1.toNatClampNeg
      · rw [e, upd_at, upd_at]
        rcases y.2.1 with z | z
        · exact Or.inl z
        · exact Or.inr (by have := z.2.1; lia)
      · rw [upd_ne e, upd_ne e]
        exact cA i i0 i1
    · exact (gsA_out (by omega)).trans ((gsA_out (by omega)).trans ((gsA_out (by omega)).trans ((gsA_out (by omega)).trans ((gsA_out (by omega)).trans ((gsA_out (by omega)).trans (gsA_out (by omega)))))))
    · intro s hs
      show upd (g.2.1 81) v1.toNatClampNeg 1 s = (if 0 < upd (g.2.1 21) v1.toNatClampNeg (needC v2 v3 v4) s then 1 else 0)
      by_cases e : s = v1.toNatClampNeg
      · rw [e, upd_at, upd_at, if_pos (need_pos y.2.2.1.1)]
      · rw [upd_ne e, upd_ne e]
        exact cD.1 s hs
    · intro s hs t
      have t' : 0 < upd (g.2.1 21) v1.toNatClampNeg (needC v2 v3 v4) s := t
      show needS (upd (g.2.1 82) v1.toNatClampNeg v2 s) (upd (g.2.1 83) v1.toNatClampNeg v3 s) (upd (g.2.1 84) v1.toNatClampNeg v4 s) = upd (g.2.1 21) v1.toNatClampNeg (needC v2 v3 v4) s ∧ (upd (g.2.1 82) v1.toNatClampNeg v2 s = 0 ∨ ¬ upd (g.2.1 83) v1.toNatClampNeg v3 s = 0) ∧ upd (g.2.1 85) v1.toNatClampNeg v5 s = upd (g.2.1 22) v1.toNatClampNeg v5 s
      by_cases e : s = v1.toNatClampNeg
      · rw [e, upd_at, upd_at, upd_at, upd_at, upd_at, upd_at]
        refine ⟨need_eq y.2.2.1.1, ?_, rfl⟩
        rcases y.2.1 with z | z
        · exact Or.inl z
        · exact Or.inr (by have := z.2.1; lia)
      · rw [upd_ne e] at t'
        rw [upd_ne e, upd_ne e, upd_ne e, upd_ne e, upd_ne e, upd_ne e]
        exact cD.2.1 s hs t'
    · exact cD.2.2
  · obtain ⟨p1, p2⟩ := p.2 y
    refine ⟨_, _, p2, wp_mono (u_X12_stream p2) fun s q => ?_⟩
    obtain ⟨q1, q2⟩ := q.2 y
    exact ⟨by rw [p1, q1], _, _, q2, hc⟩
theorem pr_15 {v1 v2 v3 : Int32} (w : WT n b L xs τ g h) (c : CP τ g) (hb : v3 = 0 ∨ v3 = 1) : wp (f_X11_together 10000 n v1 v2 v3 h) (fun r => ∃ τ1 g1, WT n b L xs τ1 g1 r.2 ∧ wp (f_X12_together 10000 (n + 42) v1 v2 v3 r.2) (fun s => r.1 = s.1 ∧ IV n b L xs s.2)) := by
  have hc := c
  obtain ⟨⟨c1, c2⟩, c3, c4, c5, c6, c7, c8, c9, cA, cL, cB, cC, cD, cE, cM, cR⟩ := c
  refine wp_mono (u_X11_together w) fun r p => ?_
  by_cases y : tgOK v1 v2
  · obtain ⟨p1, p2⟩ := p.1 y
    refine ⟨_, _, p2, wp_mono (u_X12_together p2 hb) fun s q => ?_⟩
    obtain ⟨q1, q2⟩ := q.1 (by exact y)
    obtain ⟨y1, y2, y3⟩ := y
    have a4 : v1.toNatClampNeg < 4 := (i32_clamp y1.1 (N := 4) (by decide) (by show v1 < 4; lia)).2
    have b4 : v2.toNatClampNeg < 4 := (i32_clamp y2.1 (N := 4) (by decide) (by show v2 < 4; lia)).2
    have ea : nI v1.toNatClampNeg = v1 := i32_nI y1.1
    have eb : nI v2.toNatClampNeg = v2 := i32_nI y2.1
    have ne : v1.toNatClampNeg ≠ v2.toNatClampNeg := fun z => y3 (by rw [← ea, ← eb, z])
    have i1 : (4 * v1 + v2).toNatClampNeg = 4 * v1.toNatClampNeg + v2.toNatClampNeg := by
      have e4 : (4 : Int32) = nI 4 := rfl
      rw [← nI_clamp (show 4 * v1.toNatClampNeg + v2.toNatClampNeg < 2 ^ 31 by omega), ← nI_add, ← hI_mul, ea, eb, ← e4]
    have i2 : (4 * v2 + v1).toNatClampNeg = 4 * v2.toNatClampNeg + v1.toNatClampNeg := by
      have e4 : (4 : Int32) = nI 4 := rfl
      rw [← nI_clamp (show 4 * v2.toNatClampNeg + v1.toNatClampNeg < 2 ^ 31 by omega), ← nI_add, ← hI_mul, ea, eb, ← e4]
    have mb := mates_both (v := v3) a4 b4 ne (fun s hs => rg_23 w hs) cD.2.2
    rw [ea, eb] at mb
    refine ⟨by rw [p1, q1], _, _, q2, ⟨c1, c2⟩, c3, c4, c5, c6, c7, c8, c9, cA, cL, KQ_of cB rfl (fun j hj => ?_), cC, ⟨cD.1, cD.2.1, ?_⟩, cE, cM, cR⟩
    · exact (gsA_out (by omega)).trans (gsA_out (by omega))
    · intro s q hs hq sq
      show upd (upd (g.2.1 86) (4 * v1 + v2).toNatClampNeg v3) (4 * v2 + v1).toNatClampNeg v3 (4 * s + q) = 0 ↔ _
      rw [i1, i2]
      exact mb s q hs hq sq
  · obtain ⟨p1, p2⟩ := p.2 y
    refine ⟨_, _, p2, wp_mono (u_X12_together p2 hb) fun s q => ?_⟩
    obtain ⟨q1, q2⟩ := q.2 (by exact y)
    exact ⟨by rw [p1, q1], _, _, q2, hc⟩
theorem pr_16 {v1 v2 : Int32} (w : WT n b L xs τ g h) (c : CP τ g) : wp (f_X11_lights 10000 n v1 v2 h) (fun r => ∃ τ1 g1, WT n b L xs τ1 g1 r.2 ∧ wp (f_X12_lights 10000 (n + 42) v1 v2 r.2) (fun s => r.1 = s.1 ∧ IV n b L xs s.2)) := by
  have hc := c
  obtain ⟨⟨c1, c2⟩, c3, c4, c5, c6, c7, c8, c9, cA, cL, cB, cC, cD, cE, cM, cR⟩ := c
  refine wp_mono (v_X11_lights w ⟨rfl, rfl, rfl⟩) fun r p => ?_
  obtain ⟨g1, w1, cg, p1, p2⟩ := p
  refine ⟨_, g1, w1, wp_mono (v_X12_lights w1 (CR_CG cD cg)) fun s q => ?_⟩
  obtain ⟨g2, w2, cg2, q1, q2⟩ := q
  refine ⟨?_, _, g2, w2, CP_CG (CP_CG hc cg) cg2⟩
  by_cases y : (0 ≤ v1 ∧ v1 ≤ 9) ∧ (0 ≤ v2 ∧ v2 ≤ 9)
  · rw [p2 y, q2 y]
  · rw [p1 y, q1 y]
theorem pr_17 {v : Int32} (w : WT n b L xs τ g h) (c : CP τ g) : wp (f_X11_voters 10000 n v h) (fun r => ∃ τ1 g1, WT n b L xs τ1 g1 r.2 ∧ wp (f_X12_voters 10000 (n + 42) v r.2) (fun s => r.1 = s.1 ∧ IV n b L xs s.2)) := by
  have hc := c
  obtain ⟨⟨c1, c2⟩, c3, c4, c5, c6, c7, c8, c9, cA, cL, cB, cC, cD, cE, cM, cR⟩ := c
  obtain ⟨⟨C, hC, eC, eA, eY⟩, k1, k2, k3⟩ := cC
  refine wp_mono (u_X11_voters w) fun r p => ?_
  by_cases y : voOK v (g.1 25 6)
  · obtain ⟨p1, p2⟩ := p.1 y
    refine ⟨_, _, p2, wp_mono (u_X12_voters p2) fun s q => ?_⟩
    obtain ⟨q1, F, q2, f1, f2⟩ := q.1 (by show voOK v (g.1 42 67); rw [c5]; exact y)
    have clC : (g.1 25 6).toNatClampNeg = C := by rw [eC, nI_clamp (by omega)]
    have cl42 : (g.1 42 67).toNatClampNeg = C := by rw [c5]; exact clC
    have C8 : C < 8 := by
      have : C ≠ 8 := fun e => by
        have z := y.2
        rw [eC, e] at z
        exact absurd z (by decide)
      omega
    have f1' : ∀ k, 9 * C ≤ k → k < 9 * C + 9 → F k = 0 := fun k a1 a2 => f1 k (by show 9 * (g.1 42 67).toNatClampNeg ≤ k; rw [cl42]; exact a1) (by show k < 9 * (g.1 42 67).toNatClampNeg + 9; rw [cl42]; exact a2)
    have f2' : ∀ k, ¬ (9 * C ≤ k ∧ k < 9 * C + 9) → F k = g.2.1 89 k := fun k a => f2 k (by show ¬ (9 * (g.1 42 67).toNatClampNeg ≤ k ∧ k < 9 * (g.1 42 67).toNatClampNeg + 9); rw [cl42]; exact a)
    refine ⟨?_, _, _, q2, ⟨c1, c2⟩, c3, c4, ?_, c6, c7, c8, c9, cA, cL, KQ_of cB rfl (fun j hj => ?_), ⟨⟨C + 1, by omega, ?_, ?_, fun z => ?_⟩, fun v hv => ?_, fun k hk => ?_, fun C' k e l hk => ?_⟩, cD, cE, cM, cR⟩
    · rw [p1, q1]
      show g.1 25 6 = g.1 42 67
      rw [c5]
    · show g.1 42 67 + 1 = g.1 25 6 + 1
      rw [c5]
    · exact (gsA_out (by omega)).trans ((gsA_out (by omega)).trans (gsA_out (by omega)))
    · show g.1 25 6 + 1 = nI (C + 1)
      rw [eC, nI_1]
    · show g.1 25 5 + v = allS (upd (g.2.1 26) (g.1 25 6).toNatClampNeg v) (C + 1)
      rw [clC]
      show _ = allS (upd (g.2.1 26) C v) C + upd (g.2.1 26) C v C
      rw [hu_at, allS_congr C (fun u hu => hu_ne (by omega)), eA]
    · have z' : (1 : Int32) = 0 := z
      exact absurd z' (by decide)
    · show upd (g.2.1 88) (g.1 42 67).toNatClampNeg _ v = upd (g.2.1 26) (g.1 25 6).toNatClampNeg _ v
      rw [clC, cl42]
      by_cases e : v = C
      · rw [e, hu_at, hu_at]
      · rw [hu_ne e, hu_ne e]
        exact k1 v hv
    · show F k = g.2.1 27 k
      by_cases e : 9 * C ≤ k ∧ k < 9 * C + 9
      · rw [f1' k e.1 e.2, k3 C k eC hC e.1]
      · rw [f2' k e]
        exact k2 k hk
    · have e' : nI (C + 1) = nI C' := by
        have z : g.1 25 6 + 1 = nI C' := e
        rw [eC, nI_1] at z
        exact z
      have y2 : (nI (C + 1)).toNatClampNeg = (nI C').toNatClampNeg := by rw [e']
      rw [nI_clamp (by omega), nI_clamp (by omega)] at y2
      show g.2.1 27 k = 0
      exact k3 C k eC hC (by omega)
  · obtain ⟨p1, p2⟩ := p.2 y
    refine ⟨_, _, p2, wp_mono (u_X12_voters p2) fun s q => ?_⟩
    obtain ⟨q1, q2⟩ := q.2 (by rw [c5]; exact y)
    exact ⟨by rw [p1, q1], _, _, q2, hc⟩
theorem pr_18 {v1 v2 v3 : Int32} (w : WT n b L xs τ g h) (c : CP τ g) : wp (f_X11_leans 10000 n v1 v2 v3 h) (fun r => ∃ τ1 g1, WT n b L xs τ1 g1 r.2 ∧ wp (f_X12_leans 10000 (n + 42) v1 v2 v3 r.2) (fun s => r.1 = s.1 ∧ IV n b L xs s.2)) := by
  have hc := c
  obtain ⟨⟨c1, c2⟩, c3, c4, c5, c6, c7, c8, c9, cA, cL, cB, cC, cD, cE, cM, cR⟩ := c
  obtain ⟨⟨C, hC, eC, eA, eY⟩, k1, k2, k3⟩ := cC
  refine wp_mono (u_X11_leans w) fun r p => ?_
  by_cases y : lnOK v1 v2 v3 (g.1 25 6)
  · obtain ⟨p1, p2⟩ := p.1 y
    refine ⟨_, _, p2, wp_mono (u_X12_leans p2) fun s q => ?_⟩
    obtain ⟨q1, q2⟩ := q.1 (by show lnOK v1 v2 v3 (g.1 42 67); rw [c5]; exact y)
    have m1 : v1 * 9 = 9 * v1 := Int32.mul_comm _ _
    have rr := gr_25_6 w
    refine ⟨by rw [p1, q1], _, _, q2, ⟨c1, c2⟩, c3, c4, c5, c6, c7, c8, c9, cA, cL, KQ_of cB rfl (fun j hj => ?_), ⟨⟨C, hC, eC, eA, fun z => ?_⟩, k1, fun k hk => ?_, fun C' k e l hk => ?_⟩, cD, cE, cM, cR⟩
    · exact (gsA_out (by omega)).trans (gsA_out (by omega))
    · have z' : (1 : Int32) = 0 := z
      exact absurd z' (by decide)
    · show upd (g.2.1 89) (9 * v1 + v2).toNatClampNeg v3 k = upd (g.2.1 27) (v1 * 9 + v2).toNatClampNeg v3 k
      rw [m1]
      by_cases e : k = (9 * v1 + v2).toNatClampNeg
      · rw [e, hu_at, hu_at]
      · rw [hu_ne e, hu_ne e]
        exact k2 k hk
    · show upd (g.2.1 27) (v1 * 9 + v2).toNatClampNeg v3 k = 0
      have e1 : g.1 25 6 = nI C' := e
      have ix : (v1 * 9 + v2).toNatClampNeg < 9 * C' := by
        have y1 := y.1
        have y2 := y.2.1
        rw [e1] at y1
        have l1 : v1 * 9 + v2 < nI (9 * C') := by
          have e9 : nI (9 * C') = 9 * nI C' := by rw [show (9 : Int32) = nI 9 from rfl, hI_mul]
          have rC := nI_r l (by decide : 8 < 2 ^ 31)
          have e8 : nI 8 = 8 := rfl
          rw [e9]
          lia
        have l0 : 0 ≤ v1 * 9 + v2 := by
          have rC := nI_r l (by decide : 8 < 2 ^ 31)
          have e8 : nI 8 = 8 := rfl
          lia
        have z := clamp_lt l0 l1
        rwa [nI_clamp (by omega)] at z
      rw [hu_ne (by omega)]
      exact k3 C' k e1 l hk
  · obtain ⟨p1, p2⟩ := p.2 y
    refine ⟨_, _, p2, wp_mono (u_X12_leans p2) fun s q => ?_⟩
    obtain ⟨q1, q2⟩ := q.2 (by rw [c5]; exact y)
    exact ⟨by rw [p1, q1], _, _, q2, hc⟩
theorem pr_19 {v1 : Int32} (w : WT n b L xs τ g h) (c : CP τ g) : wp (f_X11_passes 10000 n v1 h) (fun r => ∃ τ1 g1, WT n b L xs τ1 g1 r.2 ∧ wp (f_X12_passes 10000 (n + 42) v1 r.2) (fun s => r.1 = s.1 ∧ IV n b L xs s.2)) := by
  have hc := c
  obtain ⟨⟨c1, c2⟩, c3, c4, c5, c6, c7, c8, c9, cA, cL, cB, cC, cD, cE, cM, cR⟩ := c
  refine wp_mono (v_X11_passes w cC.1) fun r p => ?_
  obtain ⟨g', w1, hg, hc1, p1, p2⟩ := p
  have c' := CP_HG hc hg hc1
  obtain ⟨⟨C, hC, eC, eA, eY⟩, k1, k2, k3⟩ := cC
  have e42 : g'.1 42 67 = nI C := by rw [hg.1 42 (by decide), c5, eC]
  refine ⟨_, g', w1, wp_mono (v_X12_passes e42 hC w1) fun s q => ?_⟩
  obtain ⟨w2, q1, q2⟩ := q
  refine ⟨?_, _, _, w2, c'⟩
  by_cases y : 0 ≤ v1 ∧ v1 ≤ 511
  · rw [p2 y C eC hC, q2 y, hg.2.2.1 88 (by decide) (by decide), hg.2.2.1 89 (by decide) (by decide)]
    have z := yesS_congr (heads := g.2.1 26) (heads' := g.2.1 88) (lean := g.2.1 27) (lean' := g.2.1 89) (s := v1.toNatClampNeg) C (fun v hv => k1 v (by omega)) (fun k hk => k2 k (by omega))
    rw [z.1, z.2]
  · rw [p1 y, q1 y]
theorem pr_20 {v1 : Int32} (w : WT n b L xs τ g h) (c : CP τ g) : wp (f_X11_most 10000 n v1 h) (fun r => ∃ τ1 g1, WT n b L xs τ1 g1 r.2 ∧ wp (f_X12_most 10000 (n + 42) v1 r.2) (fun s => r.1 = s.1 ∧ IV n b L xs s.2)) := by
  have hc := c
  obtain ⟨⟨c1, c2⟩, c3, c4, c5, c6, c7, c8, c9, cA, cL, cB, cC, cD, cE, cM, cR⟩ := c
  obtain ⟨⟨C, hC, eC, eA, eY⟩, k1, k2, k3⟩ := cC
  refine wp_mono (e_X11_most w ⟨C, hC, eC, eA, eY⟩ eC hC) fun r p => ?_
  obtain ⟨g', w1, hg, hc1, p1, p2⟩ := p
  have c' := CP_HG hc hg hc1
  have e42 : g'.1 42 67 = nI C := by rw [hg.1 42 (by decide), c5, eC]
  refine ⟨_, g', w1, wp_mono (e_X12_most e42 hC w1) fun s q => ?_⟩
  obtain ⟨w2, q1, q2⟩ := q
  refine ⟨?_, _, _, w2, c'⟩
  by_cases y : 0 ≤ v1 ∧ v1 ≤ 511
  · have b1 := p2 y
    have b2 := q2 y
    rw [hg.2.2.1 88 (by decide) (by decide), hg.2.2.1 89 (by decide) (by decide)] at b2
    have eP : okS v1 (g.2.1 88) (g.2.1 89) C = okS v1 (g.2.1 26) (g.2.1 27) C := funext fun s => propext (okS_congr (fun v hv => k1 v (by omega)) (fun k hk => k2 k (by omega)) s)
    have eY : (fun s => yesS (g.2.1 88) (g.2.1 89) s C) = (fun s => yesS (g.2.1 26) (g.2.1 27) s C) := funext fun s => (yesS_congr C (fun v hv => k1 v (by omega)) (fun k hk => k2 k (by omega))).1
    rw [eP, eY] at b2
    have e5 : nI v1.toNatClampNeg = v1 := i32_nI y.1
    have cl := i32_clamp (i := v1) y.1 (N := 512) (by decide) (by show v1 < 512; lia)
    have b3 : Best (okS v1 (g.2.1 26) (g.2.1 27) C) (fun s => yesS (g.2.1 26) (g.2.1 27) s C) (fun s => s < 512) s.1 := by
      rcases b2 with ⟨d1, d2⟩ | ⟨m, d0, d1, d2, d3, d4⟩
      · refine Or.inl ⟨d1, fun s hs z => d2 s ?_ z⟩
        have zz := z.1
        rw [← e5] at zz
        exact Nat.lt_succ_of_le (sub_le hs cl.2 zz)
      · refine Or.inr ⟨m, d0, d1, d0, d3, fun s hs z => d4 s ?_ z⟩
        have zz := z.1
        rw [← e5] at zz
        exact Nat.lt_succ_of_le (sub_le hs cl.2 zz)
    exact Best_uniq (fun s _ => Iff.rfl) b1 b3
  · rw [p1 y, q1 y]
theorem pr_21 {v1 v2 v3 v4 : Int32} (w : WT n b L xs τ g h) (c : CP τ g) : wp (f_X11_counted 10000 n v1 v2 v3 v4 h) (fun r => ∃ τ1 g1, WT n b L xs τ1 g1 r.2 ∧ wp (f_X12_counted 10000 (n + 42) v1 v2 v3 v4 r.2) (fun s => r.1 = s.1 ∧ IV n b L xs s.2)) := by
  have hc := c
  obtain ⟨⟨c1, c2⟩, c3, c4, c5, c6, c7, c8, c9, cA, cL, cB, cC, cD, cE, cM, cR⟩ := c
  refine wp_mono (u_X11_counted w) fun r p => ?_
  by_cases y : coOK v1 v2 v3 v4
  · obtain ⟨p1, p2⟩ := p.1 y
    refine ⟨_, _, p2, wp_mono (u_X12_counted p2) fun s q => ?_⟩
    obtain ⟨q1, q2⟩ := q.1 y
    have m1 : v1 * 31 = 31 * v1 := Int32.mul_comm _ _
    refine ⟨by rw [p1, q1], _, _, q2, ⟨c1, c2⟩, c3, c4, c5, c6, c7, ⟨?_, fun i hi => ?_, fun i => ?_⟩, c9, cA, cL, KQ_of cB rfl (fun j hj => ?_), cC, cD, cE, cM, cR⟩
    · show upd (g.2.1 90) (31 * v1 + v2).toNatClampNeg v3 = upd (g.2.1 31) (v1 * 31 + v2).toNatClampNeg v3
      rw [m1, c8.1]
    · have hi' : ¬ upd (g.2.1 31) (v1 * 31 + v2).toNatClampNeg v3 i = -1 := hi
      show upd (g.2.1 91) (31 * v1 + v2).toNatClampNeg (if v3 = -1 then 0 else v4) i = upd (g.2.1 32) (v1 * 31 + v2).toNatClampNeg v4 i
      rw [m1] at hi' ⊢
      by_cases e : i = (31 * v1 + v2).toNatClampNeg
      · rw [e, upd_at] at hi'
        rw [e, upd_at, upd_at, if_neg hi']
      · rw [upd_ne e] at hi'
        rw [upd_ne e, upd_ne e]
        exact c8.2.1 i hi'
    · show upd (g.2.1 31) (v1 * 31 + v2).toNatClampNeg v3 i = -1 ∨ 0 ≤ upd (g.2.1 31) (v1 * 31 + v2).toNatClampNeg v3 i
      by_cases e : i = (v1 * 31 + v2).toNatClampNeg
      · rw [e, upd_at]
        exact y.2.2.imp id (fun z => z.1.1)
      · rw [upd_ne e]
        exact c8.2.2 i
    · exact (gsA_out (by omega)).trans ((gsA_out (by omega)).trans ((gsA_out (by omega)).trans (gsA_out (by omega))))
  · obtain ⟨p1, p2⟩ := p.2 y
    refine ⟨_, _, p2, wp_mono (u_X12_counted p2) fun s q => ?_⟩
    obtain ⟨q1, q2⟩ := q.2 y
    exact ⟨by rw [p1, q1], _, _, q2, hc⟩
theorem pr_22 {v1 v2 v3 : Int32} (w : WT n b L xs τ g h) (c : CP τ g) : wp (f_X11_fell 10000 n v1 v2 v3 h) (fun r => wp (f_X12_fell 10000 (n + 42) v1 v2 v3 h) (fun s => r = s.1 ∧ IV n b L xs s.2)) := by
  have hc := c
  obtain ⟨⟨c1, c2⟩, c3, c4, c5, c6, c7, c8, c9, cA, cL, cB, cC, cD, cE, cM, cR⟩ := c
  refine wp_mono (u_X11_fell w) fun r p => wp_mono (u_X12_fell w c8) fun s q => ?_
  by_cases y : flOK v1 v2 v3
  · obtain ⟨q1, q2⟩ := q.1 y
    exact ⟨by rw [p.1 y, q1], _, _, q2, hc⟩
  · obtain ⟨q1, q2⟩ := q.2 y
    exact ⟨by rw [p.2 y, q1], _, _, q2, hc⟩
theorem pr_23 {v1 v2 v3 v4 v5 v6 : Int32} (w : WT n b L xs τ g h) (c : CP τ g) : wp (f_X11_street 10000 n v1 v2 v3 v4 v5 v6 h) (fun r => ∃ τ1 g1, WT n b L xs τ1 g1 r.2 ∧ wp (f_X12_street 10000 (n + 42) v1 v2 v3 v4 v5 v6 r.2) (fun s => r.1 = s.1 ∧ IV n b L xs s.2)) := by
  have hc := c
  obtain ⟨⟨c1, c2⟩, c3, c4, c5, c6, c7, c8, c9, cA, cL, cB, cC, cD, cE, cM, cR⟩ := c
  have r9 := gr_33_9 w
  refine wp_mono (u_X11_street w) fun r p => ?_
  by_cases y : stOK v1 v2 v3 v4 v5 v6
  · obtain ⟨p1, p2⟩ := p.1 y
    refine ⟨_, _, p2, wp_mono (u_X12_street p2) fun s q => ?_⟩
    obtain ⟨q1, q2⟩ := q.1 y
    obtain ⟨t1, t2, t3, t4, t5, _⟩ := cE
    have y1 := y.1
    have a8 : v1.toNatClampNeg < 8 := (i32_clamp y1.1 (N := 8) (by decide) (by show v1 < 8; lia)).2
    have ea : nI v1.toNatClampNeg = v1 := i32_nI y1.1
    have to := told_or r9.1 r9.2 y1.1 y1.2
    have m2 : (v1 * 2).toNatClampNeg = 2 * v1.toNatClampNeg := by
      have z := (mul_ix (k := 2) (d := 0) a8 (by decide) ea).1
      rwa [show nI 0 = 0 from rfl, Int32.add_zero] at z
    have m21 : (v1 * 2 + 1).toNatClampNeg = 2 * v1.toNatClampNeg + 1 := (mul_ix (k := 2) (d := 1) a8 (by decide) ea).1
    refine ⟨by rw [p1, q1], _, _, q2, ⟨c1, c2⟩, c3, c4, c5, c6, c7, c8, c9, cA, cL, KQ_of cB rfl (fun j hj => ?_), cC, cD, ⟨fun s hs => ?_, fun s hs => ?_, fun k hk => ?_, t4, t5, fun z => absurd (show (1 : Int32) = 0 from z) (by decide)⟩, cM, cR⟩
    · exact (gsA_out (by omega)).trans ((gsA_out (by omega)).trans ((gsA_out (by omega)).trans ((gsA_out (by omega)).trans ((gsA_out (by omega)).trans (gsA_out (by omega))))))
    · show upd (g.2.1 92) v1.toNatClampNeg 1 s = if ((g.1 33 9 ||| ((1 : Int32) <<< (v1 &&& 31))).toNatClampNeg).testBit s = true then 1 else 0
      rw [to.2.2 s]
      by_cases e : s = v1.toNatClampNeg
      · rw [e, upd_at, decide_eq_true rfl, Bool.or_true]
        rfl
      · rw [upd_ne e, decide_eq_false (fun z => e z.symm), Bool.or_false]
        exact t1 s hs
    · show upd (g.2.1 93) v1.toNatClampNeg v2 s = upd (upd (g.2.1 34) (v1 * 2).toNatClampNeg v2) (v1 * 2 + 1).toNatClampNeg v3 (2 * s) ∧ upd (g.2.1 94) v1.toNatClampNeg v3 s = upd (upd (g.2.1 34) (v1 * 2).toNatClampNeg v2) (v1 * 2 + 1).toNatClampNeg v3 (2 * s + 1)
      rw [m2, m21]
      by_cases e : s = v1.toNatClampNeg
      · rw [e, upd_at, upd_at, upd_ne (by omega), upd_at, upd_at]
        exact ⟨rfl, rfl⟩
      · rw [upd_ne e, upd_ne e, upd_ne (by omega), upd_ne (by omega), upd_ne (by omega), upd_ne (by omega)]
        exact t2 s hs
    · show upd (upd (upd (g.2.1 95) (3 * v1).toNatClampNeg v4) (3 * v1 + 1).toNatClampNeg v5) (3 * v1 + 2).toNatClampNeg v6 k = upd (upd (upd (g.2.1 35) (v1 * 3).toNatClampNeg v4) (v1 * 3 + 1).toNatClampNeg v5) (v1 * 3 + 2).toNatClampNeg v6 k
      rw [Int32.mul_comm 3 v1]
      by_cases e2 : k = (v1 * 3 + 2).toNatClampNeg
      · rw [e2, upd_at, upd_at]
      · rw [upd_ne e2, upd_ne e2]
        by_cases e1 : k = (v1 * 3 + 1).toNatClampNeg
        · rw [e1, upd_at, upd_at]
        · rw [upd_ne e1, upd_ne e1]
          by_cases e0 : k = (v1 * 3).toNatClampNeg
          · rw [e0, upd_at, upd_at]
          · rw [upd_ne e0, upd_ne e0]
            exact t3 k hk
  · obtain ⟨p1, p2⟩ := p.2 y
    refine ⟨_, _, p2, wp_mono (u_X12_street p2) fun s q => ?_⟩
    obtain ⟨q1, q2⟩ := q.2 y
    exact ⟨by rw [p1, q1], _, _, q2, hc⟩
theorem pr_24 {v1 v2 : Int32} (w : WT n b L xs τ g h) (c : CP τ g) : wp (f_X11_trip 10000 n v1 v2 h) (fun r => ∃ τ1 g1, WT n b L xs τ1 g1 r.2 ∧ wp (f_X12_trip 10000 (n + 42) v1 v2 r.2) (fun s => r.1 = s.1 ∧ IV n b L xs s.2)) := by
  have hc := c
  obtain ⟨⟨c1, c2⟩, c3, c4, c5, c6, c7, c8, c9, cA, cL, cB, cC, cD, cE, cM, cR⟩ := c
  have ts := TS_of w
  refine wp_mono (u_X11_trip w) fun r p => ?_
  by_cases y : trOK v1 v2 (g.1 33 10)
  · obtain ⟨p1, p2⟩ := p.1 y
    refine ⟨_, _, p2, wp_mono (u_X12_trip p2) fun s q => ?_⟩
    obtain ⟨q1, q2⟩ := q.1 (by show trOK v1 v2 (g.1 42 76); rw [c6]; exact y)
    obtain ⟨t1, t2, t3, t4, t5, _⟩ := cE
    refine ⟨?_, _, _, q2, ⟨c1, c2⟩, c3, c4, c5, ?_, c7, c8, c9, cA, cL, KQ_of cB rfl (fun j hj => ?_), cC, cD, ⟨t1, t2, t3, fun i hi => ?_, t5, fun z => absurd (show (1 : Int32) = 0 from z) (by decide)⟩, cM, cR⟩
    · rw [p1, q1]
      show g.1 33 10 = g.1 42 76
      rw [c6]
    · show g.1 42 76 + 1 = g.1 33 10 + 1
      rw [c6]
    · exact (gsA_out (by omega)).trans ((gsA_out (by omega)).trans ((gsA_out (by omega)).trans (gsA_out (by omega))))
    · show upd (g.2.1 96) (g.1 42 76).toNatClampNeg v1 i = upd (g.2.1 36) (g.1 33 10).toNatClampNeg v1 i ∧ upd (g.2.1 97) (g.1 42 76).toNatClampNeg v2 i = upd (g.2.1 37) (g.1 33 10).toNatClampNeg v2 i
      rw [c6]
      by_cases e : i = (g.1 33 10).toNatClampNeg
      · rw [e, upd_at, upd_at, upd_at, upd_at]
        exact ⟨rfl, rfl⟩
      · rw [upd_ne e, upd_ne e, upd_ne e, upd_ne e]
        exact t4 i hi
  · obtain ⟨p1, p2⟩ := p.2 y
    refine ⟨_, _, p2, wp_mono (u_X12_trip p2) fun s q => ?_⟩
    obtain ⟨q1, q2⟩ := q.2 (by rw [c6]; exact y)
    exact ⟨by rw [p1, q1], _, _, q2, hc⟩
theorem pr_25 {v1 v2 : Int32} (w : WT n b L xs τ g h) (c : CP τ g) : wp (f_X11_plan 10000 n v1 v2 h) (fun r => ∃ τ1 g1, WT n b L xs τ1 g1 r.2 ∧ wp (f_X12_plan 10000 (n + 42) v1 v2 r.2) (fun s => r.1 = s.1 ∧ IV n b L xs s.2)) := by
  have hc := c
  obtain ⟨⟨c1, c2⟩, c3, c4, c5, c6, c7, c8, c9, cA, cL, cB, cC, cD, cE, cM, cR⟩ := c
  have ts := TS_of w
  have t0 := TR_of w cE c6
  refine wp_mono (v_X11_plan ts cE.2.2.2.2.2 w) fun r p => ?_
  obtain ⟨g1, w1, tg, tc1, p1, p2⟩ := p
  have hc1 := CP_TG hc tg tc1
  have tr1 : TR (tdG g) (trG g) (tA g) (tB g) (tH g) (tF g) (tE g) g1 := by
    unfold TR
    rw [tg.1 42 76 (by decide), tg.2.1 92 (by decide) (by decide) (by decide) (by decide), tg.2.1 93 (by decide) (by decide) (by decide) (by decide), tg.2.1 94 (by decide) (by decide) (by decide) (by decide), tg.2.1 95 (by decide) (by decide) (by decide) (by decide), tg.2.1 96 (by decide) (by decide) (by decide) (by decide), tg.2.1 97 (by decide) (by decide) (by decide) (by decide), tg.2.1 98 (by decide) (by decide) (by decide) (by decide)]
    exact t0
  refine ⟨_, g1, w1, wp_mono (v_X12_plan tr1 w1) fun s q => ?_⟩
  obtain ⟨w2, q1, q2⟩ := q
  refine ⟨?_, _, _, w2, hc1⟩
  by_cases y : (0 ≤ v1 ∧ v1 ≤ 8) ∧ (0 ≤ v2 ∧ v2 ≤ 9)
  · obtain ⟨bo, mn, e⟩ := p2 y
    rcases q2 y with ⟨z1, z2, z3⟩ | ⟨bo', mn', e'⟩
    · rw [e, z3]
      exact pl_not z1 z2
    · rw [e, e', Mn_uniq mn mn']
  · rw [p1 y, q1 y]
end PAIR
