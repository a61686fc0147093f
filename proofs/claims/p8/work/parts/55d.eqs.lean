/-! new cells and their kinds -/
section EQS
variable {n b L : Nat} {xs : Nat → Int32} {τ : Nat → Nat} {g : zGh} {h : zH}
theorem KO_mono {τ' : Nat → Nat} {gi ga : Nat → Int32} {gl : Nat → Int64} {c : zE} (ht : ∀ a, τ a ≠ 0 → τ' a = τ a) : ∀ (j : Nat), j < 100 → KO n τ gi ga gl j c → KO n τ' gi ga gl j c
  | 0, _, k => k
  | 1, _, k => by
    obtain ⟨f, e, r1, r2⟩ := k
    exact ⟨f, e, fun q a ha => (ht a (by rw [r1 q a ha]; decide)).trans (r1 q a ha), r2⟩
  | 2, _, k => k
  | 3, _, k => k
  | 4, _, k => k
  | 5, _, k => k
  | 6, _, k => k
  | 7, _, k => k
  | 8, _, k => k
  | 9, _, k => k
  | 10, _, k => k
  | 11, _, k => by
    obtain ⟨f, e, r1⟩ := k
    exact ⟨f, e, fun q a ha => (ht a (by rw [r1 q a ha]; decide)).trans (r1 q a ha)⟩
  | 12, _, k => k
  | 13, _, k => k
  | 14, _, k => k
  | 15, _, k => by
    obtain ⟨f, e, r1⟩ := k
    exact ⟨f, e, fun q a ha => (ht a (by rw [r1 q a ha]; decide)).trans (r1 q a ha)⟩
  | 16, _, k => k
  | 17, _, k => k
  | 18, _, k => k
  | 19, _, k => k
  | 20, _, k => k
  | 21, _, k => k
  | 22, _, k => k
  | 23, _, k => k
  | 24, _, k => k
  | 25, _, k => k
  | 26, _, k => k
  | 27, _, k => k
  | 28, _, k => k
  | 29, _, k => k
  | 30, _, k => k
  | 31, _, k => k
  | 32, _, k => k
  | 33, _, k => k
  | 34, _, k => k
  | 35, _, k => k
  | 36, _, k => k
  | 37, _, k => k
  | 38, _, k => k
  | 39, _, k => k
  | 40, _, k => k
  | 41, _, k => k
  | 42, _, k => k
  | 43, _, k => k
  | 44, _, k => k
  | 45, _, k => k
  | 46, _, k => k
  | 47, _, k => k
  | 48, _, k => k
  | 49, _, k => k
  | 50, _, k => k
  | 51, _, k => k
  | 52, _, k => k
  | 53, _, k => k
  | 54, _, k => k
  | 55, _, k => k
  | 56, _, k => k
  | 57, _, k => k
  | 58, _, k => k
  | 59, _, k => k
  | 60, _, k => k
  | 61, _, k => k
  | 62, _, k => k
  | 63, _, k => k
  | 64, _, k => k
  | 65, _, k => k
  | 66, _, k => k
  | 67, _, k => k
  | 68, _, k => k
  | 69, _, k => k
  | 70, _, k => k
  | 71, _, k => k
  | 72, _, k => k
  | 73, _, k => k
  | 74, _, k => k
  | 75, _, k => k
  | 76, _, k => k
  | 77, _, k => k
  | 78, _, k => k
  | 79, _, k => k
  | 80, _, k => k
  | 81, _, k => k
  | 82, _, k => k
  | 83, _, k => k
  | 84, _, k => k
  | 85, _, k => k
  | 86, _, k => k
  | 87, _, k => k
  | 88, _, k => k
  | 89, _, k => k
  | 90, _, k => k
  | 91, _, k => k
  | 92, _, k => k
  | 93, _, k => k
  | 94, _, k => k
  | 95, _, k => k
  | 96, _, k => k
  | 97, _, k => k
  | 98, _, k => k
  | 99, _, k => k
  | j + 100, hj, _ => absurd hj (by omega)
theorem DO_mono {τ' : Nat → Nat} {c : zE} (ht : ∀ a, τ a ≠ 0 → τ' a = τ a) : ∀ (t : Nat), DO τ t c → DO τ' t c
  | 0, k => k
  | 1, k => k
  | 2, k => by
    obtain ⟨x, y, q, e, r⟩ := k
    exact ⟨x, y, q, e, by rw [ht q (by omega)]; exact r⟩
  | t + 3, k => k
theorem τ_new (w : WT n b L xs τ g h) {A : Nat} (hA : h.1.1 ≤ A) : τ A = 0 := by
  by_cases e : τ A = 0
  · exact e
  · have := (w.2.1 A e).2.1
    omega
theorem zn_ne {h : zH} {c : zE} {a : Nat} (e : a ≠ h.1.1) : (znew h c).2 a = h.2 a := if_neg e
theorem zn_same (h : zH) (c : zE) : (znew h c).2 h.1.1 = some c := if_pos rfl
theorem zn_set (h : zH) (c d : zE) : zset (znew h c) h.1.1 d = znew h d := by
  unfold zset znew
  refine Prod.ext rfl ?_
  funext q
  by_cases e : q = h.1.1 <;> simp [e]
theorem pF_new {h : zH} {ci k : Nat} {fs : List Value} {v : Value} (hk : k < fs.length) : pF (znew h (.inr (ci, fs))) h.1.1 ci k v = some (znew h (.inr (ci, fs.set k v))) := by
  rw [pF_of (zn_same h _) hk, zn_set]
theorem pZ_new {h : zH} {ci k : Nat} {fs : List Value} {x : Int32} (hx : x = 0 ∨ x = 1) (hk : k < fs.length) : pZ (znew h (.inr (ci, fs))) h.1.1 ci k x = some (znew h (.inr (ci, fs.set k (.int x)))) := by
  unfold pZ
  rw [if_pos hx, pF_new hk]
theorem WT.new {c : zE} (w : WT n b L xs τ g h) : WT n b L xs τ g (znew h c) := by
  obtain ⟨w1, w2, w3, w4, w5, w6⟩ := w
  refine ⟨fun i hi => ?_, fun a ha => ?_, ?_, ?_, ?_, ?_⟩
  · obtain ⟨d, e1, e2⟩ := w1 i hi
    exact ⟨d, (zn_ne (by omega)).trans e1, e2⟩
  · obtain ⟨a1, a2, d, e1, e2⟩ := w2 a ha
    exact ⟨a1, Nat.lt_succ_of_lt a2, d, (zn_ne (by omega)).trans e1, e2⟩
  · show n + 100 ≤ h.1.1 + 1
    omega
  · exact ⟨(zn_ne (by omega)).trans w4.1, w4.2⟩
  · refine ⟨(zn_ne ?_).trans w5.1, w5.2⟩
    show h.1.2 0 ≠ h.1.1
    omega
  · refine ⟨(zn_ne ?_).trans w6.1, w6.2⟩
    show h.1.2 5 ≠ h.1.1
    omega
theorem WT.raw {c : zE} {A : Nat} (w : WT n b L xs τ g h) (hA : n + 100 ≤ A) (t : τ A = 0) : WT n b L xs τ g (zset h A c) := by
  obtain ⟨w1, w2, w3, w4, w5, w6⟩ := w
  refine ⟨fun i hi => ?_, fun a ha => ?_, w3, ?_, ?_, ?_⟩
  · obtain ⟨d, e1, e2⟩ := w1 i hi
    exact ⟨d, (zs_ne (by omega)).trans e1, e2⟩
  · obtain ⟨a1, a2, d, e1, e2⟩ := w2 a ha
    exact ⟨a1, a2, d, (zs_ne (fun e => ha (by rw [e]; exact t))).trans e1, e2⟩
  · exact ⟨(zs_ne (by omega)).trans w4.1, w4.2⟩
  · refine ⟨(zs_ne ?_).trans w5.1, w5.2⟩
    show h.1.2 0 ≠ A
    omega
  · refine ⟨(zs_ne ?_).trans w6.1, w6.2⟩
    show h.1.2 5 ≠ A
    omega
def tu (τ : Nat → Nat) (A t : Nat) : Nat → Nat := fun a => if a = A then t else τ a
theorem tu_same (τ : Nat → Nat) (A t : Nat) : tu τ A t A = t := if_pos rfl
theorem tu_ne {A t a : Nat} (e : a ≠ A) : tu τ A t a = τ a := if_neg e
theorem tu_old {A t a : Nat} (t0 : τ A = 0) (ha : τ a ≠ 0) : tu τ A t a = τ a := tu_ne (fun e => ha (by rw [e]; exact t0))
theorem WT.ext {A t : Nat} {c : zE} (w : WT n b L xs τ g h) (h1 : n + 100 ≤ A) (h2 : A < h.1.1) (t0 : τ A = 0) (e : h.2 A = some c) (k : DO (tu τ A t) t c) : WT n b L xs (tu τ A t) g h := by
  obtain ⟨w1, w2, w3, w4⟩ := w
  have ht : ∀ a, τ a ≠ 0 → tu τ A t a = τ a := fun a ha => tu_old t0 ha
  refine ⟨fun i hi => ?_, fun a ha => ?_, w3, w4⟩
  · obtain ⟨d, e1, e2⟩ := w1 i hi
    exact ⟨d, e1, KO_mono ht i hi e2⟩
  · by_cases ea : a = A
    · subst ea
      refine ⟨h1, h2, c, e, ?_⟩
      rw [tu_same]
      exact k
    · rw [tu_ne ea] at ha ⊢
      obtain ⟨a1, a2, d, e1, e2⟩ := w2 a ha
      exact ⟨a1, a2, d, e1, DO_mono ht _ e2⟩
theorem WT.big (w : WT n b L xs τ g h) : n + 100 ≤ h.1.1 := w.2.2.1
theorem sQ_1 {i : Int32} {a : Nat} (w : WT n b L xs τ g h) (i0 : 0 ≤ i) (i1 : i < 40) (t : τ a = 1) (e1 : g.1 1 0 = i) : wp (sQ h (n + 1) i a) (fun h2 => WT n b L xs τ (gset g 1 0 (i + 1)) h2) := by
  obtain ⟨c, e, ⟨f, rfl, r, r2⟩⟩ := w.1 1 (by decide)
  obtain ⟨p, q⟩ := i32_clamp i0 (N := 40) (by decide) i1
  refine ⟨_, by simp [sQ, e, p, q, ob_m w t]; rfl, w.put (j := 1) (by decide) ⟨_, rfl, fun k x hx => ?_, fun k hk => ?_⟩ (fun q hq => gset_ne hq)⟩
  · by_cases ek : k = i.toNatClampNeg
    · simp [va_up, ek] at hx
      exact hx ▸ t
    · simp [va_up, ek] at hx
      exact r k x hx
  · by_cases ek : k = i.toNatClampNeg
    · exact ⟨a, by simp [va_up, ek]⟩
    · have hk' : k < (i + 1).toNatClampNeg := hk
      have x := i32_0 i0
      have y : (i + 1).toInt = i.toInt + 1 := ti_1 i0 (by lia)
      have hk2 : k < i.toNatClampNeg := by
        have z : k < (i + 1).toInt.toNat := hk'
        have ek2 : k ≠ i.toInt.toNat := ek
        show k < i.toInt.toNat
        omega
      obtain ⟨z, ez⟩ := r2 k (by rw [e1]; exact hk2)
      exact ⟨z, by simp [va_up, ek, ez]⟩
end EQS
