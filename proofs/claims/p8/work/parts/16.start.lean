/-! the start: the small heap, and what lies outside, out of the Statement's premises -/
def zByt : List (List Int32) := [[110, 111, 110, 101, 32, 100, 114, 105, 118, 101, 114, 32, 119, 97, 108, 107, 101, 114, 32, 98, 111, 116, 104, 32, 108, 101, 116, 32, 102, 97, 117, 108, 116, 32, 119, 104, 101, 110, 32, 97, 110, 100, 32, 111, 114, 32, 110, 111, 116, 32, 115, 112, 101, 101, 100, 32, 112, 97, 99, 101, 32, 115, 101, 101, 110, 32, 109, 101, 116, 32, 108, 111, 111, 107, 115, 32, 107, 105, 110, 100, 32, 102, 108, 111, 111, 114, 32, 119, 105, 100, 116, 104, 32, 104, 105, 100, 100, 101, 110, 32, 121, 101, 97, 114, 32, 108, 105, 109, 105, 116, 32], [40, 41, 60, 61, 43, 45, 42, 59]]
def zLen : List Nat := [111, 8]
def zTm (i : Nat) : Term := match i with
  | 0 => .string "WhoseStreet$Tape" 17
  | _ => .string "WhoseStreet$Tape" 68
def zBrk (j : Nat) : Int32 := match j with
  | 0 => 60
  | 1 => 35
  | _ => 10
def zWd (j : Nat) : Int32 := (zByt.getD 0 []).getD j 0
def zSg (j : Nat) : Int32 := (zByt.getD 1 []).getD j 0
/-- the small heap at the law's entry -/
def zh0 (sz : Nat) (cc : Nat → Nat) (b L : Nat) (xs : Nat → Int32) : zH := ((sz, cc), fun q => if q = b then some (.inl (6, L, .inl xs)) else if q = cc 0 then some (.inl (8, 3, .inl zBrk)) else if q = cc 4 then some (.inl (7, 111, .inl zWd)) else if q = cc 5 then some (.inl (9, 8, .inl zSg)) else none)
/-- what is known of its addresses -/
def zad (sz : Nat) (cc : Nat → Nat) (b : Nat) : Prop := b < sz ∧ cc 0 < sz ∧ cc 1 < sz ∧ cc 2 < sz ∧ cc 4 < sz ∧ cc 5 < sz ∧ cc 0 ≠ b ∧ cc 4 ≠ b ∧ cc 5 ≠ b ∧ cc 4 ≠ cc 0 ∧ cc 5 ≠ cc 0 ∧ cc 5 ≠ cc 4 ∧ cc 1 ≠ cc 2
set_option maxRecDepth 100000 in
theorem st_in : ∀ q ∈ vwCl, Cond.instantiable q.1 q.2.2 ∈ lw_tbl := by decide +kernel
set_option maxRecDepth 100000 in
theorem st_nest : ∀ q ∈ zNs, Cond.methodLinkNest q.1 q.2.1 q.2.2.1 q.2.2.2 ∈ lw_tbl := by decide +kernel
set_option maxRecDepth 100000 in
theorem st_ws : ∀ w ∈ [Cond.arrayClass .int, .arrayClass .long, .arrayClass .byte, .arrayClass .boolean, .arrayOver (.object "WhoseStreet$Meeting"), .arrayOver (.object "WhoseStreet$Law"), .laysStatic "WhoseStreet$Ride" "BRAKES" "[I", .initialized "WhoseStreet$Ride", .laysStatic "java/lang/String" "COMPACT_STRINGS" "Z", .initialized "java/lang/String", .stringRef "WhoseStreet$Tape" 17 zWords, .stringRef "WhoseStreet$Tape" 68 "()<=+-*;", .stringRef "WhoseStreet" 143 zText, .castable "java/util/NoSuchElementException" "java/util/NoSuchElementException", .laysStatic Bundle.tN "UNASSIGNED_STACK" Bundle.steD, .laysStatic Bundle.tN "SUPPRESSED_SENTINEL" Bundle.listD, .initialized Bundle.tN, .laysStatic "jdk/internal/util/Preconditions" "SIOOBE_FORMATTER" "Ljava/util/function/BiFunction;", .initialized "jdk/internal/util/Preconditions"], w ∈ lw_tbl := by decide +kernel
abbrev st_C : Cond := Jvm.Cond.and given_1 narrow_1
set_option maxRecDepth 100000 in
theorem st_f0 : ∀ w ∈ [Cond.arrayOf (.static "WhoseStreet$Ride" "BRAKES" "[I") .int, .eq (.length (.static "WhoseStreet$Ride" "BRAKES" "[I")) (.int 3), .eq (.elem (.static "WhoseStreet$Ride" "BRAKES" "[I") (.int 0)) (.int 60), .eq (.elem (.static "WhoseStreet$Ride" "BRAKES" "[I") (.int 1)) (.int 35), .eq (.elem (.static "WhoseStreet$Ride" "BRAKES" "[I") (.int 2)) (.int 10), .eq (.static "java/lang/String" "COMPACT_STRINGS" "Z") (.int 1), .isRef (.static "jdk/internal/util/Preconditions" "SIOOBE_FORMATTER" "Ljava/util/function/BiFunction;"), .isRef (.static Bundle.tN "UNASSIGNED_STACK" Bundle.steD), .isRef (.static Bundle.tN "SUPPRESSED_SENTINEL" Bundle.listD), .exactly (.string "WhoseStreet" 143) "java/lang/String", .not (.eq (.string "WhoseStreet$Tape" 17) (.string "WhoseStreet$Tape" 68)), .not (.eq (.arg 0) (.static "WhoseStreet$Ride" "BRAKES" "[I"))], w ∈ flatC st_C := by decide +kernel
set_option maxRecDepth 100000 in
theorem st_f1 : ∀ i : Nat, i < 2 → Cond.exactly (zTm i) "java/lang/String" ∈ flatC st_C ∧ Cond.eq (.field (zTm i) "java/lang/String" "coder" "B") (.int 0) ∈ flatC st_C ∧ Cond.arrayOf (.field (zTm i) "java/lang/String" "value" "[B") .byte ∈ flatC st_C ∧ Cond.eq (.length (.field (zTm i) "java/lang/String" "value" "[B")) (.int (Int32.ofNat (zLen.getD i 0))) ∈ flatC st_C := by decide +kernel
set_option maxRecDepth 100000 in
theorem st_f2 : ∀ i : Nat, i < 2 → ∀ j : Nat, j < zLen.getD i 0 → Cond.eq (.elem (.field (zTm i) "java/lang/String" "value" "[B") (.int (Int32.ofNat j))) (.int ((zByt.getD i []).getD j 0)) ∈ flatC st_C := by decide +kernel
theorem st_K {s : State} {args : Array Value} (hts : ∀ w ∈ lw_tbl, w.before args s = true) : ∃ (dC : Nat → ClassId) (dI : Nat → Nat → Nat), ∀ (c : Nat) (q : vw_C), vwCl[c]? = some q → u_Kn s q.1 q.2.1 q.2.2 (dC c) (dI c) := by
  have hB : ∀ w ∈ zB, w.before args s = true := fun w hw => hts w (List.mem_filter.mp hw).1
  have hu : ∀ c : Nat, ∃ x : ClassId × (Nat → Nat), ∀ q : vw_C, vwCl[c]? = some q → u_Kn s q.1 q.2.1 q.2.2 x.1 x.2 := fun c => match c with
    | 0 => by
      obtain ⟨a, b, h⟩ := u_known (ws := zB) hB cl_0.2.1 (hts _ (st_in _ (List.mem_of_getElem? (i := 0) rfl)))
      exact ⟨(a, b), fun q hq => by cases hq; exact h⟩
    | 1 => by
      obtain ⟨a, b, h⟩ := u_known (ws := zB) hB cl_1.2.1 (hts _ (st_in _ (List.mem_of_getElem? (i := 1) rfl)))
      exact ⟨(a, b), fun q hq => by cases hq; exact h⟩
    | 2 => by
      obtain ⟨a, b, h⟩ := u_known (ws := zB) hB cl_2.2.1 (hts _ (st_in _ (List.mem_of_getElem? (i := 2) rfl)))
      exact ⟨(a, b), fun q hq => by cases hq; exact h⟩
    | 3 => by
      obtain ⟨a, b, h⟩ := u_known (ws := zB) hB cl_3.2.1 (hts _ (st_in _ (List.mem_of_getElem? (i := 3) rfl)))
      exact ⟨(a, b), fun q hq => by cases hq; exact h⟩
    | 4 => by
      obtain ⟨a, b, h⟩ := u_known (ws := zB) hB cl_4.2.1 (hts _ (st_in _ (List.mem_of_getElem? (i := 4) rfl)))
      exact ⟨(a, b), fun q hq => by cases hq; exact h⟩
    | 5 => by
      obtain ⟨a, b, h⟩ := u_known (ws := zB) hB cl_5.2.1 (hts _ (st_in _ (List.mem_of_getElem? (i := 5) rfl)))
      exact ⟨(a, b), fun q hq => by cases hq; exact h⟩
    | 6 => by
      obtain ⟨a, b, h⟩ := u_known (ws := zB) hB cl_6.2.1 (hts _ (st_in _ (List.mem_of_getElem? (i := 6) rfl)))
      exact ⟨(a, b), fun q hq => by cases hq; exact h⟩
    | 7 => by
      obtain ⟨a, b, h⟩ := u_known (ws := zB) hB cl_7.2.1 (hts _ (st_in _ (List.mem_of_getElem? (i := 7) rfl)))
      exact ⟨(a, b), fun q hq => by cases hq; exact h⟩
    | 8 => by
      obtain ⟨a, b, h⟩ := u_known (ws := zB) hB cl_8.2.1 (hts _ (st_in _ (List.mem_of_getElem? (i := 8) rfl)))
      exact ⟨(a, b), fun q hq => by cases hq; exact h⟩
    | 9 => by
      obtain ⟨a, b, h⟩ := u_known (ws := zB) hB cl_9.2.1 (hts _ (st_in _ (List.mem_of_getElem? (i := 9) rfl)))
      exact ⟨(a, b), fun q hq => by cases hq; exact h⟩
    | 10 => by
      obtain ⟨a, b, h⟩ := u_known (ws := zB) hB cl_10.2.1 (hts _ (st_in _ (List.mem_of_getElem? (i := 10) rfl)))
      exact ⟨(a, b), fun q hq => by cases hq; exact h⟩
    | 11 => by
      obtain ⟨a, b, h⟩ := u_known (ws := zB) hB cl_11.2.1 (hts _ (st_in _ (List.mem_of_getElem? (i := 11) rfl)))
      exact ⟨(a, b), fun q hq => by cases hq; exact h⟩
    | 12 => by
      obtain ⟨a, b, h⟩ := u_known (ws := zB) hB cl_12.2.1 (hts _ (st_in _ (List.mem_of_getElem? (i := 12) rfl)))
      exact ⟨(a, b), fun q hq => by cases hq; exact h⟩
    | c + 13 => by
      obtain ⟨a, b, h⟩ := u_known (ws := zB) hB cl_0.2.1 (hts _ (st_in _ (List.mem_of_getElem? (i := 0) rfl)))
      exact ⟨(a, b), fun q hq => by simp [vwCl] at hq⟩
  obtain ⟨f, hf⟩ := Classical.axiomOfChoice hu
  exact ⟨fun c => (f c).1, fun c => (f c).2, fun c q hq => hf c q hq⟩
theorem st_A {s : State} {args : Array Value} {ty : FieldType} (h : (Cond.arrayClass ty).before args s = true) : ∃ cA : ClassId, ArrOfT s cA ty ∧ s.vm.findClass ("[" ++ ty.toString) = some cA := by
  obtain ⟨c, k, comp, h1, h2, h3⟩ := Cond.arrayClass_spec (args := args) (first := s) (o := none) (s := s) (idx := []) h
  exact ⟨c, fun n z => ⟨(fun k h => by cases h), k, h2, comp, h3⟩, h1⟩
theorem st_AO {s : State} {args : Array Value} {C : String} (h : (Cond.arrayOver (.object C)).before args s = true) : ∃ cA : ClassId, ArrOfT s cA (.object C) ∧ va_RA s cA (.object C) := by
  obtain ⟨comp, c, k, h1, h2, h3, h4, h5⟩ := Cond.arrayOver_spec (args := args) (first := s) (o := none) (s := s) (idx := []) h
  exact ⟨c, fun n z => ⟨(fun k h => by cases h), k, h3, comp, h4⟩, k, comp, h3, h4, h1, h5⟩
/-- an int array isn't a byte array -/
theorem st_ib {s : State} {cell : Cell} (h1 : s.isArrayOf cell .int) (h2 : s.isArrayOf cell .byte) : False := by
  obtain ⟨-, k, e1, comp, e2⟩ := h1
  obtain ⟨-, k', e3, comp', e4⟩ := h2
  cases e1.symm.trans e3
  rw [e2] at e4
  cases e4
set_option maxHeartbeats 4000000 in
theorem st_start {s : State} {b L : Nat} {xs : Nat → Int32} (hts : ∀ w ∈ lw_tbl, w.before #[Value.ref b] s = true) (hX : va_X b L xs s s.heap) (hbl : b < s.heap.size) (hgv : st_C.before #[Value.ref b] s = true) (hL : L < 2 ^ 31) :
    ∃ (G : zG), zK G s ∧ zX G s s.heap ∧ G.2.2.1 = s.heap.size ∧ zR G (zh0 s.heap.size G.2.2.2 b L xs) s.heap ∧ zad s.heap.size G.2.2.2 b := by
  have hs := flat_of_before _ hgv
  have hA : ∀ a : Nat, a < s.heap.size → ¬ s.heap.size ≤ a := fun a h => Nat.not_le.mpr h
  have w (v : Cond) (hv : v ∈ [Cond.arrayClass .int, .arrayClass .long, .arrayClass .byte, .arrayClass .boolean, .arrayOver (.object "WhoseStreet$Meeting"), .arrayOver (.object "WhoseStreet$Law"), .laysStatic "WhoseStreet$Ride" "BRAKES" "[I", .initialized "WhoseStreet$Ride", .laysStatic "java/lang/String" "COMPACT_STRINGS" "Z", .initialized "java/lang/String", .stringRef "WhoseStreet$Tape" 17 zWords, .stringRef "WhoseStreet$Tape" 68 "()<=+-*;", .stringRef "WhoseStreet" 143 zText, .castable "java/util/NoSuchElementException" "java/util/NoSuchElementException", .laysStatic Bundle.tN "UNASSIGNED_STACK" Bundle.steD, .laysStatic Bundle.tN "SUPPRESSED_SENTINEL" Bundle.listD, .initialized Bundle.tN, .laysStatic "jdk/internal/util/Preconditions" "SIOOBE_FORMATTER" "Ljava/util/function/BiFunction;", .initialized "jdk/internal/util/Preconditions"]) : v.before #[Value.ref b] s = true := hts v (st_ws v hv)
  obtain ⟨dC, dI, hK⟩ := st_K hts
  obtain ⟨c0, k0, n0⟩ := st_A (w (.arrayClass .int) (by simp))
  obtain ⟨c1, k1, n1⟩ := st_A (w (.arrayClass .long) (by simp))
  obtain ⟨c2, k2, n2⟩ := st_A (w (.arrayClass .byte) (by simp))
  obtain ⟨c3, k3, n3⟩ := st_A (w (.arrayClass .boolean) (by simp))
  obtain ⟨c4, k4, n4⟩ := st_AO (w (.arrayOver (.object "WhoseStreet$Meeting")) (by simp))
  obtain ⟨c5, k5, n5⟩ := st_AO (w (.arrayOver (.object "WhoseStreet$Law")) (by simp))
  obtain ⟨scr, x1, x2, x3, x4, x5⟩ := hX
  obtain ⟨tB, hB1, bc, b1, b2, b3, b4, b5, b6, -⟩ := va_Tof (N := 3) (ty := .int) (f := fun j => .int (zBrk j)) (A := fun q => s.heap.size ≤ q) (by decide) (hs _ (st_f0 (.arrayOf (.static "WhoseStreet$Ride" "BRAKES" "[I") .int) (by simp))) (va_eqt (hs _ (st_f0 (.eq (.length (.static "WhoseStreet$Ride" "BRAKES" "[I")) (.int 3)) (by simp))))
    (fun j hj => by
      match j, hj with
      | 0, _ => exact va_eqt (hs _ (st_f0 (.eq (.elem (.static "WhoseStreet$Ride" "BRAKES" "[I") (.int 0)) (.int 60)) (by simp)))
      | 1, _ => exact va_eqt (hs _ (st_f0 (.eq (.elem (.static "WhoseStreet$Ride" "BRAKES" "[I") (.int 1)) (.int 35)) (by simp)))
      | 2, _ => exact va_eqt (hs _ (st_f0 (.eq (.elem (.static "WhoseStreet$Ride" "BRAKES" "[I") (.int 2)) (.int 10)) (by simp)))
      | j + 3, hj => omega) hA
  obtain ⟨adK, adV, hS, hev⟩ := vk_Sof (N := 2) (tm := zTm) (len := zLen) (byt := zByt) (A := fun q => s.heap.size ≤ q) (by decide) (fun i hi => hs _ (st_f1 i hi).1) (fun i hi => hs _ (st_f1 i hi).2.1) (fun i hi => hs _ (st_f1 i hi).2.2.1) (fun i hi => hs _ (st_f1 i hi).2.2.2) (fun i hi j hj => hs _ (st_f2 i hi j hj))
    (fun i j hi hj hij => by
      match i, j, hi, hj, hij with
      | 0, 0, _, _, h => exact absurd rfl h
      | 0, 1, _, _, _ => exact Or.inl (hs _ (st_f0 (.not (.eq (.string "WhoseStreet$Tape" 17) (.string "WhoseStreet$Tape" 68))) (by simp)))
      | 1, 0, _, _, _ => exact Or.inr (hs _ (st_f0 (.not (.eq (.string "WhoseStreet$Tape" 17) (.string "WhoseStreet$Tape" 68))) (by simp)))
      | 1, 1, _, _, h => exact absurd rfl h
      | i + 2, _, hi, _, _ => omega
      | _, j + 2, _, hj, _ => omega) hA
  obtain ⟨a3, c9, cA9, kA9, y1, y2, y3, -⟩ := Cond.exactly_spec (args := #[Value.ref b]) (first := s) (o := none) (s := s) (idx := []) (t := .string "WhoseStreet" 143) (cls := "java/lang/String") (hs _ (st_f0 (.exactly (.string "WhoseStreet" 143) "java/lang/String") (by simp)))
  obtain ⟨s0, s1, s2, wc, w1, w2, w3, w4, w5, w6, -⟩ := hS.1 0 (by decide)
  obtain ⟨t0, t1, t2, gc, g1, g2, g3, g4, g5, g6, -⟩ := hS.1 1 (by decide)
  have hne : adK 0 ≠ adK 1 := fun e => absurd (hS.2 0 1 (by decide) (by decide) e) (by decide)
  have hbB : tB ≠ b := fun e => va_neR (hs _ (st_f0 (.not (.eq (.arg 0) (.static "WhoseStreet$Ride" "BRAKES" "[I"))) (by simp))) (show (Term.arg 0).eval #[Value.ref b] s none [] s = some (.ref b) from rfl) hB1 e.symm
  have hwb : adV 0 ≠ b := fun e => by rw [e] at w1; cases Option.some.inj (w1.symm.trans x1); exact st_ib x2 w2
  have hgb : adV 1 ≠ b := fun e => by rw [e] at g1; cases Option.some.inj (g1.symm.trans x1); exact st_ib x2 g2
  have hwB : adV 0 ≠ tB := fun e => by rw [e] at w1; cases Option.some.inj (w1.symm.trans b1); exact st_ib b2 w2
  have hgB : adV 1 ≠ tB := fun e => by rw [e] at g1; cases Option.some.inj (g1.symm.trans b1); exact st_ib b2 g2
  have hgw : adV 1 ≠ adV 0 := fun e => by
    rw [e] at g1; cases Option.some.inj (g1.symm.trans w1)
    have q : (Int32.ofNat 111 : Int32) = Int32.ofNat 8 := w5.symm.trans g5
    exact absurd q (by decide)
  obtain ⟨dA, hdA⟩ : ∃ dA : Nat → ClassId, dA = fun t => match t with
    | 0 => c0
    | 1 => c1
    | 2 => c2
    | 3 => c3
    | 4 => c4
    | 5 => c5
    | 6 => scr.cls
    | 7 => wc.cls
    | 8 => bc.cls
    | _ => gc.cls := ⟨_, rfl⟩
  obtain ⟨cc, hcc⟩ : ∃ cc : Nat → Nat, cc = fun k => match k with
    | 0 => tB
    | 1 => adK 0
    | 2 => adK 1
    | 3 => a3
    | 4 => adV 0
    | _ => adV 1 := ⟨_, rfl⟩
  have z0 : cc 0 = tB := by rw [hcc]; rfl
  have z1 : cc 1 = adK 0 := by rw [hcc]; rfl
  have z2 : cc 2 = adK 1 := by rw [hcc]; rfl
  have z3 : cc 3 = a3 := by rw [hcc]; rfl
  have z4 : cc 4 = adV 0 := by rw [hcc]; rfl
  have z5 : cc 5 = adV 1 := by rw [hcc]; rfl
  refine ⟨((dC, dI), dA, s.heap.size, cc), ⟨hK, fun k q hq => ?_⟩, ⟨fun q hq => va_Nw.of rfl (hts _ (st_nest q hq)), va_AO.of (w (.arrayOver (.object "WhoseStreet$Meeting")) (by simp)), va_AO.of (w (.arrayOver (.object "WhoseStreet$Law")) (by simp)), ?_, ?_, ?_, ?_, ?_, ?_, ?_, ?_, va_Nw.of rfl (w _ (by simp)), ?_, ?_, ?_, ?_⟩, rfl, ⟨rfl, rfl, Nat.le_refl _, fun a c hc => ?_⟩, ?_⟩
  · subst hdA
    match k, hq with
    | 0, hq => cases hq; exact ⟨k0, n0⟩
    | 1, hq => cases hq; exact ⟨k1, n1⟩
    | 2, hq => cases hq; exact ⟨k2, n2⟩
    | 3, hq => cases hq; exact ⟨k3, n3⟩
    | 4, hq => cases hq; exact ⟨k4, n4⟩
    | 5, hq => cases hq; exact ⟨k5, n5⟩
    | k + 6, hq => simp [zT] at hq
  · exact va_Zof (w _ (by simp)) (w _ (by simp)) (by rw [hB1]; show some (Value.ref tB) = some (.ref (cc 0)); rw [z0]) hA
  · exact va_Zof (w _ (by simp)) (w _ (by simp)) (va_eqt (hs _ (st_f0 (.eq (.static "java/lang/String" "COMPACT_STRINGS" "Z") (.int 1)) (by simp)))) hA
  · show vk_R "WhoseStreet$Tape" 17 zWords (cc 1) s
    rw [z1]; exact vk_R.of (w _ (by simp)) (hev 0 (by decide))
  · show vk_R "WhoseStreet$Tape" 68 "()<=+-*;" (cc 2) s
    rw [z2]; exact vk_R.of (w _ (by simp)) (hev 1 (by decide))
  · show vk_R "WhoseStreet" 143 zText (cc 3) s
    rw [z3]; exact vk_R.of (w _ (by simp)) y1
  · show va_O _ (cc 1) _ s s.heap ∧ va_OF _ _ _ _ (cc 1) _ s s.heap ∧ va_OF _ _ _ (.ref (cc 4)) (cc 1) _ s s.heap
    rw [z1, z4]; exact ⟨s0, s1, s2⟩
  · show va_O _ (cc 2) _ s s.heap ∧ va_OF _ _ _ _ (cc 2) _ s s.heap ∧ va_OF _ _ _ (.ref (cc 5)) (cc 2) _ s s.heap
    rw [z2, z5]; exact ⟨t0, t1, t2⟩
  · show cc 1 ≠ cc 2
    rw [z1, z2]; exact hne
  · exact vx_Zqof (w _ (by simp)) (w _ (by simp)) (hs _ (st_f0 (.isRef (.static Bundle.tN "UNASSIGNED_STACK" Bundle.steD)) (by simp))) hA
  · exact vx_Zqof (w _ (by simp)) (w _ (by simp)) (hs _ (st_f0 (.isRef (.static Bundle.tN "SUPPRESSED_SENTINEL" Bundle.listD)) (by simp))) hA
  · exact va_Zqof (w _ (by simp)) (w _ (by simp)) (hs _ (st_f0 (.isRef (.static "jdk/internal/util/Preconditions" "SIOOBE_FORMATTER" "Ljava/util/function/BiFunction;")) (by simp))) hA
  · subst hdA
    exact ⟨x2.2, w2.2, b2.2, g2.2⟩
  · have hc' : (if a = b then some (.inl (6, L, .inl xs)) else if a = cc 0 then some (.inl (8, 3, .inl zBrk)) else if a = cc 4 then some (.inl (7, 111, .inl zWd)) else if a = cc 5 then some (.inl (9, 8, .inl zSg)) else none : Option zE) = some c := hc
    rw [z0, z4, z5] at hc'
    subst hdA
    split at hc'
    · rename_i e; subst e; cases hc'
      refine ⟨?_, fun h => absurd h (by show ¬ (6 : Nat) < 6; decide)⟩
      rw [zat_inl, if_neg (by show ¬ (6 : Nat) < 6; decide)]
      exact ⟨scr, x1, rfl, x3, x2.1, by show L ≤ _; rw [x4]; exact Nat.le_refl _, by show scr.slots.size.toInt32 = Int32.ofNat L; rw [x4], fun f hf j hj => by cases hf; exact x5 j hj⟩
    · split at hc'
      · rename_i e; subst e; cases hc'
        refine ⟨?_, fun h => absurd h (by show ¬ (8 : Nat) < 6; decide)⟩
        rw [zat_inl, if_neg (by show ¬ (8 : Nat) < 6; decide)]
        exact ⟨bc, b1, rfl, b3, b2.1, b4, b5, fun f hf j hj => by cases hf; exact b6 j hj⟩
      · split at hc'
        · rename_i e; subst e; cases hc'
          refine ⟨?_, fun h => absurd h (by show ¬ (7 : Nat) < 6; decide)⟩
          rw [zat_inl, if_neg (by show ¬ (7 : Nat) < 6; decide)]
          exact ⟨wc, w1, rfl, w3, w2.1, w4, w5, fun f hf j hj => by cases hf; exact w6 j hj⟩
        · split at hc'
          · rename_i e; subst e; cases hc'
            refine ⟨?_, fun h => absurd h (by show ¬ (9 : Nat) < 6; decide)⟩
            rw [zat_inl, if_neg (by show ¬ (9 : Nat) < 6; decide)]
            exact ⟨gc, g1, rfl, g3, g2.1, g4, g5, fun f hf j hj => by cases hf; exact g6 j hj⟩
          · cases hc'
  · show zad s.heap.size cc b
    unfold zad
    rw [z0, z1, z2, z4, z5]
    obtain ⟨_, u1, _⟩ := s0
    obtain ⟨_, u2, _⟩ := t0
    exact ⟨hbl, (Array.getElem?_eq_some_iff.mp b1).1, (Array.getElem?_eq_some_iff.mp u1).1, (Array.getElem?_eq_some_iff.mp u2).1, (Array.getElem?_eq_some_iff.mp w1).1, (Array.getElem?_eq_some_iff.mp g1).1, hbB, hwb, hgb, hwB, hgB, hgw, hne⟩
