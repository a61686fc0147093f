def zNs : List (String × Nat × MethodName × String) := [("WhoseStreet", 17, ⟨"WhoseStreet$Ride", "<init>", "()V"⟩, "WhoseStreet"), ("WhoseStreet", 31, ⟨"WhoseStreet$Reader", "<init>", "()V"⟩, "WhoseStreet"), ("WhoseStreet", 38, ⟨"WhoseStreet$Book", "<init>", "()V"⟩, "WhoseStreet"), ("WhoseStreet", 52, ⟨"WhoseStreet$Corner", "<init>", "()V"⟩, "WhoseStreet"), ("WhoseStreet", 59, ⟨"WhoseStreet$House", "<init>", "()V"⟩, "WhoseStreet"), ("WhoseStreet", 73, ⟨"WhoseStreet$Town", "<init>", "()V"⟩, "WhoseStreet"), ("WhoseStreet$Ride", 73, ⟨"WhoseStreet", "up", "(II)I"⟩, "WhoseStreet"), ("WhoseStreet$Ride", 90, ⟨"WhoseStreet", "within", "(III)Z"⟩, "WhoseStreet"), ("WhoseStreet$Tape", 33, ⟨"WhoseStreet", "within", "(III)Z"⟩, "WhoseStreet"), ("WhoseStreet$Reader", 92, ⟨"WhoseStreet", "within", "(III)Z"⟩, "WhoseStreet"), ("WhoseStreet$Bench", 63, ⟨"WhoseStreet", "within", "(III)Z"⟩, "WhoseStreet"), ("WhoseStreet$House", 35, ⟨"WhoseStreet", "within", "(III)Z"⟩, "WhoseStreet"), ("WhoseStreet$Ledger", 24, ⟨"WhoseStreet", "within", "(III)Z"⟩, "WhoseStreet"), ("WhoseStreet$Town", 40, ⟨"WhoseStreet", "within", "(III)Z"⟩, "WhoseStreet")]
def zWords : String := "none driver walker both let fault when and or not speed pace seen met looks kind floor width hidden year limit "
def zText : String := "no such meeting, one who is not there, or a second behind the end"
/-! The small heap: cells by their addresses, with tags for array types (0 int, 1 long, 2 byte, 3 boolean, 4 Meeting[], 5 Law[], 6 the script, 8 a constant int array, 7 and 9 constants' bytes: arrays that were there before and that nobody writes); zH: (how many cells the machine's heap has, addresses of constants), cells -/
abbrev zE : Type := (Nat × vp_A) ⊕ (Nat × List Value)
abbrev zH : Type := (Nat × (Nat → Nat)) × (Nat → Option zE)
abbrev zG : Type := va_G × (Nat → ClassId) × Nat × (Nat → Nat)
def zset (h : zH) (a : Nat) (c : zE) : zH := (h.1, fun q => if q = a then some c else h.2 q)
def znew (h : zH) (c : zE) : zH := ((h.1.1 + 1, h.1.2), fun q => if q = h.1.1 then some c else h.2 q)
def zcv (dA : Nat → ClassId) (c : zE) : va_E := match c with
  | .inl a => .inl (dA a.1, a.2)
  | .inr o => .inr o
def zwr (c : zE) : Prop := match c with
  | .inl a => a.1 < 6
  | .inr _ => True
def zold (cA : ClassId) (a : Nat) (A : vp_A) (H : Heap) : Prop := ∃ cell : Cell, H[a]? = some cell ∧ cell.cls = cA ∧ cell.vm ≠ .unknown ∧ (∀ k, cell.vm ≠ .statics k) ∧ A.1 ≤ cell.slots.size ∧ cell.slots.size.toInt32 = Int32.ofNat A.1 ∧ ∀ (f : Nat → Int32), A.2 = .inl f → ∀ j : Nat, j < A.1 → cell.slots[j]? = some (.int (f j))
def zat (G : zG) (a : Nat) (c : zE) (H : Heap) : Prop := match c with
  | .inl b => if b.1 < 6 then va_at G.1 vwCl (a, zcv G.2.1 (.inl b)) H else zold (G.2.1 b.1) a b.2 H
  | .inr o => va_at G.1 vwCl (a, .inr o) H
theorem zat_inl (G : zG) (a : Nat) (b : Nat × vp_A) (H : Heap) : zat G a (.inl b) H = if b.1 < 6 then va_at G.1 vwCl (a, zcv G.2.1 (.inl b)) H else zold (G.2.1 b.1) a b.2 H := rfl
theorem zat.va {G : zG} {a : Nat} {c : zE} {H : Heap} (h : zat G a c H) (hw : zwr c) : va_at G.1 vwCl (a, zcv G.2.1 c) H := by
  cases c with
  | inl b =>
    rw [zat_inl, if_pos (show b.1 < 6 from hw)] at h
    exact h
  | inr o => exact h
theorem zat.of {G : zG} {a : Nat} {c : zE} {H : Heap} (h : va_at G.1 vwCl (a, zcv G.2.1 c) H) (hw : zwr c) : zat G a c H := by
  cases c with
  | inl b =>
    rw [zat_inl, if_pos (show b.1 < 6 from hw)]
    exact h
  | inr o => exact h
theorem zat.old {G : zG} {a : Nat} {b : Nat × vp_A} {H : Heap} (h : zat G a (.inl b) H) (hw : ¬ b.1 < 6) : zold (G.2.1 b.1) a b.2 H := by
  rw [zat_inl, if_neg hw] at h
  exact h
theorem zat.kept {G : zG} {a : Nat} {c : zE} {H H1 : Heap} (h : zat G a c H) (hq : H1[a]? = H[a]?) : zat G a c H1 := by
  cases c with
  | inl b =>
    by_cases hw : b.1 < 6
    · exact zat.of ((h.va hw).kept hq) hw
    · rw [zat_inl, if_neg hw]
      obtain ⟨cell, h1, h2⟩ := h.old hw
      exact ⟨cell, by rw [hq]; exact h1, h2⟩
  | inr o => exact zat.of ((zat.va (c := .inr o) h trivial).kept hq) trivial
theorem zat.lt {G : zG} {a : Nat} {c : zE} {H : Heap} (h : zat G a c H) : a < H.size := by
  cases c with
  | inl b =>
    by_cases hw : b.1 < 6
    · exact (h.va hw).lt
    · obtain ⟨cell, h1, h2⟩ := h.old hw
      exact (Array.getElem?_eq_some_iff.mp h1).1
  | inr o => exact (zat.va (c := .inr o) h trivial).lt
def zR (G : zG) (h : zH) (H : Heap) : Prop := H.size = h.1.1 ∧ G.2.2.2 = h.1.2 ∧ G.2.2.1 ≤ H.size ∧ ∀ (a : Nat) (c : zE), h.2 a = some c → zat G a c H ∧ (zwr c → G.2.2.1 ≤ a)
def zT (dA : Nat → ClassId) : List (ClassId × FieldType) := [(dA 0, .int), (dA 1, .long), (dA 2, .byte), (dA 3, .boolean), (dA 4, .object "WhoseStreet$Meeting"), (dA 5, .object "WhoseStreet$Law")]
abbrev zK (G : zG) (s : State) : Prop := va_K G.1 vwCl (zT G.2.1) s
def zB : List Cond := lw_tbl.filter goodWord
theorem zmem {w : Cond} (i : Nat) (h : lw_tbl[i]? = some w) (g : goodWord w = true) : w ∈ zB := List.mem_filter.mpr ⟨List.mem_of_getElem? h, g⟩
theorem zB_good {w : Cond} (h : w ∈ zB) : (w.onTables && w.keeps) = true ∨ ∃ ty, w = .arrayClass ty := good_of_word (List.mem_filter.mp h).2
/-- what lies outside: links to private members of nest mates, arrays of our classes, the one static array, String constants (1: the words, 2: the signs, their bytes 4 and 5; 3: a text), what a throw needs -/
def zsS (G : zG) (k : Nat) (s : State) (H : Heap) : Prop := va_O "java/lang/String" (G.2.2.2 k) (fun q => G.2.2.1 ≤ q) s H ∧ va_OF "java/lang/String" "coder" "B" (.int 0) (G.2.2.2 k) (fun q => G.2.2.1 ≤ q) s H ∧ va_OF "java/lang/String" "value" "[B" (.ref (G.2.2.2 (k + 3))) (G.2.2.2 k) (fun q => G.2.2.1 ≤ q) s H
/-- an array's class, of an array that was there before -/
def zoc (U : State) (cA : ClassId) (ty : FieldType) : Prop := ∃ k : Class, U.vm.classes[cA]? = some k ∧ ∃ comp, k.kind = .array comp ty
theorem zoc.moved {u U : State} (hvm : u.vm.Alike U.vm) {cA : ClassId} {ty : FieldType} (h : zoc u cA ty) : zoc U cA ty := by
  obtain ⟨k, h1, comp, h2⟩ := h
  obtain ⟨k', hk', he⟩ := hvm.2.2 _ _ h1
  exact ⟨k', hk', comp, by rw [he]; exact h2⟩
theorem zoc.is {U : State} {cell : Cell} {ty : FieldType} (h : zoc U cell.cls ty) (hv : ∀ k, cell.vm ≠ .statics k) : U.isArrayOf cell ty := ⟨hv, h⟩
def zocs (G : zG) (U : State) : Prop := zoc U (G.2.1 6) .int ∧ zoc U (G.2.1 7) .byte ∧ zoc U (G.2.1 8) .int ∧ zoc U (G.2.1 9) .byte
theorem zocs.moved {G : zG} {u U : State} (hvm : u.vm.Alike U.vm) (h : zocs G u) : zocs G U := ⟨h.1.moved hvm, h.2.1.moved hvm, h.2.2.1.moved hvm, h.2.2.2.moved hvm⟩
def zX (G : zG) (s : State) (H : Heap) : Prop := (∀ q ∈ zNs, va_Nw (.methodLinkNest q.1 q.2.1 q.2.2.1 q.2.2.2) s) ∧ va_AO "WhoseStreet$Meeting" s ∧ va_AO "WhoseStreet$Law" s ∧ va_Z "WhoseStreet$Ride" "BRAKES" "[I" (.ref (G.2.2.2 0)) (fun q => G.2.2.1 ≤ q) s H ∧ va_Z "java/lang/String" "COMPACT_STRINGS" "Z" (.int 1) (fun q => G.2.2.1 ≤ q) s H ∧ vk_R "WhoseStreet$Tape" 17 zWords (G.2.2.2 1) s ∧ vk_R "WhoseStreet$Tape" 68 "()<=+-*;" (G.2.2.2 2) s ∧ vk_R "WhoseStreet" 143 zText (G.2.2.2 3) s ∧ zsS G 1 s H ∧ zsS G 2 s H ∧ G.2.2.2 1 ≠ G.2.2.2 2 ∧ va_Nw (.castable "java/util/NoSuchElementException" "java/util/NoSuchElementException") s ∧ vx_Zq Bundle.tN "UNASSIGNED_STACK" Bundle.steD (fun q => G.2.2.1 ≤ q) s H ∧ vx_Zq Bundle.tN "SUPPRESSED_SENTINEL" Bundle.listD (fun q => G.2.2.1 ≤ q) s H ∧ va_Zq "jdk/internal/util/Preconditions" "SIOOBE_FORMATTER" "Ljava/util/function/BiFunction;" (fun q => G.2.2.1 ≤ q) s H ∧ zocs G s
theorem zsS.moved {G : zG} {k : Nat} {s U : State} {H H1 : Heap} (h : zsS G k s H) (hvm : s.vm.Alike U.vm) (hq : ∀ a : Nat, a < H.size → ¬ G.2.2.1 ≤ a → H1[a]? = H[a]?) : zsS G k U H1 := ⟨(va_O.moved hvm h.1).kept hq, (va_OF.moved hvm h.2.1).kept hq, (va_OF.moved hvm h.2.2).kept hq⟩
theorem zX.moved {G : zG} {s U : State} {H H1 : Heap} (h : zX G s H) (hW : s.WarmedH U.vm) (hq : ∀ a : Nat, a < H.size → ¬ G.2.2.1 ≤ a → H1[a]? = H[a]?) : zX G U H1 := by
  obtain ⟨a1, a2, a3, a4, a5, a6, a7, a8, a9, b1, b2, b3, b4, b5, b6⟩ := h
  exact ⟨fun q hm => va_Nw.warmM hW (a1 q hm), va_AO.moved hW.alike a2, va_AO.moved hW.alike a3, (va_Z.moved hW.alike a4).kept hq, (va_Z.moved hW.alike a5).kept hq, vk_R.warm hW a6, vk_R.warm hW a7, vk_R.warm hW a8, a9.moved hW.alike hq, b1.moved hW.alike hq, b2, va_Nw.warmC hW b3, (vx_Zq.moved hW.alike b4).kept hq, (vx_Zq.moved hW.alike b5).kept hq, (va_Zq.moved hW.alike b6.1).kept hq, b6.2.moved hW.alike⟩
theorem zX.same {G : zG} {s U : State} {H : Heap} (h : zX G s H) (hv : s.vm = U.vm) : zX G U H := by
  obtain ⟨a1, a2, a3, a4, a5, a6, a7, a8, a9, b1, b2, b3, b4, b5, b6⟩ := h
  have hA : s.vm.Alike U.vm := by rw [hv]; exact Vm.Alike.refl _
  exact ⟨fun q hm => va_Nw.same rfl hv (a1 q hm), va_AO.moved hA a2, va_AO.moved hA a3, va_Z.moved hA a4, va_Z.moved hA a5, vk_R.same hv.symm a6, vk_R.same hv.symm a7, vk_R.same hv.symm a8, a9.moved hA (fun _ _ _ => rfl), b1.moved hA (fun _ _ _ => rfl), b2, va_Nw.same rfl hv b3, vx_Zq.moved hA b4, vx_Zq.moved hA b5, va_Zq.moved hA b6.1, b6.2.moved hA⟩
def zws (y : MethodName) (cc : ByteArray) (nL : Nat) (ret : Option FieldType) : List Cond := .code y cc nL ret :: zB
theorem zws_in {y : MethodName} {cc : ByteArray} {nL : Nat} {ret : Option FieldType} (h : Cond.code y cc nL ret ∈ zB) : GoodIn zB (zws y cc nL ret) := fun w hw => by
  rcases List.mem_cons.mp hw with rfl | hw
  · exact ⟨h, zB_good h⟩
  · exact ⟨hw, zB_good hw⟩
def zPc (G : zG) (av : List Value) (h : zH) : Array Value → State → Prop := va_Pc av (fun U => zR G h U.heap ∧ zK G U ∧ zX G U U.heap)
def zQ (G : zG) (v : Option Value) (h' : zH) : Array Value → State → Outcome → State → Prop := fun _ st o t => o = .returned v ∧ zR G h' t.heap ∧ va_F (fun q => G.2.2.1 ≤ q) st t
/-- a method's contract: called with av on h it gives back v and leaves h'; d frames, mc cells, ms slots -/
def zOk (d mc ms : Nat) (y : MethodName) (cc : ByteArray) (nL : Nat) (ret : Option FieldType) (av : List Value) (h : zH) (v : Option Value) (h' : zH) : Prop :=
  ∀ (l : Launch) (G : zG) (F L : Nat), l.stackTraces = false → d ≤ F → 40 * d ≤ L → Met l y (zws y cc nL ret) { frames := F, cells := mc, slots := ms, locals := L } (zPc G av h) (zQ G v h') mc ms (fun q => G.2.2.1 ≤ q)
def zC (y : MethodName) (cc : ByteArray) (nL : Nat) (ret : Option FieldType) (l : Launch) (G : zG) (p : Program) (s : State) (m : MethodId) (args : Array Value) (meth : Method) (c : Code) : Prop :=
  p.tables.exec = Jvm.exec ∧ c.code = cc ∧ c.maxLocals = nL ∧ s.vm.findClass y.cls = some m.cls ∧ (∀ w ∈ zB, w.before args s = true) ∧ meth.sig.returnType = ret ∧ meth.locks = false ∧ meth.name = y.name ∧ zK G s ∧ zX G s s.heap ∧ G.2.2.1 ≤ s.heap.size ∧ l.stackTraces = false
/-- the machine at pc with locals lv and stack st on the heap h comes to the end with v and h' -/
def zW (y : MethodName) (cc : ByteArray) (nL : Nat) (ret : Option FieldType) (d mc ms pc : Nat) (lv : List (Nat × Value)) (st : List Value) (h : zH) (v : Option Value) (h' : zH) : Prop :=
  ∀ (G : zG) (p : Program) (l : Launch) (e : Env) (R : Room) (s : State) (m : MethodId) (args : Array Value) (below : List Frame) (meth : Method) (c : Code) (H : Heap) (locs : List Loc) (cells slots : Nat) (ls : Array Slot),
    zC y cc nL ret l G p s m args meth c → zR G h H → va_S (fun q => G.2.2.1 ≤ q) s.heap H locs → lv_has ls nL lv → d ≤ R.frames → 40 * d ≤ R.locals → cells + mc ≤ R.cells → slots + ms ≤ R.slots →
    W p l e R s m args below meth c H locs cells slots (MQ below (zQ G v h') args s R.cells R.slots (fun q => G.2.2.1 ≤ q)) (F0 m pc ls st)
theorem zOk.of {d mc ms : Nat} {y : MethodName} {cc : ByteArray} {nL : Nat} {ret : Option FieldType} {av : List Value} {h : zH} {v : Option Value} {h' : zH} (hpl : plainName y.cls = true) (hn : (lg_sl av).length ≤ nL) (k : zW y cc nL ret d mc ms 0 (lv_args 0 av) [] h v h') : zOk d mc ms y cc nL ret av h v h' := by
  intro l G F L hst hF hL
  refine Met.ofW (cc := cc) (maxL := nL) (ret := ret) hpl rfl ?_
  intro p e s m args below meth c s₁ B hml hv
  obtain ⟨rfl, hR, hK, hX⟩ := hv
  have hts := atoms_spec (ws := zws y cc nL ret) B.pre
  have hown : s.vm.findClass y.cls = some m.cls := findClass_of_methodNamed B.named
  have hin : meth.name = y.name := (name_of_methodNamed B.named B.method).1
  have hl := lv_entry av (n := nL) hn
  rw [lg_entry_eq]
  exact k G p l e _ s m _ below meth c s.heap [] 0 0 _ ⟨B.exec, B.bytes, hml, hown, fun w hw => hts w (List.mem_cons_of_mem _ hw), B.returns, B.notSynchronized, hin, hK, hX, hR.2.2.1, hst⟩ hR va_S.rf hl hF hL (by show 0 + mc ≤ mc; omega) (by show 0 + ms ≤ ms; omega)

section ZR
variable {y : MethodName} {cc : ByteArray} {nL : Nat} {ret : Option FieldType} {d mc ms pc : Nat} {lv : List (Nat × Value)} {st : List Value} {h : zH} {v : Option Value} {h' : zH}

theorem z_iconst {n : Int} {x : Int32} (hd : decode cc pc = .ok (.iconst n, 1)) (hv : Int32.ofInt n = x) (k : zW y cc nL ret d mc ms (pc + 1) lv (.int x :: st) h v h') : zW y cc nL ret d mc ms pc lv (st) h v h' := by
  intro G p l e R s m args below meth c H locs cells slots ls C hR hS hl h1 h2 h3 h4
  exact lv_iconst C.1 C.2.1 hd hv (k G p l e R s m args below meth c H locs cells slots ls C hR hS hl h1 h2 h3 h4)
theorem z_bipush {n : Int} {x : Int32} (hd : decode cc pc = .ok (.bipush n, 2)) (hv : (Int8.ofInt n).toInt32 = x) (k : zW y cc nL ret d mc ms (pc + 2) lv (.int x :: st) h v h') : zW y cc nL ret d mc ms pc lv (st) h v h' := by
  intro G p l e R s m args below meth c H locs cells slots ls C hR hS hl h1 h2 h3 h4
  exact lv_bipush C.1 C.2.1 hd hv (k G p l e R s m args below meth c H locs cells slots ls C hR hS hl h1 h2 h3 h4)
theorem z_sipush {n : Int} {x : Int32} (hd : decode cc pc = .ok (.sipush n, 3)) (hv : (Int16.ofInt n).toInt32 = x) (k : zW y cc nL ret d mc ms (pc + 3) lv (.int x :: st) h v h') : zW y cc nL ret d mc ms pc lv (st) h v h' := by
  intro G p l e R s m args below meth c H locs cells slots ls C hR hS hl h1 h2 h3 h4
  exact lv_sipush C.1 C.2.1 hd hv (k G p l e R s m args below meth c H locs cells slots ls C hR hS hl h1 h2 h3 h4)
theorem z_lconst {n : Fin 2} {x : Int64} (hd : decode cc pc = .ok (.lconst n, 1)) (hv : Int64.ofNat (n : Nat) = x) (k : zW y cc nL ret d mc ms (pc + 1) lv (.long x :: st) h v h') : zW y cc nL ret d mc ms pc lv (st) h v h' := by
  intro G p l e R s m args below meth c H locs cells slots ls C hR hS hl h1 h2 h3 h4
  exact lv_lconst C.1 C.2.1 hd hv (k G p l e R s m args below meth c H locs cells slots ls C hR hS hl h1 h2 h3 h4)
theorem z_iload_n {j : Fin 4} {i : Nat} {x : Int32} (q : Nat) (hd : decode cc pc = .ok (.iload_n j, 1)) (hi : (j : Nat) = i) (hq : lv[q]? = some (i, .int x)) (k : zW y cc nL ret d mc ms (pc + 1) lv (.int x :: st) h v h') : zW y cc nL ret d mc ms pc lv (st) h v h' := by
  intro G p l e R s m args below meth c H locs cells slots ls C hR hS hl h1 h2 h3 h4
  exact lv_iload_n C.1 C.2.1 hd hi (lv_at hl q hq) (k G p l e R s m args below meth c H locs cells slots ls C hR hS hl h1 h2 h3 h4)
theorem z_iload {i : Nat} {x : Int32} (q : Nat) (hd : decode cc pc = .ok (.iload i, 2)) (hq : lv[q]? = some (i, .int x)) (k : zW y cc nL ret d mc ms (pc + 2) lv (.int x :: st) h v h') : zW y cc nL ret d mc ms pc lv (st) h v h' := by
  intro G p l e R s m args below meth c H locs cells slots ls C hR hS hl h1 h2 h3 h4
  exact lv_iload C.1 C.2.1 hd (lv_at hl q hq) (k G p l e R s m args below meth c H locs cells slots ls C hR hS hl h1 h2 h3 h4)
theorem z_istore_n {j : Fin 4} {i : Nat} {x : Int32} {lv' : List (Nat × Value)} (hd : decode cc pc = .ok (.istore_n j, 1)) (hi : (j : Nat) = i) (hn : i < nL) (hl' : (i, Value.int x) :: lv.filter (fun q => !(q.1 == i) && !(q.1 + 1 == i && q.2.category == 2)) = lv') (k : zW y cc nL ret d mc ms (pc + 1) lv' st h v h') : zW y cc nL ret d mc ms pc lv (.int x :: st) h v h' := by
  intro G p l e R s m args below meth c H locs cells slots ls C hR hS hl h1 h2 h3 h4
  exact lv_istore_n C.1 C.2.1 hd hi hl hn hl' (fun ls hl => k G p l e R s m args below meth c H locs cells slots ls C hR hS hl h1 h2 h3 h4)
theorem z_istore {i : Nat} {x : Int32} {lv' : List (Nat × Value)} (hd : decode cc pc = .ok (.istore i, 2)) (hn : i < nL) (hl' : (i, Value.int x) :: lv.filter (fun q => !(q.1 == i) && !(q.1 + 1 == i && q.2.category == 2)) = lv') (k : zW y cc nL ret d mc ms (pc + 2) lv' st h v h') : zW y cc nL ret d mc ms pc lv (.int x :: st) h v h' := by
  intro G p l e R s m args below meth c H locs cells slots ls C hR hS hl h1 h2 h3 h4
  exact lv_istore C.1 C.2.1 hd hl hn hl' (fun ls hl => k G p l e R s m args below meth c H locs cells slots ls C hR hS hl h1 h2 h3 h4)
theorem z_lload_n {j : Fin 4} {i : Nat} {x : Int64} (q : Nat) (hd : decode cc pc = .ok (.lload_n j, 1)) (hi : (j : Nat) = i) (hq : lv[q]? = some (i, .long x)) (k : zW y cc nL ret d mc ms (pc + 1) lv (.long x :: st) h v h') : zW y cc nL ret d mc ms pc lv (st) h v h' := by
  intro G p l e R s m args below meth c H locs cells slots ls C hR hS hl h1 h2 h3 h4
  exact lv_lload_n C.1 C.2.1 hd hi (lv_at hl q hq) (k G p l e R s m args below meth c H locs cells slots ls C hR hS hl h1 h2 h3 h4)
theorem z_lload {i : Nat} {x : Int64} (q : Nat) (hd : decode cc pc = .ok (.lload i, 2)) (hq : lv[q]? = some (i, .long x)) (k : zW y cc nL ret d mc ms (pc + 2) lv (.long x :: st) h v h') : zW y cc nL ret d mc ms pc lv (st) h v h' := by
  intro G p l e R s m args below meth c H locs cells slots ls C hR hS hl h1 h2 h3 h4
  exact lv_lload C.1 C.2.1 hd (lv_at hl q hq) (k G p l e R s m args below meth c H locs cells slots ls C hR hS hl h1 h2 h3 h4)
theorem z_lstore_n {j : Fin 4} {i : Nat} {x : Int64} {lv' : List (Nat × Value)} (hd : decode cc pc = .ok (.lstore_n j, 1)) (hi : (j : Nat) = i) (hn : i + 1 < nL) (hl' : (i, Value.long x) :: lv.filter (fun q => !(q.1 == i) && (!(q.1 == i + 1) && !(q.1 + 1 == i && q.2.category == 2))) = lv') (k : zW y cc nL ret d mc ms (pc + 1) lv' st h v h') : zW y cc nL ret d mc ms pc lv (.long x :: st) h v h' := by
  intro G p l e R s m args below meth c H locs cells slots ls C hR hS hl h1 h2 h3 h4
  exact lv_lstore_n C.1 C.2.1 hd hi hl hn hl' (fun ls hl => k G p l e R s m args below meth c H locs cells slots ls C hR hS hl h1 h2 h3 h4)
theorem z_lstore {i : Nat} {x : Int64} {lv' : List (Nat × Value)} (hd : decode cc pc = .ok (.lstore i, 2)) (hn : i + 1 < nL) (hl' : (i, Value.long x) :: lv.filter (fun q => !(q.1 == i) && (!(q.1 == i + 1) && !(q.1 + 1 == i && q.2.category == 2))) = lv') (k : zW y cc nL ret d mc ms (pc + 2) lv' st h v h') : zW y cc nL ret d mc ms pc lv (.long x :: st) h v h' := by
  intro G p l e R s m args below meth c H locs cells slots ls C hR hS hl h1 h2 h3 h4
  exact lv_lstore C.1 C.2.1 hd hl hn hl' (fun ls hl => k G p l e R s m args below meth c H locs cells slots ls C hR hS hl h1 h2 h3 h4)
theorem z_aload_n {j : Fin 4} {i : Nat} {x : Nat} (q : Nat) (hd : decode cc pc = .ok (.aload_n j, 1)) (hi : (j : Nat) = i) (hq : lv[q]? = some (i, .ref x)) (k : zW y cc nL ret d mc ms (pc + 1) lv (.ref x :: st) h v h') : zW y cc nL ret d mc ms pc lv (st) h v h' := by
  intro G p l e R s m args below meth c H locs cells slots ls C hR hS hl h1 h2 h3 h4
  exact lv_aload_n C.1 C.2.1 hd hi (lv_at hl q hq) (k G p l e R s m args below meth c H locs cells slots ls C hR hS hl h1 h2 h3 h4)
theorem z_aload {i : Nat} {x : Nat} (q : Nat) (hd : decode cc pc = .ok (.aload i, 2)) (hq : lv[q]? = some (i, .ref x)) (k : zW y cc nL ret d mc ms (pc + 2) lv (.ref x :: st) h v h') : zW y cc nL ret d mc ms pc lv (st) h v h' := by
  intro G p l e R s m args below meth c H locs cells slots ls C hR hS hl h1 h2 h3 h4
  exact lv_aload C.1 C.2.1 hd (lv_at hl q hq) (k G p l e R s m args below meth c H locs cells slots ls C hR hS hl h1 h2 h3 h4)
theorem z_astore_n {j : Fin 4} {i : Nat} {x : Nat} {lv' : List (Nat × Value)} (hd : decode cc pc = .ok (.astore_n j, 1)) (hi : (j : Nat) = i) (hn : i < nL) (hl' : (i, Value.ref x) :: lv.filter (fun q => !(q.1 == i) && !(q.1 + 1 == i && q.2.category == 2)) = lv') (k : zW y cc nL ret d mc ms (pc + 1) lv' st h v h') : zW y cc nL ret d mc ms pc lv (.ref x :: st) h v h' := by
  intro G p l e R s m args below meth c H locs cells slots ls C hR hS hl h1 h2 h3 h4
  exact lv_astore_n C.1 C.2.1 hd hi hl hn hl' (fun ls hl => k G p l e R s m args below meth c H locs cells slots ls C hR hS hl h1 h2 h3 h4)
theorem z_astore {i : Nat} {x : Nat} {lv' : List (Nat × Value)} (hd : decode cc pc = .ok (.astore i, 2)) (hn : i < nL) (hl' : (i, Value.ref x) :: lv.filter (fun q => !(q.1 == i) && !(q.1 + 1 == i && q.2.category == 2)) = lv') (k : zW y cc nL ret d mc ms (pc + 2) lv' st h v h') : zW y cc nL ret d mc ms pc lv (.ref x :: st) h v h' := by
  intro G p l e R s m args below meth c H locs cells slots ls C hR hS hl h1 h2 h3 h4
  exact lv_astore C.1 C.2.1 hd hl hn hl' (fun ls hl => k G p l e R s m args below meth c H locs cells slots ls C hR hS hl h1 h2 h3 h4)
theorem z_aload_nQ {j : Fin 4} {i : Nat} {x : Option Nat} (q : Nat) (hd : decode cc pc = .ok (.aload_n j, 1)) (hi : (j : Nat) = i) (hq : lv[q]? = some (i, va_rf x)) (k : zW y cc nL ret d mc ms (pc + 1) lv (va_rf x :: st) h v h') : zW y cc nL ret d mc ms pc lv st h v h' := by
  intro G p l e R s m args below meth c H locs cells slots ls C hR hS hl h1 h2 h3 h4
  cases x with
  | none => exact lv_aload_nN C.1 C.2.1 hd hi (lv_at hl q hq) (k G p l e R s m args below meth c H locs cells slots ls C hR hS hl h1 h2 h3 h4)
  | some x => exact lv_aload_n C.1 C.2.1 hd hi (lv_at hl q hq) (k G p l e R s m args below meth c H locs cells slots ls C hR hS hl h1 h2 h3 h4)
theorem z_aloadQ {i : Nat} {x : Option Nat} (q : Nat) (hd : decode cc pc = .ok (.aload i, 2)) (hq : lv[q]? = some (i, va_rf x)) (k : zW y cc nL ret d mc ms (pc + 2) lv (va_rf x :: st) h v h') : zW y cc nL ret d mc ms pc lv st h v h' := by
  intro G p l e R s m args below meth c H locs cells slots ls C hR hS hl h1 h2 h3 h4
  cases x with
  | none => exact lv_aloadN C.1 C.2.1 hd (lv_at hl q hq) (k G p l e R s m args below meth c H locs cells slots ls C hR hS hl h1 h2 h3 h4)
  | some x => exact lv_aload C.1 C.2.1 hd (lv_at hl q hq) (k G p l e R s m args below meth c H locs cells slots ls C hR hS hl h1 h2 h3 h4)
theorem z_astore_nQ {j : Fin 4} {i : Nat} {x : Option Nat} {lv' : List (Nat × Value)} (hd : decode cc pc = .ok (.astore_n j, 1)) (hi : (j : Nat) = i) (hn : i < nL) (hl' : (i, va_rf x) :: lv.filter (fun q => !(q.1 == i) && !(q.1 + 1 == i && q.2.category == 2)) = lv') (k : zW y cc nL ret d mc ms (pc + 1) lv' st h v h') : zW y cc nL ret d mc ms pc lv (va_rf x :: st) h v h' := by
  intro G p l e R s m args below meth c H locs cells slots ls C hR hS hl h1 h2 h3 h4
  cases x with
  | none => exact lv_astore_nN C.1 C.2.1 hd hi hl hn hl' (fun ls hl => k G p l e R s m args below meth c H locs cells slots ls C hR hS hl h1 h2 h3 h4)
  | some x => exact lv_astore_n C.1 C.2.1 hd hi hl hn hl' (fun ls hl => k G p l e R s m args below meth c H locs cells slots ls C hR hS hl h1 h2 h3 h4)
theorem z_astoreQ {i : Nat} {x : Option Nat} {lv' : List (Nat × Value)} (hd : decode cc pc = .ok (.astore i, 2)) (hn : i < nL) (hl' : (i, va_rf x) :: lv.filter (fun q => !(q.1 == i) && !(q.1 + 1 == i && q.2.category == 2)) = lv') (k : zW y cc nL ret d mc ms (pc + 2) lv' st h v h') : zW y cc nL ret d mc ms pc lv (va_rf x :: st) h v h' := by
  intro G p l e R s m args below meth c H locs cells slots ls C hR hS hl h1 h2 h3 h4
  cases x with
  | none => exact lv_astoreN C.1 C.2.1 hd hl hn hl' (fun ls hl => k G p l e R s m args below meth c H locs cells slots ls C hR hS hl h1 h2 h3 h4)
  | some x => exact lv_astore C.1 C.2.1 hd hl hn hl' (fun ls hl => k G p l e R s m args below meth c H locs cells slots ls C hR hS hl h1 h2 h3 h4)
theorem z_iinc {i : Nat} {n : Int} {x x' : Int32} {lv' : List (Nat × Value)} (q : Nat) (hd : decode cc pc = .ok (.iinc i n, 3)) (hq : lv[q]? = some (i, .int x)) (hv : x + Int32.ofInt n = x') (hn : i < nL) (hl' : (i, Value.int x') :: lv.filter (fun q => !(q.1 == i) && !(q.1 + 1 == i && q.2.category == 2)) = lv') (k : zW y cc nL ret d mc ms (pc + 3) lv' st h v h') : zW y cc nL ret d mc ms pc lv st h v h' := by
  intro G p l e R s m args below meth c H locs cells slots ls C hR hS hl h1 h2 h3 h4
  exact lv_iinc C.1 C.2.1 hd hl (k := q) hq hv hn hl' (fun ls hl => k G p l e R s m args below meth c H locs cells slots ls C hR hS hl h1 h2 h3 h4)
theorem z_iadd {x z : Int32} (hd : decode cc pc = .ok (.iadd, 1)) (k : zW y cc nL ret d mc ms (pc + 1) lv (.int (x + z) :: st) h v h') : zW y cc nL ret d mc ms pc lv (.int z :: .int x :: st) h v h' := by
  intro G p l e R s m args below meth c H locs cells slots ls C hR hS hl h1 h2 h3 h4
  exact lv_iadd C.1 C.2.1 hd (k G p l e R s m args below meth c H locs cells slots ls C hR hS hl h1 h2 h3 h4)
theorem z_isub {x z : Int32} (hd : decode cc pc = .ok (.isub, 1)) (k : zW y cc nL ret d mc ms (pc + 1) lv (.int (x - z) :: st) h v h') : zW y cc nL ret d mc ms pc lv (.int z :: .int x :: st) h v h' := by
  intro G p l e R s m args below meth c H locs cells slots ls C hR hS hl h1 h2 h3 h4
  exact lv_isub C.1 C.2.1 hd (k G p l e R s m args below meth c H locs cells slots ls C hR hS hl h1 h2 h3 h4)
theorem z_imul {x z : Int32} (hd : decode cc pc = .ok (.imul, 1)) (k : zW y cc nL ret d mc ms (pc + 1) lv (.int (x * z) :: st) h v h') : zW y cc nL ret d mc ms pc lv (.int z :: .int x :: st) h v h' := by
  intro G p l e R s m args below meth c H locs cells slots ls C hR hS hl h1 h2 h3 h4
  exact lv_imul C.1 C.2.1 hd (k G p l e R s m args below meth c H locs cells slots ls C hR hS hl h1 h2 h3 h4)
theorem z_iand {x z : Int32} (hd : decode cc pc = .ok (.iand, 1)) (k : zW y cc nL ret d mc ms (pc + 1) lv (.int (x &&& z) :: st) h v h') : zW y cc nL ret d mc ms pc lv (.int z :: .int x :: st) h v h' := by
  intro G p l e R s m args below meth c H locs cells slots ls C hR hS hl h1 h2 h3 h4
  exact lv_iand C.1 C.2.1 hd (k G p l e R s m args below meth c H locs cells slots ls C hR hS hl h1 h2 h3 h4)
theorem z_ior {x z : Int32} (hd : decode cc pc = .ok (.ior, 1)) (k : zW y cc nL ret d mc ms (pc + 1) lv (.int (x ||| z) :: st) h v h') : zW y cc nL ret d mc ms pc lv (.int z :: .int x :: st) h v h' := by
  intro G p l e R s m args below meth c H locs cells slots ls C hR hS hl h1 h2 h3 h4
  exact lv_ior C.1 C.2.1 hd (k G p l e R s m args below meth c H locs cells slots ls C hR hS hl h1 h2 h3 h4)
theorem z_ixor {x z : Int32} (hd : decode cc pc = .ok (.ixor, 1)) (k : zW y cc nL ret d mc ms (pc + 1) lv (.int (x ^^^ z) :: st) h v h') : zW y cc nL ret d mc ms pc lv (.int z :: .int x :: st) h v h' := by
  intro G p l e R s m args below meth c H locs cells slots ls C hR hS hl h1 h2 h3 h4
  exact lv_ixor C.1 C.2.1 hd (k G p l e R s m args below meth c H locs cells slots ls C hR hS hl h1 h2 h3 h4)
theorem z_ladd {x z : Int64} (hd : decode cc pc = .ok (.ladd, 1)) (k : zW y cc nL ret d mc ms (pc + 1) lv (.long (x + z) :: st) h v h') : zW y cc nL ret d mc ms pc lv (.long z :: .long x :: st) h v h' := by
  intro G p l e R s m args below meth c H locs cells slots ls C hR hS hl h1 h2 h3 h4
  exact lv_ladd C.1 C.2.1 hd (k G p l e R s m args below meth c H locs cells slots ls C hR hS hl h1 h2 h3 h4)
theorem z_lsub {x z : Int64} (hd : decode cc pc = .ok (.lsub, 1)) (k : zW y cc nL ret d mc ms (pc + 1) lv (.long (x - z) :: st) h v h') : zW y cc nL ret d mc ms pc lv (.long z :: .long x :: st) h v h' := by
  intro G p l e R s m args below meth c H locs cells slots ls C hR hS hl h1 h2 h3 h4
  exact lv_lsub C.1 C.2.1 hd (k G p l e R s m args below meth c H locs cells slots ls C hR hS hl h1 h2 h3 h4)
theorem z_lmul {x z : Int64} (hd : decode cc pc = .ok (.lmul, 1)) (k : zW y cc nL ret d mc ms (pc + 1) lv (.long (x * z) :: st) h v h') : zW y cc nL ret d mc ms pc lv (.long z :: .long x :: st) h v h' := by
  intro G p l e R s m args below meth c H locs cells slots ls C hR hS hl h1 h2 h3 h4
  exact lv_lmul C.1 C.2.1 hd (k G p l e R s m args below meth c H locs cells slots ls C hR hS hl h1 h2 h3 h4)
theorem z_land {x z : Int64} (hd : decode cc pc = .ok (.land, 1)) (k : zW y cc nL ret d mc ms (pc + 1) lv (.long (x &&& z) :: st) h v h') : zW y cc nL ret d mc ms pc lv (.long z :: .long x :: st) h v h' := by
  intro G p l e R s m args below meth c H locs cells slots ls C hR hS hl h1 h2 h3 h4
  exact lv_land C.1 C.2.1 hd (k G p l e R s m args below meth c H locs cells slots ls C hR hS hl h1 h2 h3 h4)
theorem z_lor {x z : Int64} (hd : decode cc pc = .ok (.lor, 1)) (k : zW y cc nL ret d mc ms (pc + 1) lv (.long (x ||| z) :: st) h v h') : zW y cc nL ret d mc ms pc lv (.long z :: .long x :: st) h v h' := by
  intro G p l e R s m args below meth c H locs cells slots ls C hR hS hl h1 h2 h3 h4
  exact lv_lor C.1 C.2.1 hd (k G p l e R s m args below meth c H locs cells slots ls C hR hS hl h1 h2 h3 h4)
theorem z_idiv {x z : Int32} (hd : decode cc pc = .ok (.idiv, 1)) (hz : ¬ z = 0) (k : zW y cc nL ret d mc ms (pc + 1) lv (.int (x / z) :: st) h v h') : zW y cc nL ret d mc ms pc lv (.int z :: .int x :: st) h v h' := by
  intro G p l e R s m args below meth c H locs cells slots ls C hR hS hl h1 h2 h3 h4
  exact lv_idiv C.1 C.2.1 hd hz (k G p l e R s m args below meth c H locs cells slots ls C hR hS hl h1 h2 h3 h4)
theorem z_irem {x z : Int32} (hd : decode cc pc = .ok (.irem, 1)) (hz : ¬ z = 0) (k : zW y cc nL ret d mc ms (pc + 1) lv (.int (x - x / z * z) :: st) h v h') : zW y cc nL ret d mc ms pc lv (.int z :: .int x :: st) h v h' := by
  intro G p l e R s m args below meth c H locs cells slots ls C hR hS hl h1 h2 h3 h4
  exact lv_irem C.1 C.2.1 hd hz (k G p l e R s m args below meth c H locs cells slots ls C hR hS hl h1 h2 h3 h4)
theorem z_ineg {x : Int32} (hd : decode cc pc = .ok (.ineg, 1)) (k : zW y cc nL ret d mc ms (pc + 1) lv (.int (-x) :: st) h v h') : zW y cc nL ret d mc ms pc lv (.int x :: st) h v h' := by
  intro G p l e R s m args below meth c H locs cells slots ls C hR hS hl h1 h2 h3 h4
  exact lv_ineg C.1 C.2.1 hd (k G p l e R s m args below meth c H locs cells slots ls C hR hS hl h1 h2 h3 h4)
theorem z_ishl {x z : Int32} (hd : decode cc pc = .ok (.ishl, 1)) (k : zW y cc nL ret d mc ms (pc + 1) lv (.int (x <<< (z &&& 31)) :: st) h v h') : zW y cc nL ret d mc ms pc lv (.int z :: .int x :: st) h v h' := by
  intro G p l e R s m args below meth c H locs cells slots ls C hR hS hl h1 h2 h3 h4
  exact lv_ishl C.1 C.2.1 hd (k G p l e R s m args below meth c H locs cells slots ls C hR hS hl h1 h2 h3 h4)
theorem z_ishr {x z : Int32} (hd : decode cc pc = .ok (.ishr, 1)) (k : zW y cc nL ret d mc ms (pc + 1) lv (.int (x >>> (z &&& 31)) :: st) h v h') : zW y cc nL ret d mc ms pc lv (.int z :: .int x :: st) h v h' := by
  intro G p l e R s m args below meth c H locs cells slots ls C hR hS hl h1 h2 h3 h4
  exact lv_ishr C.1 C.2.1 hd (k G p l e R s m args below meth c H locs cells slots ls C hR hS hl h1 h2 h3 h4)
theorem z_iushr {x z : Int32} (hd : decode cc pc = .ok (.iushr, 1)) (k : zW y cc nL ret d mc ms (pc + 1) lv (.int (x.toUInt32 >>> (z.toUInt32 &&& Int32.toUInt32 31)).toInt32 :: st) h v h') : zW y cc nL ret d mc ms pc lv (.int z :: .int x :: st) h v h' := by
  intro G p l e R s m args below meth c H locs cells slots ls C hR hS hl h1 h2 h3 h4
  exact lv_iushr C.1 C.2.1 hd rfl (k G p l e R s m args below meth c H locs cells slots ls C hR hS hl h1 h2 h3 h4)
theorem z_lushr {x : Int64} {z : Int32} (hd : decode cc pc = .ok (.lushr, 1)) (k : zW y cc nL ret d mc ms (pc + 1) lv (.long (x.toUInt64 >>> (z.toInt64.toUInt64 &&& Int64.toUInt64 63)).toInt64 :: st) h v h') : zW y cc nL ret d mc ms pc lv (.int z :: .long x :: st) h v h' := by
  intro G p l e R s m args below meth c H locs cells slots ls C hR hS hl h1 h2 h3 h4
  exact lv_lushr C.1 C.2.1 hd rfl (k G p l e R s m args below meth c H locs cells slots ls C hR hS hl h1 h2 h3 h4)
theorem z_lshl {x : Int64} {z : Int32} (hd : decode cc pc = .ok (.lshl, 1)) (k : zW y cc nL ret d mc ms (pc + 1) lv (.long (x <<< (z.toInt64 &&& 63)) :: st) h v h') : zW y cc nL ret d mc ms pc lv (.int z :: .long x :: st) h v h' := by
  intro G p l e R s m args below meth c H locs cells slots ls C hR hS hl h1 h2 h3 h4
  exact lv_lshl C.1 C.2.1 hd rfl (k G p l e R s m args below meth c H locs cells slots ls C hR hS hl h1 h2 h3 h4)
theorem z_lshr {x : Int64} {z : Int32} (hd : decode cc pc = .ok (.lshr, 1)) (k : zW y cc nL ret d mc ms (pc + 1) lv (.long (x >>> (z.toInt64 &&& 63)) :: st) h v h') : zW y cc nL ret d mc ms pc lv (.int z :: .long x :: st) h v h' := by
  intro G p l e R s m args below meth c H locs cells slots ls C hR hS hl h1 h2 h3 h4
  exact lv_lshr C.1 C.2.1 hd rfl (k G p l e R s m args below meth c H locs cells slots ls C hR hS hl h1 h2 h3 h4)
theorem z_i2l {x : Int32} (hd : decode cc pc = .ok (.i2l, 1)) (k : zW y cc nL ret d mc ms (pc + 1) lv (.long x.toInt64 :: st) h v h') : zW y cc nL ret d mc ms pc lv (.int x :: st) h v h' := by
  intro G p l e R s m args below meth c H locs cells slots ls C hR hS hl h1 h2 h3 h4
  exact lv_i2l C.1 C.2.1 hd rfl (k G p l e R s m args below meth c H locs cells slots ls C hR hS hl h1 h2 h3 h4)
theorem z_l2i {x : Int64} (hd : decode cc pc = .ok (.l2i, 1)) (k : zW y cc nL ret d mc ms (pc + 1) lv (.int x.toInt32 :: st) h v h') : zW y cc nL ret d mc ms pc lv (.long x :: st) h v h' := by
  intro G p l e R s m args below meth c H locs cells slots ls C hR hS hl h1 h2 h3 h4
  exact lv_l2i C.1 C.2.1 hd rfl (k G p l e R s m args below meth c H locs cells slots ls C hR hS hl h1 h2 h3 h4)
theorem z_i2b {x : Int32} (hd : decode cc pc = .ok (.i2b, 1)) (k : zW y cc nL ret d mc ms (pc + 1) lv (.int x.toInt8.toInt32 :: st) h v h') : zW y cc nL ret d mc ms pc lv (.int x :: st) h v h' := by
  intro G p l e R s m args below meth c H locs cells slots ls C hR hS hl h1 h2 h3 h4
  exact lv_i2b C.1 C.2.1 hd rfl (k G p l e R s m args below meth c H locs cells slots ls C hR hS hl h1 h2 h3 h4)
theorem z_i2c {x : Int32} (hd : decode cc pc = .ok (.i2c, 1)) (k : zW y cc nL ret d mc ms (pc + 1) lv (.int (x.toUInt32 % 65536).toInt32 :: st) h v h') : zW y cc nL ret d mc ms pc lv (.int x :: st) h v h' := by
  intro G p l e R s m args below meth c H locs cells slots ls C hR hS hl h1 h2 h3 h4
  exact lv_i2c C.1 C.2.1 hd rfl (k G p l e R s m args below meth c H locs cells slots ls C hR hS hl h1 h2 h3 h4)
theorem z_dup {a : Value} (hd : decode cc pc = .ok (.dup, 1)) (ha : a.category = 1) (k : zW y cc nL ret d mc ms (pc + 1) lv (a :: a :: st) h v h') : zW y cc nL ret d mc ms pc lv (a :: st) h v h' := by
  intro G p l e R s m args below meth c H locs cells slots ls C hR hS hl h1 h2 h3 h4
  exact lv_dup C.1 C.2.1 hd ha (k G p l e R s m args below meth c H locs cells slots ls C hR hS hl h1 h2 h3 h4)
theorem z_pop {a : Value} (hd : decode cc pc = .ok (.pop, 1)) (ha : a.category = 1) (k : zW y cc nL ret d mc ms (pc + 1) lv (st) h v h') : zW y cc nL ret d mc ms pc lv (a :: st) h v h' := by
  intro G p l e R s m args below meth c H locs cells slots ls C hR hS hl h1 h2 h3 h4
  exact lv_pop C.1 C.2.1 hd ha (k G p l e R s m args below meth c H locs cells slots ls C hR hS hl h1 h2 h3 h4)
theorem z_dup2 {a b : Value} (hd : decode cc pc = .ok (.dup2, 1)) (ha : a.category = 1) (hb : b.category = 1) (k : zW y cc nL ret d mc ms (pc + 1) lv (a :: b :: a :: b :: st) h v h') : zW y cc nL ret d mc ms pc lv (a :: b :: st) h v h' := by
  intro G p l e R s m args below meth c H locs cells slots ls C hR hS hl h1 h2 h3 h4
  exact lv_dup2_11 C.1 C.2.1 hd ha hb (k G p l e R s m args below meth c H locs cells slots ls C hR hS hl h1 h2 h3 h4)
theorem z_null  (hd : decode cc pc = .ok (.aconst_null, 1)) (k : zW y cc nL ret d mc ms (pc + 1) lv (va_rf none :: st) h v h') : zW y cc nL ret d mc ms pc lv (st) h v h' := by
  intro G p l e R s m args below meth c H locs cells slots ls C hR hS hl h1 h2 h3 h4
  exact lv_null C.1 C.2.1 hd (k G p l e R s m args below meth c H locs cells slots ls C hR hS hl h1 h2 h3 h4)
theorem z_if_eq {x : Int32} {off : Int} (tgt : Nat) (hd : decode cc pc = .ok (.ifCond .eq off, 3)) (ht : (pc : Int) + off = (tgt : Int)) (kt : x = 0 → zW y cc nL ret d mc ms tgt lv st h v h') (kf : ¬ x = 0 → zW y cc nL ret d mc ms (pc + 3) lv st h v h') : zW y cc nL ret d mc ms pc lv (.int x :: st) h v h' := by
  intro G p l e R s m args below meth c H locs cells slots ls C hR hS hl h1 h2 h3 h4
  exact lv_if_eq C.1 C.2.1 hd ht (fun q => kt q G p l e R s m args below meth c H locs cells slots ls C hR hS hl h1 h2 h3 h4) (fun q => kf q G p l e R s m args below meth c H locs cells slots ls C hR hS hl h1 h2 h3 h4)
theorem z_icmp_eq {x z : Int32} {off : Int} (tgt : Nat) (hd : decode cc pc = .ok (.if_icmp .eq off, 3)) (ht : (pc : Int) + off = (tgt : Int)) (kt : x = z → zW y cc nL ret d mc ms tgt lv st h v h') (kf : ¬ x = z → zW y cc nL ret d mc ms (pc + 3) lv st h v h') : zW y cc nL ret d mc ms pc lv (.int z :: .int x :: st) h v h' := by
  intro G p l e R s m args below meth c H locs cells slots ls C hR hS hl h1 h2 h3 h4
  exact lv_icmp_eq C.1 C.2.1 hd ht (fun q => kt q G p l e R s m args below meth c H locs cells slots ls C hR hS hl h1 h2 h3 h4) (fun q => kf q G p l e R s m args below meth c H locs cells slots ls C hR hS hl h1 h2 h3 h4)
theorem z_if_ne {x : Int32} {off : Int} (tgt : Nat) (hd : decode cc pc = .ok (.ifCond .ne off, 3)) (ht : (pc : Int) + off = (tgt : Int)) (kt : ¬ x = 0 → zW y cc nL ret d mc ms tgt lv st h v h') (kf : x = 0 → zW y cc nL ret d mc ms (pc + 3) lv st h v h') : zW y cc nL ret d mc ms pc lv (.int x :: st) h v h' := by
  intro G p l e R s m args below meth c H locs cells slots ls C hR hS hl h1 h2 h3 h4
  exact lv_if_ne C.1 C.2.1 hd ht (fun q => kt q G p l e R s m args below meth c H locs cells slots ls C hR hS hl h1 h2 h3 h4) (fun q => kf q G p l e R s m args below meth c H locs cells slots ls C hR hS hl h1 h2 h3 h4)
theorem z_icmp_ne {x z : Int32} {off : Int} (tgt : Nat) (hd : decode cc pc = .ok (.if_icmp .ne off, 3)) (ht : (pc : Int) + off = (tgt : Int)) (kt : ¬ x = z → zW y cc nL ret d mc ms tgt lv st h v h') (kf : x = z → zW y cc nL ret d mc ms (pc + 3) lv st h v h') : zW y cc nL ret d mc ms pc lv (.int z :: .int x :: st) h v h' := by
  intro G p l e R s m args below meth c H locs cells slots ls C hR hS hl h1 h2 h3 h4
  exact lv_icmp_ne C.1 C.2.1 hd ht (fun q => kt q G p l e R s m args below meth c H locs cells slots ls C hR hS hl h1 h2 h3 h4) (fun q => kf q G p l e R s m args below meth c H locs cells slots ls C hR hS hl h1 h2 h3 h4)
theorem z_if_lt {x : Int32} {off : Int} (tgt : Nat) (hd : decode cc pc = .ok (.ifCond .lt off, 3)) (ht : (pc : Int) + off = (tgt : Int)) (kt : x < 0 → zW y cc nL ret d mc ms tgt lv st h v h') (kf : ¬ x < 0 → zW y cc nL ret d mc ms (pc + 3) lv st h v h') : zW y cc nL ret d mc ms pc lv (.int x :: st) h v h' := by
  intro G p l e R s m args below meth c H locs cells slots ls C hR hS hl h1 h2 h3 h4
  exact lv_if_lt C.1 C.2.1 hd ht (fun q => kt q G p l e R s m args below meth c H locs cells slots ls C hR hS hl h1 h2 h3 h4) (fun q => kf q G p l e R s m args below meth c H locs cells slots ls C hR hS hl h1 h2 h3 h4)
theorem z_icmp_lt {x z : Int32} {off : Int} (tgt : Nat) (hd : decode cc pc = .ok (.if_icmp .lt off, 3)) (ht : (pc : Int) + off = (tgt : Int)) (kt : x < z → zW y cc nL ret d mc ms tgt lv st h v h') (kf : ¬ x < z → zW y cc nL ret d mc ms (pc + 3) lv st h v h') : zW y cc nL ret d mc ms pc lv (.int z :: .int x :: st) h v h' := by
  intro G p l e R s m args below meth c H locs cells slots ls C hR hS hl h1 h2 h3 h4
  exact lv_icmp_lt C.1 C.2.1 hd ht (fun q => kt q G p l e R s m args below meth c H locs cells slots ls C hR hS hl h1 h2 h3 h4) (fun q => kf q G p l e R s m args below meth c H locs cells slots ls C hR hS hl h1 h2 h3 h4)
theorem z_if_ge {x : Int32} {off : Int} (tgt : Nat) (hd : decode cc pc = .ok (.ifCond .ge off, 3)) (ht : (pc : Int) + off = (tgt : Int)) (kt : 0 ≤ x → zW y cc nL ret d mc ms tgt lv st h v h') (kf : ¬ 0 ≤ x → zW y cc nL ret d mc ms (pc + 3) lv st h v h') : zW y cc nL ret d mc ms pc lv (.int x :: st) h v h' := by
  intro G p l e R s m args below meth c H locs cells slots ls C hR hS hl h1 h2 h3 h4
  exact lv_if_ge C.1 C.2.1 hd ht (fun q => kt q G p l e R s m args below meth c H locs cells slots ls C hR hS hl h1 h2 h3 h4) (fun q => kf q G p l e R s m args below meth c H locs cells slots ls C hR hS hl h1 h2 h3 h4)
theorem z_icmp_ge {x z : Int32} {off : Int} (tgt : Nat) (hd : decode cc pc = .ok (.if_icmp .ge off, 3)) (ht : (pc : Int) + off = (tgt : Int)) (kt : z ≤ x → zW y cc nL ret d mc ms tgt lv st h v h') (kf : ¬ z ≤ x → zW y cc nL ret d mc ms (pc + 3) lv st h v h') : zW y cc nL ret d mc ms pc lv (.int z :: .int x :: st) h v h' := by
  intro G p l e R s m args below meth c H locs cells slots ls C hR hS hl h1 h2 h3 h4
  exact lv_icmp_ge C.1 C.2.1 hd ht (fun q => kt q G p l e R s m args below meth c H locs cells slots ls C hR hS hl h1 h2 h3 h4) (fun q => kf q G p l e R s m args below meth c H locs cells slots ls C hR hS hl h1 h2 h3 h4)
theorem z_if_gt {x : Int32} {off : Int} (tgt : Nat) (hd : decode cc pc = .ok (.ifCond .gt off, 3)) (ht : (pc : Int) + off = (tgt : Int)) (kt : 0 < x → zW y cc nL ret d mc ms tgt lv st h v h') (kf : ¬ 0 < x → zW y cc nL ret d mc ms (pc + 3) lv st h v h') : zW y cc nL ret d mc ms pc lv (.int x :: st) h v h' := by
  intro G p l e R s m args below meth c H locs cells slots ls C hR hS hl h1 h2 h3 h4
  exact lv_if_gt C.1 C.2.1 hd ht (fun q => kt q G p l e R s m args below meth c H locs cells slots ls C hR hS hl h1 h2 h3 h4) (fun q => kf q G p l e R s m args below meth c H locs cells slots ls C hR hS hl h1 h2 h3 h4)
theorem z_icmp_gt {x z : Int32} {off : Int} (tgt : Nat) (hd : decode cc pc = .ok (.if_icmp .gt off, 3)) (ht : (pc : Int) + off = (tgt : Int)) (kt : z < x → zW y cc nL ret d mc ms tgt lv st h v h') (kf : ¬ z < x → zW y cc nL ret d mc ms (pc + 3) lv st h v h') : zW y cc nL ret d mc ms pc lv (.int z :: .int x :: st) h v h' := by
  intro G p l e R s m args below meth c H locs cells slots ls C hR hS hl h1 h2 h3 h4
  exact lv_icmp_gt C.1 C.2.1 hd ht (fun q => kt q G p l e R s m args below meth c H locs cells slots ls C hR hS hl h1 h2 h3 h4) (fun q => kf q G p l e R s m args below meth c H locs cells slots ls C hR hS hl h1 h2 h3 h4)
theorem z_if_le {x : Int32} {off : Int} (tgt : Nat) (hd : decode cc pc = .ok (.ifCond .le off, 3)) (ht : (pc : Int) + off = (tgt : Int)) (kt : x ≤ 0 → zW y cc nL ret d mc ms tgt lv st h v h') (kf : ¬ x ≤ 0 → zW y cc nL ret d mc ms (pc + 3) lv st h v h') : zW y cc nL ret d mc ms pc lv (.int x :: st) h v h' := by
  intro G p l e R s m args below meth c H locs cells slots ls C hR hS hl h1 h2 h3 h4
  exact lv_if_le C.1 C.2.1 hd ht (fun q => kt q G p l e R s m args below meth c H locs cells slots ls C hR hS hl h1 h2 h3 h4) (fun q => kf q G p l e R s m args below meth c H locs cells slots ls C hR hS hl h1 h2 h3 h4)
theorem z_icmp_le {x z : Int32} {off : Int} (tgt : Nat) (hd : decode cc pc = .ok (.if_icmp .le off, 3)) (ht : (pc : Int) + off = (tgt : Int)) (kt : x ≤ z → zW y cc nL ret d mc ms tgt lv st h v h') (kf : ¬ x ≤ z → zW y cc nL ret d mc ms (pc + 3) lv st h v h') : zW y cc nL ret d mc ms pc lv (.int z :: .int x :: st) h v h' := by
  intro G p l e R s m args below meth c H locs cells slots ls C hR hS hl h1 h2 h3 h4
  exact lv_icmp_le C.1 C.2.1 hd ht (fun q => kt q G p l e R s m args below meth c H locs cells slots ls C hR hS hl h1 h2 h3 h4) (fun q => kf q G p l e R s m args below meth c H locs cells slots ls C hR hS hl h1 h2 h3 h4)
theorem z_goto {off : Int} (tgt : Nat) (hd : decode cc pc = .ok (.goto off, 3)) (ht : (pc : Int) + off = (tgt : Int)) (k : zW y cc nL ret d mc ms tgt lv st h v h') : zW y cc nL ret d mc ms pc lv st h v h' := by
  intro G p l e R s m args below meth c H locs cells slots ls C hR hS hl h1 h2 h3 h4
  exact lv_goto C.1 C.2.1 hd ht (k G p l e R s m args below meth c H locs cells slots ls C hR hS hl h1 h2 h3 h4)
theorem z_ifnull {x : Option Nat} {off : Int} (tgt : Nat) (hd : decode cc pc = .ok (.ifnull off, 3)) (ht : (pc : Int) + off = (tgt : Int)) (kt : x = none → zW y cc nL ret d mc ms tgt lv st h v h') (kf : ∀ a, x = some a → zW y cc nL ret d mc ms (pc + 3) lv st h v h') : zW y cc nL ret d mc ms pc lv (va_rf x :: st) h v h' := by
  intro G p l e R s m args below meth c H locs cells slots ls C hR hS hl h1 h2 h3 h4
  cases x with
  | none => exact lv_ifnullN C.1 C.2.1 hd ht (kt rfl G p l e R s m args below meth c H locs cells slots ls C hR hS hl h1 h2 h3 h4)
  | some a => exact lv_ifnull C.1 C.2.1 hd (kf a rfl G p l e R s m args below meth c H locs cells slots ls C hR hS hl h1 h2 h3 h4)
theorem z_ifnonnull {x : Option Nat} {off : Int} (tgt : Nat) (hd : decode cc pc = .ok (.ifnonnull off, 3)) (ht : (pc : Int) + off = (tgt : Int)) (kt : ∀ a, x = some a → zW y cc nL ret d mc ms tgt lv st h v h') (kf : x = none → zW y cc nL ret d mc ms (pc + 3) lv st h v h') : zW y cc nL ret d mc ms pc lv (va_rf x :: st) h v h' := by
  intro G p l e R s m args below meth c H locs cells slots ls C hR hS hl h1 h2 h3 h4
  cases x with
  | none => exact lv_ifnonnullN C.1 C.2.1 hd (kf rfl G p l e R s m args below meth c H locs cells slots ls C hR hS hl h1 h2 h3 h4)
  | some a => exact lv_ifnonnull C.1 C.2.1 hd ht (kt a rfl G p l e R s m args below meth c H locs cells slots ls C hR hS hl h1 h2 h3 h4)
theorem z_lcmp {x z : Int64} (hd : decode cc pc = .ok (.lcmp, 1)) (k : zW y cc nL ret d mc ms (pc + 1) lv (.int (lg_cmp x z) :: st) h v h') : zW y cc nL ret d mc ms pc lv (.long z :: .long x :: st) h v h' := by
  intro G p l e R s m args below meth c H locs cells slots ls C hR hS hl h1 h2 h3 h4
  exact W.lcmp C.1 C.2.1 hd (k G p l e R s m args below meth c H locs cells slots ls C hR hS hl h1 h2 h3 h4)
theorem z_ldc {idx : Nat} {x : Int32} (hd : decode cc pc = .ok (.ldc idx, 2)) (hw : Cond.constant y.cls idx x ∈ zB) (k : zW y cc nL ret d mc ms (pc + 2) lv (.int x :: st) h v h') : zW y cc nL ret d mc ms pc lv st h v h' := by
  intro G p l e R s m args below meth c H locs cells slots ls C hR hS hl h1 h2 h3 h4
  exact lv_ldc C.1 C.2.1 C.2.2.2.1 (C.2.2.2.2.1 _ hw) hd (k G p l e R s m args below meth c H locs cells slots ls C hR hS hl h1 h2 h3 h4)
theorem z_ldcw {idx : Nat} {x : Int32} (hd : decode cc pc = .ok (.ldc_w idx, 3)) (hw : Cond.constant y.cls idx x ∈ zB) (k : zW y cc nL ret d mc ms (pc + 3) lv (.int x :: st) h v h') : zW y cc nL ret d mc ms pc lv st h v h' := by
  intro G p l e R s m args below meth c H locs cells slots ls C hR hS hl h1 h2 h3 h4
  exact lv_ldcw C.1 C.2.1 C.2.2.2.1 (C.2.2.2.2.1 _ hw) hd (k G p l e R s m args below meth c H locs cells slots ls C hR hS hl h1 h2 h3 h4)
theorem z_ldc2 {idx : Nat} {x : Int64} (hd : decode cc pc = .ok (.ldc2_w idx, 3)) (hw : Cond.constantLong y.cls idx x ∈ zB) (k : zW y cc nL ret d mc ms (pc + 3) lv (.long x :: st) h v h') : zW y cc nL ret d mc ms pc lv st h v h' := by
  intro G p l e R s m args below meth c H locs cells slots ls C hR hS hl h1 h2 h3 h4
  exact lv_ldc2 C.1 C.2.1 C.2.2.2.1 (C.2.2.2.2.1 _ hw) hd (k G p l e R s m args below meth c H locs cells slots ls C hR hS hl h1 h2 h3 h4)
theorem z_sub (qs : List Nat) {lv' : List (Nat × Value)} (hs : lv_pick lv qs = lv') (k : zW y cc nL ret d mc ms pc lv' st h v h') : zW y cc nL ret d mc ms pc lv st h v h' := by
  intro G p l e R s m args below meth c H locs cells slots ls C hR hS hl h1 h2 h3 h4
  exact k G p l e R s m args below meth c H locs cells slots ls C hR hS (lv_sub hl qs hs) h1 h2 h3 h4
theorem z_mono {d' mc' ms' : Nat} (hd : d' ≤ d) (hm : mc' ≤ mc) (hs : ms' ≤ ms) (k : zW y cc nL ret d' mc' ms' pc lv st h v h') : zW y cc nL ret d mc ms pc lv st h v h' := by
  intro G p l e R s m args below meth c H locs cells slots ls C hR hS hl h1 h2 h3 h4
  exact k G p l e R s m args below meth c H locs cells slots ls C hR hS hl (by omega) (by omega) (by omega) (by omega)
theorem z_ireturn {x : Int32} (hr : ret = some .int) (hd : decode cc pc = .ok (.ireturn, 1)) : zW y cc nL ret d mc ms pc lv [.int x] h (some (.int x)) h := by
  intro G p l e R s m args below meth c H locs cells slots ls C hR hS hl h1 h2 h3 h4
  refine W.widen (k := R.cells) (n := R.slots) (by omega) (by omega) ?_
  exact W.iret C.1 C.2.1 (C.2.2.2.2.2.1.trans hr) (fun t ht hW => ⟨rfl, by rw [ht]; exact hR, hS.F ht⟩) hS.2.2 hd (hlocks := C.2.2.2.2.2.2.1)
theorem z_lreturn {x : Int64} (hr : ret = some .long) (hd : decode cc pc = .ok (.lreturn, 1)) : zW y cc nL ret d mc ms pc lv [.long x] h (some (.long x)) h := by
  intro G p l e R s m args below meth c H locs cells slots ls C hR hS hl h1 h2 h3 h4
  refine W.widen (k := R.cells) (n := R.slots) (by omega) (by omega) ?_
  exact W.lret C.1 C.2.1 (C.2.2.2.2.2.1.trans hr) (fun t ht hW => ⟨rfl, by rw [ht]; exact hR, hS.F ht⟩) hS.2.2 hd (hlocks := C.2.2.2.2.2.2.1)
theorem z_zreturn {x : Int32} (hr : ret = some .boolean) (hd : decode cc pc = .ok (.ireturn, 1)) (hx : x = 0 ∨ x = 1) : zW y cc nL ret d mc ms pc lv [.int x] h (some (.int x)) h := by
  intro G p l e R s m args below meth c H locs cells slots ls C hR hS hl h1 h2 h3 h4
  refine W.widen (k := R.cells) (n := R.slots) (by omega) (by omega) ?_
  exact W.zret C.1 C.2.1 (C.2.2.2.2.2.1.trans hr) (by rcases hx with rfl | rfl <;> rfl) (fun t ht hW => ⟨rfl, by rw [ht]; exact hR, hS.F ht⟩) hS.2.2 hd (hlocks := C.2.2.2.2.2.2.1)
theorem z_areturn {x : Value} {rt : FieldType} (hr : ret = some rt) (hrt : (∃ n, rt = .object n) ∨ ∃ t, rt = .array t) (hx : x = .null ∨ ∃ a, x = .ref a) (hd : decode cc pc = .ok (.areturn, 1)) : zW y cc nL ret d mc ms pc lv [x] h (some x) h := by
  intro G p l e R s m args below meth c H locs cells slots ls C hR hS hl h1 h2 h3 h4
  refine W.widen (k := R.cells) (n := R.slots) (by omega) (by omega) ?_
  exact W.aret C.1 C.2.1 (C.2.2.2.2.2.1.trans hr) hrt hx (fun t ht hW => ⟨rfl, by rw [ht]; exact hR, hS.F ht⟩) hS.2.2 hd (hlocks := C.2.2.2.2.2.2.1)
theorem z_return (hr : ret = none) (hd : decode cc pc = .ok (.return_, 1)) : zW y cc nL ret d mc ms pc lv [] h none h := by
  intro G p l e R s m args below meth c H locs cells slots ls C hR hS hl h1 h2 h3 h4
  refine W.widen (k := R.cells) (n := R.slots) (by omega) (by omega) ?_
  exact W.vret C.1 C.2.1 (C.2.2.2.2.2.1.trans hr) (fun t ht hW => ⟨rfl, by rw [ht]; exact hR, hS.F ht⟩) hS.2.2 hd (hlocks := C.2.2.2.2.2.2.1)
end ZR
