/-- the heap with one cell more, of which nothing is said -/
def zpush (h : zH) : zH := ((h.1.1 + 1, h.1.2), h.2)
/-- behind a throw: every cell of hx is as it was, and there is one more, the thrown object -/
def zXC (G : zG) (hx : zH) : String → State → State → Prop := fun E st t => E = "java/util/NoSuchElementException" ∧ zR G (zpush hx) t.heap ∧ va_F (fun q => G.2.2.1 ≤ q) st t
/-- as zW, of a method without a table that may throw; hx is the heap where it throws -/
def zWT (hx : zH) (y : MethodName) (cc : ByteArray) (nL : Nat) (ret : Option FieldType) (d mc ms pc : Nat) (lv : List (Nat × Value)) (st : List Value) (h : zH) (v : Option Value) (h' : zH) : Prop :=
  ∀ (G : zG) (p : Program) (l : Launch) (e : Env) (R : Room) (s : State) (m : MethodId) (args : Array Value) (below : List Frame) (meth : Method) (c : Code) (H : Heap) (locs : List Loc) (cells slots : Nat) (ls : Array Slot),
    (∀ x ∈ c.exceptionTable.toList, False) → zC y cc nL ret l G p s m args meth c → zR G h H → va_S (fun q => G.2.2.1 ≤ q) s.heap H locs → lv_has ls nL lv → d ≤ R.frames → 40 * d ≤ R.locals → cells + mc ≤ R.cells → slots + ms ≤ R.slots →
    W p l e R s m args below meth c H locs cells slots (vx_MQ below (zQ G v h') (zXC G hx) args s R.cells R.slots (fun q => G.2.2.1 ≤ q)) (F0 m pc ls st)
section ZAT
variable {hx : zH} {y : MethodName} {cc : ByteArray} {nL : Nat} {ret : Option FieldType} {d mc ms pc : Nat} {lv : List (Nat × Value)} {st : List Value} {h : zH} {v : Option Value} {h' : zH}
theorem zt_of (k : zW y cc nL ret d mc ms pc lv st h v h') : zWT hx y cc nL ret d mc ms pc lv st h v h' := by
  intro G p l e R s m args below meth c H locs cells slots ls hex C hR hS hl h1 h2 h3 h4
  exact vx_ret (k G p l e R s m args below meth c H locs cells slots ls C hR hS hl h1 h2 h3 h4)
theorem zt_iconst {n : Int} {x : Int32} (hd : decode cc pc = .ok (.iconst n, 1)) (hv : Int32.ofInt n = x) (k : zWT hx y cc nL ret d mc ms (pc + 1) lv (.int x :: st) h v h') : zWT hx y cc nL ret d mc ms pc lv (st) h v h' := by
  intro G p l e R s m args below meth c H locs cells slots ls hex C hR hS hl h1 h2 h3 h4
  exact lv_iconst C.1 C.2.1 hd hv (k G p l e R s m args below meth c H locs cells slots ls hex C hR hS hl h1 h2 h3 h4)
theorem zt_iload_n {j : Fin 4} {i : Nat} {x : Int32} (q : Nat) (hd : decode cc pc = .ok (.iload_n j, 1)) (hi : (j : Nat) = i) (hq : lv[q]? = some (i, .int x)) (k : zWT hx y cc nL ret d mc ms (pc + 1) lv (.int x :: st) h v h') : zWT hx y cc nL ret d mc ms pc lv (st) h v h' := by
  intro G p l e R s m args below meth c H locs cells slots ls hex C hR hS hl h1 h2 h3 h4
  exact lv_iload_n C.1 C.2.1 hd hi (lv_at hl q hq) (k G p l e R s m args below meth c H locs cells slots ls hex C hR hS hl h1 h2 h3 h4)
theorem zt_aload_n {j : Fin 4} {i : Nat} {x : Nat} (q : Nat) (hd : decode cc pc = .ok (.aload_n j, 1)) (hi : (j : Nat) = i) (hq : lv[q]? = some (i, .ref x)) (k : zWT hx y cc nL ret d mc ms (pc + 1) lv (.ref x :: st) h v h') : zWT hx y cc nL ret d mc ms pc lv (st) h v h' := by
  intro G p l e R s m args below meth c H locs cells slots ls hex C hR hS hl h1 h2 h3 h4
  exact lv_aload_n C.1 C.2.1 hd hi (lv_at hl q hq) (k G p l e R s m args below meth c H locs cells slots ls hex C hR hS hl h1 h2 h3 h4)
theorem zt_aloadQ {i : Nat} {x : Option Nat} (q : Nat) (hd : decode cc pc = .ok (.aload i, 2)) (hq : lv[q]? = some (i, va_rf x)) (k : zWT hx y cc nL ret d mc ms (pc + 2) lv (va_rf x :: st) h v h') : zWT hx y cc nL ret d mc ms pc lv st h v h' := by
  intro G p l e R s m args below meth c H locs cells slots ls hex C hR hS hl h1 h2 h3 h4
  cases x with
  | none => exact lv_aloadN C.1 C.2.1 hd (lv_at hl q hq) (k G p l e R s m args below meth c H locs cells slots ls hex C hR hS hl h1 h2 h3 h4)
  | some x => exact lv_aload C.1 C.2.1 hd (lv_at hl q hq) (k G p l e R s m args below meth c H locs cells slots ls hex C hR hS hl h1 h2 h3 h4)
theorem zt_astoreQ {i : Nat} {x : Option Nat} {lv' : List (Nat × Value)} (hd : decode cc pc = .ok (.astore i, 2)) (hn : i < nL) (hl' : (i, va_rf x) :: lv.filter (fun q => !(q.1 == i) && !(q.1 + 1 == i && q.2.category == 2)) = lv') (k : zWT hx y cc nL ret d mc ms (pc + 2) lv' st h v h') : zWT hx y cc nL ret d mc ms pc lv (va_rf x :: st) h v h' := by
  intro G p l e R s m args below meth c H locs cells slots ls hex C hR hS hl h1 h2 h3 h4
  cases x with
  | none => exact lv_astoreN C.1 C.2.1 hd hl hn hl' (fun ls hl => k G p l e R s m args below meth c H locs cells slots ls hex C hR hS hl h1 h2 h3 h4)
  | some x => exact lv_astore C.1 C.2.1 hd hl hn hl' (fun ls hl => k G p l e R s m args below meth c H locs cells slots ls hex C hR hS hl h1 h2 h3 h4)
theorem zt_if_eq {x : Int32} {off : Int} (tgt : Nat) (hd : decode cc pc = .ok (.ifCond .eq off, 3)) (ht : (pc : Int) + off = (tgt : Int)) (kt : x = 0 → zWT hx y cc nL ret d mc ms tgt lv st h v h') (kf : ¬ x = 0 → zWT hx y cc nL ret d mc ms (pc + 3) lv st h v h') : zWT hx y cc nL ret d mc ms pc lv (.int x :: st) h v h' := by
  intro G p l e R s m args below meth c H locs cells slots ls hex C hR hS hl h1 h2 h3 h4
  exact lv_if_eq C.1 C.2.1 hd ht (fun q => kt q G p l e R s m args below meth c H locs cells slots ls hex C hR hS hl h1 h2 h3 h4) (fun q => kf q G p l e R s m args below meth c H locs cells slots ls hex C hR hS hl h1 h2 h3 h4)
theorem zt_if_ne {x : Int32} {off : Int} (tgt : Nat) (hd : decode cc pc = .ok (.ifCond .ne off, 3)) (ht : (pc : Int) + off = (tgt : Int)) (kt : ¬ x = 0 → zWT hx y cc nL ret d mc ms tgt lv st h v h') (kf : x = 0 → zWT hx y cc nL ret d mc ms (pc + 3) lv st h v h') : zWT hx y cc nL ret d mc ms pc lv (.int x :: st) h v h' := by
  intro G p l e R s m args below meth c H locs cells slots ls hex C hR hS hl h1 h2 h3 h4
  exact lv_if_ne C.1 C.2.1 hd ht (fun q => kt q G p l e R s m args below meth c H locs cells slots ls hex C hR hS hl h1 h2 h3 h4) (fun q => kf q G p l e R s m args below meth c H locs cells slots ls hex C hR hS hl h1 h2 h3 h4)
theorem zt_ifnull {x : Option Nat} {off : Int} (tgt : Nat) (hd : decode cc pc = .ok (.ifnull off, 3)) (ht : (pc : Int) + off = (tgt : Int)) (kt : x = none → zWT hx y cc nL ret d mc ms tgt lv st h v h') (kf : ∀ a, x = some a → zWT hx y cc nL ret d mc ms (pc + 3) lv st h v h') : zWT hx y cc nL ret d mc ms pc lv (va_rf x :: st) h v h' := by
  intro G p l e R s m args below meth c H locs cells slots ls hex C hR hS hl h1 h2 h3 h4
  cases x with
  | none => exact lv_ifnullN C.1 C.2.1 hd ht (kt rfl G p l e R s m args below meth c H locs cells slots ls hex C hR hS hl h1 h2 h3 h4)
  | some a => exact lv_ifnull C.1 C.2.1 hd (kf a rfl G p l e R s m args below meth c H locs cells slots ls hex C hR hS hl h1 h2 h3 h4)
theorem zt_sub (qs : List Nat) {lv' : List (Nat × Value)} (hs : lv_pick lv qs = lv') (k : zWT hx y cc nL ret d mc ms pc lv' st h v h') : zWT hx y cc nL ret d mc ms pc lv st h v h' := by
  intro G p l e R s m args below meth c H locs cells slots ls hex C hR hS hl h1 h2 h3 h4
  exact k G p l e R s m args below meth c H locs cells slots ls hex C hR hS (lv_sub hl qs hs) h1 h2 h3 h4
theorem zt_callS {x : MethodName} {cx : ByteArray} {nX n idx : Nat} {rx : Option FieldType} (As : List Value) {rest : List Value} {d' mc' ms' : Nat} {v1 : Option Value} {h1 : zH} (hd : decode cc pc = .ok (.invokestatic idx, 3)) (hm : zMd x cx nX n rx) (hl1 : Cond.methodLink y.cls idx x ∈ zB) (hl2 : Cond.static x ∈ zB) (hn : As.length = n) (hsk : st = As.reverse ++ rest) (hrs : (rest.map fun v => v.category).sum ≤ 8) (hdd : d' + 1 ≤ d) (K : zOk d' mc' ms' x cx nX rx As h v1 h1)
    (kk : zWT hx y cc nL ret d mc ms (pc + 3) lv (v1.toList ++ rest) h1 v h') : zWT hx y cc nL ret d (mc + mc') (ms + ms') pc lv st h v h' := by
  subst hsk
  obtain ⟨hcd, hini, hy1, hy2, hpar, hnX⟩ := hm
  intro G p l e R s m args below meth c H locs cells slots ls hex C hR hS hl g1 g2 g3 g4
  have hts := C.2.2.2.2.1
  have hcb : CallB R s args y.cls idx x cx nX rx (zws x cx nX rx) { frames := d', cells := mc', slots := ms', locals := 40 * d' } mc' ms' n := callB_of (ret := rx) n hts (zws_in hcd) rfl rfl rfl (hts _ hini) (hts _ hl1) ⟨hy1, hy2, hpar⟩ ⟨by show d' + 1 ≤ _; omega, by show 8 + (nX + 11) + 40 * d' ≤ _; omega⟩
  refine zgo (va_runS (As := As) (rest := rest) (free := fun q => G.2.2.1 ≤ q) ⟨C.1, C.2.1, C.2.2.1, C.2.2.2.1, hts⟩ (K l G d' (40 * d') C.2.2.2.2.2.2.2.2.2.2.2 (Nat.le_refl _) (Nat.le_refl _)) ⟨hcb, hts _ hl2⟩ ⟨zPc_blind, zPc_pre hR C.2.2.2.2.2.2.2.2.1 C.2.2.2.2.2.2.2.2.2.1 hS⟩ rfl hn hl.1 rfl (lv_room hrs) hd ⟨by omega, by omega⟩) hS (fun H1 locs1 hR1 hS1 => ?_)
  exact kk G p l e R s m args below meth c H1 locs1 (cells + mc') (slots + ms') ls hex C hR1 hS1 hl g1 g2 (by omega) (by omega)
theorem zt_callV {x : MethodName} {cx : ByteArray} {nX n idx ci : Nat} {rx : Option FieldType} (As : List Value) {rest : List Value} {d' mc' ms' b : Nat} {v1 : Option Value} {h1 : zH} {T : u_T} {N : Nat} (hd : decode cc pc = .ok (.invokevirtual idx, 3)) (hm : zMd x cx nX n rx) (hl1 : Cond.methodLink y.cls idx x ∈ zB) (hl2 : Cond.instanceMethod x ∈ zB) (hl3 : Cond.selects x.cls x x ∈ zB) (hcl : vwCl[ci]? = some (x.cls, T, N)) (hob : zob h b ci = true) (hn : As.length = n) (hsk : st = As.reverse ++ .ref b :: rest) (hrs : (rest.map fun v => v.category).sum ≤ 8) (hdd : d' + 1 ≤ d) (K : zOk d' mc' ms' x cx nX rx (.ref b :: As) h v1 h1)
    (kk : zWT hx y cc nL ret d mc ms (pc + 3) lv (v1.toList ++ rest) h1 v h') : zWT hx y cc nL ret d (mc + mc') (ms + ms') pc lv st h v h' := by
  subst hsk
  obtain ⟨hcd, hini, hy1, hy2, hpar, hnX⟩ := hm
  obtain ⟨fs, hob⟩ := zob_spec hob
  intro G p l e R s m args below meth c H locs cells slots ls hex C hR hS hl g1 g2 g3 g4
  have hts := C.2.2.2.2.1
  have hcb : CallB R s args y.cls idx x cx nX rx (zws x cx nX rx) { frames := d', cells := mc', slots := ms', locals := 40 * d' } mc' ms' n := callB_of (ret := rx) n hts (zws_in hcd) rfl rfl rfl (hts _ hini) (hts _ hl1) ⟨hy1, hy2, hpar⟩ ⟨by show d' + 1 ≤ _; omega, by show 8 + (nX + 11) + 40 * d' ≤ _; omega⟩
  have hrv := va_recv C.2.2.2.2.2.2.2.2.1 (hR.one hob) hcl (q0 := 0) rfl
  refine zgo (va_runV (As := As) (rest := rest) (free := fun q => G.2.2.1 ≤ q) ⟨C.1, C.2.1, C.2.2.1, C.2.2.2.1, hts⟩ (K l G d' (40 * d') C.2.2.2.2.2.2.2.2.2.2.2 (Nat.le_refl _) (Nat.le_refl _)) ⟨hcb, hts _ hl2, hts _ hl3⟩ ⟨zPc_blind, hrv, zPc_pre hR C.2.2.2.2.2.2.2.2.1 C.2.2.2.2.2.2.2.2.2.1 hS⟩ rfl hn hl.1 rfl (lv_room hrs) hd ⟨by omega, by omega⟩) hS (fun H1 locs1 hR1 hS1 => ?_)
  exact kk G p l e R s m args below meth c H1 locs1 (cells + mc') (slots + ms') ls hex C hR1 hS1 hl g1 g2 (by omega) (by omega)
theorem zt_nmQ {x : Option Nat} {a : Nat} (e : x = some a) (k : zWT hx y cc nL ret d mc ms pc lv (.ref a :: st) h v h') : zWT hx y cc nL ret d mc ms pc lv (va_rf x :: st) h v h' := by rw [e]; exact k
theorem zt_nmQv {x x' : Option Nat} (e : x = x') (k : zWT hx y cc nL ret d mc ms pc lv (va_rf x' :: st) h v h') : zWT hx y cc nL ret d mc ms pc lv (va_rf x :: st) h v h' := by rw [e]; exact k
end ZAT
