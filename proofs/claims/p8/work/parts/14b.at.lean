theorem at_w1 : Cond.classLink "WhoseStreet" 141 "java/util/NoSuchElementException" ∈ zB := zmem 1269 (by decide +kernel) rfl
theorem at_w2 : Cond.initialized "java/util/NoSuchElementException" ∈ zB := zmem 133 (by decide +kernel) rfl
def at_L : List Cond := zxA.filter vx_no
set_option maxRecDepth 100000 in
theorem at_w3 : ∀ w ∈ at_L.filter goodWord, w ∈ lw_tbl := by decide +kernel
set_option maxRecDepth 100000 in
theorem at_w4 : ∀ w ∈ at_L.filter (fun w => !goodWord w), w ∈ [Cond.castable "java/util/NoSuchElementException" "java/util/NoSuchElementException", .declares (Bundle.initS zRT), .declares (Bundle.initS zEX), .declares (Bundle.initS Bundle.tN)] := by decide +kernel
theorem zx_decl {x : MethodName} {bytes : ByteArray} {n : Nat} {ret : Option FieldType} {args : Array Value} {s : State} (h1 : (Cond.instanceMethod x).before args s = true) (h2 : (Cond.code x bytes n ret).before args s = true) : (Cond.declares x).before args s = true := by
  obtain ⟨m, meth, hn, hm, hst, -⟩ := Cond.instanceMethod_spec h1
  obtain ⟨meth', c, hm', -, -, -, -, -, -, hsig⟩ := Cond.code_spec hn h2
  cases hm.symm.trans hm'
  simp [Cond.before, Cond.holds, Cond.value, hn, hm, hst, hsig]
set_option maxRecDepth 100000 in
theorem at_w6 : ∀ w ∈ [Cond.instanceMethod (Bundle.initS zRT), .code (Bundle.initS zRT) Bundle.six 2 none, .instanceMethod (Bundle.initS zEX), .code (Bundle.initS zEX) Bundle.six 2 none, .instanceMethod (Bundle.initS Bundle.tN), .code (Bundle.initS Bundle.tN) LibCode.Throwable.InitS.code 2 none], w ∈ at_L.filter goodWord := by decide +kernel
set_option maxRecDepth 100000 in
theorem at_w5 : ∀ w ∈ Cond.classLink "WhoseStreet" 141 "java/util/NoSuchElementException" :: Cond.initialized "java/util/NoSuchElementException" :: at_L, vx_ot w = true := by decide +kernel
set_option maxHeartbeats 4000000 in
theorem zt_throw {d mc ms : Nat} {lv : List (Nat × Value)} {h : zH} {v : Option Value} {h' : zH} (hd : 6 ≤ d) : zWT h yX11_at cX11_at 5 (some .int) d (mc + 1) (ms + 6) 34 lv [] h v h' := by
  intro G p l e R s m args below meth c H locs cells slots ls hex C hR hS hl h1 h2 h3 h4
  obtain ⟨a1, a2, a3, a4, a5, a6, a7, a8, a9, b1, b2, b3, b4, b5, b6⟩ := C.2.2.2.2.2.2.2.2.2.1
  have hts := C.2.2.2.2.1
  have hst : l.stackTraces = false := C.2.2.2.2.2.2.2.2.2.2.2
  have hat0 : ∀ w ∈ at_L.filter goodWord, w.before args s = true := fun w hw => hts w (List.mem_filter.mpr ⟨at_w3 w hw, (List.mem_filter.mp hw).2⟩)
  have q1 := zx_decl (hat0 _ (at_w6 _ (by simp))) (hat0 (.code (Bundle.initS zRT) Bundle.six 2 none) (at_w6 _ (by simp)))
  have q2 := zx_decl (hat0 _ (at_w6 _ (by simp))) (hat0 (.code (Bundle.initS zEX) Bundle.six 2 none) (at_w6 _ (by simp)))
  have q3 := zx_decl (hat0 _ (at_w6 _ (by simp))) (hat0 (.code (Bundle.initS Bundle.tN) LibCode.Throwable.InitS.code 2 none) (at_w6 _ (by simp)))
  have hat : ∀ w ∈ at_L, w.before args s = true := vx_hat hat0 at_w4 (vx_c (va_Nw.use rfl b3) (vx_c q1 (vx_c q2 (vx_c q3 vx_n))))
  have hexec := C.1
  have hb := C.2.1
  intro T hT X
  have htr : e.platform.stackTraces = false := (show e.platform.stackTraces = l.stackTraces by rw [X.admits.platform]).trans hst
  have Y := vx_rebase X (R' := { frames := R.frames, locals := R.locals, cells := 1, slots := 6 }) (Nat.le_refl _) (Nat.le_refl _) (by show cells + 1 ≤ R.cells; omega) (by show slots + 6 ≤ R.slots; omega)
  obtain ⟨s', hA⟩ : ∃ z, z = (T.setVm s.vm).setFrames (.invoking m args :: below) := ⟨_, rfl⟩
  rw [← hA] at Y
  have hvm : s'.vm = s.vm := by rw [hA]; rfl
  have hhp : s'.heap = H := by rw [hA]; exact hT
  have hW0 : s.WarmedH s'.vm := by rw [hvm]; exact State.WarmedH.refl s
  have hat' : ∀ w ∈ zxA.filter vx_no, w.before args s' = true := fun w hw => vx_ot_at hW0 hvm.symm (at_w5 w (List.mem_cons_of_mem _ (List.mem_cons_of_mem _ hw))) (hat w hw)
  have hk' : (Cond.classLink "WhoseStreet" 141 zNS).before args s' = true := vx_ot_at hW0 hvm.symm (at_w5 _ List.mem_cons_self) (hts _ at_w1)
  have hini' : (Cond.initialized zNS).before args s' = true := vx_ot_at hW0 hvm.symm (at_w5 _ (List.mem_cons_of_mem _ List.mem_cons_self)) (hts _ at_w2)
  have hU' : vx_Zq Bundle.tN "UNASSIGNED_STACK" Bundle.steD (fun q => G.2.2.1 ≤ q) s' s'.heap := by rw [hhp]; exact vx_Zq.moved hW0.alike (b4.kept hS.2.1)
  have hN' : vx_Zq Bundle.tN "SUPPRESSED_SENTINEL" Bundle.listD (fun q => G.2.2.1 ≤ q) s' s'.heap := by rw [hhp]; exact vx_Zq.moved hW0.alike (b5.kept hS.2.1)
  have hall0 : ∀ w ∈ zxA, w.before args s' = true := vx_own hat' (vx_isRefq hU'.1) (vx_isRefq hN'.1) hU'.2.word hN'.2.word
  have hown' : s'.vm.findClass "WhoseStreet" = some m.cls := by rw [hvm]; exact C.2.2.2.1
  have hins : (Cond.instantiable zNS 6).before args s' = true := hall0 _ (zxA_E (by simp [zxE]))
  obtain ⟨vm₁, cX, kX, hfX, hkX, -, -, X₁, st1⟩ := Y.newCold hexec (own := "WhoseStreet") (C := zNS) (index := 141) (n := 6) hown' hk' hins hini'
    (g := F0 m 34 ls []) rfl (by rw [hb]; exact dX11_at_34) (Nat.le_refl _) (Nat.le_refl _)
  generalize hT1 : (T.setVm vm₁).pushCell { cls := cX, slots := kX.instanceTypes.map defaultValue, vm := .none } = T1 at X₁ st1
  have hcellA : T1.heap[T.heap.size]? = some (freshCell cX kX) := by rw [← hT1]; exact State.heap_pushCell_size _ _
  have d3' : decode c.code 37 = .ok (.dup, 1) := by rw [hb]; exact dX11_at_37
  have d4' : decode c.code 38 = .ok (.ldc 143, 2) := by rw [hb]; exact dX11_at_38
  have hstr' : vk_R "WhoseStreet" 143 zText (G.2.2.2 3) s' := vk_R.warm hW0 a8
  obtain ⟨U, hsteps, hrun, hend, hW, hsame, ce, hce, hcv, hcc⟩ := zx_ctor X₁ hexec htr hown' hall0 (fun x hx => nomatch hx) hfX hkX hcellA (by rw [hhp, hT]; exact Nat.le_refl _) (msg := .ref (G.2.2.2 3)) rfl
    (g := { method := m, pc := 40, locals := ls, stack := .ref (G.2.2.2 3) :: .ref T.heap.size :: .ref T.heap.size :: [], locked := none }) rfl (by show ls.size = c.maxLocals; rw [hl.1, C.2.2.1]) rfl rfl (rest := []) rfl
    (by rw [hb]; exact dX11_at_40) (by rw [hb]; exact dX11_at_43) (fun x hx => (hex x hx).elim) (by show 5 < R.frames; omega) (by show 2 * 0 + (1 + 0) + 81 ≤ R.locals; omega) C.2.2.2.2.2.2.1
  obtain ⟨f1, f2⟩ := vx_frame hsame
  rw [hhp] at f1 f2
  have f3 : U.heap.size ≤ H.size + 1 := by
    have q := hsame.2.2.1
    rw [hhp] at q
    exact q
  have f4 : T.heap.size < U.heap.size := (Array.getElem?_eq_some_iff.mp hce).1
  have f5 : U.heap.size = H.size + 1 := by rw [hT] at f4; omega
  have hWs : s.WarmedH U.vm := State.WarmedH.trans hW0 hW
  have hcl : s.vm.findClass zNS = some ce.cls := by
    rw [hvm] at hfX
    rw [hcc]; exact hfX
  have hall : s.sameButNew ({ U with vm := s.vm } : State) locs R.cells R.slots := by
    subst hA
    obtain ⟨e1, e2⟩ := hsame
    rw [State.setFrames_setFrames] at e1
    have h2 : (T.setVm s.vm).sameButNew ({ U with vm := s.vm } : State) [] (0 + 1) (0 + 6) := ⟨e1, e2⟩
    have h3 := X.same.trans h2
    rw [List.append_nil] at h3
    exact h3.mono (by omega) (by omega)
  have hx : zXC G h zNS s U := by
    refine ⟨rfl, ⟨by rw [f5, hR.1]; rfl, hR.2.1, Nat.le_trans hR.2.2.1 f1, fun a c9 hc => ?_⟩, Nat.le_trans hS.1 f1, fun q r1 r2 => ?_⟩
    · obtain ⟨g1, g2⟩ := hR.2.2.2 a c9 hc
      exact ⟨g1.kept (f2 a g1.lt (fun z hz => nomatch hz)), g2⟩
    · rw [f2 q (Nat.lt_of_lt_of_le r1 hS.1) (fun z hz => nomatch hz)]
      exact hS.2.1 q r1 r2
  refine ⟨U, ?_, .threw T.heap.size, hrun, hend, Or.inr ⟨T.heap.size, rfl, zNS, ce, locs, hx, hce, hcv, hcl, hWs, hall, hS.2.2⟩⟩
  refine st1 _ ?_
  show Steps p.tables e below (T1.setTop { method := m, pc := 37, locals := ls, stack := .ref T.heap.size :: [], locked := none }) _
  jvm_step X₁.here [X₁.here.top, hexec, d3', Value.category]
  exact X₁.ldcString hexec (own := "WhoseStreet") (text := zText) (index := 143) (a := G.2.2.2 3) hown' hstr'.1 hstr'.2
    (g := { method := m, pc := 38, locals := ls, stack := .ref T.heap.size :: .ref T.heap.size :: [], locked := none }) rfl d4' _ hsteps
theorem zt_aload {hx : zH} {y : MethodName} {cc : ByteArray} {nL : Nat} {ret : Option FieldType} {d mc ms pc : Nat} {lv : List (Nat × Value)} {st : List Value} {h : zH} {v : Option Value} {h' : zH} {i x : Nat} (q : Nat) (hd : decode cc pc = .ok (.aload i, 2)) (hq : lv[q]? = some (i, .ref x)) (k : zWT hx y cc nL ret d mc ms (pc + 2) lv (.ref x :: st) h v h') : zWT hx y cc nL ret d mc ms pc lv st h v h' := zt_aloadQ (x := some x) q hd hq k
def t_X11_at (N v0 : Nat) (v1 v2 v3 : Int32) (h : zH) : Option Bool := zif (zob h v0 11) <| (f_X11_meetingOf N v0 v1 h).bind fun q2 => zopt q2 (some true) (fun a3 => if (p_X11_within v2 0 1) = 0 then (some true) else (zif (zob h a3 6) <| (f_X6_end N a3 h).bind fun q7 => if (p_X11_within v3 0 q7) = 0 then (some true) else (some false)))
set_option maxRecDepth 100000 in
set_option maxHeartbeats 4000000 in
theorem kt_X11_at {N v0 : Nat} {v1 v2 v3 : Int32} {h : zH} {v : Option Value} {h' : zH} (H : t_X11_at N v0 v1 v2 v3 h = some true) : zWT h yX11_at cX11_at 5 (some .int) 7 1 6 0 [(0, .ref v0), (1, .int v1), (2, .int v2), (3, .int v3)] [] h v h' := by
  unfold t_X11_at at H
  refine zt_aload_n (pc := 0) 0 dX11_at_0 rfl rfl ?_
  refine zt_iload_n (pc := 1) 1 dX11_at_1 rfl rfl ?_
  obtain ⟨z1, H⟩ := zifE H
  obtain ⟨q2, eq2, H⟩ := zbind H
  refine zt_callV (pc := 2) (mc := 1) (ms := 6) (d' := 0) (mc' := 0) (ms' := 0) (rest := []) [.int v1] dX11_at_2 md_X11_meetingOf ml_X11_99 im_X11_meetingOf se_X11_meetingOf rfl z1 rfl rfl (Nat.le_of_ble_eq_true rfl) (by omega) (k_X11_meetingOf eq2) ?_
  refine zt_astoreQ (pc := 5) (lv' := [(4, va_rf q2), (0, .ref v0), (1, .int v1), (2, .int v2), (3, .int v3)]) dX11_at_5 (by decide) rfl ?_
  refine zt_aloadQ (pc := 7) 0 dX11_at_7 rfl ?_
  refine zt_ifnull (pc := 9) 34 dX11_at_9 (by decide) (fun c4 => ?_) (fun a3 c4 => ?_)
  · subst c4
    have H := zoptN H
    cases H
    exact zt_throw (mc := 0) (ms := 0) (by decide)
  · subst c4
    have H := zoptS H
    refine zt_sub (lv' := [(4, .ref a3), (0, .ref v0), (1, .int v1), (2, .int v2), (3, .int v3)]) [0, 1, 2, 3, 4] rfl ?_
    refine zt_iload_n (pc := 12) 3 dX11_at_12 rfl rfl ?_
    refine zt_iconst (pc := 13) (x := 0) dX11_at_13 zc_iconst_0 ?_
    refine zt_iconst (pc := 14) (x := 1) dX11_at_14 zc_iconst_1 ?_
    refine zt_callS (pc := 15) (mc := 1) (ms := 6) (d' := 0) (mc' := 0) (ms' := 0) (rest := []) [.int v2, .int 0, .int 1] dX11_at_15 md_X11_within ml_X11_82 sm_X11_within rfl rfl (Nat.le_of_ble_eq_true rfl) (by omega) (k_X11_within v2 0 1 h _ rfl) ?_
    refine zt_if_eq (pc := 18) 34 dX11_at_18 (by decide) (fun c5 => ?_) (fun c5 => ?_)
    · rw [if_pos c5] at H
      cases H
      exact zt_throw (mc := 0) (ms := 0) (by decide)
    · rw [if_neg c5] at H
      refine zt_iload_n (pc := 21) 4 dX11_at_21 rfl rfl ?_
      refine zt_iconst (pc := 22) (x := 0) dX11_at_22 zc_iconst_0 ?_
      refine zt_aload (pc := 23) 0 dX11_at_23 rfl ?_
      obtain ⟨z6, H⟩ := zifE H
      obtain ⟨q7, eq7, H⟩ := zbind H
      refine zt_callV (pc := 25) (mc := 1) (ms := 6) (d' := 0) (mc' := 0) (ms' := 0) (rest := [.int 0, .int v3]) [] dX11_at_25 md_X6_end ml_X11_138 im_X6_end se_X6_end rfl z6 rfl rfl (Nat.le_of_ble_eq_true rfl) (by omega) (k_X6_end eq7) ?_
      refine zt_callS (pc := 28) (mc := 1) (ms := 6) (d' := 0) (mc' := 0) (ms' := 0) (rest := []) [.int v3, .int 0, .int q7] dX11_at_28 md_X11_within ml_X11_82 sm_X11_within rfl rfl (Nat.le_of_ble_eq_true rfl) (by omega) (k_X11_within v3 0 q7 h _ rfl) ?_
      refine zt_if_ne (pc := 31) 44 dX11_at_31 (by decide) (fun c8 => ?_) (fun c8 => ?_)
      · rw [if_neg c8] at H
        cases H
      · rw [if_pos c8] at H
        cases H
        exact zt_throw (mc := 0) (ms := 0) (by decide)
/-! caught: the method's table has one row, which takes it -/
section ZCT
variable {p : Program} {l : Launch} {e : Env} {R : Room} {s : State} {m : MethodId} {args : Array Value} {below : List Frame} {meth : Method} {c : Code} {H : Heap} {locs : List Loc} {cells slots : Nat} {Q : State → Prop} {pc : Nat} {ls : Array Slot} {rest : List Value}
theorem zx_search {S : State} {g : JFrame} {q : Addr} {ce : Cell} {k : ClassId} (x : ExceptionTableEntry) (hm : S.vm.method? g.method = some meth) (hc : meth.code = some c) (ht : c.exceptionTable.toList = [x]) (hx : covers x g.pc = true) (h0 : x.catchType ≠ 0)
    (hl : S.vm.ClassLinks e.platform g.method.cls x.catchType k) (hcell : S.heap[q]? = some ce) (hv : ce.vm.isStatics = false) (h1 : ∃ k9, S.vm.classes[ce.cls]? = some k9) (h2 : ∃ k9, S.vm.classes[k]? = some k9) (hf : S.vm.assignable ce.cls k = true)
    (P : Handler → Pre) (E : CtlPost) (d : Bool) (acts : List Action) : wp (findHandler g q) P E e d acts S ↔ P (.found x.handlerPc) d acts (S.setVm (S.vm.noted g.method.cls x.catchType (.cls k))) := by
  have hal : S.vm.Alike (S.vm.noted g.method.cls x.catchType (.cls k)) := (Vm.Alike.refl S.vm).noted _ _ _
  obtain ⟨w1, w2⟩ := (resolveClass_links e.toSetting hl).op (op := VmOp.resolveClass g.method.cls x.catchType) rfl
  obtain ⟨k1, e1⟩ := h1
  obtain ⟨k2, e2⟩ := h2
  obtain ⟨k3, e3, -⟩ := hal.2.2 _ _ e1
  obtain ⟨k4, e4, -⟩ := hal.2.2 _ _ e2
  have hf' : (S.vm.noted g.method.cls x.catchType (.cls k)).assignable ce.cls k = true := by rw [hal.assignable]; exact hf
  have hob := VmData.ne_statics_of hv
  rw [W.findHandler_eq hm hc, ht]
  simp only [covers] at hx
  simp [findHandler.go, hx, h0, w1, w2, hcell, hob, e3, e4, hf', VmOp.dirties, VmOp.acts]
theorem zx_catch {own E : String} {ce : Cell} {q : Addr} (x : ExceptionTableEntry) (hown : s.vm.findClass own = some m.cls) (ht : c.exceptionTable.toList = [x]) (hx : covers x pc = true) (h0 : x.catchType ≠ 0)
    (hlink : (Cond.classLink own x.catchType E).before args s = true) (hcast : (Cond.castable E E).before args s = true) (hcell : H[q]? = some ce) (hv : ce.vm = .none) (hcl : s.vm.findClass E = some ce.cls)
    (kk : W p l e R s m args below meth c H locs cells slots Q (F0 m x.handlerPc ls [.ref q])) : vx_W p l e R s m args below meth c H locs cells slots Q (F0 m pc ls rest) q := by
  intro T hT X
  have hpl : e.platform.magicAccessors = ({} : Platform).magicAccessors := by rw [X.admits.platform]
  obtain ⟨c3, c4, hc3, hc4, hasg⟩ := Cond.castable_spec hcast
  cases Option.some.inj (hc3.symm.trans hcl)
  cases Option.some.inj (hc4.symm.trans hcl)
  obtain ⟨c5, hc5, hcl5⟩ := Cond.classLink_spec hown hlink e.platform hpl
  cases Option.some.inj (hc5.symm.trans hcl)
  obtain ⟨dk, _, _, kt, hd, _, _, _, _, hkt, _, hopen⟩ := hcl5.here
  have hal := X.warmed.alike
  obtain ⟨kt', hkt', -⟩ := hal.2.2 _ _ hkt
  have hW' : s.WarmedH (T.vm.noted m.cls x.catchType (.cls ce.cls)) := X.warmed.noted hd hopen (State.rightAt_cls hcl5)
  obtain ⟨t, a1, b1⟩ := kk (T.setVm (T.vm.noted m.cls x.catchType (.cls ce.cls))) hT (X.noted hW')
  refine ⟨t, ?_, b1⟩
  have hfind := zx_search (e := e) (S := (T.setTop (F0 m pc ls rest)).pushFrame (.throwing q)) (g := F0 m pc ls rest) (q := q) (ce := ce) (k := ce.cls) (meth := meth) (c := c) x X.method' X.code ht hx h0 (X.warmed.classLinks hcl5) (by show T.heap[q]? = some ce; rw [hT]; exact hcell) (by rw [hv]; rfl) ⟨kt', hkt'⟩ ⟨kt', hkt'⟩ (by show T.vm.assignable ce.cls ce.cls = true; rw [hal.assignable]; exact hasg)
  obtain ⟨hgo, hw⟩ := At.throwing (g := F0 m pc ls rest) X.here q
  refine Steps.head hgo hw ?_
  have hstep : (stepThrowing e ((T.setTop (F0 m pc ls rest)).pushFrame (.throwing q)) q (.java (F0 m pc ls rest) :: T.frames.tail)).Is ((((T.setTop (F0 m pc ls rest)).pushFrame (.throwing q)).setVm (T.vm.noted m.cls x.catchType (.cls ce.cls))).setFrames (.java { F0 m pc ls rest with pc := x.handlerPc, stack := [.ref q] } :: T.frames.tail)) [] := by
    simp only [stepThrowing, searchFrame, vmDo]
    generalize hr : Sem.go _ e false [] ((T.setTop (F0 m pc ls rest)).pushFrame (.throwing q)) = res
    obtain ⟨as, rfl, ha⟩ := Sem.eq_ok_of hr (a := Handler.found x.handlerPc) (s' := ((T.setTop (F0 m pc ls rest)).pushFrame (.throwing q)).setVm (T.vm.noted m.cls x.catchType (.cls ce.cls))) (acts' := []) (by simp [hfind _ _ _ _]; rfl)
    exact ⟨rfl, ha⟩
  rw [stepThread_throwing (frames_entered X.here.top _), hstep.1]
  obtain ⟨g₀, hg⟩ := Option.isSome_iff_exists.mp X.here.top
  obtain ⟨r, hr⟩ := State.topJava?_eq_some.mp hg
  have hr' : (T.setVm (T.vm.noted m.cls x.catchType (.cls ce.cls))).frames = .java g₀ :: r := hr
  rw [State.setTop_of_frames _ hr'] at a1
  have key : (((T.setTop (F0 m pc ls rest)).pushFrame (.throwing q)).setVm (T.vm.noted m.cls x.catchType (.cls ce.cls))).setFrames (.java { F0 m pc ls rest with pc := x.handlerPc, stack := [.ref q] } :: T.frames.tail) = (T.setVm (T.vm.noted m.cls x.catchType (.cls ce.cls))).setFrames (.java (F0 m x.handlerPc ls [.ref q]) :: r) := by
    rw [hr, List.tail_cons, State.setTop_of_frames _ hr]
    show (((T.setVm _).setFrames _).setFrames _).setFrames _ = _
    rw [State.setFrames_setFrames, State.setFrames_setFrames]
    rfl
  rw [key]
  exact a1
end ZCT
