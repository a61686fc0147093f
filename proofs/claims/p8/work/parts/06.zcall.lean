section ZN
variable {y : MethodName} {cc : ByteArray} {nL : Nat} {ret : Option FieldType} {d mc ms pc : Nat} {lv : List (Nat × Value)} {st : List Value} {h : zH} {v : Option Value} {h' : zH}
theorem z_new {ci idx N : Nat} {C9 : String} {T : u_T} {ty0 : Nat → FieldType} (fs : List Value) (hd : decode cc pc = .ok (.new idx, 3)) (hc : zCl ci C9 T N ty0) (hl1 : Cond.classLink y.cls idx C9 ∈ zB) (hl2 : Cond.instantiable C9 N ∈ zB) (hl3 : Cond.initialized C9 ∈ zB) (hfs : ∀ j, j < N → defaultValue (ty0 j) = vp_V fs j)
    (kk : zW y cc nL ret d mc ms (pc + 3) lv (.ref h.1.1 :: st) (znew h (.inr (ci, fs))) v h') : zW y cc nL ret d (mc + 1) (ms + N) pc lv st h v h' := by
  obtain ⟨hc, hw, hty, hnm⟩ := hc
  intro G p l e R s m args below meth c H locs cells slots ls C hR hS hl h1 h2 h3 h4
  have hts := C.2.2.2.2.1
  have hKn := C.2.2.2.2.2.2.2.2.1.1 ci _ hc
  refine W.newcK C.1 C.2.1 C.2.2.2.1 (hts _ hl1) (hts _ hl2) (hts _ hl3) rfl hd (by omega) (by omega) hKn.2.1 hR.1 fun H1 kC hkC e1 z1 o1 => ?_
  rw [← hR.1] at e1 z1 o1
  refine kk G p l e R s m args below meth c H1 locs (cells + 1) (slots + N) ls C (hR.push z1 o1 ?_) ⟨Nat.le_trans hS.1 (by omega), fun x q1 q2 => (o1 x (Nat.lt_of_lt_of_le q1 hS.1)).trans (hS.2.1 x q1 q2), hS.2.2⟩ hl h1 h2 (by omega) (by omega)
  exact ⟨_, hc, (u_born ty0 hts hw hKn hkC e1 hty).to hfs⟩
def zaty (t : Nat) : FieldType := match t with
  | 0 => .int
  | 1 => .long
  | 2 => .byte
  | _ => .boolean
theorem zwr_blank {t N : Nat} (h : t < 6) : zwr (zblank t N) := by
  unfold zblank
  split
  · exact h
  · split <;> exact h
theorem z_newarray {atype : ArrayType} {n : Int32} {N : Nat} (t : Nat) (ht : t < 4) (hd : decode cc pc = .ok (.newarray atype, 2)) (hty : newarray.typeOf atype = zaty t) (hw : Cond.arrayClass (zaty t) ∈ zB) (h0 : ¬ n < 0) (hN : n.toNatClampNeg = N) (hb : N ≤ 60000000)
    (kk : zW y cc nL ret d mc ms (pc + 2) lv (.ref h.1.1 :: st) (znew h (zblank t N)) v h') : zW y cc nL ret d (mc + 1) (ms + N) pc lv (.int n :: st) h v h' := by
  intro G p l e R s m args below meth c H locs cells slots ls C hR hS hl h1 h2 h3 h4
  have hts := C.2.2.2.2.1
  have hK := C.2.2.2.2.2.2.2.2.1
  have hby : componentBytes (newarray.typeOf atype) ≤ 8 := by rw [hty]; match t, ht with
    | 0, _ => decide
    | 1, _ => decide
    | 2, _ => decide
    | 3, _ => decide
  refine va_newaK C.1 C.2.1 (by rw [hty]; exact hts _ hw) rfl hd rfl h0 hN (Nat.le_trans (Nat.mul_le_mul hb hby) (by decide)) (by omega) (by omega) hR.1 fun H1 cA e1 z1 o1 hAr hNm => ?_
  rw [hty] at e1 hAr hNm
  rw [← hR.1] at e1 z1 o1
  have hcA : cA = G.2.1 t := by
    have hh : (zT G.2.1)[t]? = some (G.2.1 t, zaty t) := by match t, ht with
      | 0, _ => rfl
      | 1, _ => rfl
      | 2, _ => rfl
      | 3, _ => rfl
    have h9 := (hK.2 t _ hh).2
    match t, ht, h9, hNm with
    | 0, _, h9, hNm => exact Option.some.inj (hNm.symm.trans h9)
    | 1, _, h9, hNm => exact Option.some.inj (hNm.symm.trans h9)
    | 2, _, h9, hNm => exact Option.some.inj (hNm.symm.trans h9)
    | 3, _, h9, hNm => exact Option.some.inj (hNm.symm.trans h9)
  subst hcA
  refine kk G p l e R s m args below meth c H1 locs (cells + 1) (slots + N) ls C (hR.push z1 o1 ?_ (zwr_blank (by omega))) ⟨Nat.le_trans hS.1 (by omega), fun x q1 q2 => (o1 x (Nat.lt_of_lt_of_le q1 hS.1)).trans (hS.2.1 x q1 q2), hS.2.2⟩ hl h1 h2 (by omega) (by omega)
  match t, ht, e1 with
  | 0, _, e1 => exact e1
  | 1, _, e1 => exact e1
  | 2, _, e1 => exact e1
  | 3, _, e1 => exact e1
theorem z_anewarray {C9 : String} {idx : Nat} {n : Int32} {N : Nat} (t : Nat) (ht : (t = 4 ∧ C9 = "WhoseStreet$Meeting") ∨ (t = 5 ∧ C9 = "WhoseStreet$Law")) (hd : decode cc pc = .ok (.anewarray idx, 3)) (hl1 : Cond.classLink y.cls idx C9 ∈ zB) (h0 : ¬ n < 0) (hN : n.toNatClampNeg = N) (hb : N ≤ 60000000)
    (kk : zW y cc nL ret d mc ms (pc + 3) lv (.ref h.1.1 :: st) (znew h (zblank t N)) v h') : zW y cc nL ret d (mc + 1) (ms + N) pc lv (.int n :: st) h v h' := by
  intro G p l e R s m args below meth c H locs cells slots ls C hR hS hl h1 h2 h3 h4
  have hts := C.2.2.2.2.1
  have hK := C.2.2.2.2.2.2.2.2.1
  have hX := C.2.2.2.2.2.2.2.2.2.1
  have hov : va_AO C9 s := by
    rcases ht with ⟨-, rfl⟩ | ⟨-, rfl⟩
    · exact hX.2.1
    · exact hX.2.2.1
  refine W.anew C.1 C.2.1 C.2.2.2.1 (hts _ hl1) (va_AO.use hov) rfl hd rfl h0 (by rw [hN]; omega) (by omega) (by rw [hN]; omega) fun cA kA comp f1 f2 f3 f4 => ?_
  rw [hN]
  generalize hH1 : H.push ({ cls := cA, slots := Array.replicate N .null, vm := .none } : Cell) = H1
  have z1 : H1.size = H.size + 1 := by rw [← hH1, Array.size_push]
  have e1 : H1[H.size]? = some (arrV cA N (fun _ => .null)) := by rw [← hH1, Array.getElem?_push_size, ← arrV_new]
  have o1 : ∀ q : Nat, q < H.size → H1[q]? = H[q]? := fun q hq => by rw [← hH1, Array.getElem?_push, if_neg (Nat.ne_of_lt hq)]
  have hcA : cA = G.2.1 t := by
    rcases ht with ⟨rfl, rfl⟩ | ⟨rfl, rfl⟩
    · obtain ⟨_, _, _, _, _, g⟩ := (hK.2 4 _ rfl).2
      exact Option.some.inj (f1.symm.trans g)
    · obtain ⟨_, _, _, _, _, g⟩ := (hK.2 5 _ rfl).2
      exact Option.some.inj (f1.symm.trans g)
  subst hcA
  rw [hR.1]
  refine kk G p l e R s m args below meth c H1 locs (cells + 1) (slots + N) ls C (hR.push z1 o1 ?_ (zwr_blank (by rcases ht with ⟨rfl, rfl⟩ | ⟨rfl, rfl⟩ <;> decide))) ⟨Nat.le_trans hS.1 (by omega), fun x q1 q2 => (o1 x (Nat.lt_of_lt_of_le q1 hS.1)).trans (hS.2.1 x q1 q2), hS.2.2⟩ hl h1 h2 (by omega) (by omega)
  rcases ht with ⟨rfl, rfl⟩ | ⟨rfl, rfl⟩ <;> exact e1
theorem z_brakes {idx : Nat} (hd : decode cc pc = .ok (.getstatic idx, 3)) (hl1 : Cond.fieldLink y.cls idx "WhoseStreet$Ride" "BRAKES" "[I" ∈ zB) (kk : zW y cc nL ret d mc ms (pc + 3) lv (.ref (h.1.2 0) :: st) h v h') : zW y cc nL ret d mc ms pc lv st h v h' := by
  intro G p l e R s m args below meth c H locs cells slots ls C hR hS hl h1 h2 h3 h4
  have hX := C.2.2.2.2.2.2.2.2.2.1
  refine va_gets C.1 C.2.1 (v := .ref (h.1.2 0)) (by rw [← hR.2.1]; exact hX.2.2.2.1) hS C.2.2.2.1 (C.2.2.2.2.1 _ hl1) (fun _ q => q) hd (kk G p l e R s m args below meth c H locs cells slots ls C hR hS hl h1 h2 h3 h4)
theorem z_objInit {a idx : Nat} (hd : decode cc pc = .ok (.invokespecial idx, 3)) (hl1 : Cond.methodLink y.cls idx objectInit ∈ zB) (hl2 : Cond.instanceMethod objectInit ∈ zB) (hl3 : Cond.code objectInit ⟨#[0xb1]⟩ 1 none ∈ zB) (hdd : 1 ≤ d) (hst : (st.map fun v => v.category).sum ≤ 8)
    (kk : zW y cc nL ret d mc ms (pc + 3) lv st h v h') : zW y cc nL ret d mc ms pc lv (.ref a :: st) h v h' := by
  intro G p l e R s m args below meth c H locs cells slots ls C hR hS hl h1 h2 h3 h4
  have hts := C.2.2.2.2.1
  refine W.objInit C.1 C.2.1 C.2.2.2.1 (hts _ hl1) (hts _ hl2) (hts _ hl3) rfl (by rw [C.2.2.1]; exact hl.1) rfl hd (by omega) (by show 2 * 0 + _ + 12 ≤ _; omega) ?_
  exact kk G p l e R s m args below meth c H locs cells slots ls C hR hS hl h1 h2 h3 h4
theorem z_mmax {idx : Nat} {x z : Int32} (hd : decode cc pc = .ok (.invokestatic idx, 3)) (hl1 : Cond.methodLink y.cls idx Lib.Math.max.name ∈ zB) (hl2 : Cond.static Lib.Math.max.name ∈ zB) (hl3 : Cond.initialized "java/lang/Math" ∈ zB) (hl4 : Cond.code Lib.Math.max.name Lib.Math.max.code 2 (some .int) ∈ zB) (hdd : 1 ≤ d) (hst : (st.map fun v => v.category).sum ≤ 8)
    (kk : zW y cc nL ret d mc ms (pc + 3) lv (.int (if x < z then z else x) :: st) h v h') : zW y cc nL ret d mc ms pc lv (.int z :: .int x :: st) h v h' := by
  intro G p l e R s m args below meth c H locs cells slots ls C hR hS hl h1 h2 h3 h4
  have hts := C.2.2.2.2.1
  refine va_mmax C.1 C.2.1 (by rw [C.2.2.1]; exact hl.1.symm) C.2.2.2.1 (hts _ hl1) (hts _ hl2) (hts _ hl3) (hts _ hl4) (by omega) (by omega) (by omega) (by omega) hd ?_
  exact kk G p l e R s m args below meth c H locs cells slots ls C hR hS hl h1 h2 h3 h4
/-! calls -/
theorem zPc_blind {G : zG} {av : List Value} {h : zH} : FrameBlind (zPc G av h) := fun a U g mk q => by
  obtain ⟨q0, q1, q2, q3⟩ := q
  exact ⟨q0, q1, va_K.moved (u := U) (U := U.calling g mk a) (Vm.Alike.refl U.vm) q2, zX.same (s := U) (U := U.calling g mk a) q3 rfl⟩
theorem zPc_pre {G : zG} {av : List Value} {h : zH} {s : State} {H : Heap} {locs : List Loc} (hR : zR G h H) (hK : zK G s) (hX : zX G s s.heap) (hS : va_S (fun q => G.2.2.1 ≤ q) s.heap H locs) : ∀ U : State, U.heap = H → s.WarmedH U.vm → zPc G av h av.toArray U := fun U hU hW =>
  ⟨rfl, by rw [hU]; exact hR, va_K.moved hW.alike hK, hX.moved hW (by rw [hU]; exact fun a q1 q2 => hS.2.1 a q1 q2)⟩
/-- behind a call -/
theorem zgo {G : zG} {p : Program} {l : Launch} {e : Env} {R : Room} {s : State} {m : MethodId} {args a : Array Value} {below : List Frame} {meth : Method} {c : Code} {H : Heap} {locs : List Loc} {cells slots mc' ms' : Nat} {ls : Array Slot} {st0 rest : List Value} {v1 : Option Value} {h1 : zH} {Q : State → Prop}
    (hr : va_Run p l e R s m args below meth c H locs cells slots mc' ms' (F0 m pc ls st0) rest (zQ G v1 h1 a) (fun q => G.2.2.1 ≤ q)) (hS : va_S (fun q => G.2.2.1 ≤ q) s.heap H locs)
    (kk : ∀ (H1 : Heap) (locs1 : List Loc), zR G h1 H1 → va_S (fun q => G.2.2.1 ≤ q) s.heap H1 locs1 → W p l e R s m args below meth c H1 locs1 (cells + mc') (slots + ms') Q (F0 m (pc + 3) ls (v1.toList ++ rest))) : W p l e R s m args below meth c H locs cells slots Q (F0 m pc ls st0) := by
  intro T hT X
  obtain ⟨v2, st₀, t, T', L, g0, X', hL, e1, e2, ⟨hv, hR1, hz, hk⟩, st9⟩ := hr T hT X
  cases hv
  rw [g0] at hz hk
  obtain ⟨t2, a1, b1⟩ := kk T'.heap (locs ++ L) (by rw [e1]; exact hR1) ⟨Nat.le_trans hS.1 (by rw [e1]; exact hz), fun q q1 q2 => by rw [e1, hk q (Nat.lt_of_lt_of_le q1 hS.1) q2]; exact hS.2.1 q q1 q2, fun q hq => (List.mem_append.mp hq).elim (hS.2.2 q) (hL q)⟩ T' rfl X'
  exact ⟨t2, st9 t2 a1, b1⟩
/-- what a call of x needs of the tables: the code's word is there; x's class initialised; so many arguments -/
def zMd (x : MethodName) (cx : ByteArray) (nX n : Nat) (rx : Option FieldType) : Prop := Cond.code x cx nX rx ∈ zB ∧ Cond.initialized x.cls ∈ zB ∧ x.cls ≠ "java/lang/invoke/MethodHandle" ∧ x.cls ≠ "java/lang/invoke/VarHandle" ∧ (parseMethodDescriptor x.desc).map (fun d => d.parameters.length) = some n ∧ nX ≤ 21
theorem z_callS {x : MethodName} {cx : ByteArray} {nX n idx : Nat} {rx : Option FieldType} (As : List Value) {rest : List Value} {d' mc' ms' : Nat} {v1 : Option Value} {h1 : zH} (hd : decode cc pc = .ok (.invokestatic idx, 3)) (hm : zMd x cx nX n rx) (hl1 : Cond.methodLink y.cls idx x ∈ zB) (hl2 : Cond.static x ∈ zB) (hn : As.length = n) (hst : st = As.reverse ++ rest) (hrs : (rest.map fun v => v.category).sum ≤ 8) (hdd : d' + 1 ≤ d) (K : zOk d' mc' ms' x cx nX rx As h v1 h1)
    (kk : zW y cc nL ret d mc ms (pc + 3) lv (v1.toList ++ rest) h1 v h') : zW y cc nL ret d (mc + mc') (ms + ms') pc lv st h v h' := by
  subst hst
  obtain ⟨hcd, hini, hy1, hy2, hpar, hnX⟩ := hm
  intro G p l e R s m args below meth c H locs cells slots ls C hR hS hl g1 g2 g3 g4
  have hts := C.2.2.2.2.1
  have hcb : CallB R s args y.cls idx x cx nX rx (zws x cx nX rx) { frames := d', cells := mc', slots := ms', locals := 40 * d' } mc' ms' n := callB_of (ret := rx) n hts (zws_in hcd) rfl rfl rfl (hts _ hini) (hts _ hl1) ⟨hy1, hy2, hpar⟩ ⟨by show d' + 1 ≤ _; omega, by show 8 + (nX + 11) + 40 * d' ≤ _; omega⟩
  refine zgo (va_runS (As := As) (rest := rest) (free := fun q => G.2.2.1 ≤ q) ⟨C.1, C.2.1, C.2.2.1, C.2.2.2.1, hts⟩ (K l G d' (40 * d') C.2.2.2.2.2.2.2.2.2.2.2 (Nat.le_refl _) (Nat.le_refl _)) ⟨hcb, hts _ hl2⟩ ⟨zPc_blind, zPc_pre hR C.2.2.2.2.2.2.2.2.1 C.2.2.2.2.2.2.2.2.2.1 hS⟩ rfl hn hl.1 rfl (lv_room hrs) hd ⟨by omega, by omega⟩) hS (fun H1 locs1 hR1 hS1 => ?_)
  exact kk G p l e R s m args below meth c H1 locs1 (cells + mc') (slots + ms') ls C hR1 hS1 hl g1 g2 (by omega) (by omega)
theorem z_callSN {x : MethodName} {cx : ByteArray} {nX n idx : Nat} {rx : Option FieldType} {host : String} (As : List Value) {rest : List Value} {d' mc' ms' : Nat} {v1 : Option Value} {h1 : zH} (hd : decode cc pc = .ok (.invokestatic idx, 3)) (hm : zMd x cx nX n rx) (hl1 : (y.cls, idx, x, host) ∈ zNs) (hl2 : Cond.static x ∈ zB) (hn : As.length = n) (hst : st = As.reverse ++ rest) (hrs : (rest.map fun v => v.category).sum ≤ 8) (hdd : d' + 1 ≤ d) (K : zOk d' mc' ms' x cx nX rx As h v1 h1)
    (kk : zW y cc nL ret d mc ms (pc + 3) lv (v1.toList ++ rest) h1 v h') : zW y cc nL ret d (mc + mc') (ms + ms') pc lv st h v h' := by
  subst hst
  obtain ⟨hcd, hini, hy1, hy2, hpar, hnX⟩ := hm
  intro G p l e R s m args below meth c H locs cells slots ls C hR hS hl g1 g2 g3 g4
  have hts := C.2.2.2.2.1
  have hcb : va_CN R s args y.cls idx x host cx nX rx (zws x cx nX rx) { frames := d', cells := mc', slots := ms', locals := 40 * d' } mc' ms' n := va_cnB (ret := rx) n hts (zws_in hcd) rfl rfl rfl (C.2.2.2.2.2.2.2.2.2.1.1 _ hl1) (hts _ hini) ⟨hy1, hy2, hpar⟩ ⟨by show d' + 1 ≤ _; omega, by show 8 + (nX + 11) + 40 * d' ≤ _; omega⟩
  refine zgo (va_runSN (As := As) (rest := rest) (free := fun q => G.2.2.1 ≤ q) ⟨C.1, C.2.1, C.2.2.1, C.2.2.2.1, hts⟩ (K l G d' (40 * d') C.2.2.2.2.2.2.2.2.2.2.2 (Nat.le_refl _) (Nat.le_refl _)) ⟨hcb, hts _ hl2, trivial⟩ ⟨zPc_blind, zPc_pre hR C.2.2.2.2.2.2.2.2.1 C.2.2.2.2.2.2.2.2.2.1 hS⟩ rfl hn hl.1 rfl (lv_room hrs) hd ⟨by omega, by omega⟩) hS (fun H1 locs1 hR1 hS1 => ?_)
  exact kk G p l e R s m args below meth c H1 locs1 (cells + mc') (slots + ms') ls C hR1 hS1 hl g1 g2 (by omega) (by omega)
theorem z_callV {x : MethodName} {cx : ByteArray} {nX n idx ci : Nat} {rx : Option FieldType} (As : List Value) {rest : List Value} {d' mc' ms' b : Nat} {v1 : Option Value} {h1 : zH} {T : u_T} {N : Nat} (hd : decode cc pc = .ok (.invokevirtual idx, 3)) (hm : zMd x cx nX n rx) (hl1 : Cond.methodLink y.cls idx x ∈ zB) (hl2 : Cond.instanceMethod x ∈ zB) (hl3 : Cond.selects x.cls x x ∈ zB) (hcl : vwCl[ci]? = some (x.cls, T, N)) (hob : zob h b ci = true) (hn : As.length = n) (hst : st = As.reverse ++ .ref b :: rest) (hrs : (rest.map fun v => v.category).sum ≤ 8) (hdd : d' + 1 ≤ d) (K : zOk d' mc' ms' x cx nX rx (.ref b :: As) h v1 h1)
    (kk : zW y cc nL ret d mc ms (pc + 3) lv (v1.toList ++ rest) h1 v h') : zW y cc nL ret d (mc + mc') (ms + ms') pc lv st h v h' := by
  subst hst
  obtain ⟨hcd, hini, hy1, hy2, hpar, hnX⟩ := hm
  obtain ⟨fs, hob⟩ := zob_spec hob
  intro G p l e R s m args below meth c H locs cells slots ls C hR hS hl g1 g2 g3 g4
  have hts := C.2.2.2.2.1
  have hcb : CallB R s args y.cls idx x cx nX rx (zws x cx nX rx) { frames := d', cells := mc', slots := ms', locals := 40 * d' } mc' ms' n := callB_of (ret := rx) n hts (zws_in hcd) rfl rfl rfl (hts _ hini) (hts _ hl1) ⟨hy1, hy2, hpar⟩ ⟨by show d' + 1 ≤ _; omega, by show 8 + (nX + 11) + 40 * d' ≤ _; omega⟩
  have hrv := va_recv C.2.2.2.2.2.2.2.2.1 (hR.one hob) hcl (q0 := 0) rfl
  refine zgo (va_runV (As := As) (rest := rest) (free := fun q => G.2.2.1 ≤ q) ⟨C.1, C.2.1, C.2.2.1, C.2.2.2.1, hts⟩ (K l G d' (40 * d') C.2.2.2.2.2.2.2.2.2.2.2 (Nat.le_refl _) (Nat.le_refl _)) ⟨hcb, hts _ hl2, hts _ hl3⟩ ⟨zPc_blind, hrv, zPc_pre hR C.2.2.2.2.2.2.2.2.1 C.2.2.2.2.2.2.2.2.2.1 hS⟩ rfl hn hl.1 rfl (lv_room hrs) hd ⟨by omega, by omega⟩) hS (fun H1 locs1 hR1 hS1 => ?_)
  exact kk G p l e R s m args below meth c H1 locs1 (cells + mc') (slots + ms') ls C hR1 hS1 hl g1 g2 (by omega) (by omega)
theorem z_callI {x : MethodName} {cx : ByteArray} {nX n idx : Nat} (As : List Value) {rest : List Value} {d' mc' ms' b : Nat} {h1 : zH} (hd : decode cc pc = .ok (.invokespecial idx, 3)) (hm : zMd x cx nX n none) (hl1 : Cond.methodLink y.cls idx x ∈ zB) (hl2 : Cond.instanceMethod x ∈ zB) (hnm : x.name = "<init>") (hn : As.length = n) (hst : st = As.reverse ++ .ref b :: rest) (hrs : (rest.map fun v => v.category).sum ≤ 8) (hdd : d' + 1 ≤ d) (K : zOk d' mc' ms' x cx nX none (.ref b :: As) h none h1)
    (kk : zW y cc nL ret d mc ms (pc + 3) lv rest h1 v h') : zW y cc nL ret d (mc + mc') (ms + ms') pc lv st h v h' := by
  subst hst
  obtain ⟨hcd, hini, hy1, hy2, hpar, hnX⟩ := hm
  intro G p l e R s m args below meth c H locs cells slots ls C hR hS hl g1 g2 g3 g4
  have hts := C.2.2.2.2.1
  have hcb : CallB R s args y.cls idx x cx nX none (zws x cx nX none) { frames := d', cells := mc', slots := ms', locals := 40 * d' } mc' ms' n := callB_of (ret := none) n hts (zws_in hcd) rfl rfl rfl (hts _ hini) (hts _ hl1) ⟨hy1, hy2, hpar⟩ ⟨by show d' + 1 ≤ _; omega, by show 8 + (nX + 11) + 40 * d' ≤ _; omega⟩
  refine zgo (va_runI (As := As) (b := b) (rest := rest) (free := fun q => G.2.2.1 ≤ q) ⟨C.1, C.2.1, C.2.2.1, C.2.2.2.1, hts⟩ (K l G d' (40 * d') C.2.2.2.2.2.2.2.2.2.2.2 (Nat.le_refl _) (Nat.le_refl _)) ⟨hcb, hnm, hts _ hl2⟩ ⟨zPc_blind, zPc_pre hR C.2.2.2.2.2.2.2.2.1 C.2.2.2.2.2.2.2.2.2.1 hS⟩ rfl hn hl.1 rfl (lv_room hrs) hd ⟨by omega, by omega⟩) hS (fun H1 locs1 hR1 hS1 => ?_)
  exact kk G p l e R s m args below meth c H1 locs1 (cells + mc') (slots + ms') ls C hR1 hS1 hl g1 g2 (by omega) (by omega)
theorem z_callIN {x : MethodName} {cx : ByteArray} {nX n idx : Nat} {host : String} (As : List Value) {rest : List Value} {d' mc' ms' b : Nat} {h1 : zH} (hd : decode cc pc = .ok (.invokespecial idx, 3)) (hm : zMd x cx nX n none) (hl1 : (y.cls, idx, x, host) ∈ zNs) (hl2 : Cond.instanceMethod x ∈ zB) (hnm : x.name = "<init>") (hn : As.length = n) (hst : st = As.reverse ++ .ref b :: rest) (hrs : (rest.map fun v => v.category).sum ≤ 8) (hdd : d' + 1 ≤ d) (K : zOk d' mc' ms' x cx nX none (.ref b :: As) h none h1)
    (kk : zW y cc nL ret d mc ms (pc + 3) lv rest h1 v h') : zW y cc nL ret d (mc + mc') (ms + ms') pc lv st h v h' := by
  subst hst
  obtain ⟨hcd, hini, hy1, hy2, hpar, hnX⟩ := hm
  intro G p l e R s m args below meth c H locs cells slots ls C hR hS hl g1 g2 g3 g4
  have hts := C.2.2.2.2.1
  have hcb : va_CN R s args y.cls idx x host cx nX none (zws x cx nX none) { frames := d', cells := mc', slots := ms', locals := 40 * d' } mc' ms' n := va_cnB (ret := none) n hts (zws_in hcd) rfl rfl rfl (C.2.2.2.2.2.2.2.2.2.1.1 _ hl1) (hts _ hini) ⟨hy1, hy2, hpar⟩ ⟨by show d' + 1 ≤ _; omega, by show 8 + (nX + 11) + 40 * d' ≤ _; omega⟩
  refine zgo (va_runIN (As := As) (b := b) (rest := rest) (free := fun q => G.2.2.1 ≤ q) ⟨C.1, C.2.1, C.2.2.1, C.2.2.2.1, hts⟩ (K l G d' (40 * d') C.2.2.2.2.2.2.2.2.2.2.2 (Nat.le_refl _) (Nat.le_refl _)) ⟨hcb, hnm, hts _ hl2⟩ ⟨zPc_blind, zPc_pre hR C.2.2.2.2.2.2.2.2.1 C.2.2.2.2.2.2.2.2.2.1 hS⟩ rfl hn hl.1 rfl (lv_room hrs) hd ⟨by omega, by omega⟩) hS (fun H1 locs1 hR1 hS1 => ?_)
  exact kk G p l e R s m args below meth c H1 locs1 (cells + mc') (slots + ms') ls C hR1 hS1 hl g1 g2 (by omega) (by omega)
end ZN
