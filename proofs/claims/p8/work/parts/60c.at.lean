theorem md_X11_at : zMd yX11_at cX11_at 5 3 (some .int) := ⟨zmw (zmt_5 _ (List.mem_of_getElem? (i := 196) rfl)) rfl, zmem 112 (by decide +kernel) rfl, by decide, by decide, by decide +kernel, by decide⟩
theorem ml_L_7 : Cond.methodLink RL 7 yX11_at ∈ zB := zmem 1264 (by decide +kernel) rfl
theorem im_X11_at : Cond.instanceMethod yX11_at ∈ zB := zmem 1265 (by decide +kernel) rfl
theorem se_X11_at : Cond.selects yX11_at.cls yX11_at yX11_at ∈ zB := zmem 1266 (by decide +kernel) rfl
theorem ck_L_13 : Cond.classLink "WhoseStreetLaw" 13 "java/util/NoSuchElementException" ∈ zB := zmem 1263 (by decide +kernel) rfl
theorem ml_L_44 : Cond.methodLink RL 44 yL_at ∈ zB := zmem 1260 (by decide +kernel) rfl
theorem sm_L_at : Cond.static yL_at ∈ zB := zmem 1261 (by decide +kernel) rfl
theorem cw_L_at : Cond.codeWith yL_at cL_at 6 (some .int) [(0, 12, 15, 13)] ∈ zB := zmw (zmt_5 _ (List.mem_of_getElem? (i := 191) rfl)) rfl
theorem in_L : Cond.initialized "WhoseStreetLaw" ∈ zB := zmem 111 (by decide +kernel) rfl
def zwsA : List Cond := Cond.codeWith yL_at cL_at 6 (some .int) [(0, 12, 15, 13)] :: zB
theorem zwsA_in : GoodIn zB (va_wsS RL 44 yL_at zwsA) := fun w hw => by
  have hm : w ∈ zB := by
    unfold va_wsS at hw
    rcases List.mem_append.mp hw with h | h
    · simp only [List.mem_cons, List.not_mem_nil, or_false] at h
      rcases h with rfl | rfl | rfl
      · first | exact ml_L_44 | exact sm_L_at | exact in_L
      · first | exact ml_L_44 | exact sm_L_at | exact in_L
      · first | exact ml_L_44 | exact sm_L_at | exact in_L
    · rcases List.mem_cons.mp h with rfl | h
      · exact cw_L_at
      · exact h
  exact ⟨hm, zB_good hm⟩
/-- WhoseStreet.at where it throws, as a contract -/
theorem kx_X11_at {N v0 : Nat} {v1 v2 v3 : Int32} {h : zH} {v : Option Value} {h' : zH} (H : t_X11_at N v0 v1 v2 v3 h = some true) (l : Launch) (G : zG) (hst : l.stackTraces = false) :
    vx_Met l yX11_at (zws yX11_at cX11_at 5 (some .int)) { frames := 7, cells := 1, slots := 6, locals := 280 } (zPc G [.ref v0, .int v1, .int v2, .int v3] h) (zQ G v h') (zXC G h) 1 6 (fun q => G.2.2.1 ≤ q) := by
  refine vx_ofW (cc := cX11_at) (maxL := 5) (ret := some .int) (by decide) rfl ?_
  intro p e s m args below meth c s₁ B hml hex hv
  obtain ⟨rfl, hR, hK, hX⟩ := hv
  have hts := atoms_spec (ws := zws yX11_at cX11_at 5 (some .int)) B.pre
  have hown : s.vm.findClass yX11_at.cls = some m.cls := findClass_of_methodNamed B.named
  have hin : meth.name = yX11_at.name := (name_of_methodNamed B.named B.method).1
  have hl := lv_entry [.ref v0, .int v1, .int v2, .int v3] (n := 5) (Nat.le_of_ble_eq_true rfl)
  rw [lg_entry_eq]
  exact kt_X11_at H G p l e _ s m _ below meth c s.heap [] 0 0 _ hex ⟨B.exec, B.bytes, hml, hown, fun w hw => hts w (List.mem_cons_of_mem _ hw), B.returns, B.notSynchronized, hin, hK, hX, hR.2.2.1, hst⟩ hR va_S.rf hl (Nat.le_refl _) (Nat.le_refl _) (by show 0 + 1 ≤ 1; omega) (by show 0 + 6 ≤ 6; omega)
set_option maxHeartbeats 4000000 in
/-- WhoseStreetLaw.at where the class throws: 1, and one cell more -/
theorem kx_L_at {N v0 v5 : Nat} {v1 v2 v3 : Int32} {h : zH} (H : t_X11_at N v0 v1 v2 v3 h = some true) (hz : zob h v0 11 = true) (l : Launch) (G : zG) (hst : l.stackTraces = false) :
    Met l yL_at zwsA { frames := 8, cells := 1, slots := 6, locals := 320 } (zPc G [.ref v0, .int v1, .int v2, .int v3, .ref v5] h) (zQ G (some (.int 1)) (zpush h)) 1 6 (fun q => G.2.2.1 ≤ q) := by
  refine va_MetW (cc := cL_at) (maxL := 6) (ret := some .int) (hh := [(0, 12, 15, 13)]) (by decide) rfl ?_
  intro p e s m args below meth c s₁ B hml hv
  obtain ⟨rfl, hR, hK, hX⟩ := hv
  have hts0 := atoms_spec (ws := zwsA) B.pre
  have hts : ∀ w ∈ zB, w.before _ s = true := fun w hw => hts0 w (List.mem_cons_of_mem _ hw)
  have htab := vx_table (x := yL_at) B (hts0 _ List.mem_cons_self)
  have hown : s.vm.findClass yL_at.cls = some m.cls := findClass_of_methodNamed B.named
  have hl := lv_entry [.ref v0, .int v1, .int v2, .int v3, .ref v5] (n := 6) (Nat.le_of_ble_eq_true rfl)
  rw [lg_entry_eq]
  generalize (lg_sl [Value.ref v0, .int v1, .int v2, .int v3, .ref v5] ++ List.replicate (6 - (lg_sl [Value.ref v0, .int v1, .int v2, .int v3, .ref v5]).length) Slot.unset).toArray = ls at hl ⊢
  refine lv_aload B.exec B.bytes dL_at_0 (lv_at hl 4 rfl) ?_
  refine lv_iconst B.exec B.bytes dL_at_2 zc_iconst_0 ?_
  refine lv_aload_n B.exec B.bytes dL_at_3 rfl (lv_at hl 0 rfl) ?_
  refine lv_iload_n B.exec B.bytes dL_at_4 rfl (lv_at hl 1 rfl) ?_
  refine lv_iload_n B.exec B.bytes dL_at_5 rfl (lv_at hl 2 rfl) ?_
  refine lv_iload_n B.exec B.bytes dL_at_6 rfl (lv_at hl 3 rfl) ?_
  obtain ⟨fs, hob⟩ := zob_spec hz
  have hrv := va_recv hK (hR.one hob) (rfl : vwCl[11]? = some _) (q0 := 0) rfl
  have hcb : CallB { frames := 8, cells := 1, slots := 6, locals := 320 } s _ RL 7 yX11_at cX11_at 5 (some .int) (zws yX11_at cX11_at 5 (some .int)) { frames := 7, cells := 1, slots := 6, locals := 280 } 1 6 3 := callB_of (ret := some .int) 3 hts (zws_in md_X11_at.1) rfl rfl rfl (hts _ md_X11_at.2.1) (hts _ ml_L_7) ⟨md_X11_at.2.2.1, md_X11_at.2.2.2.1, md_X11_at.2.2.2.2.1⟩ ⟨by decide, by decide⟩
  have hsm : v0 < s.heap.size := (hR.2.2.2 v0 _ hob).1.lt
  have hrun := vx_runV (p := p) (l := l) (e := e) (below := below) (meth := meth) (H := s.heap) (locs := []) (cells := 0) (slots := 0) (As := [.int v1, .int v2, .int v3]) (rest := [.int 0, .ref v5]) (free := fun q => G.2.2.1 ≤ q) (cc := cL_at) (nL := 6) (Ts := zB)
    ⟨B.exec, B.bytes, hml, hown, hts⟩ (kx_X11_at (v := none) (h' := ((0, h.1.2), h.2)) H l G hst) ⟨hcb, hts _ im_X11_at, hts _ se_X11_at⟩ ⟨zPc_blind, hrv, zPc_pre hR hK hX va_S.rf⟩ (g := F0 m 7 ls [.int v3, .int v2, .int v1, .ref v0, .int 0, .ref v5]) rfl rfl hl.1 rfl (lv_room (Nat.le_of_ble_eq_true rfl)) dL_at_7 ⟨by decide, by decide⟩
  intro T hT X
  rcases hrun T hT X with ⟨v, st₀, t, T', L, g0, X', hL, e1, e2, ⟨hv, hR1, hz1, hk1⟩, st⟩ | ⟨q, st₀, t, T', L, E, ce, g0, X', hL, e1, e2, ⟨hE, hR1, hz1, hk1⟩, hce, hcv, hcl, st⟩
  · exfalso
    have q1 : t.heap.size = 0 := hR1.1
    rw [g0] at hz1
    omega
  · subst hE
    rw [g0] at hz1 hk1
    have hR2 : zR G (zpush h) T'.heap := by rw [e1]; exact hR1
    have hS2 : va_S (fun q => G.2.2.1 ≤ q) s.heap T'.heap ([] ++ L) := ⟨by rw [e1]; exact hz1, fun q q1 q2 => by rw [e1]; exact hk1 q q1 q2, fun q hq => (List.mem_append.mp hq).elim (fun hn => nomatch hn) (hL q)⟩
    have kk : W p l e { frames := 8, cells := 1, slots := 6, locals := 320 } s m #[Value.ref v0, Value.int v1, Value.int v2, Value.int v3, Value.ref v5] below meth c T'.heap ([] ++ L) (0 + 1) (0 + 6) (MQ below (zQ G (some (.int 1)) (zpush h)) #[Value.ref v0, Value.int v1, Value.int v2, Value.int v3, Value.ref v5] s 1 6 (fun q => G.2.2.1 ≤ q)) (F0 m 15 ls [.ref q]) := by
      refine lv_astore B.exec B.bytes dL_at_15 hl (by decide) rfl (fun ls9 hl9 => ?_)
      refine lv_iconst B.exec B.bytes dL_at_17 zc_iconst_1 ?_
      exact W.iret B.exec B.bytes B.returns (fun t ht hW => ⟨rfl, by rw [ht]; exact hR2, hS2.F ht⟩) hS2.2.2 dL_at_18 (hlocks := B.notSynchronized)
    have hcast : (Cond.castable zNS zNS).before #[Value.ref v0, Value.int v1, Value.int v2, Value.int v3, Value.ref v5] s = true := va_Nw.use rfl hX.2.2.2.2.2.2.2.2.2.2.2.1
    obtain ⟨t2, a1, b1⟩ := zx_catch (own := "WhoseStreetLaw") (E := zNS) (pc := 7) (rest := [.int 0, .ref v5]) { startPc := 0, endPc := 12, handlerPc := 15, catchType := 13 } hown htab (by decide) (by decide) (hts _ ck_L_13) hcast (by rw [e1]; exact hce) hcv hcl kk T' rfl X'
    exact ⟨t2, st.trans a1, b1⟩
/-- the law's call of it -/
theorem z_callAt {d mc ms v0 v5 N : Nat} {v1 v2 v3 : Int32} {lv : List (Nat × Value)} {h : zH} {v : Option Value} {h' : zH} (hd : 9 ≤ d) (Ht : t_X11_at N v0 v1 v2 v3 h = some true) (hz : zob h v0 11 = true)
    (kk : zW yL_law cL_law 7 (some .boolean) d mc ms 448 lv [.int 1] (zpush h) v h') : zW yL_law cL_law 7 (some .boolean) d (mc + 1) (ms + 6) 445 lv [.ref v5, .int v3, .int v2, .int v1, .ref v0] h v h' := by
  intro G p l e R s m args below meth c H locs cells slots ls C hR hS hl g1 g2 g3 g4
  have hts := C.2.2.2.2.1
  have hcw : vx_CSW R s args RL 44 yL_at cL_at 6 (some .int) [(0, 12, 15, 13)] zwsA { frames := 8, cells := 1, slots := 6, locals := 320 } 1 6 5 := vx_cwSW 5 hts zwsA_in rfl rfl rfl ⟨by decide, by decide, by decide +kernel⟩ ⟨by show 8 + 1 ≤ _; omega, by show 8 + (6 + 11) + 320 ≤ _; omega⟩
  refine zgo (pc := 445) (vx_runSW (As := [.ref v0, .int v1, .int v2, .int v3, .ref v5]) (rest := []) (free := fun q => G.2.2.1 ≤ q) ⟨C.1, C.2.1, C.2.2.1, C.2.2.2.1, hts⟩ (kx_L_at Ht hz l G C.2.2.2.2.2.2.2.2.2.2.2) hcw ⟨zPc_blind, zPc_pre hR C.2.2.2.2.2.2.2.2.1 C.2.2.2.2.2.2.2.2.2.1 hS⟩ rfl rfl hl.1 rfl (lv_room (Nat.le_of_ble_eq_true rfl)) dL_law_445 ⟨by omega, by omega⟩) hS (fun H1 locs1 hR1 hS1 => ?_)
  exact kk G p l e R s m args below meth c H1 locs1 (cells + 1) (slots + 6) ls C hR1 hS1 hl g1 g2 (by omega) (by omega)
theorem md_X12_at : zMd yX12_at cX12_at 4 3 (some .int) := ⟨zmw (zmt_7 _ (List.mem_of_getElem? (i := 223) rfl)) rfl, zmem 127 (by decide +kernel) rfl, by decide, by decide, by decide +kernel, by decide⟩
theorem ml_L_49 : Cond.methodLink RL 49 yX12_at ∈ zB := zmem 1771 (by decide +kernel) rfl
theorem im_X12_at : Cond.instanceMethod yX12_at ∈ zB := zmem 1772 (by decide +kernel) rfl
theorem se_X12_at : Cond.selects yX12_at.cls yX12_at yX12_at ∈ zB := zmem 1773 (by decide +kernel) rfl
def c_L_5b (N v0 v2 : Nat) (v4 : Int32) (h : zH) : Option zH := (aI h v0 (v4 + 1)).bind fun x1 => (aI h v0 (v4 + 2)).bind fun x2 => (aI h v0 (v4 + 3)).bind fun x3 => zif (zob h v2 12) <| (f_X12_at N v2 x1 x2 x3 h).bind fun q5 => some q5.2
set_option maxRecDepth 100000 in
set_option maxHeartbeats 4000000 in
theorem kc_L_5b {N d mc ms v0 v1 v2 v3 : Nat} {v4 v5 : Int32} {h h2 : zH} {vv : Option Value} {hh : zH} (hd0 : 3 ≤ d) (H : c_L_5b N v0 v2 v4 h = some h2) (K : zW yL_law cL_law 7 (some .boolean) d mc ms 1470 [(0, .ref v0), (1, .ref v1), (2, .ref v2), (3, .ref v3), (4, .int v4)] [] h2 vv hh) : zW yL_law cL_law 7 (some .boolean) d mc ms 450 [(5, .int v5), (0, .ref v0), (1, .ref v1), (2, .ref v2), (3, .ref v3), (4, .int v4)] [] h vv hh := by
  unfold c_L_5b at H
  refine z_aload_n (pc := 450) 3 dL_law_450 rfl rfl ?_
  refine z_aload_n (pc := 451) 1 dL_law_451 rfl rfl ?_
  refine z_iload (pc := 452) 5 dL_law_452 rfl ?_
  refine z_iconst (pc := 454) (x := 1) dL_law_454 zc_iconst_1 ?_
  refine z_iadd (pc := 455) dL_law_455 ?_
  obtain ⟨x1, ex1, H⟩ := zbind H
  refine z_iaload (pc := 456) dL_law_456 ex1 ?_
  refine z_aload_n (pc := 457) 1 dL_law_457 rfl rfl ?_
  refine z_iload (pc := 458) 5 dL_law_458 rfl ?_
  refine z_iconst (pc := 460) (x := 2) dL_law_460 zc_iconst_2 ?_
  refine z_iadd (pc := 461) dL_law_461 ?_
  obtain ⟨x2, ex2, H⟩ := zbind H
  refine z_iaload (pc := 462) dL_law_462 ex2 ?_
  refine z_aload_n (pc := 463) 1 dL_law_463 rfl rfl ?_
  refine z_iload (pc := 464) 5 dL_law_464 rfl ?_
  refine z_iconst (pc := 466) (x := 3) dL_law_466 zc_iconst_3 ?_
  refine z_iadd (pc := 467) dL_law_467 ?_
  obtain ⟨x3, ex3, H⟩ := zbind H
  refine z_iaload (pc := 468) dL_law_468 ex3 ?_
  obtain ⟨z4, H⟩ := zifE H
  obtain ⟨q5, eq5, H⟩ := zbind H
  refine z_callV (pc := 469) (mc := mc) (ms := ms) (d' := 2) (mc' := 0) (ms' := 0) (rest := []) [.int x1, .int x2, .int x3] dL_law_469 md_X12_at ml_L_49 im_X12_at se_X12_at rfl z4 rfl rfl (Nat.le_of_ble_eq_true rfl) (by omega) (k_X12_at eq5) ?_
  refine z_istore (pc := 472) (lv' := [(6, .int q5.1), (5, .int v5), (0, .ref v0), (1, .ref v1), (2, .ref v2), (3, .ref v3), (4, .int v4)]) dL_law_472 (by decide) rfl ?_
  refine z_goto (pc := 474) 1470 dL_law_474 (by decide) ?_
  cases H
  exact z_mono (Nat.le_refl _) (by omega) (by omega) (z_sub [2, 3, 4, 5, 6] rfl K)
/-- WhoseStreetLaw.at where the class doesn't throw -/
theorem kz_L_at {N d mc ms v0 v5 : Nat} {v1 v2 v3 : Int32} {h h2 : zH} {q : Int32 × zH} (hd : 8 ≤ d) (H : f_X11_at N v0 v1 v2 v3 h = some q) (hz : zob h v0 11 = true) (hs : sL q.2 v5 0 q.1.toInt64 = some h2) : zW yL_at cL_at 6 (some .int) d mc ms 0 [(0, .ref v0), (1, .int v1), (2, .int v2), (3, .int v3), (4, .ref v5)] [] h (some (.int 0)) h2 := by
  refine z_aload (pc := 0) 4 dL_at_0 rfl ?_
  refine z_iconst (pc := 2) (x := 0) dL_at_2 zc_iconst_0 ?_
  refine z_aload_n (pc := 3) 0 dL_at_3 rfl rfl ?_
  refine z_iload_n (pc := 4) 1 dL_at_4 rfl rfl ?_
  refine z_iload_n (pc := 5) 2 dL_at_5 rfl rfl ?_
  refine z_iload_n (pc := 6) 3 dL_at_6 rfl rfl ?_
  refine z_callV (pc := 7) (mc := mc) (ms := ms) (d' := 4) (mc' := 0) (ms' := 0) (rest := [.int 0, .ref v5]) [.int v1, .int v2, .int v3] dL_at_7 md_X11_at ml_L_7 im_X11_at se_X11_at rfl hz rfl rfl (Nat.le_of_ble_eq_true rfl) (by omega) (k_X11_at H) ?_
  refine z_i2l (pc := 10) dL_at_10 ?_
  refine z_lastore (pc := 11) dL_at_11 hs ?_
  refine z_goto (pc := 12) 19 dL_at_12 (by decide) ?_
  refine z_iconst (pc := 19) (x := 0) dL_at_19 zc_iconst_0 ?_
  exact z_ireturn rfl dL_at_20
set_option maxHeartbeats 4000000 in
theorem ky_L_at {N v0 v5 : Nat} {v1 v2 v3 : Int32} {h h2 : zH} {q : Int32 × zH} (H : f_X11_at N v0 v1 v2 v3 h = some q) (hz : zob h v0 11 = true) (hs : sL q.2 v5 0 q.1.toInt64 = some h2) (l : Launch) (G : zG) (hst : l.stackTraces = false) :
    Met l yL_at zwsA { frames := 8, cells := 1, slots := 6, locals := 320 } (zPc G [.ref v0, .int v1, .int v2, .int v3, .ref v5] h) (zQ G (some (.int 0)) h2) 1 6 (fun q => G.2.2.1 ≤ q) := by
  refine va_MetW (cc := cL_at) (maxL := 6) (ret := some .int) (hh := [(0, 12, 15, 13)]) (by decide) rfl ?_
  intro p e s m args below meth c s₁ B hml hv
  obtain ⟨rfl, hR, hK, hX⟩ := hv
  have hts0 := atoms_spec (ws := zwsA) B.pre
  have hts : ∀ w ∈ zB, w.before _ s = true := fun w hw => hts0 w (List.mem_cons_of_mem _ hw)
  have hown : s.vm.findClass yL_at.cls = some m.cls := findClass_of_methodNamed B.named
  have hin : meth.name = yL_at.name := (name_of_methodNamed B.named B.method).1
  have hl := lv_entry [.ref v0, .int v1, .int v2, .int v3, .ref v5] (n := 6) (Nat.le_of_ble_eq_true rfl)
  rw [lg_entry_eq]
  exact kz_L_at (d := 8) (mc := 1) (ms := 6) (by omega) H hz hs G p l e _ s m _ below meth c s.heap [] 0 0 _ ⟨B.exec, B.bytes, hml, hown, hts, B.returns, B.notSynchronized, hin, hK, hX, hR.2.2.1, hst⟩ hR va_S.rf hl (by decide) (by decide) (by show 0 + 1 ≤ 1; omega) (by show 0 + 6 ≤ 6; omega)
theorem z_callAt0 {d mc ms v0 v5 N : Nat} {v1 v2 v3 : Int32} {lv : List (Nat × Value)} {h h2 : zH} {q : Int32 × zH} {v : Option Value} {h' : zH} (hd : 9 ≤ d) (H : f_X11_at N v0 v1 v2 v3 h = some q) (hz : zob h v0 11 = true) (hs : sL q.2 v5 0 q.1.toInt64 = some h2)
    (kk : zW yL_law cL_law 7 (some .boolean) d mc ms 448 lv [.int 0] h2 v h') : zW yL_law cL_law 7 (some .boolean) d (mc + 1) (ms + 6) 445 lv [.ref v5, .int v3, .int v2, .int v1, .ref v0] h v h' := by
  intro G p l e R s m args below meth c H1 locs cells slots ls C hR hS hl g1 g2 g3 g4
  have hts := C.2.2.2.2.1
  have hcw : vx_CSW R s args RL 44 yL_at cL_at 6 (some .int) [(0, 12, 15, 13)] zwsA { frames := 8, cells := 1, slots := 6, locals := 320 } 1 6 5 := vx_cwSW 5 hts zwsA_in rfl rfl rfl ⟨by decide, by decide, by decide +kernel⟩ ⟨by show 8 + 1 ≤ _; omega, by show 8 + (6 + 11) + 320 ≤ _; omega⟩
  refine zgo (pc := 445) (vx_runSW (As := [.ref v0, .int v1, .int v2, .int v3, .ref v5]) (rest := []) (free := fun q => G.2.2.1 ≤ q) ⟨C.1, C.2.1, C.2.2.1, C.2.2.2.1, hts⟩ (ky_L_at H hz hs l G C.2.2.2.2.2.2.2.2.2.2.2) hcw ⟨zPc_blind, zPc_pre hR C.2.2.2.2.2.2.2.2.1 C.2.2.2.2.2.2.2.2.2.1 hS⟩ rfl rfl hl.1 rfl (lv_room (Nat.le_of_ble_eq_true rfl)) dL_law_445 ⟨by omega, by omega⟩) hS (fun H1 locs1 hR1 hS1 => ?_)
  exact kk G p l e R s m args below meth c H1 locs1 (cells + 1) (slots + 6) ls C hR1 hS1 hl g1 g2 (by omega) (by omega)
theorem kc_L_5t {N d mc ms v0 v1 v2 v3 : Nat} {v4 x1 x2 x3 : Int32} {h h2 : zH} {vv : Option Value} {hh : zH} (hd0 : 9 ≤ d) (ex1 : aI h v0 (v4 + 1) = some x1) (ex2 : aI h v0 (v4 + 2) = some x2) (ex3 : aI h v0 (v4 + 3) = some x3) (z4 : zob h v1 11 = true) (H : t_X11_at N v1 x1 x2 x3 h = some true) (Hb : c_L_5b N v0 v2 v4 (zpush h) = some h2) (K : zW yL_law cL_law 7 (some .boolean) d mc ms 1470 [(0, .ref v0), (1, .ref v1), (2, .ref v2), (3, .ref v3), (4, .int v4)] [] h2 vv hh) : zW yL_law cL_law 7 (some .boolean) d (mc + 1) (ms + 6) 425 [(0, .ref v0), (1, .ref v1), (2, .ref v2), (3, .ref v3), (4, .int v4)] [] h vv hh := by
  refine z_aload_n (pc := 425) 1 dL_law_425 rfl rfl ?_
  refine z_aload_n (pc := 426) 0 dL_law_426 rfl rfl ?_
  refine z_iload (pc := 427) 4 dL_law_427 rfl ?_
  refine z_iconst (pc := 429) (x := 1) dL_law_429 zc_iconst_1 ?_
  refine z_iadd (pc := 430) dL_law_430 ?_
  refine z_iaload (pc := 431) dL_law_431 ex1 ?_
  refine z_aload_n (pc := 432) 0 dL_law_432 rfl rfl ?_
  refine z_iload (pc := 433) 4 dL_law_433 rfl ?_
  refine z_iconst (pc := 435) (x := 2) dL_law_435 zc_iconst_2 ?_
  refine z_iadd (pc := 436) dL_law_436 ?_
  refine z_iaload (pc := 437) dL_law_437 ex2 ?_
  refine z_aload_n (pc := 438) 0 dL_law_438 rfl rfl ?_
  refine z_iload (pc := 439) 4 dL_law_439 rfl ?_
  refine z_iconst (pc := 441) (x := 3) dL_law_441 zc_iconst_3 ?_
  refine z_iadd (pc := 442) dL_law_442 ?_
  refine z_iaload (pc := 443) dL_law_443 ex3 ?_
  refine z_aload_n (pc := 444) 3 dL_law_444 rfl rfl ?_
  refine z_callAt hd0 H z4 ?_
  refine z_istore (pc := 448) (lv' := [(5, .int 1), (0, .ref v0), (1, .ref v1), (2, .ref v2), (3, .ref v3), (4, .int v4)]) dL_law_448 (by decide) rfl ?_
  exact kc_L_5b (mc := mc) (ms := ms) (by omega) Hb K
theorem kc_L_5n {N d mc ms v0 v1 v2 v3 : Nat} {v4 x1 x2 x3 : Int32} {h h2 : zH} {vv : Option Value} {hh : zH} (hd0 : 9 ≤ d) (ex1 : aI h v0 (v4 + 1) = some x1) (ex2 : aI h v0 (v4 + 2) = some x2) (ex3 : aI h v0 (v4 + 3) = some x3) (z4 : zob h v1 11 = true) {q : Int32 × zH} {h1 : zH} (H : f_X11_at N v1 x1 x2 x3 h = some q) (hs : sL q.2 v3 0 q.1.toInt64 = some h1) (Hb : c_L_5b N v0 v2 v4 h1 = some h2) (K : zW yL_law cL_law 7 (some .boolean) d mc ms 1470 [(0, .ref v0), (1, .ref v1), (2, .ref v2), (3, .ref v3), (4, .int v4)] [] h2 vv hh) : zW yL_law cL_law 7 (some .boolean) d (mc + 1) (ms + 6) 425 [(0, .ref v0), (1, .ref v1), (2, .ref v2), (3, .ref v3), (4, .int v4)] [] h vv hh := by
  refine z_aload_n (pc := 425) 1 dL_law_425 rfl rfl ?_
  refine z_aload_n (pc := 426) 0 dL_law_426 rfl rfl ?_
  refine z_iload (pc := 427) 4 dL_law_427 rfl ?_
  refine z_iconst (pc := 429) (x := 1) dL_law_429 zc_iconst_1 ?_
  refine z_iadd (pc := 430) dL_law_430 ?_
  refine z_iaload (pc := 431) dL_law_431 ex1 ?_
  refine z_aload_n (pc := 432) 0 dL_law_432 rfl rfl ?_
  refine z_iload (pc := 433) 4 dL_law_433 rfl ?_
  refine z_iconst (pc := 435) (x := 2) dL_law_435 zc_iconst_2 ?_
  refine z_iadd (pc := 436) dL_law_436 ?_
  refine z_iaload (pc := 437) dL_law_437 ex2 ?_
  refine z_aload_n (pc := 438) 0 dL_law_438 rfl rfl ?_
  refine z_iload (pc := 439) 4 dL_law_439 rfl ?_
  refine z_iconst (pc := 441) (x := 3) dL_law_441 zc_iconst_3 ?_
  refine z_iadd (pc := 442) dL_law_442 ?_
  refine z_iaload (pc := 443) dL_law_443 ex3 ?_
  refine z_aload_n (pc := 444) 3 dL_law_444 rfl rfl ?_
  refine z_callAt0 hd0 H z4 hs ?_
  refine z_istore (pc := 448) (lv' := [(5, .int 0), (0, .ref v0), (1, .ref v1), (2, .ref v2), (3, .ref v3), (4, .int v4)]) dL_law_448 (by decide) rfl ?_
  exact kc_L_5b (mc := mc) (ms := ms) (by omega) Hb K
