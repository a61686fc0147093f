/-! System.arraycopy of ints -/
def cpI (h : zH) (a0 : Nat) (sp : Int32) (a : Nat) (dp n : Int32) : Option zH := match h.2 a0, h.2 a with
  | some (.inl (t0, n0, .inl f)), some (.inl (t1, n1, .inl g)) => if t0 = 0 ∧ t1 = 0 ∧ ¬ sp < 0 ∧ ¬ dp < 0 ∧ ¬ n < 0 ∧ sp.toNatClampNeg + n.toNatClampNeg ≤ n0 ∧ dp.toNatClampNeg + n.toNatClampNeg ≤ n1 then some (zset h a (.inl (0, n1, .inl (va_cpy f g sp.toNatClampNeg dp.toNatClampNeg n.toNatClampNeg)))) else none
  | _, _ => none
theorem cpI_spec {h g : zH} {a0 a : Nat} {sp dp n : Int32} (e : cpI h a0 sp a dp n = some g) : ∃ (n0 n1 : Nat) (f f1 : Nat → Int32), h.2 a0 = some (.inl (0, n0, .inl f)) ∧ h.2 a = some (.inl (0, n1, .inl f1)) ∧ ¬ sp < 0 ∧ ¬ dp < 0 ∧ ¬ n < 0 ∧ sp.toNatClampNeg + n.toNatClampNeg ≤ n0 ∧ dp.toNatClampNeg + n.toNatClampNeg ≤ n1 ∧ g = zset h a (.inl (0, n1, .inl (va_cpy f f1 sp.toNatClampNeg dp.toNatClampNeg n.toNatClampNeg))) := by
  unfold cpI at e
  split at e
  · rename_i t0 n0 f t1 n1 g1 e0 e1
    split at e
    · rename_i hc
      obtain ⟨rfl, rfl, h1, h2, h3, h4, h5⟩ := hc
      cases e
      exact ⟨n0, n1, f, g1, e0, e1, h1, h2, h3, h4, h5, rfl⟩
    · cases e
  · cases e
section ZS
variable {y : MethodName} {cc : ByteArray} {nL : Nat} {ret : Option FieldType} {d mc ms pc : Nat} {lv : List (Nat × Value)} {st : List Value} {h : zH} {v : Option Value} {h' : zH}
theorem z_copyi {idx a0 a : Nat} {sp dp n : Int32} {g : zH} (hd : decode cc pc = .ok (.invokestatic idx, 3)) (hl1 : Cond.methodLink y.cls idx arraycopyName ∈ zB) (hl2 : Cond.native arraycopyName ∈ zB) (hl3 : Cond.static arraycopyName ∈ zB) (hl4 : Cond.initialized "java/lang/System" ∈ zB) (hdd : 1 ≤ d) (hst : (st.map fun v => v.category).sum ≤ 8) (hg : cpI h a0 sp a dp n = some g)
    (kk : zW y cc nL ret d mc ms (pc + 3) lv st g v h') : zW y cc nL ret d mc ms pc lv (.int n :: .int dp :: .ref a :: .int sp :: .ref a0 :: st) h v h' := by
  obtain ⟨n0, n1, f, f1, ha0, ha1, g1, g2, g3, g4, g5, rfl⟩ := cpI_spec hg
  intro G p l e R s m args below meth c H locs cells slots ls C hR hS hl q1 q2 q3 q4
  have hts := C.2.2.2.2.1
  have hK := C.2.2.2.2.2.2.2.2.1
  have nn : ∀ z : Int32, ¬ z < 0 → z.toInt = (z.toNatClampNeg : Int) := by
    intro z hz
    have hz0 : (0 : Int) ≤ z.toInt := by
      have := Int32.not_lt.mp hz
      simpa using Int32.le_iff_toInt_le.mp this
    show z.toInt = ((z.toInt.toNat : Nat) : Int)
    omega
  intro T hT X
  obtain ⟨hc0', -⟩ := hR.2.2.2 a0 _ ha0
  have hc0 := hc0'.va (by show (0 : Nat) < 6; decide)
  obtain ⟨hc1', hwr⟩ := hR.2.2.2 a _ ha1
  have hc1 := hc1'.va (by show (0 : Nat) < 6; decide)
  have hb := hwr (by show (0 : Nat) < 6; decide)
  have hc0 : H[a0]? = some (vp_cell (G.2.1 0) (n0, .inl f)) := hc0
  have hc1 : H[a]? = some (vp_cell (G.2.1 0) (n1, .inl f1)) := hc1
  obtain ⟨-, k0, hk0, cm0, hkk0⟩ := (hK.2 0 _ rfl).1 n0 (fun j => .int (f j))
  obtain ⟨-, k1, hk1, cm1, hkk1⟩ := (hK.2 0 _ rfl).1 n1 (fun j => .int (f1 j))
  obtain ⟨vm', X', step⟩ := X.arraycopy C.1 C.2.2.2.1 (hts _ hl1) (hts _ hl2) (hts _ hl3) (hts _ hl4) (src := a0) (dst := a) (cs := vp_cell (G.2.1 0) (n0, .inl f)) (cd := vp_cell (G.2.1 0) (n1, .inl f1)) (srcPos := sp) (destPos := dp) (n := n) (by rw [hT]; exact hc0) (by rw [hT]; exact hc1)
    (fun _ h => by cases h) (fun _ h => by cases h) (fun h => by cases h) (fun h => by cases h) hk0 hk1 hkk0 hkk1 (by simp [refKind]) g1 g2 g3
    (by rw [nn sp g1, nn n g3]; show ¬ _ > ((arrV (G.2.1 0) n0 (fun j => .int (f j))).slots.size : Int); rw [arrV_size]; omega)
    (by rw [nn dp g2, nn n g3]; show ¬ _ > ((arrV (G.2.1 0) n1 (fun j => .int (f1 j))).slots.size : Int); rw [arrV_size]; omega)
    (fun vm₁ _ i hi => by
      have e : (vp_cell (G.2.1 0) (n0, .inl f)).slots.getD (sp.toNatClampNeg + i) .null = .int (f (sp.toNatClampNeg + i)) := by
        show (arrV (G.2.1 0) n0 (fun j => .int (f j))).slots.getD _ _ = _
        rw [Array.getD_eq_getD_getElem?, arrV_read _ _ (by omega)]
        rfl
      refine ⟨?_, ?_⟩
      · rw [e]
        rfl
      · rw [e]
        exact trivial)
    (g := F0 m pc ls (.int n :: .int dp :: .ref a :: .int sp :: .ref a0 :: st)) rfl (by rw [C.2.2.1]; exact hl.1) (rest := st) rfl (by rw [C.2.1]; exact hd) (by omega) (by show 2 * 0 + _ + (7 + 11) ≤ _; omega)
  have e1 : copied (vp_cell (G.2.1 0) (n0, .inl f)) (vp_cell (G.2.1 0) (n1, .inl f1)) sp dp n = vp_cell (G.2.1 0) (n1, .inl (va_cpy f f1 sp.toNatClampNeg dp.toNatClampNeg n.toNatClampNeg)) := va_copied (fun z => .int z) _ _ f f1 g4
  rw [e1] at X' step
  have hl9 : a < H.size := (Array.getElem?_eq_some_iff.mp hc1).1
  have hheap : ((T.setVm vm').setCell a (vp_cell (G.2.1 0) (n1, .inl (va_cpy f f1 sp.toNatClampNeg dp.toNatClampNeg n.toNatClampNeg)))).heap = H.setIfInBounds a (vp_cell (G.2.1 0) (n1, .inl (va_cpy f f1 sp.toNatClampNeg dp.toNatClampNeg n.toNatClampNeg))) := by rw [← hT]; rfl
  have oq : ∀ q : Nat, q ≠ a → (H.setIfInBounds a (vp_cell (G.2.1 0) (n1, .inl (va_cpy f f1 sp.toNatClampNeg dp.toNatClampNeg n.toNatClampNeg))))[q]? = H[q]? := fun q hq => by simp [Array.getElem?_setIfInBounds, Ne.symm hq]
  obtain ⟨t, a1, b1⟩ := kk G p l e R s m args below meth c _ _ cells slots ls C (hR.put hb (by simp) oq (show (H.setIfInBounds a _)[a]? = some _ by simp [Array.getElem?_setIfInBounds, hl9])) ⟨by simp; exact hS.1, fun q r1 r2 => by
      rw [oq q (fun e => r2 (by rw [e]; exact hb))]
      exact hS.2.1 q r1 r2, fun q hq => by
      rcases List.mem_append.mp hq with h | h
      · exact hS.2.2 q h
      · obtain ⟨z, -, hz⟩ := List.mem_map.mp h
        rw [← hz]
        exact hb⟩ hl q1 q2 q3 q4 _ hheap X'
  exact ⟨t, step t a1, b1⟩
end ZS
/-! String constants: the words, the signs -/
def gSv (h : zH) (o : Nat) : Option Nat := if o = h.1.2 1 then some (h.1.2 4) else if o = h.1.2 2 then some (h.1.2 5) else none
def gSc (h : zH) (o : Nat) : Option Int32 := if o = h.1.2 1 then some 0 else if o = h.1.2 2 then some 0 else none
section ZT
variable {y : MethodName} {cc : ByteArray} {nL : Nat} {ret : Option FieldType} {d mc ms pc : Nat} {lv : List (Nat × Value)} {st : List Value} {h : zH} {v : Option Value} {h' : zH}
theorem z_ldcS {idx k : Nat} {tx : String} (hd : decode cc pc = .ok (.ldc idx, 2)) (hk : (y.cls = "WhoseStreet$Tape" ∧ idx = 17 ∧ tx = zWords ∧ k = 1) ∨ (y.cls = "WhoseStreet$Tape" ∧ idx = 68 ∧ tx = "()<=+-*;" ∧ k = 2)) (kk : zW y cc nL ret d mc ms (pc + 2) lv (.ref (h.1.2 k) :: st) h v h') : zW y cc nL ret d mc ms pc lv st h v h' := by
  intro G p l e R s m args below meth c H locs cells slots ls C hR hS hl g1 g2 g3 g4
  obtain ⟨a1, a2, a3, a4, a5, a6, a7, a8, a9, b1, b2, b3, b4, b5, b6⟩ := C.2.2.2.2.2.2.2.2.2.1
  have hZ : vk_R y.cls idx tx (h.1.2 k) s := by
    rw [← hR.2.1]
    rcases hk with ⟨r1, rfl, rfl, rfl⟩ | ⟨r1, rfl, rfl, rfl⟩
    · rw [r1]; exact a6
    · rw [r1]; exact a7
  exact va_ldcS C.1 C.2.1 C.2.2.2.1 hZ hd (kk G p l e R s m args below meth c H locs cells slots ls C hR hS hl g1 g2 g3 g4)
theorem zsS_of {G : zG} {s : State} {H : Heap} {k : Nat} (hX : zX G s H) (hk : k = 1 ∨ k = 2) : zsS G k s H := by
  obtain ⟨a1, a2, a3, a4, a5, a6, a7, a8, a9, b1, b2, b3, b4, b5, b6⟩ := hX
  rcases hk with rfl | rfl
  · exact a9
  · exact b1
theorem gSv_spec {o r : Nat} (hg : gSv h o = some r) : ∃ k, (k = 1 ∨ k = 2) ∧ o = h.1.2 k ∧ r = h.1.2 (k + 3) := by
  unfold gSv at hg
  split at hg
  · cases hg; exact ⟨1, Or.inl rfl, by assumption, rfl⟩
  · split at hg
    · cases hg; exact ⟨2, Or.inr rfl, by assumption, rfl⟩
    · cases hg
theorem gSc_spec {o : Nat} {r : Int32} (hg : gSc h o = some r) : ∃ k, (k = 1 ∨ k = 2) ∧ o = h.1.2 k ∧ r = 0 := by
  unfold gSc at hg
  split at hg
  · cases hg; exact ⟨1, Or.inl rfl, by assumption, rfl⟩
  · split at hg
    · cases hg; exact ⟨2, Or.inr rfl, by assumption, rfl⟩
    · cases hg
theorem z_getSv {o r idx : Nat} (hd : decode cc pc = .ok (.getfield idx, 3)) (hl1 : Cond.fieldLink y.cls idx "java/lang/String" "value" "[B" ∈ zB) (hg : gSv h o = some r) (kk : zW y cc nL ret d mc ms (pc + 3) lv (.ref r :: st) h v h') : zW y cc nL ret d mc ms pc lv (.ref o :: st) h v h' := by
  intro G p l e R s m args below meth c H locs cells slots ls C hR hS hl g1 g2 g3 g4
  obtain ⟨k, hk, rfl, rfl⟩ := gSv_spec hg
  have hs := (zsS_of C.2.2.2.2.2.2.2.2.2.1 hk).2.2
  rw [hR.2.1] at hs
  exact vk_getf C.1 C.2.1 hs hS C.2.2.2.1 (C.2.2.2.2.1 _ hl1) (fun _ q => q) hd (kk G p l e R s m args below meth c H locs cells slots ls C hR hS hl g1 g2 g3 g4)
theorem z_getSc {o idx : Nat} {r : Int32} (hd : decode cc pc = .ok (.getfield idx, 3)) (hl1 : Cond.fieldLink y.cls idx "java/lang/String" "coder" "B" ∈ zB) (hg : gSc h o = some r) (kk : zW y cc nL ret d mc ms (pc + 3) lv (.int r :: st) h v h') : zW y cc nL ret d mc ms pc lv (.ref o :: st) h v h' := by
  intro G p l e R s m args below meth c H locs cells slots ls C hR hS hl g1 g2 g3 g4
  obtain ⟨k, hk, rfl, rfl⟩ := gSc_spec hg
  have hs := (zsS_of C.2.2.2.2.2.2.2.2.2.1 hk).2.1
  rw [hR.2.1] at hs
  exact vk_getf C.1 C.2.1 hs hS C.2.2.2.1 (C.2.2.2.2.1 _ hl1) (fun _ q => q) hd (kk G p l e R s m args below meth c H locs cells slots ls C hR hS hl g1 g2 g3 g4)
theorem z_compact {idx : Nat} (hd : decode cc pc = .ok (.getstatic idx, 3)) (hl1 : Cond.fieldLink y.cls idx "java/lang/String" "COMPACT_STRINGS" "Z" ∈ zB) (kk : zW y cc nL ret d mc ms (pc + 3) lv (.int 1 :: st) h v h') : zW y cc nL ret d mc ms pc lv st h v h' := by
  intro G p l e R s m args below meth c H locs cells slots ls C hR hS hl h1 h2 h3 h4
  obtain ⟨a1, a2, a3, a4, a5, a6, a7, a8, a9, b1, b2, b3, b4, b5, b6⟩ := C.2.2.2.2.2.2.2.2.2.1
  exact va_gets C.1 C.2.1 (v := .int 1) a5 hS C.2.2.2.1 (C.2.2.2.2.1 _ hl1) (fun _ q => q) hd (kk G p l e R s m args below meth c H locs cells slots ls C hR hS hl h1 h2 h3 h4)
theorem z_fmt {idx : Nat} (hd : decode cc pc = .ok (.getstatic idx, 3)) (hl1 : Cond.fieldLink y.cls idx "jdk/internal/util/Preconditions" "SIOOBE_FORMATTER" "Ljava/util/function/BiFunction;" ∈ zB) (kk : ∀ x : Option Nat, zW y cc nL ret d mc ms (pc + 3) lv (va_rf x :: st) h v h') : zW y cc nL ret d mc ms pc lv st h v h' := by
  intro G p l e R s m args below meth c H locs cells slots ls C hR hS hl h1 h2 h3 h4
  obtain ⟨a1, a2, a3, a4, a5, a6, a7, a8, a9, b1, b2, b3, b4, b5, b6⟩ := C.2.2.2.2.2.2.2.2.2.1
  rcases b6.1 with b6 | ⟨t, b6⟩
  · exact va_gets C.1 C.2.1 (v := .null) b6 hS C.2.2.2.1 (C.2.2.2.2.1 _ hl1) (fun _ q => q) hd (kk none G p l e R s m args below meth c H locs cells slots ls C hR hS hl h1 h2 h3 h4)
  · exact va_gets C.1 C.2.1 (v := .ref t) b6 hS C.2.2.2.1 (C.2.2.2.2.1 _ hl1) (fun _ q => q) hd (kk (some t) G p l e R s m args below meth c H locs cells slots ls C hR hS hl h1 h2 h3 h4)
theorem z_callT {x : MethodName} {cx : ByteArray} {nX n idx : Nat} {rx : Option FieldType} (As : List Value) {rest : List Value} {d' mc' ms' b r : Nat} {v1 : Option Value} {h1 : zH} (hd : decode cc pc = .ok (.invokevirtual idx, 3)) (hm : zMd x cx nX n rx) (hl1 : Cond.methodLink y.cls idx x ∈ zB) (hl2 : Cond.instanceMethod x ∈ zB) (hl3 : Cond.selects "java/lang/String" x x ∈ zB) (hob : gSv h b = some r) (hn : As.length = n) (hst : st = As.reverse ++ .ref b :: rest) (hrs : (rest.map fun v => v.category).sum ≤ 8) (hdd : d' + 1 ≤ d) (K : zOk d' mc' ms' x cx nX rx (.ref b :: As) h v1 h1)
    (kk : zW y cc nL ret d mc ms (pc + 3) lv (v1.toList ++ rest) h1 v h') : zW y cc nL ret d (mc + mc') (ms + ms') pc lv st h v h' := by
  subst hst
  obtain ⟨hcd, hini, hy1, hy2, hpar, hnX⟩ := hm
  obtain ⟨k, hk, rfl, rfl⟩ := gSv_spec hob
  intro G p l e R s m args below meth c H locs cells slots ls C hR hS hl g1 g2 g3 g4
  have hts := C.2.2.2.2.1
  have hcb : CallB R s args y.cls idx x cx nX rx (zws x cx nX rx) { frames := d', cells := mc', slots := ms', locals := 40 * d' } mc' ms' n := callB_of (ret := rx) n hts (zws_in hcd) rfl rfl rfl (hts _ hini) (hts _ hl1) ⟨hy1, hy2, hpar⟩ ⟨by show d' + 1 ≤ _; omega, by show 8 + (nX + 11) + 40 * d' ≤ _; omega⟩
  have hs := (zsS_of C.2.2.2.2.2.2.2.2.2.1 hk).1.kept hS.2.1
  rw [hR.2.1] at hs
  obtain ⟨cell, e1, e2, e3, -⟩ := hs
  refine zgo (va_runV (As := As) (rest := rest) (C := "java/lang/String") (free := fun q => G.2.2.1 ≤ q) ⟨C.1, C.2.1, C.2.2.1, C.2.2.2.1, hts⟩ (K l G d' (40 * d') C.2.2.2.2.2.2.2.2.2.2.2 (Nat.le_refl _) (Nat.le_refl _)) ⟨hcb, hts _ hl2, hts _ hl3⟩ ⟨zPc_blind, ⟨cell, e1, e2, e3⟩, zPc_pre hR C.2.2.2.2.2.2.2.2.1 C.2.2.2.2.2.2.2.2.2.1 hS⟩ rfl hn hl.1 rfl (lv_room hrs) hd ⟨by omega, by omega⟩) hS (fun H1 locs1 hR1 hS1 => ?_)
  exact kk G p l e R s m args below meth c H1 locs1 (cells + mc') (slots + ms') ls C hR1 hS1 hl g1 g2 (by omega) (by omega)
end ZT
def zsmall (n : Int32) : Bool := decide (¬ n < 0 ∧ n.toNatClampNeg ≤ 1000)
section ZU
variable {y : MethodName} {cc : ByteArray} {nL : Nat} {ret : Option FieldType} {d mc ms pc : Nat} {lv : List (Nat × Value)} {st : List Value} {h : zH} {v : Option Value} {h' : zH}
theorem z_newarrayB {n : Int32} (hd : decode cc pc = .ok (.newarray .int, 2)) (hw : Cond.arrayClass (zaty 0) ∈ zB) (hb : zsmall n = true) (kk : zW y cc nL ret d mc ms (pc + 2) lv (.ref h.1.1 :: st) (znew h (zblank 0 n.toNatClampNeg)) v h') : zW y cc nL ret d (mc + 1) (ms + 1000) pc lv (.int n :: st) h v h' := by
  obtain ⟨h0, hN⟩ : ¬ n < 0 ∧ n.toNatClampNeg ≤ 1000 := by simpa [zsmall] using hb
  exact z_mono (Nat.le_refl d) (Nat.le_refl _) (by omega) (z_newarray (N := n.toNatClampNeg) 0 (by decide) hd rfl hw h0 rfl (by omega) kk)
theorem z_mmin {idx : Nat} {x z : Int32} (hd : decode cc pc = .ok (.invokestatic idx, 3)) (hl1 : Cond.methodLink y.cls idx Lib.Math.min.name ∈ zB) (hl2 : Cond.static Lib.Math.min.name ∈ zB) (hl3 : Cond.initialized "java/lang/Math" ∈ zB) (hl4 : Cond.code Lib.Math.min.name Lib.Math.min.code 2 (some .int) ∈ zB) (hdd : 1 ≤ d) (hst : (st.map fun v => v.category).sum ≤ 8)
    (kk : zW y cc nL ret d mc ms (pc + 3) lv (.int (if z < x then z else x) :: st) h v h') : zW y cc nL ret d mc ms pc lv (.int z :: .int x :: st) h v h' := by
  intro G p l e R s m args below meth c H locs cells slots ls C hR hS hl h1 h2 h3 h4
  have hts := C.2.2.2.2.1
  refine va_mmin C.1 C.2.1 (by rw [C.2.2.1]; exact hl.1.symm) C.2.2.2.1 (hts _ hl1) (hts _ hl2) (hts _ hl3) (hts _ hl4) (by omega) (by omega) (by omega) (by omega) hd ?_
  exact kk G p l e R s m args below meth c H locs cells slots ls C hR hS hl h1 h2 h3 h4
end ZU
