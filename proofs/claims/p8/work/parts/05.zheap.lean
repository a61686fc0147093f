theorem zR.one {G : zG} {h : zH} {H : Heap} {a : Nat} {c : zE} (hR : zR G h H) (ha : h.2 a = some c) (hw : zwr c := by first | exact trivial | exact (Nat.le_of_ble_eq_true rfl)) : va_P G.1 vwCl [(a, zcv G.2.1 c)] H := by
  intro k q hk
  have hz : k < 1 := (List.getElem?_eq_some_iff.mp hk).1
  rw [show k = 0 by omega] at hk
  cases hk
  exact (hR.2.2.2 a c ha).1.va hw
theorem zR.put {G : zG} {h : zH} {H H1 : Heap} {a : Nat} {c' : zE} (hR : zR G h H) (hb : G.2.2.1 ≤ a) (z : H1.size = H.size) (oq : ∀ q : Nat, q ≠ a → H1[q]? = H[q]?) (he : va_at G.1 vwCl (a, zcv G.2.1 c') H1) (hw : zwr c' := by first | exact trivial | exact (Nat.le_of_ble_eq_true rfl)) : zR G (zset h a c') H1 := by
  refine ⟨z.trans hR.1, hR.2.1, by rw [z]; exact hR.2.2.1, fun q c hq => ?_⟩
  by_cases hqa : q = a
  · subst hqa
    have hc : c' = c := by simpa [zset] using hq
    subst hc
    exact ⟨zat.of he hw, fun _ => hb⟩
  · have hq' : h.2 q = some c := by simpa [zset, hqa] using hq
    obtain ⟨h1, h2⟩ := hR.2.2.2 q c hq'
    exact ⟨h1.kept (oq q hqa), h2⟩
theorem zR.push {G : zG} {h : zH} {H H1 : Heap} {c' : zE} (hR : zR G h H) (z : H1.size = H.size + 1) (oq : ∀ q : Nat, q < H.size → H1[q]? = H[q]?) (he : va_at G.1 vwCl (H.size, zcv G.2.1 c') H1) (hw : zwr c' := by first | exact trivial | exact (Nat.le_of_ble_eq_true rfl)) : zR G (znew h c') H1 := by
  refine ⟨by rw [z, hR.1]; rfl, hR.2.1, by have := hR.2.2.1; omega, fun q c hq => ?_⟩
  by_cases hqa : q = h.1.1
  · subst hqa
    have hc : c' = c := by simpa [znew] using hq
    subst hc
    rw [← hR.1]
    exact ⟨zat.of he hw, fun _ => hR.2.2.1⟩
  · have hq' : h.2 q = some c := by simpa [znew, hqa] using hq
    obtain ⟨h1, h2⟩ := hR.2.2.2 q c hq'
    exact ⟨h1.kept (oq q h1.lt), h2⟩
/-! the small machine's own reads and writes -/
def gV (h : zH) (o ci k : Nat) : Option Value := match h.2 o with
  | some (.inr (c, fs)) => if c = ci then fs[k]? else none
  | _ => none
def vI (v : Value) : Option Int32 := match v with
  | .int x => some x
  | _ => none
def vL (v : Value) : Option Int64 := match v with
  | .long x => some x
  | _ => none
def vR (v : Value) : Option Nat := match v with
  | .ref x => some x
  | _ => none
def gI (h : zH) (o ci k : Nat) : Option Int32 := (gV h o ci k).bind vI
def gL (h : zH) (o ci k : Nat) : Option Int64 := (gV h o ci k).bind vL
def gR (h : zH) (o ci k : Nat) : Option Nat := (gV h o ci k).bind vR
def pF (h : zH) (o ci k : Nat) (v : Value) : Option zH := match h.2 o with
  | some (.inr (c, fs)) => if c = ci ∧ k < fs.length then some (zset h o (.inr (c, fs.set k v))) else none
  | _ => none
def pZ (h : zH) (o ci k : Nat) (x : Int32) : Option zH := if x = 0 ∨ x = 1 then pF h o ci k (.int x) else none
def aI (h : zH) (a : Nat) (i : Int32) : Option Int32 := match h.2 a with
  | some (.inl (t, n, .inl f)) => if (t = 0 ∨ t = 6 ∨ t = 8) ∧ ¬ i < 0 ∧ i.toNatClampNeg < n then some (f i.toNatClampNeg) else none
  | _ => none
def aB (h : zH) (a : Nat) (i : Int32) : Option Int32 := match h.2 a with
  | some (.inl (t, n, .inl f)) => if (t = 2 ∨ t = 7 ∨ t = 9) ∧ ¬ i < 0 ∧ i.toNatClampNeg < n then some (f i.toNatClampNeg) else none
  | _ => none
def aZ (h : zH) (a : Nat) (i : Int32) : Option Int32 := match h.2 a with
  | some (.inl (t, n, .inl f)) => if t = 3 ∧ ¬ i < 0 ∧ i.toNatClampNeg < n then some (f i.toNatClampNeg) else none
  | _ => none
def aL (h : zH) (a : Nat) (i : Int32) : Option Int64 := match h.2 a with
  | some (.inl (t, n, .inr (.inl f))) => if t = 1 ∧ ¬ i < 0 ∧ i.toNatClampNeg < n then some (f i.toNatClampNeg) else none
  | _ => none
def aQ (h : zH) (a : Nat) (i : Int32) : Option (Option Nat) := match h.2 a with
  | some (.inl (t, n, .inr (.inr (.inr (.inr f))))) => if (t = 4 ∨ t = 5) ∧ ¬ i < 0 ∧ i.toNatClampNeg < n then some (f i.toNatClampNeg) else none
  | _ => none
def aN (h : zH) (a : Nat) : Option Int32 := match h.2 a with
  | some (.inl (t, n, _)) => if t < 10 then some (Int32.ofNat n) else none
  | _ => none
def sI (h : zH) (a : Nat) (i x : Int32) : Option zH := match h.2 a with
  | some (.inl (t, n, .inl f)) => if t = 0 ∧ ¬ i < 0 ∧ i.toNatClampNeg < n then some (zset h a (.inl (t, n, .inl (upd f i.toNatClampNeg x)))) else none
  | _ => none
def sB (h : zH) (a : Nat) (i x : Int32) : Option zH := match h.2 a with
  | some (.inl (t, n, .inl f)) => if t = 2 ∧ ¬ i < 0 ∧ i.toNatClampNeg < n then some (zset h a (.inl (t, n, .inl (upd f i.toNatClampNeg (x.toInt8.toInt32))))) else none
  | _ => none
def sZ (h : zH) (a : Nat) (i x : Int32) : Option zH := match h.2 a with
  | some (.inl (t, n, .inl f)) => if t = 3 ∧ ¬ i < 0 ∧ i.toNatClampNeg < n ∧ (x = 0 ∨ x = 1) then some (zset h a (.inl (t, n, .inl (upd f i.toNatClampNeg x)))) else none
  | _ => none
def sL (h : zH) (a : Nat) (i : Int32) (x : Int64) : Option zH := match h.2 a with
  | some (.inl (t, n, .inr (.inl f))) => if t = 1 ∧ ¬ i < 0 ∧ i.toNatClampNeg < n then some (zset h a (.inl (t, n, .inr (.inl (vp_updL f i.toNatClampNeg x))))) else none
  | _ => none
def zob (h : zH) (o ci : Nat) : Bool := match h.2 o with
  | some (.inr (c, _)) => decide (c = ci)
  | _ => false
def sQ (h : zH) (a : Nat) (i : Int32) (x : Nat) : Option zH := match h.2 a with
  | some (.inl (t, n, .inr (.inr (.inr (.inr f))))) => if (t = 4 ∧ zob h x 6 = true ∨ t = 5 ∧ zob h x 4 = true) ∧ ¬ i < 0 ∧ i.toNatClampNeg < n then some (zset h a (.inl (t, n, .inr (.inr (.inr (.inr (va_up f i.toNatClampNeg (some x)))))))) else none
  | _ => none
/-- a new array of ints (tag 0), longs (1), bytes (2), booleans (3), references (4, 5) -/
def zblank (t : Nat) (n : Nat) : zE := if t = 1 then .inl (t, n, .inr (.inl (fun _ => 0))) else if t = 4 ∨ t = 5 then .inl (t, n, .inr (.inr (.inr (.inr (fun _ => none))))) else .inl (t, n, .inl (fun _ => 0))
/-! what the tables say of a class, of a field's link -/
def zCl (ci : Nat) (C : String) (T : u_T) (N : Nat) (ty : Nat → FieldType) : Prop := vwCl[ci]? = some (C, T, N) ∧ (∀ w ∈ u_ws C T N, w ∈ zB) ∧ (∀ k, k < N → parseFieldDescriptor (T k).2.2.1 = some (ty k)) ∧ (∀ a, a < N → ∀ b, b < N → a ≠ b → (T a).2.1 ≠ (T b).2.1)
def zFd (own : String) (idx ci k : Nat) (ty : FieldType) (fin : Bool) (dcl : String) : Prop := ∃ (C : String) (T : u_T) (N : Nat) (ty0 : Nat → FieldType), zCl ci C T N ty0 ∧ k < N ∧ Cond.fieldLink own idx (T k).1 (T k).2.1 (T k).2.2.1 ∈ zB ∧ ty0 k = ty ∧ (T k).2.2.2 = fin ∧ (T k).1 = dcl
theorem zFd.of {own : String} {idx ci k : Nat} {ty : FieldType} {fin : Bool} {dcl C : String} {T : u_T} {N : Nat} {ty0 : Nat → FieldType} (h : zCl ci C T N ty0) (hk : k < N) (hl : Cond.fieldLink own idx (T k).1 (T k).2.1 (T k).2.2.1 ∈ zB) (h1 : ty0 k = ty) (h2 : (T k).2.2.2 = fin) (h3 : (T k).1 = dcl) : zFd own idx ci k ty fin dcl := ⟨C, T, N, ty0, h, hk, hl, h1, h2, h3⟩
theorem zst_i (cA : ClassId) (n : Nat) (f : Nat → Int32) (k : Nat) (x : Int32) : (vp_cell cA (n, .inl f)).setSlot k (.int x) = vp_cell cA (n, .inl (upd f k x)) := by
  rw [vp_cell_i, vp_cell_i, arrV_store]
  congr 1
  funext q
  by_cases hq : q = k
  · subst hq
    simp [updV, upd]
  · simp [updV, upd, hq]
theorem zst_l (cA : ClassId) (n : Nat) (f : Nat → Int64) (k : Nat) (x : Int64) : (vp_cell cA (n, .inr (.inl f))).setSlot k (.long x) = vp_cell cA (n, .inr (.inl (vp_updL f k x))) := by
  rw [vp_cell_l, vp_cell_l, arrV_store]
  congr 1
  funext q
  by_cases hq : q = k
  · subst hq
    simp [updV, vp_updL]
  · simp [updV, vp_updL, hq]
theorem zst_q (cA : ClassId) (n : Nat) (f : Nat → Option Nat) (k : Nat) (x : Nat) : (vp_cell cA (n, .inr (.inr (.inr (.inr f))))).setSlot k (.ref x) = vp_cell cA (n, .inr (.inr (.inr (.inr (va_up f k (some x)))))) := by
  rw [vp_cell_q, vp_cell_q, arrV_store]
  congr 1
  funext q
  by_cases hq : q = k
  · subst hq
    simp [updV, va_up, va_rf]
  · simp [updV, va_up, hq]
section ZH
variable {y : MethodName} {cc : ByteArray} {nL : Nat} {ret : Option FieldType} {d mc ms pc : Nat} {lv : List (Nat × Value)} {st : List Value} {h : zH} {v : Option Value} {h' : zH}
theorem gV_spec {o ci k : Nat} {x : Value} (hg : gV h o ci k = some x) : ∃ fs, h.2 o = some (.inr (ci, fs)) ∧ fs[k]? = some x := by
  unfold gV at hg
  split at hg
  · rename_i c fs heq
    split at hg
    · rename_i hc
      subst hc
      exact ⟨fs, heq, hg⟩
    · cases hg
  · cases hg
theorem gI_spec {o ci k : Nat} {x : Int32} (hg : gI h o ci k = some x) : gV h o ci k = some (.int x) := by
  unfold gI at hg
  cases hv : gV h o ci k with
  | none => rw [hv] at hg; cases hg
  | some w =>
    rw [hv] at hg
    cases w <;> simp [vI] at hg
    subst hg; rfl
theorem gL_spec {o ci k : Nat} {x : Int64} (hg : gL h o ci k = some x) : gV h o ci k = some (.long x) := by
  unfold gL at hg
  cases hv : gV h o ci k with
  | none => rw [hv] at hg; cases hg
  | some w =>
    rw [hv] at hg
    cases w <;> simp [vL] at hg
    subst hg; rfl
theorem gR_spec {o ci k : Nat} {x : Nat} (hg : gR h o ci k = some x) : gV h o ci k = some (.ref x) := by
  unfold gR at hg
  cases hv : gV h o ci k with
  | none => rw [hv] at hg; cases hg
  | some w =>
    rw [hv] at hg
    cases w <;> simp [vR] at hg
    subst hg; rfl
theorem z_get {o ci k idx : Nat} {ty : FieldType} {fin : Bool} {dcl : String} {x : Value} (hd : decode cc pc = .ok (.getfield idx, 3)) (hf : zFd y.cls idx ci k ty fin dcl) (hg : gV h o ci k = some x) (kk : zW y cc nL ret d mc ms (pc + 3) lv (x :: st) h v h') : zW y cc nL ret d mc ms pc lv (.ref o :: st) h v h' := by
  obtain ⟨C9, T, N, ty0, ⟨hc, hw, -, -⟩, hk, hl9, -, -, -⟩ := hf
  obtain ⟨fs, ho, hx⟩ := gV_spec hg
  intro G p l e R s m args below meth c H locs cells slots ls C hR hS hl h1 h2 h3 h4
  exact va_get (C := C9) (T := T) (N := N) (ci := ci) C.1 C.2.1 C.2.2.2.2.1 hw C.2.2.2.1 C.2.2.2.2.2.2.2.2.1 (hR.one ho) 0 rfl hc k hk (C.2.2.2.2.1 _ hl9) (fun _ q => q) hx hd (kk G p l e R s m args below meth c H locs cells slots ls C hR hS hl h1 h2 h3 h4)
theorem z_getI {o ci k idx : Nat} {ty : FieldType} {fin : Bool} {dcl : String} {x : Int32} (hd : decode cc pc = .ok (.getfield idx, 3)) (hf : zFd y.cls idx ci k ty fin dcl) (hg : gI h o ci k = some x) (kk : zW y cc nL ret d mc ms (pc + 3) lv (.int x :: st) h v h') : zW y cc nL ret d mc ms pc lv (.ref o :: st) h v h' := z_get hd hf (gI_spec hg) kk
theorem z_getL {o ci k idx : Nat} {ty : FieldType} {fin : Bool} {dcl : String} {x : Int64} (hd : decode cc pc = .ok (.getfield idx, 3)) (hf : zFd y.cls idx ci k ty fin dcl) (hg : gL h o ci k = some x) (kk : zW y cc nL ret d mc ms (pc + 3) lv (.long x :: st) h v h') : zW y cc nL ret d mc ms pc lv (.ref o :: st) h v h' := z_get hd hf (gL_spec hg) kk
theorem z_getR {o ci k idx : Nat} {ty : FieldType} {fin : Bool} {dcl : String} {x : Nat} (hd : decode cc pc = .ok (.getfield idx, 3)) (hf : zFd y.cls idx ci k ty fin dcl) (hg : gR h o ci k = some x) (kk : zW y cc nL ret d mc ms (pc + 3) lv (.ref x :: st) h v h') : zW y cc nL ret d mc ms pc lv (.ref o :: st) h v h' := z_get hd hf (gR_spec hg) kk
theorem pF_spec {o ci k : Nat} {x : Value} {g : zH} (hg : pF h o ci k x = some g) : ∃ fs, h.2 o = some (.inr (ci, fs)) ∧ k < fs.length ∧ g = zset h o (.inr (ci, fs.set k x)) := by
  unfold pF at hg
  split at hg
  · rename_i c fs heq
    split at hg
    · rename_i hc
      obtain ⟨rfl, hl⟩ := hc
      cases hg
      exact ⟨fs, heq, hl, rfl⟩
    · cases hg
  · cases hg
theorem z_put {o ci k idx : Nat} {ty : FieldType} {dcl : String} {x : Value} {g : zH} (hd : decode cc pc = .ok (.putfield idx, 3)) (hf : zFd y.cls idx ci k ty false dcl) (hn : narrow ty x = x) (hfit : fits ty x = true) (hg : pF h o ci k x = some g) (kk : zW y cc nL ret d mc ms (pc + 3) lv st g v h') : zW y cc nL ret d mc ms pc lv (x :: .ref o :: st) h v h' := by
  obtain ⟨C9, T, N, ty0, ⟨hc, hw, hty, hnm⟩, hk, hl9, rfl, hfin, -⟩ := hf
  obtain ⟨fs, ho, hlen, rfl⟩ := pF_spec hg
  intro G p l e R s m args below meth c H locs cells slots ls C hR hS hl h1 h2 h3 h4
  have hts := C.2.2.2.2.1
  have hown := C.2.2.2.1
  have hK := C.2.2.2.2.2.2.2.2.1
  have hap := va_apart (own := y.cls) hts hw ty0 hty hnm hK hc
  obtain ⟨⟨r, g1, cell, q1, q2, q3, q4⟩, hwr⟩ := hR.2.2.2 o _ ho
  have hr : r = (C9, T, N) := Option.some.inj (g1.symm.trans hc)
  subst hr
  obtain ⟨hSl, hfc, kC, hkC, hkind⟩ := hK.1 ci _ hc
  obtain ⟨cf, kf, fi, f, hi, hsl⟩ := hSl k hk
  have hlay := hts _ (hw _ (u_in_lay hk))
  unfold u_lay at hlay
  rw [if_neg (by rw [hfin]; decide)] at hlay
  have hst := (u_facts hfc hkC (u_lays hts hw hk) hi).1
  have h6 := u_store hfc hkC hkind hlay hi (hty k hk) hn hfit
  refine W.putK C.1 C.2.1 (f := f) ⟨hown, hts _ hl9, ⟨_, _, _, hi⟩, hst⟩ (by rw [q2]; exact h6) q1 q3 (by rw [hsl]; exact k2_hasslot (q4 k hk)) rfl rfl hd fun H' e1 e2 e3 => ?_
  rw [hsl] at e1 ⊢
  refine kk G p l e R s m args below meth c H' _ cells slots ls C (hR.put (hwr trivial) e2 e3 ?_) (hS.put e2 e3 (hwr trivial)) hl h1 h2 h3 h4
  exact ⟨_, hc, t_OB.to (V := updV (vp_V fs) k x) ⟨_, e1, q2, q3, t_set q4 hap hk x⟩ (fun j _ => vp_updV_set hlen x j)⟩
theorem z_putF {o ci k idx : Nat} {ty : FieldType} {x : Value} {g : zH} (hd : decode cc pc = .ok (.putfield idx, 3)) (hf : zFd y.cls idx ci k ty true y.cls) (hini : y.name = "<init>") (hn : narrow ty x = x) (hfit : fits ty x = true) (hg : pF h o ci k x = some g) (kk : zW y cc nL ret d mc ms (pc + 3) lv st g v h') : zW y cc nL ret d mc ms pc lv (x :: .ref o :: st) h v h' := by
  obtain ⟨C9, T, N, ty0, ⟨hc, hw, hty, hnm⟩, hk, hl9, rfl, hfin, hdcl⟩ := hf
  obtain ⟨fs, ho, hlen, rfl⟩ := pF_spec hg
  intro G p l e R s m args below meth c H locs cells slots ls C hR hS hl h1 h2 h3 h4
  have hts := C.2.2.2.2.1
  have hown := C.2.2.2.1
  have hK := C.2.2.2.2.2.2.2.2.1
  have hap := va_apart (own := y.cls) hts hw ty0 hty hnm hK hc
  obtain ⟨⟨r, g1, cell, q1, q2, q3, q4⟩, hwr⟩ := hR.2.2.2 o _ ho
  have hr : r = (C9, T, N) := Option.some.inj (g1.symm.trans hc)
  subst hr
  obtain ⟨hSl, hfc, kC, hkC, hkind⟩ := hK.1 ci _ hc
  obtain ⟨cf, kf, fi, f, hi, hsl⟩ := hSl k hk
  have hlay := hts _ (hw _ (u_in_lay hk))
  unfold u_lay at hlay
  rw [if_pos hfin] at hlay
  have hst := (u_facts hfc hkC (u_lays hts hw hk) hi).1
  have hcf : m.cls = cf := by
    obtain ⟨_, _, c', _, _, _, -, -, hf', -, -, -, hown2, -⟩ := Cond.laysFinal_spec hlay
    have e1 : c' = cf := by have := hi.symm.trans hf'; simp at this; exact this.1.symm
    rw [hdcl] at hown2
    rw [← e1]; exact Option.some.inj (hown.symm.trans hown2)
  have h6 := u_fits hfc hkC hkind (Or.inr hlay) hi (hty k hk) hn hfit
  refine W.putFinK C.1 C.2.1 hown (hts _ hl9) hi hst hcf (C.2.2.2.2.2.2.2.1.trans hini) (by rw [q2]; exact h6) q1 q3 (by rw [hsl]; exact k2_hasslot (q4 k hk)) rfl rfl hd fun H' e1 e2 e3 => ?_
  rw [hsl] at e1 ⊢
  refine kk G p l e R s m args below meth c H' _ cells slots ls C (hR.put (hwr trivial) e2 e3 ?_) (hS.put e2 e3 (hwr trivial)) hl h1 h2 h3 h4
  exact ⟨_, hc, t_OB.to (V := updV (vp_V fs) k x) ⟨_, e1, q2, q3, t_set q4 hap hk x⟩ (fun j _ => vp_updV_set hlen x j)⟩
theorem zin {i : Int32} {n : Nat} (h0 : ¬ i < 0) (hl : i.toNatClampNeg < n) : vp_in i n := fun q => q.elim h0 (fun q => Nat.not_le.mpr hl q)
theorem z_iaload {a : Nat} {i x : Int32} (hd : decode cc pc = .ok (.iaload, 1)) (hg : aI h a i = some x) (kk : zW y cc nL ret d mc ms (pc + 1) lv (.int x :: st) h v h') : zW y cc nL ret d mc ms pc lv (.int i :: .ref a :: st) h v h' := by
  intro G p l e R s m args below meth c H locs cells slots ls C hR hS hl h1 h2 h3 h4
  unfold aI at hg
  split at hg
  · rename_i t n f heq
    split at hg
    · rename_i hc
      cases hg
      obtain ⟨rfl | rfl | rfl, h0, hlt⟩ := hc
      · exact va_iald C.1 C.2.1 C.2.2.2.2.2.2.2.2.1 (hR.one heq) 0 0 rfl rfl (zin h0 hlt) hd (kk G p l e R s m args below meth c H locs cells slots ls C hR hS hl h1 h2 h3 h4)
      · obtain ⟨cell, k1, k2, k3, k4, k5, k6, k7⟩ := (hR.2.2.2 a _ heq).1.old (by show ¬ (6 : Nat) < 6; decide)
        have hz : zoc s cell.cls .int := by rw [k2]; exact C.2.2.2.2.2.2.2.2.2.1.2.2.2.2.2.2.2.2.2.2.2.2.2.2.2.1
        exact W.iald C.1 C.2.1 k1 (hz.is k4) k3 (fun q => q.elim h0 (fun q => by have := Nat.lt_of_lt_of_le hlt k5; omega)) (k7 f rfl _ hlt) (g := F0 m pc ls _) rfl rfl hd (kk G p l e R s m args below meth c H locs cells slots ls C hR hS hl h1 h2 h3 h4)
      · obtain ⟨cell, k1, k2, k3, k4, k5, k6, k7⟩ := (hR.2.2.2 a _ heq).1.old (by show ¬ (8 : Nat) < 6; decide)
        have hz : zoc s cell.cls .int := by rw [k2]; exact C.2.2.2.2.2.2.2.2.2.1.2.2.2.2.2.2.2.2.2.2.2.2.2.2.2.2.2.1
        exact W.iald C.1 C.2.1 k1 (hz.is k4) k3 (fun q => q.elim h0 (fun q => by have := Nat.lt_of_lt_of_le hlt k5; omega)) (k7 f rfl _ hlt) (g := F0 m pc ls _) rfl rfl hd (kk G p l e R s m args below meth c H locs cells slots ls C hR hS hl h1 h2 h3 h4)
    · cases hg
  · cases hg
theorem z_baload {a : Nat} {i x : Int32} (hd : decode cc pc = .ok (.baload, 1)) (hg : aB h a i = some x) (kk : zW y cc nL ret d mc ms (pc + 1) lv (.int x :: st) h v h') : zW y cc nL ret d mc ms pc lv (.int i :: .ref a :: st) h v h' := by
  intro G p l e R s m args below meth c H locs cells slots ls C hR hS hl h1 h2 h3 h4
  unfold aB at hg
  split at hg
  · rename_i t n f heq
    split at hg
    · rename_i hc
      cases hg
      obtain ⟨rfl | rfl | rfl, h0, hlt⟩ := hc
      · exact va_bald C.1 C.2.1 C.2.2.2.2.2.2.2.2.1 (hR.one heq) 0 2 rfl rfl (zin h0 hlt) hd (kk G p l e R s m args below meth c H locs cells slots ls C hR hS hl h1 h2 h3 h4)
      · obtain ⟨cell, k1, k2, k3, k4, k5, k6, k7⟩ := (hR.2.2.2 a _ heq).1.old (by show ¬ (7 : Nat) < 6; decide)
        have hz : zoc s cell.cls .byte := by rw [k2]; exact C.2.2.2.2.2.2.2.2.2.1.2.2.2.2.2.2.2.2.2.2.2.2.2.2.2.2.1
        exact W.bald C.1 C.2.1 k1 (hz.is k4) k3 (fun q => q.elim h0 (fun q => by have := Nat.lt_of_lt_of_le hlt k5; omega)) (k7 f rfl _ hlt) (g := F0 m pc ls _) rfl rfl hd (kk G p l e R s m args below meth c H locs cells slots ls C hR hS hl h1 h2 h3 h4)
      · obtain ⟨cell, k1, k2, k3, k4, k5, k6, k7⟩ := (hR.2.2.2 a _ heq).1.old (by show ¬ (9 : Nat) < 6; decide)
        have hz : zoc s cell.cls .byte := by rw [k2]; exact C.2.2.2.2.2.2.2.2.2.1.2.2.2.2.2.2.2.2.2.2.2.2.2.2.2.2.2.2
        exact W.bald C.1 C.2.1 k1 (hz.is k4) k3 (fun q => q.elim h0 (fun q => by have := Nat.lt_of_lt_of_le hlt k5; omega)) (k7 f rfl _ hlt) (g := F0 m pc ls _) rfl rfl hd (kk G p l e R s m args below meth c H locs cells slots ls C hR hS hl h1 h2 h3 h4)
    · cases hg
  · cases hg
theorem z_zaload {a : Nat} {i x : Int32} (hd : decode cc pc = .ok (.baload, 1)) (hg : aZ h a i = some x) (kk : zW y cc nL ret d mc ms (pc + 1) lv (.int x :: st) h v h') : zW y cc nL ret d mc ms pc lv (.int i :: .ref a :: st) h v h' := by
  intro G p l e R s m args below meth c H locs cells slots ls C hR hS hl h1 h2 h3 h4
  unfold aZ at hg
  split at hg
  · rename_i t n f heq
    split at hg
    · rename_i hc
      cases hg
      obtain ⟨rfl, h0, hlt⟩ := hc
      exact va_zald C.1 C.2.1 C.2.2.2.2.2.2.2.2.1 (hR.one heq) 0 3 rfl rfl (zin h0 hlt) hd (kk G p l e R s m args below meth c H locs cells slots ls C hR hS hl h1 h2 h3 h4)
    · cases hg
  · cases hg
theorem z_laload {a : Nat} {i : Int32} {x : Int64} (hd : decode cc pc = .ok (.laload, 1)) (hg : aL h a i = some x) (kk : zW y cc nL ret d mc ms (pc + 1) lv (.long x :: st) h v h') : zW y cc nL ret d mc ms pc lv (.int i :: .ref a :: st) h v h' := by
  intro G p l e R s m args below meth c H locs cells slots ls C hR hS hl h1 h2 h3 h4
  unfold aL at hg
  split at hg
  · rename_i t n f heq
    split at hg
    · rename_i hc
      cases hg
      obtain ⟨rfl, h0, hlt⟩ := hc
      exact va_lald C.1 C.2.1 C.2.2.2.2.2.2.2.2.1 (hR.one heq) 0 1 rfl rfl (zin h0 hlt) hd (kk G p l e R s m args below meth c H locs cells slots ls C hR hS hl h1 h2 h3 h4)
    · cases hg
  · cases hg
theorem z_aaload {a : Nat} {i : Int32} {x : Option Nat} (hd : decode cc pc = .ok (.aaload, 1)) (hg : aQ h a i = some x) (kk : zW y cc nL ret d mc ms (pc + 1) lv (va_rf x :: st) h v h') : zW y cc nL ret d mc ms pc lv (.int i :: .ref a :: st) h v h' := by
  intro G p l e R s m args below meth c H locs cells slots ls C hR hS hl h1 h2 h3 h4
  unfold aQ at hg
  split at hg
  · rename_i t n f heq
    split at hg
    · rename_i hc
      cases hg
      obtain ⟨rfl | rfl, h0, hlt⟩ := hc
      · exact va_aldq C.1 C.2.1 C.2.2.2.2.2.2.2.2.1 (hR.one heq) 0 4 rfl rfl (zin h0 hlt) hd (kk G p l e R s m args below meth c H locs cells slots ls C hR hS hl h1 h2 h3 h4)
      · exact va_aldq C.1 C.2.1 C.2.2.2.2.2.2.2.2.1 (hR.one heq) 0 5 rfl rfl (zin h0 hlt) hd (kk G p l e R s m args below meth c H locs cells slots ls C hR hS hl h1 h2 h3 h4)
    · cases hg
  · cases hg
theorem z_alen {a : Nat} {x : Int32} (hd : decode cc pc = .ok (.arraylength, 1)) (hg : aN h a = some x) (kk : zW y cc nL ret d mc ms (pc + 1) lv (.int x :: st) h v h') : zW y cc nL ret d mc ms pc lv (.ref a :: st) h v h' := by
  intro G p l e R s m args below meth c H locs cells slots ls C hR hS hl h1 h2 h3 h4
  unfold aN at hg
  split at hg
  · rename_i t n f heq
    split at hg
    · rename_i hc
      cases hg
      by_cases h6 : t < 6
      · have hh : ∃ ty, (zT G.2.1)[t]? = some (G.2.1 t, ty) := by
          match t, h6 with
          | 0, _ => exact ⟨_, rfl⟩
          | 1, _ => exact ⟨_, rfl⟩
          | 2, _ => exact ⟨_, rfl⟩
          | 3, _ => exact ⟨_, rfl⟩
          | 4, _ => exact ⟨_, rfl⟩
          | 5, _ => exact ⟨_, rfl⟩
          | t + 6, hc => omega
        obtain ⟨ty, hty⟩ := hh
        exact va_alen C.1 C.2.1 C.2.2.2.2.2.2.2.2.1 (hR.one heq h6) 0 t rfl hty rfl hd (kk G p l e R s m args below meth c H locs cells slots ls C hR hS hl h1 h2 h3 h4)
      · obtain ⟨cell, k1, k2, k3, k4, k5, k6, k7⟩ := (hR.2.2.2 a _ heq).1.old h6
        have hz : ∃ ty, zoc s cell.cls ty := by
          rw [k2]
          have hx := C.2.2.2.2.2.2.2.2.2.1.2.2.2.2.2.2.2.2.2.2.2.2.2.2.2
          match t, h6, hc with
          | 6, _, _ => exact ⟨_, hx.1⟩
          | 7, _, _ => exact ⟨_, hx.2.1⟩
          | 8, _, _ => exact ⟨_, hx.2.2.1⟩
          | 9, _, _ => exact ⟨_, hx.2.2.2⟩
          | 0, h6, _ => exact absurd (by decide) h6
          | 1, h6, _ => exact absurd (by decide) h6
          | 2, h6, _ => exact absurd (by decide) h6
          | 3, h6, _ => exact absurd (by decide) h6
          | 4, h6, _ => exact absurd (by decide) h6
          | 5, h6, _ => exact absurd (by decide) h6
          | t + 10, _, hc => omega
        obtain ⟨ty, hz⟩ := hz
        exact W.alen C.1 C.2.1 k1 (hz.is k4) k6 (g := F0 m pc ls _) rfl rfl hd (kk G p l e R s m args below meth c H locs cells slots ls C hR hS hl h1 h2 h3 h4)
    · cases hg
  · cases hg
theorem z_iastore {a : Nat} {i x : Int32} {g : zH} (hd : decode cc pc = .ok (.iastore, 1)) (hg : sI h a i x = some g) (kk : zW y cc nL ret d mc ms (pc + 1) lv st g v h') : zW y cc nL ret d mc ms pc lv (.int x :: .int i :: .ref a :: st) h v h' := by
  intro G p l e R s m args below meth c H locs cells slots ls C hR hS hl h1 h2 h3 h4
  unfold sI at hg
  split at hg
  · rename_i t n f heq
    split at hg
    · rename_i hc
      cases hg
      obtain ⟨rfl, h0, hlt⟩ := hc
      obtain ⟨he0, hwr⟩ := hR.2.2.2 a _ heq
      have he := he0.va (by show (0 : Nat) < 6; decide)
      have hb := hwr (by show (0 : Nat) < 6; decide)
      refine W.iast C.1 C.2.1 he ((C.2.2.2.2.2.2.2.2.1.2 0 _ rfl).1 n (fun j => .int (f j))) (fun q => by cases q) (by show ¬ (i < 0 ∨ (arrV _ _ _).slots.size ≤ _); rw [arrV_size]; exact zin h0 hlt) rfl rfl hd fun H1 e1 z oq => ?_
      refine kk G p l e R s m args below meth c H1 _ cells slots ls C (hR.put hb z oq ?_) (hS.put z oq hb) hl h1 h2 h3 h4
      exact e1.trans (congrArg some (zst_i _ _ _ _ _))
    · cases hg
  · cases hg
theorem z_lastore {a : Nat} {i : Int32} {x : Int64} {g : zH} (hd : decode cc pc = .ok (.lastore, 1)) (hg : sL h a i x = some g) (kk : zW y cc nL ret d mc ms (pc + 1) lv st g v h') : zW y cc nL ret d mc ms pc lv (.long x :: .int i :: .ref a :: st) h v h' := by
  intro G p l e R s m args below meth c H locs cells slots ls C hR hS hl h1 h2 h3 h4
  unfold sL at hg
  split at hg
  · rename_i t n f heq
    split at hg
    · rename_i hc
      cases hg
      obtain ⟨rfl, h0, hlt⟩ := hc
      obtain ⟨he0, hwr⟩ := hR.2.2.2 a _ heq
      have he := he0.va (by show (1 : Nat) < 6; decide)
      have hb := hwr (by show (1 : Nat) < 6; decide)
      refine W.last C.1 C.2.1 he ((C.2.2.2.2.2.2.2.2.1.2 1 _ rfl).1 n (fun j => .long (f j))) (fun q => by cases q) (by show ¬ (i < 0 ∨ (arrV _ _ _).slots.size ≤ _); rw [arrV_size]; exact zin h0 hlt) rfl rfl hd fun H1 e1 z oq => ?_
      refine kk G p l e R s m args below meth c H1 _ cells slots ls C (hR.put hb z oq ?_) (hS.put z oq hb) hl h1 h2 h3 h4
      exact e1.trans (congrArg some (zst_l _ _ _ _ _))
    · cases hg
  · cases hg
theorem z_bastore {a : Nat} {i x : Int32} {g : zH} (hd : decode cc pc = .ok (.bastore, 1)) (hg : sB h a i x = some g) (kk : zW y cc nL ret d mc ms (pc + 1) lv st g v h') : zW y cc nL ret d mc ms pc lv (.int x :: .int i :: .ref a :: st) h v h' := by
  intro G p l e R s m args below meth c H locs cells slots ls C hR hS hl h1 h2 h3 h4
  unfold sB at hg
  split at hg
  · rename_i t n f heq
    split at hg
    · rename_i hc
      cases hg
      obtain ⟨rfl, h0, hlt⟩ := hc
      obtain ⟨he0, hwr⟩ := hR.2.2.2 a _ heq
      have he := he0.va (by show (2 : Nat) < 6; decide)
      have hb := hwr (by show (2 : Nat) < 6; decide)
      refine W.bast C.1 C.2.1 he ((C.2.2.2.2.2.2.2.2.1.2 2 _ rfl).1 n (fun j => .int (f j))) (fun q => by cases q) (by show ¬ (i < 0 ∨ (arrV _ _ _).slots.size ≤ _); rw [arrV_size]; exact zin h0 hlt) rfl rfl hd fun H1 e1 z oq => ?_
      refine kk G p l e R s m args below meth c H1 _ cells slots ls C (hR.put hb z oq ?_) (hS.put z oq hb) hl h1 h2 h3 h4
      exact e1.trans (congrArg some (zst_i _ _ _ _ _))
    · cases hg
  · cases hg
theorem z_zastore {a : Nat} {i x : Int32} {g : zH} (hd : decode cc pc = .ok (.bastore, 1)) (hg : sZ h a i x = some g) (kk : zW y cc nL ret d mc ms (pc + 1) lv st g v h') : zW y cc nL ret d mc ms pc lv (.int x :: .int i :: .ref a :: st) h v h' := by
  intro G p l e R s m args below meth c H locs cells slots ls C hR hS hl h1 h2 h3 h4
  unfold sZ at hg
  split at hg
  · rename_i t n f heq
    split at hg
    · rename_i hc
      cases hg
      obtain ⟨rfl, h0, hlt, hx⟩ := hc
      obtain ⟨he0, hwr⟩ := hR.2.2.2 a _ heq
      have he := he0.va (by show (3 : Nat) < 6; decide)
      have hb := hwr (by show (3 : Nat) < 6; decide)
      refine W.zast C.1 C.2.1 he ((C.2.2.2.2.2.2.2.2.1.2 3 _ rfl).1 n (fun j => .int (f j))) (fun q => by cases q) (by show ¬ (i < 0 ∨ (arrV _ _ _).slots.size ≤ _); rw [arrV_size]; exact zin h0 hlt) rfl rfl hd fun H1 e1 z oq => ?_
      refine kk G p l e R s m args below meth c H1 _ cells slots ls C (hR.put hb z oq ?_) (hS.put z oq hb) hl h1 h2 h3 h4
      have hnx : narrow .boolean (.int x) = .int x := by rcases hx with rfl | rfl <;> rfl
      rw [hnx] at e1
      exact e1.trans (congrArg some (zst_i _ _ _ _ _))
    · cases hg
  · cases hg
theorem zob_spec {o ci : Nat} (hz : zob h o ci = true) : ∃ fs, h.2 o = some (.inr (ci, fs)) := by
  unfold zob at hz
  split at hz
  · rename_i c fs heq
    have : c = ci := by simpa using hz
    subst this
    exact ⟨_, heq⟩
  · cases hz
theorem z_aastore {a : Nat} {i : Int32} {x : Nat} {g : zH} (hd : decode cc pc = .ok (.aastore, 1)) (hg : sQ h a i x = some g) (kk : zW y cc nL ret d mc ms (pc + 1) lv st g v h') : zW y cc nL ret d mc ms pc lv (.ref x :: .int i :: .ref a :: st) h v h' := by
  intro G p l e R s m args below meth c H locs cells slots ls C hR hS hl h1 h2 h3 h4
  unfold sQ at hg
  split at hg
  · rename_i t n f heq
    split at hg
    · rename_i hc
      cases hg
      obtain ⟨hc, h0, hlt⟩ := hc
      obtain ⟨he0, hwr⟩ := hR.2.2.2 a _ heq
      have he := he0.va (by show t < 6; rcases hc with ⟨rfl, _⟩ | ⟨rfl, _⟩ <;> decide)
      have hb : G.2.2.1 ≤ a := hwr (by show t < 6; rcases hc with ⟨rfl, _⟩ | ⟨rfl, _⟩ <;> decide)
      have hh : ∃ (ci : Nat) (r : vw_C) (fs : List Value), vwCl[ci]? = some r ∧ h.2 x = some (.inr (ci, fs)) ∧ (zT G.2.1)[t]? = some (G.2.1 t, .object r.1) := by
        rcases hc with ⟨rfl, hz⟩ | ⟨rfl, hz⟩
        · obtain ⟨fs, hz⟩ := zob_spec hz
          exact ⟨6, _, fs, rfl, hz, rfl⟩
        · obtain ⟨fs, hz⟩ := zob_spec hz
          exact ⟨4, _, fs, rfl, hz, rfl⟩
      obtain ⟨ci, r, fs, hcl, hx, hty⟩ := hh
      have hK := C.2.2.2.2.2.2.2.2.1
      obtain ⟨⟨r', hr', cellV, g1, g2, g3, -⟩, -⟩ := hR.2.2.2 x _ hx
      have hcls := (hK.1 ci r hcl).2
      obtain ⟨kA, comp, k1, k2, k3, -⟩ := (hK.2 t _ hty).2
      have hcomp : comp = G.1.1 ci := Option.some.inj (k3.symm.trans hcls.1)
      subst hcomp
      obtain ⟨kC, hkC, -⟩ := hcls.2
      refine W.aast C.1 C.2.1 he (fun q h => by cases h) (fun h => by cases h) k1 k2 rfl hkC ⟨h0, by show _ < (arrV _ _ _).slots.size; rw [arrV_size]; exact hlt⟩ g1 (fun q h => by rw [g3] at h; cases h) (by rw [g2]; exact hkC) (by rw [g2]; exact va_assign hcls) rfl rfl hd fun H1 e1 z oq => ?_
      refine kk G p l e R s m args below meth c H1 _ cells slots ls C (hR.put hb z oq ?_ (by show t < 6; rcases hc with ⟨rfl, _⟩ | ⟨rfl, _⟩ <;> decide)) (hS.put z oq hb) hl h1 h2 h3 h4
      exact e1.trans (congrArg some (zst_q _ _ _ _ _))
    · cases hg
  · cases hg
end ZH
