/-! words for the functions that a program writes out of the bytecode -/
def zlet {α β : Type} (a : α) (f : α → β) : β := f a
theorem zletE {α β : Type} {a : α} {f : α → β} {r : β} (h : zlet a f = r) : ∃ x, a = x ∧ f x = r := ⟨a, rfl, h⟩
theorem zbind {α β : Type} {o : Option α} {f : α → Option β} {r : β} (h : o.bind f = some r) : ∃ x, o = some x ∧ f x = some r := by
  cases o with
  | none => cases h
  | some x => exact ⟨x, rfl, h⟩
def zif {β : Type} (b : Bool) (a : Option β) : Option β := if b = true then a else none
theorem zifE {β : Type} {b : Bool} {a : Option β} {r : β} (h : zif b a = some r) : b = true ∧ a = some r := by
  unfold zif at h
  split at h
  · rename_i hb; exact ⟨hb, h⟩
  · cases h
def zdiv {β : Type} (z : Int32) (a : Option β) : Option β := if z = 0 then none else a
theorem zdivE {β : Type} {z : Int32} {a : Option β} {r : β} (h : zdiv z a = some r) : ¬ z = 0 ∧ a = some r := by
  unfold zdiv at h
  split at h
  · cases h
  · rename_i hb; exact ⟨hb, h⟩
def rZ (x : Int32) (h : zH) : Option (Int32 × zH) := if x = 0 ∨ x = 1 then some (x, h) else none
theorem rZE {x : Int32} {h : zH} {r : Int32 × zH} (e : rZ x h = some r) : (x = 0 ∨ x = 1) ∧ some (x, h) = some r := by
  unfold rZ at e
  split at e
  · rename_i hb; exact ⟨hb, e⟩
  · cases e
def rZ0 (x : Int32) : Option Int32 := if x = 0 ∨ x = 1 then some x else none
theorem rZ0E {x r : Int32} (e : rZ0 x = some r) : (x = 0 ∨ x = 1) ∧ some x = some r := by
  unfold rZ0 at e
  split at e
  · rename_i hb; exact ⟨hb, e⟩
  · cases e
def rB0 (x : Int32) : Option Int32 := if x = 0 then some x else none
theorem rB0E {x r : Int32} (e : rB0 x = some r) : narrow .byte (.int x) = .int x ∧ some x = some r := by
  unfold rB0 at e
  split at e
  · rename_i hb; subst hb; exact ⟨by rfl, e⟩
  · cases e
def rC0 (x : Int32) : Option Int32 := if (x.toUInt32 % 65536).toInt32 = x then some x else none
theorem rC0E {x r : Int32} (e : rC0 x = some r) : narrow .char (.int x) = .int x ∧ some x = some r := by
  unfold rC0 at e
  split at e
  · rename_i hb
    have h9 := pk_nc x
    rw [hb] at h9
    exact ⟨h9, e⟩
  · cases e
def zopt {α β : Type} (x : Option α) (a : β) (f : α → β) : β := match x with
  | none => a
  | some y => f y
theorem zoptN {α β : Type} {a : β} {f : α → β} {r : β} (h : zopt none a f = r) : a = r := h
theorem zoptS {α β : Type} {a : β} {f : α → β} {r : β} {y : α} (h : zopt (some y) a f = r) : f y = r := h
def zsum {α β : Type} (x : α ⊕ β) (f : α → Option β) : Option β := match x with
  | .inl s => f s
  | .inr o => some o
theorem zsumL {α β : Type} {s : α} {f : α → Option β} {r : Option β} (h : zsum (.inl s) f = r) : f s = r := h
theorem zsumR {α β : Type} {o : β} {f : α → Option β} {r : Option β} (h : zsum (.inr o) f = r) : some o = r := h
def zsumW {α β γ : Type} (x : α ⊕ β) (f : α → Option (γ ⊕ β)) : Option (γ ⊕ β) := match x with
  | .inl s => f s
  | .inr o => some (.inr o)
theorem zsumWL {α β γ : Type} {s : α} {f : α → Option (γ ⊕ β)} {r : Option (γ ⊕ β)} (h : zsumW (.inl s) f = r) : f s = r := h
theorem zsumWR {α β γ : Type} {o : β} {f : α → Option (γ ⊕ β)} {r : Option (γ ⊕ β)} (h : zsumW (.inr o) f = r) : some (.inr o) = r := h
theorem zmapR {α β : Type} {o : Option β} {m : α ⊕ β} (h : o.map .inr = some m) : ∃ a, o = some a ∧ m = .inr a := by
  cases o with
  | none => cases h
  | some a => cases h; exact ⟨a, rfl, rfl⟩
theorem pZ_n {h g : zH} {o ci k : Nat} {x : Int32} (e : pZ h o ci k x = some g) : narrow .boolean (.int x) = .int x := by
  unfold pZ at e
  split at e
  · rename_i hx; rcases hx with rfl | rfl <;> rfl
  · cases e
theorem pZ_f {h g : zH} {o ci k : Nat} {x : Int32} (e : pZ h o ci k x = some g) : fits .boolean (.int x) = true := by
  unfold pZ at e
  split at e
  · rename_i hx; rcases hx with rfl | rfl <;> decide
  · cases e
theorem pZ_p {h g : zH} {o ci k : Nat} {x : Int32} (e : pZ h o ci k x = some g) : pF h o ci k (.int x) = some g := by
  unfold pZ at e
  split at e
  · exact e
  · cases e
theorem zne {x z : Int32} (h : ¬ x = z) : x.toInt ≠ z.toInt := fun e => h (Int32.toInt_inj.mp e)
theorem z_nreturn {y : MethodName} {cc : ByteArray} {nL : Nat} {ret : Option FieldType} {d mc ms pc : Nat} {lv : List (Nat × Value)} {h : zH} {x : Int32} {ty : FieldType} (hr : ret = some ty) (hd : decode cc pc = .ok (.ireturn, 1)) (hn : narrow ty (.int x) = .int x) : zW y cc nL ret d mc ms pc lv [.int x] h (some (.int x)) h := by
  intro G p l e R s m args below meth c H locs cells slots ls C hR hS hl h1 h2 h3 h4
  refine W.widen (k := R.cells) (n := R.slots) (by omega) (by omega) ?_
  exact W.zret C.1 C.2.1 (C.2.2.2.2.2.1.trans hr) hn (fun t ht hW => ⟨rfl, by rw [ht]; exact hR, hS.F ht⟩) hS.2.2 hd (hlocks := C.2.2.2.2.2.2.1)
section ZM
variable {y : MethodName} {cc : ByteArray} {nL : Nat} {ret : Option FieldType} {d mc ms pc : Nat} {lv : List (Nat × Value)} {st : List Value} {h : zH} {v : Option Value} {h' : zH}
theorem z_nmI {x x' : Int32} (e : x = x') (k : zW y cc nL ret d mc ms pc lv (.int x' :: st) h v h') : zW y cc nL ret d mc ms pc lv (.int x :: st) h v h' := by rw [e]; exact k
theorem z_nmJ {x x' : Int64} (e : x = x') (k : zW y cc nL ret d mc ms pc lv (.long x' :: st) h v h') : zW y cc nL ret d mc ms pc lv (.long x :: st) h v h' := by rw [e]; exact k
theorem z_nmN {x x' : Nat} (e : x = x') (k : zW y cc nL ret d mc ms pc lv (.ref x' :: st) h v h') : zW y cc nL ret d mc ms pc lv (.ref x :: st) h v h' := by rw [e]; exact k
theorem z_nmQv {x x' : Option Nat} (e : x = x') (k : zW y cc nL ret d mc ms pc lv (va_rf x' :: st) h v h') : zW y cc nL ret d mc ms pc lv (va_rf x :: st) h v h' := by rw [e]; exact k
theorem z_nmQ {x : Option Nat} {a : Nat} (e : x = some a) (k : zW y cc nL ret d mc ms pc lv (.ref a :: st) h v h') : zW y cc nL ret d mc ms pc lv (va_rf x :: st) h v h' := by rw [e]; exact k
theorem z_nmH {g : zH} (e : h = g) (k : zW y cc nL ret d mc ms pc lv st g v h') : zW y cc nL ret d mc ms pc lv st h v h' := by rw [e]; exact k
theorem z_tswIn {dflt lo hi : Int} {offs : Array Int} {len : Nat} {x : Int32} {off : Int} (tgt : Nat) (hd : decode cc pc = .ok (.tableswitch dflt lo hi offs, len)) (h1 : ¬ x.toInt < lo) (h2 : ¬ hi < x.toInt) (ho : offs[(x.toInt - lo).toNat]? = some off) (ht : (pc : Int) + off = (tgt : Int))
    (k : zW y cc nL ret d mc ms tgt lv st h v h') : zW y cc nL ret d mc ms pc lv (.int x :: st) h v h' := by
  intro G p l e R s m args below meth c H locs cells slots ls C hR hS hl g1 g2 g3 g4
  exact lv_tableIn C.1 C.2.1 hd h1 h2 ho ht (k G p l e R s m args below meth c H locs cells slots ls C hR hS hl g1 g2 g3 g4)
theorem z_tswOut {dflt lo hi : Int} {offs : Array Int} {len : Nat} {x : Int32} (tgt : Nat) (hd : decode cc pc = .ok (.tableswitch dflt lo hi offs, len)) (h1 : x.toInt < lo ∨ hi < x.toInt) (ht : (pc : Int) + dflt = (tgt : Int))
    (k : zW y cc nL ret d mc ms tgt lv st h v h') : zW y cc nL ret d mc ms pc lv (.int x :: st) h v h' := by
  intro G p l e R s m args below meth c H locs cells slots ls C hR hS hl g1 g2 g3 g4
  exact lv_tableOut C.1 C.2.1 hd h1 ht (k G p l e R s m args below meth c H locs cells slots ls C hR hS hl g1 g2 g3 g4)
theorem z_lsw {dflt : Int} {ps : Array (Int × Int)} {len : Nat} {x : Int32} {off : Int} (tgt : Nat) (hd : decode cc pc = .ok (.lookupswitch dflt ps, len)) (hp : (ps.toList.zip (ps.toList.drop 1)).all (fun (a, next) => a.1 < next.1) = true) (ho : Op.lookupswitch.offset ps.toList dflt x.toInt = off) (ht : (pc : Int) + off = (tgt : Int))
    (k : zW y cc nL ret d mc ms tgt lv st h v h') : zW y cc nL ret d mc ms pc lv (.int x :: st) h v h' := by
  intro G p l e R s m args below meth c H locs cells slots ls C hR hS hl g1 g2 g3 g4
  exact lv_lookup C.1 C.2.1 hd hp ho ht (k G p l e R s m args below meth c H locs cells slots ls C hR hS hl g1 g2 g3 g4)
end ZM
theorem zsubw (ws : List Cond) (ps : List Nat) (h : ps.map (fun i => lw_tbl[i]?) = ws.map some) (g : ws.all goodWord = true) : ∀ w ∈ ws, w ∈ zB := by
  intro w hw
  have h1 : some w ∈ ws.map some := List.mem_map.mpr ⟨w, hw, rfl⟩
  rw [← h] at h1
  obtain ⟨i, -, hi⟩ := List.mem_map.mp h1
  exact zmem i hi (List.all_eq_true.mp g w hw)
theorem zcatq (x : Option Nat) : (va_rf x).category = 1 := by cases x <;> rfl
theorem zmw {w : Cond} (h : w ∈ lw_tbl) (g : goodWord w = true) : w ∈ zB := List.mem_filter.mpr ⟨h, g⟩
theorem zmt_1 (w : Cond) (h : w ∈ tables_1_1) : w ∈ lw_tbl := List.mem_append_right _ (List.mem_append_left _ h)
theorem zmt_2 (w : Cond) (h : w ∈ tables_1_2) : w ∈ lw_tbl := List.mem_append_right _ (List.mem_append_right _ (List.mem_append_left _ h))
theorem zmt_3 (w : Cond) (h : w ∈ tables_1_3) : w ∈ lw_tbl := List.mem_append_right _ (List.mem_append_right _ (List.mem_append_right _ (List.mem_append_left _ h)))
theorem zmt_4 (w : Cond) (h : w ∈ tables_1_4) : w ∈ lw_tbl := List.mem_append_right _ (List.mem_append_right _ (List.mem_append_right _ (List.mem_append_right _ (List.mem_append_left _ h))))
theorem zmt_5 (w : Cond) (h : w ∈ tables_1_5) : w ∈ lw_tbl := List.mem_append_right _ (List.mem_append_right _ (List.mem_append_right _ (List.mem_append_right _ (List.mem_append_right _ (List.mem_append_left _ h)))))
theorem zmt_6 (w : Cond) (h : w ∈ tables_1_6) : w ∈ lw_tbl := List.mem_append_right _ (List.mem_append_right _ (List.mem_append_right _ (List.mem_append_right _ (List.mem_append_right _ (List.mem_append_right _ (List.mem_append_left _ h))))))
theorem zmt_7 (w : Cond) (h : w ∈ tables_1_7) : w ∈ lw_tbl := List.mem_append_right _ (List.mem_append_right _ (List.mem_append_right _ (List.mem_append_right _ (List.mem_append_right _ (List.mem_append_right _ (List.mem_append_right _ (List.mem_append_left _ h)))))))
theorem zmt_8 (w : Cond) (h : w ∈ tables_1_8) : w ∈ lw_tbl := List.mem_append_right _ (List.mem_append_right _ (List.mem_append_right _ (List.mem_append_right _ (List.mem_append_right _ (List.mem_append_right _ (List.mem_append_right _ (List.mem_append_right _ (h))))))))
theorem cl_0 : zCl 0 RX0 TX0 7 tyX0 := ⟨rfl, zsubw _ [367, 369, 371, 373, 375, 377, 379] (by decide +kernel) (by decide +kernel), tyX0_ok, nmX0⟩
theorem cl_1 : zCl 1 RX1 TX1 11 tyX1 := ⟨rfl, zsubw _ [328, 330, 332, 334, 336, 338, 340, 342, 344, 346, 348] (by decide +kernel) (by decide +kernel), tyX1_ok, nmX1⟩
theorem cl_2 : zCl 2 RX2 TX2 8 tyX2 := ⟨rfl, zsubw _ [399, 401, 403, 405, 407, 409, 411, 413] (by decide +kernel) (by decide +kernel), tyX2_ok, nmX2⟩
theorem cl_3 : zCl 3 RX3 TX3 7 tyX3 := ⟨rfl, zsubw _ [430, 432, 434, 436, 438, 440, 442] (by decide +kernel) (by decide +kernel), tyX3_ok, nmX3⟩
theorem cl_4 : zCl 4 RX4 TX4 3 tyX4 := ⟨rfl, zsubw _ [910, 912, 914] (by decide +kernel) (by decide +kernel), tyX4_ok, nmX4⟩
theorem cl_5 : zCl 5 RX5 TX5 2 tyX5 := ⟨rfl, zsubw _ [456, 458] (by decide +kernel) (by decide +kernel), tyX5_ok, nmX5⟩
theorem cl_6 : zCl 6 RX6 TX6 16 tyX6 := ⟨rfl, zsubw _ [598, 600, 602, 604, 606, 608, 610, 612, 614, 616, 618, 620, 622, 624, 626, 628] (by decide +kernel) (by decide +kernel), tyX6_ok, nmX6⟩
theorem cl_7 : zCl 7 RX7 TX7 9 tyX7 := ⟨rfl, zsubw _ [284, 286, 288, 290, 292, 294, 296, 298, 300] (by decide +kernel) (by decide +kernel), tyX7_ok, nmX7⟩
theorem cl_8 : zCl 8 RX8 TX8 7 tyX8 := ⟨rfl, zsubw _ [163, 165, 167, 169, 171, 173, 175] (by decide +kernel) (by decide +kernel), tyX8_ok, nmX8⟩
theorem cl_9 : zCl 9 RX9 TX9 8 tyX9 := ⟨rfl, zsubw _ [250, 252, 254, 256, 258, 260, 262, 264] (by decide +kernel) (by decide +kernel), tyX9_ok, nmX9⟩
theorem cl_10 : zCl 10 RX10 TX10 11 tyX10 := ⟨rfl, zsubw _ [480, 482, 484, 486, 488, 490, 492, 494, 496, 498, 500] (by decide +kernel) (by decide +kernel), tyX10_ok, nmX10⟩
theorem cl_11 : zCl 11 RX11 TX11 13 tyX11 := ⟨rfl, zsubw _ [516, 518, 520, 522, 524, 526, 528, 530, 532, 534, 536, 538, 540] (by decide +kernel) (by decide +kernel), tyX11_ok, nmX11⟩
theorem cl_12 : zCl 12 RX12 TX12 80 tyX12 := ⟨rfl, zsubw _ [1450, 1452, 1454, 1456, 1458, 1460, 1462, 1464, 1466, 1468, 1470, 1472, 1474, 1476, 1478, 1480, 1482, 1484, 1486, 1488, 1490, 1492, 1494, 1496, 1498, 1500, 1502, 1504, 1506, 1508, 1510, 1512, 1514, 1516, 1518, 1520, 1522, 1524, 1526, 1528, 1530, 1532, 1534, 1536, 1538, 1540, 1542, 1544, 1546, 1548, 1550, 1552, 1554, 1556, 1558, 1560, 1562, 1564, 1566, 1568, 1570, 1572, 1574, 1576, 1578, 1580, 1582, 1584, 1586, 1588, 1590, 1592, 1594, 1596, 1598, 1600, 1602, 1604, 1606, 1608] (by decide +kernel) (by decide +kernel), tyX12_ok, nmX12⟩
