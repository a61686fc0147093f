theorem hL_sIl (h0 : zH) (L : List zE) (k : Nat) (i x : Int32) : sI (hL h0 L) (h0.1.1 + k) i x = match L[k]? with
    | some (.inl (t, n, .inl f)) => if t = 0 ∧ ¬ i < 0 ∧ i.toNatClampNeg < n then some (hL h0 (L.set k (.inl (t, n, .inl (upd f i.toNatClampNeg x))))) else none
    | _ => none := by
  unfold sI
  rw [hL_at]
  cases hc : L[k]? with
  | none => rfl
  | some c =>
    cases c with
    | inl b =>
      obtain ⟨t, n, A⟩ := b
      cases A with
      | inl f =>
        show (if t = 0 ∧ ¬ i < 0 ∧ i.toNatClampNeg < n then some (zset (hL h0 L) (h0.1.1 + k) _) else none) = _
        rw [hL_set (hL_lt hc)]
      | inr _ => rfl
    | inr o => rfl
theorem hL_sLl (h0 : zH) (L : List zE) (k : Nat) (i : Int32) (x : Int64) : sL (hL h0 L) (h0.1.1 + k) i x = match L[k]? with
    | some (.inl (t, n, .inr (.inl f))) => if t = 1 ∧ ¬ i < 0 ∧ i.toNatClampNeg < n then some (hL h0 (L.set k (.inl (t, n, .inr (.inl (vp_updL f i.toNatClampNeg x)))))) else none
    | _ => none := by
  unfold sL
  rw [hL_at]
  cases hc : L[k]? with
  | none => rfl
  | some c =>
    cases c with
    | inl b =>
      obtain ⟨t, n, A⟩ := b
      cases A with
      | inl f => rfl
      | inr A =>
        cases A with
        | inl f =>
          show (if t = 1 ∧ ¬ i < 0 ∧ i.toNatClampNeg < n then some (zset (hL h0 L) (h0.1.1 + k) _) else none) = _
          rw [hL_set (hL_lt hc)]
        | inr _ => rfl
    | inr o => rfl
theorem tc_0 : (0 : Int32).toNatClampNeg = 0 := by decide
theorem tn_0 : ((0 : Int32) < 0) = False := by decide
theorem tc_1 : (1 : Int32).toNatClampNeg = 1 := by decide
theorem tn_1 : ((1 : Int32) < 0) = False := by decide
theorem tc_2 : (2 : Int32).toNatClampNeg = 2 := by decide
theorem tn_2 : ((2 : Int32) < 0) = False := by decide
theorem tc_3 : (3 : Int32).toNatClampNeg = 3 := by decide
theorem tn_3 : ((3 : Int32) < 0) = False := by decide
theorem tc_4 : (4 : Int32).toNatClampNeg = 4 := by decide
theorem tn_4 : ((4 : Int32) < 0) = False := by decide
theorem tc_5 : (5 : Int32).toNatClampNeg = 5 := by decide
theorem tn_5 : ((5 : Int32) < 0) = False := by decide
theorem tc_6 : (6 : Int32).toNatClampNeg = 6 := by decide
theorem tn_6 : ((6 : Int32) < 0) = False := by decide
theorem tc_7 : (7 : Int32).toNatClampNeg = 7 := by decide
theorem tn_7 : ((7 : Int32) < 0) = False := by decide
theorem tc_8 : (8 : Int32).toNatClampNeg = 8 := by decide
theorem tn_8 : ((8 : Int32) < 0) = False := by decide
theorem tc_9 : (9 : Int32).toNatClampNeg = 9 := by decide
theorem tn_9 : ((9 : Int32) < 0) = False := by decide
theorem tc_10 : (10 : Int32).toNatClampNeg = 10 := by decide
theorem tn_10 : ((10 : Int32) < 0) = False := by decide
theorem tc_11 : (11 : Int32).toNatClampNeg = 11 := by decide
theorem tn_11 : ((11 : Int32) < 0) = False := by decide
theorem tc_12 : (12 : Int32).toNatClampNeg = 12 := by decide
theorem tn_12 : ((12 : Int32) < 0) = False := by decide
theorem tc_13 : (13 : Int32).toNatClampNeg = 13 := by decide
theorem tn_13 : ((13 : Int32) < 0) = False := by decide
theorem tc_14 : (14 : Int32).toNatClampNeg = 14 := by decide
theorem tn_14 : ((14 : Int32) < 0) = False := by decide
theorem tc_15 : (15 : Int32).toNatClampNeg = 15 := by decide
theorem tn_15 : ((15 : Int32) < 0) = False := by decide
theorem tc_16 : (16 : Int32).toNatClampNeg = 16 := by decide
theorem tn_16 : ((16 : Int32) < 0) = False := by decide
theorem tc_17 : (17 : Int32).toNatClampNeg = 17 := by decide
theorem tn_17 : ((17 : Int32) < 0) = False := by decide
theorem tc_18 : (18 : Int32).toNatClampNeg = 18 := by decide
theorem tn_18 : ((18 : Int32) < 0) = False := by decide
theorem tc_19 : (19 : Int32).toNatClampNeg = 19 := by decide
theorem tn_19 : ((19 : Int32) < 0) = False := by decide
theorem tc_20 : (20 : Int32).toNatClampNeg = 20 := by decide
theorem tn_20 : ((20 : Int32) < 0) = False := by decide
theorem hurt_loop {N v0 r : Nat} : ∀ (fuel j : Nat) (h : zH) (f : Nat → Int32), 248 - j < fuel → j ≤ 248 → gR h v0 12 70 = some r → h.2 r = some (.inl (0, 248, .inl f)) → v0 ≠ r → f_X12_init_L652 N v0 fuel (nI j) h = some (zset h r (.inl (0, 248, .inl (fun i => if j ≤ i ∧ i < 248 then (-1) else f i)))) := by
  intro fuel
  induction fuel with
  | zero => intro j h f h1; omega
  | succ k ih =>
    intro j h f h1 h2 e0 e n1
    unfold f_X12_init_L652
    by_cases hj : j = 248
    · subst hj
      have ef : (fun i => if 248 ≤ i ∧ i < 248 then (-1) else f i) = f := by
        funext i
        have hi : ¬ (248 ≤ i ∧ i < 248) := by omega
        simp [hi]
      rw [if_pos (show (248 : Int32) ≤ nI 248 by decide), ef, zs_id e]
    · have hlt : j < 248 := by omega
      rw [if_neg (show ¬ (248 : Int32) ≤ nI j from nI_ge hlt (by decide)), e0]
      show ((sI h r (nI j) (-1)).bind _) = _
      rw [sI_of e hlt (by decide)]
      show f_X12_init_L652 N v0 k (nI j + 1) _ = _
      rw [nI_1, ih (j + 1) _ _ (by omega) (by omega) (by rw [gR_zn n1]; exact e0) (zs_same _ _ _) n1, zs_zs, fill_upd hlt]
/-! the reference's constructor: makings one after the other -/
def rO (v0 : Nat) (k : zH → Option zH) : List (Nat × zE) → zH → Option zH
  | [], h => k h
  | q :: r, h => zlet (znew h q.2 : zH) fun h1 => (pF h1 v0 12 q.1 (.ref h.1.1)).bind fun h2 => rO v0 k r h2
def rF (n : Nat) : List (Nat × zE) → List Value → Nat → List Value
  | [], fs, _ => fs
  | q :: r, fs, m => rF n r (fs.set q.1 (.ref (n + (m + 1)))) (m + 1)
theorem rO_eq {h0 : zH} {k : zH → Option zH} : ∀ (ops : List (Nat × zE)) (fs : List Value) (R : List zE), (∀ q ∈ ops, q.1 < fs.length) → rO h0.1.1 k ops (hL h0 (.inr (12, fs) :: R)) = k (hL h0 (.inr (12, rF h0.1.1 ops fs R.length) :: (R ++ ops.map (fun q => q.2)))) := by
  intro ops
  induction ops with
  | nil => intro fs R _; simp [rO, rF]
  | cons q r ih =>
    intro fs R hq
    have hj : q.1 < fs.length := hq q List.mem_cons_self
    unfold rO
    show (pF (znew (hL h0 (.inr (12, fs) :: R)) q.2) h0.1.1 12 q.1 (.ref (h0.1.1 + (R.length + 1)))).bind _ = _
    rw [hL_new, hL_pF0]
    simp only [List.cons_append, List.getElem?_cons_zero, true_and, hj, reduceIte, Option.bind_some, List.set_cons_zero]
    rw [ih _ _ (fun z hz => by rw [List.length_set]; exact hq z (List.mem_cons_of_mem _ hz))]
    simp [rF]
theorem z12n {h0 : zH} {R : List zE} {fs : List Value} {c : zE} {β : Type} {k : zH → Option β} : (zlet (znew (hL h0 (.inr (12, fs) :: R)) c : zH) k) = k (hL h0 (.inr (12, fs) :: (R ++ [c]))) := by
  unfold zlet
  rw [hL_new]
  rfl
theorem z12p {h0 : zH} {R : List zE} {fs : List Value} {j : Nat} {v : Value} {β : Type} {k : zH → Option β} (hj : j < fs.length) : (pF (hL h0 (.inr (12, fs) :: R)) h0.1.1 12 j v).bind k = k (hL h0 (.inr (12, fs.set j v) :: R)) := by
  rw [hL_pF0]
  simp only [List.getElem?_cons_zero, true_and, hj, reduceIte, Option.bind_some, List.set_cons_zero]
theorem z12l {h0 : zH} {R : List zE} {fs : List Value} {n : Nat} {f : Nat → Int64} {i : Int32} {x : Int64} {β : Type} {k : zH → Option β} {a : Nat} (ha : a = h0.1.1 + (R.length + 1)) (hi : ¬ i < 0 ∧ i.toNatClampNeg < n) : (sL (hL h0 (.inr (12, fs) :: (R ++ [.inl (1, n, .inr (.inl f))]))) a i x).bind k = k (hL h0 (.inr (12, fs) :: (R ++ [.inl (1, n, .inr (.inl (vp_updL f i.toNatClampNeg x)))]))) := by
  rw [ha, hL_sLl]
  simp only [List.getElem?_cons_succ, List.getElem?_concat_length, true_and, hi, not_false_eq_true, and_self, reduceIte, Option.bind_some, List.set_cons_succ]
  congr 4
  simp
theorem z12i {h0 : zH} {R : List zE} {fs : List Value} {n : Nat} {f : Nat → Int32} {i x : Int32} {β : Type} {k : zH → Option β} {a : Nat} (ha : a = h0.1.1 + (R.length + 1)) (hi : ¬ i < 0 ∧ i.toNatClampNeg < n) : (sI (hL h0 (.inr (12, fs) :: (R ++ [.inl (0, n, .inl f)]))) a i x).bind k = k (hL h0 (.inr (12, fs) :: (R ++ [.inl (0, n, .inl (upd f i.toNatClampNeg x))]))) := by
  rw [ha, hL_sIl]
  simp only [List.getElem?_cons_succ, List.getElem?_concat_length, true_and, hi, not_false_eq_true, and_self, reduceIte, Option.bind_some, List.set_cons_succ]
  congr 4
  simp
/-- stores of constants into the newest cell -/
def r12L (a : Nat) (k : zH → Option zH) : List (Int32 × Int64) → zH → Option zH
  | [], h => k h
  | q :: r, h => (sL h a q.1 q.2).bind fun h1 => r12L a k r h1
def r12I (a : Nat) (k : zH → Option zH) : List (Int32 × Int32) → zH → Option zH
  | [], h => k h
  | q :: r, h => (sI h a q.1 q.2).bind fun h1 => r12I a k r h1
theorem r12L_eq {h0 : zH} {k : zH → Option zH} {fs : List Value} {R : List zE} {n a : Nat} (ha : a = h0.1.1 + (R.length + 1)) : ∀ (ls : List (Int32 × Int64)) (f : Nat → Int64), (∀ q ∈ ls, ¬ q.1 < 0 ∧ q.1.toNatClampNeg < n) → r12L a k ls (hL h0 (.inr (12, fs) :: (R ++ [.inl (1, n, .inr (.inl f))]))) = k (hL h0 (.inr (12, fs) :: (R ++ [.inl (1, n, .inr (.inl (ls.foldl (fun f q => vp_updL f q.1.toNatClampNeg q.2) f)))]))) := by
  intro ls
  induction ls with
  | nil => intro f _; rfl
  | cons q r ih =>
    intro f hq
    unfold r12L
    rw [z12l ha (hq q List.mem_cons_self), ih _ (fun z hz => hq z (List.mem_cons_of_mem _ hz))]
    rfl
theorem r12I_eq {h0 : zH} {k : zH → Option zH} {fs : List Value} {R : List zE} {n a : Nat} (ha : a = h0.1.1 + (R.length + 1)) : ∀ (ls : List (Int32 × Int32)) (f : Nat → Int32), (∀ q ∈ ls, ¬ q.1 < 0 ∧ q.1.toNatClampNeg < n) → r12I a k ls (hL h0 (.inr (12, fs) :: (R ++ [.inl (0, n, .inl f)]))) = k (hL h0 (.inr (12, fs) :: (R ++ [.inl (0, n, .inl (ls.foldl (fun f q => upd f q.1.toNatClampNeg q.2) f))]))) := by
  intro ls
  induction ls with
  | nil => intro f _; rfl
  | cons q r ih =>
    intro f hq
    unfold r12I
    rw [z12i ha (hq q List.mem_cons_self), ih _ (fun z hz => hq z (List.mem_cons_of_mem _ hz))]
    rfl
def zP1 : List (Nat × zE) := [(1, zblank 0 1000), (4, zblank 0 1002), (5, zblank 0 1002), (6, zblank 1 1002)]
def zP2 : List (Nat × zE) := [(11, zblank 0 17), (12, zblank 0 17), (13, zblank 0 17), (14, zblank 0 340), (15, zblank 0 340), (16, zblank 0 340), (18, zblank 1 8), (20, zblank 0 20400), (21, zblank 0 20400), (22, zblank 0 11), (23, zblank 0 8), (24, zblank 0 1200), (28, zblank 0 40), (29, zblank 0 40), (30, zblank 0 40), (31, zblank 0 40), (32, zblank 0 40), (33, zblank 0 40), (34, zblank 0 40), (35, zblank 0 40), (36, zblank 0 40), (37, zblank 0 40), (38, zblank 0 40), (39, zblank 0 61), (40, zblank 0 61), (41, zblank 0 61), (50, zblank 0 80), (51, zblank 3 80), (52, zblank 0 80), (53, zblank 0 40), (54, zblank 0 128), (55, zblank 0 128), (56, zblank 3 128), (57, zblank 3 4), (58, zblank 0 4), (59, zblank 0 4), (60, zblank 0 4), (61, zblank 0 4), (62, zblank 3 16), (66, zblank 0 4), (68, zblank 0 8), (69, zblank 0 72), (70, zblank 0 248), (71, zblank 0 248), (72, zblank 3 8), (73, zblank 0 8), (74, zblank 0 8), (75, zblank 0 24), (77, zblank 0 8), (78, zblank 0 8)]
def zW12 : List (Int32 × Int64) := [(0, 16633), (1, 11324832), (2, 1176170), (3, 311596924), (4, 1597408270), (5, 122589), (6, 730200), (7, 1891), (8, 573), (9, 19741), (10, 36426541), (11, 811933), (12, 969451), (13, 18002), (14, 23270688), (15, 570026), (16, 11873910), (17, 43567804), (18, 571827392), (19, 22963959), (20, 1273225)]
def zQ12 : List (Int32 × Int32) := [(0, 1), (1, 3), (2, 9), (3, 27), (4, 81), (5, 243), (6, 729), (7, 2187)]
def zK2 (N v0 : Nat) (h : zH) : Option zH := zlet (znew h (zblank 0 8) : zH) fun h1 => r12I h.1.1 (fun h2 => (pF h2 v0 12 79 (.ref h.1.1)).bind fun h3 => (pF h3 v0 12 26 (.int (-1))).bind fun h4 => (f_X12_init_L652 N v0 N 0 h4).bind fun m => some m) zQ12 h1
def zK1 (N v0 : Nat) (h : zH) : Option zH := zlet (znew h (zblank 1 21) : zH) fun h1 => r12L h.1.1 (fun h2 => (pF h2 v0 12 9 (.ref h.1.1)).bind fun h3 => rO v0 (zK2 N v0) zP2 h3) zW12 h1
set_option maxRecDepth 1000000 in
theorem f12_r (N v0 : Nat) (h : zH) : f_X12_init N v0 h = rO v0 (zK1 N v0) zP1 h := rfl
def zF0 : List Value := [.int 0, .null, .int 0, .int 0, .null, .null, .null, .int 0, .int 0, .null, .int 0, .null, .null, .null, .null, .null, .null, .int 0, .null, .int 0, .null, .null, .null, .null, .null, .int 0, .int 0, .int 0, .null, .null, .null, .null, .null, .null, .null, .null, .null, .null, .null, .null, .null, .null, .int 0, .int 0, .int 0, .int 0, .int 0, .int 0, .int 0, .int 0, .null, .null, .null, .null, .null, .null, .null, .null, .null, .null, .null, .null, .null, .int 0, .int 0, .int 0, .null, .int 0, .null, .null, .null, .null, .null, .null, .null, .null, .int 0, .null, .null, .null]
set_option maxRecDepth 100000 in
theorem i_X12 {h0 : zH} : f_X12_init 10000 h0.1.1 (hL h0 [.inr (12, zF0)]) = some (hL h0 (L12 h0.1.1)) := by
  rw [f12_r, rO_eq zP1 zF0 [] (by decide)]
  show zK1 10000 h0.1.1 (hL h0 (.inr (12, rF h0.1.1 zP1 zF0 0) :: zP1.map (fun q => q.2))) = _
  generalize hF1 : rF h0.1.1 zP1 zF0 0 = fs1
  have l1 : fs1.length = 80 := by rw [← hF1]; rfl
  unfold zK1
  rw [z12n]
  show r12L (hL h0 (.inr (12, fs1) :: zP1.map (fun q => q.2))).1.1 _ zW12 (hL h0 (.inr (12, fs1) :: (zP1.map (fun q => q.2) ++ [.inl (1, 21, .inr (.inl (fun _ => 0)))]))) = _
  rw [r12L_eq (by rw [hL_sz]; rfl) zW12 _ (by decide)]
  rw [z12p (by rw [l1]; decide), rO_eq zP2 _ _ (fun q hq => by rw [List.length_set, l1]; exact (by decide : ∀ q ∈ zP2, q.1 < 80) q hq)]
  unfold zK2
  rw [z12n]
  show r12I _ _ zQ12 (hL h0 (.inr (12, _) :: (_ ++ [.inl (0, 8, .inl (fun _ => 0))]))) = _
  rw [r12I_eq (by rw [hL_sz]; rfl) zQ12 _ (by decide)]
  have l2 : ∀ (ops : List (Nat × zE)) (n m : Nat) (fs : List Value), (rF n ops fs m).length = fs.length := by
    intro ops
    induction ops with
    | nil => intros; rfl
    | cons q r ih => intro n m fs; unfold rF; rw [ih, List.length_set]
  rw [z12p (by rw [l2, List.length_set, l1]; decide), z12p (by rw [List.length_set, l2, List.length_set, l1]; decide)]
  subst hF1
  simp only [hL_sz, zP1, zP2, zF0, rF, List.map_cons, List.map_nil, List.set_cons_succ, List.set_cons_zero, List.length_cons, List.length_nil, Nat.reduceAdd, List.cons_append, List.nil_append, List.length_append, Nat.zero_add]
  show (f_X12_init_L652 10000 h0.1.1 10000 (nI 0) _).bind _ = _
  rw [hurt_loop (r := h0.1.1 + 48) 10000 0 _ (fun _ => 0) (by decide) (by decide) (gR_of (by rw [hL_at0]; rfl) rfl) (by rw [hL_at]; rfl) (by omega)]
  rw [hL_set (Nat.le_of_ble_eq_true rfl)]
  have ef : (fun i => if 0 ≤ i ∧ i < 248 then (-1) else (0 : Int32)) = zM1 := by
    funext i
    simp [zM1]
  rw [ef]
  rfl

