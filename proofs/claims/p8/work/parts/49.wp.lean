/-! what a part of a program leaves, if it comes to its end -/
def wp {α : Type} (o : Option α) (Q : α → Prop) : Prop := ∃ a, o = some a ∧ Q a
section WP
variable {α β γ : Type} {Q : β → Prop} {R : α → Prop}
theorem wp_some {a : β} (q : Q a) : wp (some a) Q := ⟨a, rfl, q⟩
theorem wp_bind {o : Option α} {f : α → Option β} (e : wp o R) (k : ∀ a, R a → wp (f a) Q) : wp (o.bind f) Q := by
  obtain ⟨a, rfl, r⟩ := e
  exact k a r
theorem wp_eq {o : Option α} {a : α} {f : α → Option β} (e : o = some a) (k : wp (f a) Q) : wp (o.bind f) Q := by
  subst e
  exact k
theorem wp_ite {c : Prop} [Decidable c] {a b : Option β} (k1 : c → wp a Q) (k2 : ¬ c → wp b Q) : wp (if c then a else b) Q := by
  by_cases hc : c
  · rw [if_pos hc]; exact k1 hc
  · rw [if_neg hc]; exact k2 hc
theorem wp_zif {c : Bool} {a : Option β} (e : c = true) (k : wp a Q) : wp (zif c a) Q := by
  subst e
  exact k
theorem wp_zlet {x : α} {f : α → Option β} (k : wp (f x) Q) : wp (zlet x f) Q := k
theorem wp_zdiv {z : Int32} {a : Option β} (e : ¬ z = 0) (k : wp a Q) : wp (zdiv z a) Q := by
  unfold zdiv
  rw [if_neg e]
  exact k
theorem wp_zopt {x : Option α} {a : Option β} {f : α → Option β} (k0 : x = none → wp a Q) (k1 : ∀ y, x = some y → wp (f y) Q) : wp (zopt x a f) Q := by
  cases x with
  | none => exact k0 rfl
  | some y => exact k1 y rfl
theorem wp_zsL {a : α} {f : α → Option β} (k : wp (f a) Q) : wp (zsum (.inl a) f) Q := k
theorem wp_zsR {b : β} {f : α → Option β} (k : Q b) : wp (zsum (.inr b) f) Q := ⟨b, rfl, k⟩
theorem wp_zwL {Q : γ ⊕ β → Prop} {a : α} {f : α → Option (γ ⊕ β)} (k : wp (f a) Q) : wp (zsumW (.inl a) f) Q := k
theorem wp_zwR {Q : γ ⊕ β → Prop} {b : β} {f : α → Option (γ ⊕ β)} (k : Q (.inr b)) : wp (zsumW (.inr b) f) Q := ⟨_, rfl, k⟩
theorem wp_zsum {x : α ⊕ β} {f : α → Option β} (k0 : ∀ a, x = .inl a → wp (f a) Q) (k1 : ∀ b, x = .inr b → Q b) : wp (zsum x f) Q := by
  cases x with
  | inl a => exact k0 a rfl
  | inr b => exact ⟨b, rfl, k1 b rfl⟩
theorem wp_map {o : Option α} {f : α → β} (k : wp o (fun a => Q (f a))) : wp (o.map f) Q := by
  obtain ⟨a, rfl, r⟩ := k
  exact ⟨_, rfl, r⟩
theorem wp_mono {o : Option α} {S : α → Prop} (e : wp o R) (k : ∀ a, R a → S a) : wp o S := by
  obtain ⟨a, e, r⟩ := e
  exact ⟨a, e, k a r⟩
theorem wp_bite {c : Prop} [Decidable c] {a b : Option α} {f : α → Option β} (k1 : c → wp (a.bind f) Q) (k2 : ¬ c → wp (b.bind f) Q) : wp ((if c then a else b).bind f) Q := by
  by_cases hc : c
  · rw [if_pos hc]; exact k1 hc
  · rw [if_neg hc]; exact k2 hc
theorem wp_bsome {a : α} {f : α → Option β} (k : wp (f a) Q) : wp ((some a).bind f) Q := k
theorem wp_assoc {o : Option γ} {p : γ → Option α} {f : α → Option β} (k : wp (o.bind (fun x => (p x).bind f)) Q) : wp ((o.bind p).bind f) Q := by
  cases o <;> exact k
theorem wp_bzif {c : Bool} {a : Option α} {f : α → Option β} (e : c = true) (k : wp (a.bind f) Q) : wp ((zif c a).bind f) Q := by
  subst e
  exact k
theorem wp_bzlet {x : γ} {p : γ → Option α} {f : α → Option β} (k : wp ((p x).bind f) Q) : wp ((zlet x p).bind f) Q := k
theorem wp_bzdiv {z : Int32} {a : Option α} {f : α → Option β} (e : ¬ z = 0) (k : wp (a.bind f) Q) : wp ((zdiv z a).bind f) Q := by
  unfold zdiv
  rw [if_neg e]
  exact k
theorem wp_bmap {o : Option γ} {p : γ → α} {f : α → Option β} (k : wp (o.bind (fun x => f (p x))) Q) : wp ((o.map p).bind f) Q := by
  cases o <;> exact k
theorem wp_bzopt {x : Option γ} {a : Option α} {p : γ → Option α} {f : α → Option β} (k0 : x = none → wp (a.bind f) Q) (k1 : ∀ y, x = some y → wp ((p y).bind f) Q) : wp ((zopt x a p).bind f) Q := by
  cases x with
  | none => exact k0 rfl
  | some y => exact k1 y rfl
theorem wp_bzsL {a : γ} {p : γ → Option α} {f : α → Option β} (k : wp ((p a).bind f) Q) : wp ((zsum (.inl a) p).bind f) Q := k
theorem wp_bzsR {a : α} {p : γ → Option α} {f : α → Option β} (k : wp (f a) Q) : wp ((zsum (.inr a) p).bind f) Q := k
theorem wp_rZ {x : Int32} {h : zH} {Q : Int32 × zH → Prop} (e : x = 0 ∨ x = 1) (k : Q (x, h)) : wp (rZ x h) Q := by
  unfold rZ
  rw [if_pos e]
  exact ⟨_, rfl, k⟩
theorem wp_rZ0 {x : Int32} {Q : Int32 → Prop} (e : x = 0 ∨ x = 1) (k : Q x) : wp (rZ0 x) Q := by
  unfold rZ0
  rw [if_pos e]
  exact ⟨_, rfl, k⟩
end WP
theorem in11 {v lo hi : Int32} {α : Type} {a b : Option α} {Q : α → Prop} (k1 : ¬ (lo ≤ v ∧ v ≤ hi) → wp a Q) (k2 : lo ≤ v ∧ v ≤ hi → wp b Q) : wp (if p_X11_within v lo hi = 0 then a else b) Q := by
  rw [within_eq]
  by_cases c : lo ≤ v ∧ v ≤ hi
  · rw [if_pos c]; exact k2 c
  · rw [if_neg c]; exact k1 c
theorem in11b {v lo hi : Int32} {α β : Type} {a b : Option α} {f : α → Option β} {Q : β → Prop} (k1 : ¬ (lo ≤ v ∧ v ≤ hi) → wp (a.bind f) Q) (k2 : lo ≤ v ∧ v ≤ hi → wp (b.bind f) Q) : wp ((if p_X11_within v lo hi = 0 then a else b).bind f) Q := by
  rw [within_eq]
  by_cases c : lo ≤ v ∧ v ≤ hi
  · rw [if_pos c]; exact k2 c
  · rw [if_neg c]; exact k1 c
theorem within12 (v lo hi : Int32) : p_X12_within v lo hi = if lo ≤ v ∧ v ≤ hi then 1 else 0 := by
  unfold p_X12_within
  have e1 : v < lo ↔ ¬ lo ≤ v := by rw [Int32.not_le]
  have e2 : hi < v ↔ ¬ v ≤ hi := by rw [Int32.not_le]
  by_cases h1 : lo ≤ v <;> by_cases h2 : v ≤ hi <;> simp [e1, e2, h1, h2]
theorem in12 {v lo hi : Int32} {α : Type} {a b : Option α} {Q : α → Prop} (k1 : ¬ (lo ≤ v ∧ v ≤ hi) → wp a Q) (k2 : lo ≤ v ∧ v ≤ hi → wp b Q) : wp (if p_X12_within v lo hi = 0 then a else b) Q := by
  rw [within12]
  by_cases c : lo ≤ v ∧ v ≤ hi
  · rw [if_pos c]; exact k2 c
  · rw [if_neg c]; exact k1 c
theorem in12b {v lo hi : Int32} {α β : Type} {a b : Option α} {f : α → Option β} {Q : β → Prop} (k1 : ¬ (lo ≤ v ∧ v ≤ hi) → wp (a.bind f) Q) (k2 : lo ≤ v ∧ v ≤ hi → wp (b.bind f) Q) : wp ((if p_X12_within v lo hi = 0 then a else b).bind f) Q := by
  rw [within12]
  by_cases c : lo ≤ v ∧ v ≤ hi
  · rw [if_pos c]; exact k2 c
  · rw [if_neg c]; exact k1 c
/-! counters -/
theorem i32_clamp {i : Int32} (h0 : 0 ≤ i) {N : Nat} (hN : N < 2 ^ 31) (h1 : i < Int32.ofNat N) : ¬ i < 0 ∧ i.toNatClampNeg < N := by
  have a : (0 : Int) ≤ i.toInt := by simpa using Int32.le_iff_toInt_le.mp h0
  have c : i.toInt < (N : Int) := by
    have q := Int32.lt_iff_toInt_lt.mp h1
    rwa [Int32.toInt_ofNat_of_lt (by omega)] at q
  refine ⟨Int32.not_lt.mpr h0, ?_⟩
  show i.toInt.toNat < N
  omega
theorem mu_up {i : Int32} (h0 : 0 ≤ i) (h1 : i < 9000) {m : Nat} (hm : (9000 - i.toInt).toNat < m + 1) : (9000 - (i + 1).toInt).toNat < m := by
  have a : (0 : Int) ≤ i.toInt := by simpa using Int32.le_iff_toInt_le.mp h0
  have c : i.toInt < (9000 : Int) := by simpa using Int32.lt_iff_toInt_lt.mp h1
  have e : (i + 1).toInt = i.toInt + 1 := by
    rw [Int32.toInt_add]
    show (i.toInt + 1).bmod (2 ^ 32) = _
    exact Int.bmod_eq_of_le (by omega) (by omega)
  omega
theorem mu_0 {i : Int32} (h0 : 0 ≤ i) : (9000 - i.toInt).toNat < 10000 := by
  have a : (0 : Int) ≤ i.toInt := by simpa using Int32.le_iff_toInt_le.mp h0
  omega
theorem mu_dn {i : Int32} (h0 : 0 ≤ i) (h1 : i ≤ 9000) {m : Nat} (hm : (i.toInt + 1).toNat < m + 1) : ((i - 1).toInt + 1).toNat < m := by
  have a : (0 : Int) ≤ i.toInt := by simpa using Int32.le_iff_toInt_le.mp h0
  have c : i.toInt ≤ (9000 : Int) := by simpa using Int32.le_iff_toInt_le.mp h1
  have e : (i - 1).toInt = i.toInt - 1 := by
    rw [Int32.toInt_sub]
    show (i.toInt - 1).bmod (2 ^ 32) = _
    exact Int.bmod_eq_of_le (by omega) (by omega)
  omega
theorem mu_d0 {i : Int32} (h1 : i ≤ 9000) : (i.toInt + 1).toNat < 10000 := by
  have c : i.toInt ≤ (9000 : Int) := by simpa using Int32.le_iff_toInt_le.mp h1
  omega
theorem and3 (x : Int32) : 0 ≤ x &&& 3 ∧ x &&& 3 ≤ 3 := by
  have hb : (x &&& 3).toBitVec.toNat < 4 := by
    show (x.toBitVec &&& 3#32).toNat < 4
    rw [BitVec.toNat_and]
    exact Nat.lt_succ_of_le Nat.and_le_right
  have e : (x &&& 3).toInt = ((x &&& 3).toBitVec.toNat : Int) := by
    show (x &&& 3).toBitVec.toInt = _
    rw [BitVec.toInt_eq_toNat_of_lt (by omega)]
  refine ⟨Int32.le_iff_toInt_le.mpr ?_, Int32.le_iff_toInt_le.mpr ?_⟩
  · show (0 : Int) ≤ _
    omega
  · show _ ≤ (3 : Int)
    omega
