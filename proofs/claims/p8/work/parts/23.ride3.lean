/-- a ride's cell at its end: the last look too -/
def rFin (sx sy : Int32) (q : Nat → Int32 × Int32 × Int32 × Int32 × Int32) (j : Nat) : zE := rL (q j).1 (q j).2.1 (q j).2.2.1 (nI j) (sF sx sy (q j).1 (q j).2.1 (nI j) (q j).2.2.2.1) (q j).2.2.2.2 (rM q j)
theorem go_eq {N R M : Nat} {h : zH} {a b c d e g i sp m0 m1 reacts m3 pace looks sx sy fl : Int32} {u : Nat} (hne : M ≠ R) (hM : mIs h M m0 m1 reacts m3 pace looks sx sy fl) (hB : brk h) (hnb : h.1.2 0 ≠ R) (hf : fl = 0 ∨ fl = 1 ∨ fl = 2) (hu : u ≤ 60) (hN : 60 < N) :
    f_X8_go N R M sp (nI u) (zset h R (rL a b c d e g i)) = some (zset h R (rFin sx sy (rSeq m0 m3 sp reacts pace looks sx sy fl) (rEnd (rSeq m0 m3 sp reacts pace looks sx sy fl) u 0))) := by
  have hM0 := hM
  obtain ⟨k0, k1, k2, k3, k4, k5, k7, k8, k9⟩ := hM
  have w0 : ∀ a b c d e g i z : Int32, pF (zset h R (rL a b c d e g i)) R 8 0 (.int z) = some (zset h R (rL z b c d e g i)) := fun _ _ _ _ _ _ _ _ => by unfold rL; rw [pF_zs]; rfl
  have w1 : ∀ a b c d e g i z : Int32, pF (zset h R (rL a b c d e g i)) R 8 1 (.int z) = some (zset h R (rL a z c d e g i)) := fun _ _ _ _ _ _ _ _ => by unfold rL; rw [pF_zs]; rfl
  have w2 : ∀ a b c d e g i z : Int32, pF (zset h R (rL a b c d e g i)) R 8 2 (.int z) = some (zset h R (rL a b z d e g i)) := fun _ _ _ _ _ _ _ _ => by unfold rL; rw [pF_zs]; rfl
  have w3 : ∀ a b c d e g i z : Int32, pF (zset h R (rL a b c d e g i)) R 8 3 (.int z) = some (zset h R (rL a b c z e g i)) := fun _ _ _ _ _ _ _ _ => by unfold rL; rw [pF_zs]; rfl
  have w4 : ∀ a b c d e g i z : Int32, pF (zset h R (rL a b c d e g i)) R 8 4 (.int z) = some (zset h R (rL a b c d z g i)) := fun _ _ _ _ _ _ _ _ => by unfold rL; rw [pF_zs]; rfl
  have w5 : ∀ a b c d e g i z : Int32, pF (zset h R (rL a b c d e g i)) R 8 5 (.int z) = some (zset h R (rL a b c d e z i)) := fun _ _ _ _ _ _ _ _ => by unfold rL; rw [pF_zs]; rfl
  have w6 : ∀ a b c d e g i z : Int32, pF (zset h R (rL a b c d e g i)) R 8 6 (.int z) = some (zset h R (rL a b c d e g z)) := fun _ _ _ _ _ _ _ _ => by unfold rL; rw [pF_zs]; rfl
  have zz : ∀ a b c d e g i : Int32, zob (zset h R (rL a b c d e g i)) R 8 = true := fun _ _ _ _ _ _ _ => zob_zs _ _ _ _
  unfold f_X8_go
  simp only [gI_zn hne, k0, k3, w0, w1, w2, w3, w4, w5, w6, Option.bind_some]
  have hs : (rL m0 m3 sp 0 (-1) (-1) (-1)) = rAt (rSeq m0 m3 sp reacts pace looks sx sy fl) 0 := by
    unfold rAt rM
    simp [rSeq, nI_0]
  rw [hs, show (0 : Int32) = nI 0 from nI_0.symm, goL_eq hne hM0 hB hnb hf u N 0 u (by omega) (by omega) hu, Option.bind_some]
  generalize rEnd (rSeq m0 m3 sp reacts pace looks sx sy fl) u 0 = j
  unfold rAt
  rw [zz, zif_t, sees_eq hne hM0, Option.bind_some, zif_t, notice_eq, Option.bind_some]
  rfl
/-- what a MEETING's cell holds: its ints by their places -/
def mL (i : Nat → Int32) : zE := .inr (6, [.int (i 0), .int (i 1), .int (i 2), .int (i 3), .int (i 4), .int (i 5), .int (i 6), .int (i 7), .int (i 8), .int (i 9), .int (i 10), .int (i 11), .int (i 12), .int (i 13), .int (i 14), .int (i 15)])
