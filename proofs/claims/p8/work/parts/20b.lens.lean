def oX0 (r : Nat → Nat) (i : Nat → Int32) : zE := .inr (0, [.ref (r 0), .ref (r 1), .ref (r 2), .ref (r 3), .ref (r 4), .int (i 5), .int (i 6)])
theorem zo_X0 (h : zH) (o : Nat) (r : Nat → Nat) (i : Nat → Int32) : zob (zset h o (oX0 r i)) o 0 = true := zob_zs _ _ _ _
theorem gX0_0 (h : zH) (o : Nat) (r : Nat → Nat) (i : Nat → Int32) : gR (zset h o (oX0 r i)) o 0 0 = some (r 0) := by unfold oX0; rw [gR_zs]; rfl
theorem pX0_0 (h : zH) (o : Nat) (r : Nat → Nat) (i : Nat → Int32) (z : Nat) : pF (zset h o (oX0 r i)) o 0 0 (.ref z) = some (zset h o (oX0 (va_up r 0 z) i)) := by unfold oX0; rw [pF_zs]; rfl
theorem gX0_1 (h : zH) (o : Nat) (r : Nat → Nat) (i : Nat → Int32) : gR (zset h o (oX0 r i)) o 0 1 = some (r 1) := by unfold oX0; rw [gR_zs]; rfl
theorem pX0_1 (h : zH) (o : Nat) (r : Nat → Nat) (i : Nat → Int32) (z : Nat) : pF (zset h o (oX0 r i)) o 0 1 (.ref z) = some (zset h o (oX0 (va_up r 1 z) i)) := by unfold oX0; rw [pF_zs]; rfl
theorem gX0_2 (h : zH) (o : Nat) (r : Nat → Nat) (i : Nat → Int32) : gR (zset h o (oX0 r i)) o 0 2 = some (r 2) := by unfold oX0; rw [gR_zs]; rfl
theorem pX0_2 (h : zH) (o : Nat) (r : Nat → Nat) (i : Nat → Int32) (z : Nat) : pF (zset h o (oX0 r i)) o 0 2 (.ref z) = some (zset h o (oX0 (va_up r 2 z) i)) := by unfold oX0; rw [pF_zs]; rfl
theorem gX0_3 (h : zH) (o : Nat) (r : Nat → Nat) (i : Nat → Int32) : gR (zset h o (oX0 r i)) o 0 3 = some (r 3) := by unfold oX0; rw [gR_zs]; rfl
theorem pX0_3 (h : zH) (o : Nat) (r : Nat → Nat) (i : Nat → Int32) (z : Nat) : pF (zset h o (oX0 r i)) o 0 3 (.ref z) = some (zset h o (oX0 (va_up r 3 z) i)) := by unfold oX0; rw [pF_zs]; rfl
theorem gX0_4 (h : zH) (o : Nat) (r : Nat → Nat) (i : Nat → Int32) : gR (zset h o (oX0 r i)) o 0 4 = some (r 4) := by unfold oX0; rw [gR_zs]; rfl
theorem pX0_4 (h : zH) (o : Nat) (r : Nat → Nat) (i : Nat → Int32) (z : Nat) : pF (zset h o (oX0 r i)) o 0 4 (.ref z) = some (zset h o (oX0 (va_up r 4 z) i)) := by unfold oX0; rw [pF_zs]; rfl
theorem gX0_5 (h : zH) (o : Nat) (r : Nat → Nat) (i : Nat → Int32) : gI (zset h o (oX0 r i)) o 0 5 = some (i 5) := by unfold oX0; rw [gI_zs]; rfl
theorem pX0_5 (h : zH) (o : Nat) (r : Nat → Nat) (i : Nat → Int32) (z : Int32) : pF (zset h o (oX0 r i)) o 0 5 (.int z) = some (zset h o (oX0 r (upd i 5 z))) := by unfold oX0; rw [pF_zs]; rfl
theorem gX0_6 (h : zH) (o : Nat) (r : Nat → Nat) (i : Nat → Int32) : gI (zset h o (oX0 r i)) o 0 6 = some (i 6) := by unfold oX0; rw [gI_zs]; rfl
theorem pX0_6 (h : zH) (o : Nat) (r : Nat → Nat) (i : Nat → Int32) (z : Int32) : pF (zset h o (oX0 r i)) o 0 6 (.int z) = some (zset h o (oX0 r (upd i 6 z))) := by unfold oX0; rw [pF_zs]; rfl
def oX1 (r : Nat → Nat) (i : Nat → Int32) : zE := .inr (1, [.ref (r 0), .ref (r 1), .ref (r 2), .int (i 3), .int (i 4), .int (i 5), .int (i 6), .int (i 7), .int (i 8), .int (i 9), .int (i 10)])
theorem zo_X1 (h : zH) (o : Nat) (r : Nat → Nat) (i : Nat → Int32) : zob (zset h o (oX1 r i)) o 1 = true := zob_zs _ _ _ _
theorem gX1_0 (h : zH) (o : Nat) (r : Nat → Nat) (i : Nat → Int32) : gR (zset h o (oX1 r i)) o 1 0 = some (r 0) := by unfold oX1; rw [gR_zs]; rfl
theorem pX1_0 (h : zH) (o : Nat) (r : Nat → Nat) (i : Nat → Int32) (z : Nat) : pF (zset h o (oX1 r i)) o 1 0 (.ref z) = some (zset h o (oX1 (va_up r 0 z) i)) := by unfold oX1; rw [pF_zs]; rfl
theorem gX1_1 (h : zH) (o : Nat) (r : Nat → Nat) (i : Nat → Int32) : gR (zset h o (oX1 r i)) o 1 1 = some (r 1) := by unfold oX1; rw [gR_zs]; rfl
theorem pX1_1 (h : zH) (o : Nat) (r : Nat → Nat) (i : Nat → Int32) (z : Nat) : pF (zset h o (oX1 r i)) o 1 1 (.ref z) = some (zset h o (oX1 (va_up r 1 z) i)) := by unfold oX1; rw [pF_zs]; rfl
theorem gX1_2 (h : zH) (o : Nat) (r : Nat → Nat) (i : Nat → Int32) : gR (zset h o (oX1 r i)) o 1 2 = some (r 2) := by unfold oX1; rw [gR_zs]; rfl
theorem pX1_2 (h : zH) (o : Nat) (r : Nat → Nat) (i : Nat → Int32) (z : Nat) : pF (zset h o (oX1 r i)) o 1 2 (.ref z) = some (zset h o (oX1 (va_up r 2 z) i)) := by unfold oX1; rw [pF_zs]; rfl
theorem gX1_3 (h : zH) (o : Nat) (r : Nat → Nat) (i : Nat → Int32) : gI (zset h o (oX1 r i)) o 1 3 = some (i 3) := by unfold oX1; rw [gI_zs]; rfl
theorem pX1_3 (h : zH) (o : Nat) (r : Nat → Nat) (i : Nat → Int32) (z : Int32) : pF (zset h o (oX1 r i)) o 1 3 (.int z) = some (zset h o (oX1 r (upd i 3 z))) := by unfold oX1; rw [pF_zs]; rfl
theorem gX1_4 (h : zH) (o : Nat) (r : Nat → Nat) (i : Nat → Int32) : gI (zset h o (oX1 r i)) o 1 4 = some (i 4) := by unfold oX1; rw [gI_zs]; rfl
theorem pX1_4 (h : zH) (o : Nat) (r : Nat → Nat) (i : Nat → Int32) (z : Int32) : pF (zset h o (oX1 r i)) o 1 4 (.int z) = some (zset h o (oX1 r (upd i 4 z))) := by unfold oX1; rw [pF_zs]; rfl
theorem gX1_5 (h : zH) (o : Nat) (r : Nat → Nat) (i : Nat → Int32) : gI (zset h o (oX1 r i)) o 1 5 = some (i 5) := by unfold oX1; rw [gI_zs]; rfl
theorem pX1_5 (h : zH) (o : Nat) (r : Nat → Nat) (i : Nat → Int32) (z : Int32) : pF (zset h o (oX1 r i)) o 1 5 (.int z) = some (zset h o (oX1 r (upd i 5 z))) := by unfold oX1; rw [pF_zs]; rfl
theorem gX1_6 (h : zH) (o : Nat) (r : Nat → Nat) (i : Nat → Int32) : gI (zset h o (oX1 r i)) o 1 6 = some (i 6) := by unfold oX1; rw [gI_zs]; rfl
theorem pX1_6 (h : zH) (o : Nat) (r : Nat → Nat) (i : Nat → Int32) (z : Int32) : pF (zset h o (oX1 r i)) o 1 6 (.int z) = some (zset h o (oX1 r (upd i 6 z))) := by unfold oX1; rw [pF_zs]; rfl
theorem gX1_7 (h : zH) (o : Nat) (r : Nat → Nat) (i : Nat → Int32) : gI (zset h o (oX1 r i)) o 1 7 = some (i 7) := by unfold oX1; rw [gI_zs]; rfl
theorem pX1_7 (h : zH) (o : Nat) (r : Nat → Nat) (i : Nat → Int32) (z : Int32) : pF (zset h o (oX1 r i)) o 1 7 (.int z) = some (zset h o (oX1 r (upd i 7 z))) := by unfold oX1; rw [pF_zs]; rfl
theorem gX1_8 (h : zH) (o : Nat) (r : Nat → Nat) (i : Nat → Int32) : gI (zset h o (oX1 r i)) o 1 8 = some (i 8) := by unfold oX1; rw [gI_zs]; rfl
theorem pX1_8 (h : zH) (o : Nat) (r : Nat → Nat) (i : Nat → Int32) (z : Int32) : pF (zset h o (oX1 r i)) o 1 8 (.int z) = some (zset h o (oX1 r (upd i 8 z))) := by unfold oX1; rw [pF_zs]; rfl
theorem gX1_9 (h : zH) (o : Nat) (r : Nat → Nat) (i : Nat → Int32) : gI (zset h o (oX1 r i)) o 1 9 = some (i 9) := by unfold oX1; rw [gI_zs]; rfl
theorem pX1_9 (h : zH) (o : Nat) (r : Nat → Nat) (i : Nat → Int32) (z : Int32) : pF (zset h o (oX1 r i)) o 1 9 (.int z) = some (zset h o (oX1 r (upd i 9 z))) := by unfold oX1; rw [pF_zs]; rfl
theorem gX1_10 (h : zH) (o : Nat) (r : Nat → Nat) (i : Nat → Int32) : gI (zset h o (oX1 r i)) o 1 10 = some (i 10) := by unfold oX1; rw [gI_zs]; rfl
theorem pX1_10 (h : zH) (o : Nat) (r : Nat → Nat) (i : Nat → Int32) (z : Int32) : pF (zset h o (oX1 r i)) o 1 10 (.int z) = some (zset h o (oX1 r (upd i 10 z))) := by unfold oX1; rw [pF_zs]; rfl
def oX2 (r : Nat → Nat) (i : Nat → Int32) : zE := .inr (2, [.ref (r 0), .ref (r 1), .ref (r 2), .ref (r 3), .int (i 4), .int (i 5), .int (i 6), .int (i 7)])
theorem zo_X2 (h : zH) (o : Nat) (r : Nat → Nat) (i : Nat → Int32) : zob (zset h o (oX2 r i)) o 2 = true := zob_zs _ _ _ _
theorem gX2_0 (h : zH) (o : Nat) (r : Nat → Nat) (i : Nat → Int32) : gR (zset h o (oX2 r i)) o 2 0 = some (r 0) := by unfold oX2; rw [gR_zs]; rfl
theorem pX2_0 (h : zH) (o : Nat) (r : Nat → Nat) (i : Nat → Int32) (z : Nat) : pF (zset h o (oX2 r i)) o 2 0 (.ref z) = some (zset h o (oX2 (va_up r 0 z) i)) := by unfold oX2; rw [pF_zs]; rfl
theorem gX2_1 (h : zH) (o : Nat) (r : Nat → Nat) (i : Nat → Int32) : gR (zset h o (oX2 r i)) o 2 1 = some (r 1) := by unfold oX2; rw [gR_zs]; rfl
theorem pX2_1 (h : zH) (o : Nat) (r : Nat → Nat) (i : Nat → Int32) (z : Nat) : pF (zset h o (oX2 r i)) o 2 1 (.ref z) = some (zset h o (oX2 (va_up r 1 z) i)) := by unfold oX2; rw [pF_zs]; rfl
theorem gX2_2 (h : zH) (o : Nat) (r : Nat → Nat) (i : Nat → Int32) : gR (zset h o (oX2 r i)) o 2 2 = some (r 2) := by unfold oX2; rw [gR_zs]; rfl
theorem pX2_2 (h : zH) (o : Nat) (r : Nat → Nat) (i : Nat → Int32) (z : Nat) : pF (zset h o (oX2 r i)) o 2 2 (.ref z) = some (zset h o (oX2 (va_up r 2 z) i)) := by unfold oX2; rw [pF_zs]; rfl
theorem gX2_3 (h : zH) (o : Nat) (r : Nat → Nat) (i : Nat → Int32) : gR (zset h o (oX2 r i)) o 2 3 = some (r 3) := by unfold oX2; rw [gR_zs]; rfl
theorem pX2_3 (h : zH) (o : Nat) (r : Nat → Nat) (i : Nat → Int32) (z : Nat) : pF (zset h o (oX2 r i)) o 2 3 (.ref z) = some (zset h o (oX2 (va_up r 3 z) i)) := by unfold oX2; rw [pF_zs]; rfl
theorem gX2_4 (h : zH) (o : Nat) (r : Nat → Nat) (i : Nat → Int32) : gI (zset h o (oX2 r i)) o 2 4 = some (i 4) := by unfold oX2; rw [gI_zs]; rfl
theorem pX2_4 (h : zH) (o : Nat) (r : Nat → Nat) (i : Nat → Int32) (z : Int32) : pF (zset h o (oX2 r i)) o 2 4 (.int z) = some (zset h o (oX2 r (upd i 4 z))) := by unfold oX2; rw [pF_zs]; rfl
theorem gX2_5 (h : zH) (o : Nat) (r : Nat → Nat) (i : Nat → Int32) : gI (zset h o (oX2 r i)) o 2 5 = some (i 5) := by unfold oX2; rw [gI_zs]; rfl
theorem pX2_5 (h : zH) (o : Nat) (r : Nat → Nat) (i : Nat → Int32) (z : Int32) : pF (zset h o (oX2 r i)) o 2 5 (.int z) = some (zset h o (oX2 r (upd i 5 z))) := by unfold oX2; rw [pF_zs]; rfl
theorem gX2_6 (h : zH) (o : Nat) (r : Nat → Nat) (i : Nat → Int32) : gI (zset h o (oX2 r i)) o 2 6 = some (i 6) := by unfold oX2; rw [gI_zs]; rfl
theorem pX2_6 (h : zH) (o : Nat) (r : Nat → Nat) (i : Nat → Int32) (z : Int32) : pF (zset h o (oX2 r i)) o 2 6 (.int z) = some (zset h o (oX2 r (upd i 6 z))) := by unfold oX2; rw [pF_zs]; rfl
theorem gX2_7 (h : zH) (o : Nat) (r : Nat → Nat) (i : Nat → Int32) : gI (zset h o (oX2 r i)) o 2 7 = some (i 7) := by unfold oX2; rw [gI_zs]; rfl
theorem pX2_7 (h : zH) (o : Nat) (r : Nat → Nat) (i : Nat → Int32) (z : Int32) : pF (zset h o (oX2 r i)) o 2 7 (.int z) = some (zset h o (oX2 r (upd i 7 z))) := by unfold oX2; rw [pF_zs]; rfl
def oX3 (r : Nat → Nat) (i : Nat → Int32) : zE := .inr (3, [.ref (r 0), .ref (r 1), .ref (r 2), .ref (r 3), .int (i 4), .int (i 5), .int (i 6)])
theorem zo_X3 (h : zH) (o : Nat) (r : Nat → Nat) (i : Nat → Int32) : zob (zset h o (oX3 r i)) o 3 = true := zob_zs _ _ _ _
theorem gX3_0 (h : zH) (o : Nat) (r : Nat → Nat) (i : Nat → Int32) : gR (zset h o (oX3 r i)) o 3 0 = some (r 0) := by unfold oX3; rw [gR_zs]; rfl
theorem pX3_0 (h : zH) (o : Nat) (r : Nat → Nat) (i : Nat → Int32) (z : Nat) : pF (zset h o (oX3 r i)) o 3 0 (.ref z) = some (zset h o (oX3 (va_up r 0 z) i)) := by unfold oX3; rw [pF_zs]; rfl
theorem gX3_1 (h : zH) (o : Nat) (r : Nat → Nat) (i : Nat → Int32) : gR (zset h o (oX3 r i)) o 3 1 = some (r 1) := by unfold oX3; rw [gR_zs]; rfl
theorem pX3_1 (h : zH) (o : Nat) (r : Nat → Nat) (i : Nat → Int32) (z : Nat) : pF (zset h o (oX3 r i)) o 3 1 (.ref z) = some (zset h o (oX3 (va_up r 1 z) i)) := by unfold oX3; rw [pF_zs]; rfl
theorem gX3_2 (h : zH) (o : Nat) (r : Nat → Nat) (i : Nat → Int32) : gR (zset h o (oX3 r i)) o 3 2 = some (r 2) := by unfold oX3; rw [gR_zs]; rfl
theorem pX3_2 (h : zH) (o : Nat) (r : Nat → Nat) (i : Nat → Int32) (z : Nat) : pF (zset h o (oX3 r i)) o 3 2 (.ref z) = some (zset h o (oX3 (va_up r 2 z) i)) := by unfold oX3; rw [pF_zs]; rfl
theorem gX3_3 (h : zH) (o : Nat) (r : Nat → Nat) (i : Nat → Int32) : gR (zset h o (oX3 r i)) o 3 3 = some (r 3) := by unfold oX3; rw [gR_zs]; rfl
theorem pX3_3 (h : zH) (o : Nat) (r : Nat → Nat) (i : Nat → Int32) (z : Nat) : pF (zset h o (oX3 r i)) o 3 3 (.ref z) = some (zset h o (oX3 (va_up r 3 z) i)) := by unfold oX3; rw [pF_zs]; rfl
theorem gX3_4 (h : zH) (o : Nat) (r : Nat → Nat) (i : Nat → Int32) : gI (zset h o (oX3 r i)) o 3 4 = some (i 4) := by unfold oX3; rw [gI_zs]; rfl
theorem pX3_4 (h : zH) (o : Nat) (r : Nat → Nat) (i : Nat → Int32) (z : Int32) : pF (zset h o (oX3 r i)) o 3 4 (.int z) = some (zset h o (oX3 r (upd i 4 z))) := by unfold oX3; rw [pF_zs]; rfl
theorem gX3_5 (h : zH) (o : Nat) (r : Nat → Nat) (i : Nat → Int32) : gI (zset h o (oX3 r i)) o 3 5 = some (i 5) := by unfold oX3; rw [gI_zs]; rfl
theorem pX3_5 (h : zH) (o : Nat) (r : Nat → Nat) (i : Nat → Int32) (z : Int32) : pF (zset h o (oX3 r i)) o 3 5 (.int z) = some (zset h o (oX3 r (upd i 5 z))) := by unfold oX3; rw [pF_zs]; rfl
theorem gX3_6 (h : zH) (o : Nat) (r : Nat → Nat) (i : Nat → Int32) : gI (zset h o (oX3 r i)) o 3 6 = some (i 6) := by unfold oX3; rw [gI_zs]; rfl
theorem pX3_6 (h : zH) (o : Nat) (r : Nat → Nat) (i : Nat → Int32) (z : Int32) : pF (zset h o (oX3 r i)) o 3 6 (.int z) = some (zset h o (oX3 r (upd i 6 z))) := by unfold oX3; rw [pF_zs]; rfl
def oX4 (r : Nat → Nat) (i : Nat → Int32) : zE := .inr (4, [.int (i 0), .int (i 1), .ref (r 2)])
theorem zo_X4 (h : zH) (o : Nat) (r : Nat → Nat) (i : Nat → Int32) : zob (zset h o (oX4 r i)) o 4 = true := zob_zs _ _ _ _
theorem gX4_0 (h : zH) (o : Nat) (r : Nat → Nat) (i : Nat → Int32) : gI (zset h o (oX4 r i)) o 4 0 = some (i 0) := by unfold oX4; rw [gI_zs]; rfl
theorem pX4_0 (h : zH) (o : Nat) (r : Nat → Nat) (i : Nat → Int32) (z : Int32) : pF (zset h o (oX4 r i)) o 4 0 (.int z) = some (zset h o (oX4 r (upd i 0 z))) := by unfold oX4; rw [pF_zs]; rfl
theorem gX4_1 (h : zH) (o : Nat) (r : Nat → Nat) (i : Nat → Int32) : gI (zset h o (oX4 r i)) o 4 1 = some (i 1) := by unfold oX4; rw [gI_zs]; rfl
theorem pX4_1 (h : zH) (o : Nat) (r : Nat → Nat) (i : Nat → Int32) (z : Int32) : pF (zset h o (oX4 r i)) o 4 1 (.int z) = some (zset h o (oX4 r (upd i 1 z))) := by unfold oX4; rw [pF_zs]; rfl
theorem gX4_2 (h : zH) (o : Nat) (r : Nat → Nat) (i : Nat → Int32) : gR (zset h o (oX4 r i)) o 4 2 = some (r 2) := by unfold oX4; rw [gR_zs]; rfl
theorem pX4_2 (h : zH) (o : Nat) (r : Nat → Nat) (i : Nat → Int32) (z : Nat) : pF (zset h o (oX4 r i)) o 4 2 (.ref z) = some (zset h o (oX4 (va_up r 2 z) i)) := by unfold oX4; rw [pF_zs]; rfl
def oX5 (r : Nat → Nat) (i : Nat → Int32) : zE := .inr (5, [.ref (r 0), .ref (r 1)])
theorem zo_X5 (h : zH) (o : Nat) (r : Nat → Nat) (i : Nat → Int32) : zob (zset h o (oX5 r i)) o 5 = true := zob_zs _ _ _ _
theorem gX5_0 (h : zH) (o : Nat) (r : Nat → Nat) (i : Nat → Int32) : gR (zset h o (oX5 r i)) o 5 0 = some (r 0) := by unfold oX5; rw [gR_zs]; rfl
theorem pX5_0 (h : zH) (o : Nat) (r : Nat → Nat) (i : Nat → Int32) (z : Nat) : pF (zset h o (oX5 r i)) o 5 0 (.ref z) = some (zset h o (oX5 (va_up r 0 z) i)) := by unfold oX5; rw [pF_zs]; rfl
theorem gX5_1 (h : zH) (o : Nat) (r : Nat → Nat) (i : Nat → Int32) : gR (zset h o (oX5 r i)) o 5 1 = some (r 1) := by unfold oX5; rw [gR_zs]; rfl
theorem pX5_1 (h : zH) (o : Nat) (r : Nat → Nat) (i : Nat → Int32) (z : Nat) : pF (zset h o (oX5 r i)) o 5 1 (.ref z) = some (zset h o (oX5 (va_up r 1 z) i)) := by unfold oX5; rw [pF_zs]; rfl
def oX6 (r : Nat → Nat) (i : Nat → Int32) : zE := .inr (6, [.int (i 0), .int (i 1), .int (i 2), .int (i 3), .int (i 4), .int (i 5), .int (i 6), .int (i 7), .int (i 8), .int (i 9), .int (i 10), .int (i 11), .int (i 12), .int (i 13), .int (i 14), .int (i 15)])
theorem zo_X6 (h : zH) (o : Nat) (r : Nat → Nat) (i : Nat → Int32) : zob (zset h o (oX6 r i)) o 6 = true := zob_zs _ _ _ _
theorem gX6_0 (h : zH) (o : Nat) (r : Nat → Nat) (i : Nat → Int32) : gI (zset h o (oX6 r i)) o 6 0 = some (i 0) := by unfold oX6; rw [gI_zs]; rfl
theorem pX6_0 (h : zH) (o : Nat) (r : Nat → Nat) (i : Nat → Int32) (z : Int32) : pF (zset h o (oX6 r i)) o 6 0 (.int z) = some (zset h o (oX6 r (upd i 0 z))) := by unfold oX6; rw [pF_zs]; rfl
theorem gX6_1 (h : zH) (o : Nat) (r : Nat → Nat) (i : Nat → Int32) : gI (zset h o (oX6 r i)) o 6 1 = some (i 1) := by unfold oX6; rw [gI_zs]; rfl
theorem pX6_1 (h : zH) (o : Nat) (r : Nat → Nat) (i : Nat → Int32) (z : Int32) : pF (zset h o (oX6 r i)) o 6 1 (.int z) = some (zset h o (oX6 r (upd i 1 z))) := by unfold oX6; rw [pF_zs]; rfl
theorem gX6_2 (h : zH) (o : Nat) (r : Nat → Nat) (i : Nat → Int32) : gI (zset h o (oX6 r i)) o 6 2 = some (i 2) := by unfold oX6; rw [gI_zs]; rfl
theorem pX6_2 (h : zH) (o : Nat) (r : Nat → Nat) (i : Nat → Int32) (z : Int32) : pF (zset h o (oX6 r i)) o 6 2 (.int z) = some (zset h o (oX6 r (upd i 2 z))) := by unfold oX6; rw [pF_zs]; rfl
theorem gX6_3 (h : zH) (o : Nat) (r : Nat → Nat) (i : Nat → Int32) : gI (zset h o (oX6 r i)) o 6 3 = some (i 3) := by unfold oX6; rw [gI_zs]; rfl
theorem pX6_3 (h : zH) (o : Nat) (r : Nat → Nat) (i : Nat → Int32) (z : Int32) : pF (zset h o (oX6 r i)) o 6 3 (.int z) = some (zset h o (oX6 r (upd i 3 z))) := by unfold oX6; rw [pF_zs]; rfl
theorem gX6_4 (h : zH) (o : Nat) (r : Nat → Nat) (i : Nat → Int32) : gI (zset h o (oX6 r i)) o 6 4 = some (i 4) := by unfold oX6; rw [gI_zs]; rfl
theorem pX6_4 (h : zH) (o : Nat) (r : Nat → Nat) (i : Nat → Int32) (z : Int32) : pF (zset h o (oX6 r i)) o 6 4 (.int z) = some (zset h o (oX6 r (upd i 4 z))) := by unfold oX6; rw [pF_zs]; rfl
theorem gX6_5 (h : zH) (o : Nat) (r : Nat → Nat) (i : Nat → Int32) : gI (zset h o (oX6 r i)) o 6 5 = some (i 5) := by unfold oX6; rw [gI_zs]; rfl
theorem pX6_5 (h : zH) (o : Nat) (r : Nat → Nat) (i : Nat → Int32) (z : Int32) : pF (zset h o (oX6 r i)) o 6 5 (.int z) = some (zset h o (oX6 r (upd i 5 z))) := by unfold oX6; rw [pF_zs]; rfl
theorem gX6_6 (h : zH) (o : Nat) (r : Nat → Nat) (i : Nat → Int32) : gI (zset h o (oX6 r i)) o 6 6 = some (i 6) := by unfold oX6; rw [gI_zs]; rfl
theorem pX6_6 (h : zH) (o : Nat) (r : Nat → Nat) (i : Nat → Int32) (z : Int32) : pF (zset h o (oX6 r i)) o 6 6 (.int z) = some (zset h o (oX6 r (upd i 6 z))) := by unfold oX6; rw [pF_zs]; rfl
theorem gX6_7 (h : zH) (o : Nat) (r : Nat → Nat) (i : Nat → Int32) : gI (zset h o (oX6 r i)) o 6 7 = some (i 7) := by unfold oX6; rw [gI_zs]; rfl
theorem pX6_7 (h : zH) (o : Nat) (r : Nat → Nat) (i : Nat → Int32) (z : Int32) : pF (zset h o (oX6 r i)) o 6 7 (.int z) = some (zset h o (oX6 r (upd i 7 z))) := by unfold oX6; rw [pF_zs]; rfl
theorem gX6_8 (h : zH) (o : Nat) (r : Nat → Nat) (i : Nat → Int32) : gI (zset h o (oX6 r i)) o 6 8 = some (i 8) := by unfold oX6; rw [gI_zs]; rfl
theorem pX6_8 (h : zH) (o : Nat) (r : Nat → Nat) (i : Nat → Int32) (z : Int32) : pF (zset h o (oX6 r i)) o 6 8 (.int z) = some (zset h o (oX6 r (upd i 8 z))) := by unfold oX6; rw [pF_zs]; rfl
theorem gX6_9 (h : zH) (o : Nat) (r : Nat → Nat) (i : Nat → Int32) : gI (zset h o (oX6 r i)) o 6 9 = some (i 9) := by unfold oX6; rw [gI_zs]; rfl
theorem pX6_9 (h : zH) (o : Nat) (r : Nat → Nat) (i : Nat → Int32) (z : Int32) : pF (zset h o (oX6 r i)) o 6 9 (.int z) = some (zset h o (oX6 r (upd i 9 z))) := by unfold oX6; rw [pF_zs]; rfl
theorem gX6_10 (h : zH) (o : Nat) (r : Nat → Nat) (i : Nat → Int32) : gI (zset h o (oX6 r i)) o 6 10 = some (i 10) := by unfold oX6; rw [gI_zs]; rfl
theorem pX6_10 (h : zH) (o : Nat) (r : Nat → Nat) (i : Nat → Int32) (z : Int32) : pF (zset h o (oX6 r i)) o 6 10 (.int z) = some (zset h o (oX6 r (upd i 10 z))) := by unfold oX6; rw [pF_zs]; rfl
theorem gX6_11 (h : zH) (o : Nat) (r : Nat → Nat) (i : Nat → Int32) : gI (zset h o (oX6 r i)) o 6 11 = some (i 11) := by unfold oX6; rw [gI_zs]; rfl
theorem pX6_11 (h : zH) (o : Nat) (r : Nat → Nat) (i : Nat → Int32) (z : Int32) : pF (zset h o (oX6 r i)) o 6 11 (.int z) = some (zset h o (oX6 r (upd i 11 z))) := by unfold oX6; rw [pF_zs]; rfl
theorem gX6_12 (h : zH) (o : Nat) (r : Nat → Nat) (i : Nat → Int32) : gI (zset h o (oX6 r i)) o 6 12 = some (i 12) := by unfold oX6; rw [gI_zs]; rfl
theorem pX6_12 (h : zH) (o : Nat) (r : Nat → Nat) (i : Nat → Int32) (z : Int32) : pF (zset h o (oX6 r i)) o 6 12 (.int z) = some (zset h o (oX6 r (upd i 12 z))) := by unfold oX6; rw [pF_zs]; rfl
theorem gX6_13 (h : zH) (o : Nat) (r : Nat → Nat) (i : Nat → Int32) : gI (zset h o (oX6 r i)) o 6 13 = some (i 13) := by unfold oX6; rw [gI_zs]; rfl
theorem pX6_13 (h : zH) (o : Nat) (r : Nat → Nat) (i : Nat → Int32) (z : Int32) : pF (zset h o (oX6 r i)) o 6 13 (.int z) = some (zset h o (oX6 r (upd i 13 z))) := by unfold oX6; rw [pF_zs]; rfl
theorem gX6_14 (h : zH) (o : Nat) (r : Nat → Nat) (i : Nat → Int32) : gI (zset h o (oX6 r i)) o 6 14 = some (i 14) := by unfold oX6; rw [gI_zs]; rfl
theorem pX6_14 (h : zH) (o : Nat) (r : Nat → Nat) (i : Nat → Int32) (z : Int32) : pF (zset h o (oX6 r i)) o 6 14 (.int z) = some (zset h o (oX6 r (upd i 14 z))) := by unfold oX6; rw [pF_zs]; rfl
theorem gX6_15 (h : zH) (o : Nat) (r : Nat → Nat) (i : Nat → Int32) : gI (zset h o (oX6 r i)) o 6 15 = some (i 15) := by unfold oX6; rw [gI_zs]; rfl
theorem pX6_15 (h : zH) (o : Nat) (r : Nat → Nat) (i : Nat → Int32) (z : Int32) : pF (zset h o (oX6 r i)) o 6 15 (.int z) = some (zset h o (oX6 r (upd i 15 z))) := by unfold oX6; rw [pF_zs]; rfl
def oX7 (r : Nat → Nat) (i : Nat → Int32) : zE := .inr (7, [.ref (r 0), .ref (r 1), .ref (r 2), .ref (r 3), .int (i 4), .int (i 5), .int (i 6), .int (i 7), .int (i 8)])
theorem zo_X7 (h : zH) (o : Nat) (r : Nat → Nat) (i : Nat → Int32) : zob (zset h o (oX7 r i)) o 7 = true := zob_zs _ _ _ _
theorem gX7_0 (h : zH) (o : Nat) (r : Nat → Nat) (i : Nat → Int32) : gR (zset h o (oX7 r i)) o 7 0 = some (r 0) := by unfold oX7; rw [gR_zs]; rfl
theorem pX7_0 (h : zH) (o : Nat) (r : Nat → Nat) (i : Nat → Int32) (z : Nat) : pF (zset h o (oX7 r i)) o 7 0 (.ref z) = some (zset h o (oX7 (va_up r 0 z) i)) := by unfold oX7; rw [pF_zs]; rfl
theorem gX7_1 (h : zH) (o : Nat) (r : Nat → Nat) (i : Nat → Int32) : gR (zset h o (oX7 r i)) o 7 1 = some (r 1) := by unfold oX7; rw [gR_zs]; rfl
theorem pX7_1 (h : zH) (o : Nat) (r : Nat → Nat) (i : Nat → Int32) (z : Nat) : pF (zset h o (oX7 r i)) o 7 1 (.ref z) = some (zset h o (oX7 (va_up r 1 z) i)) := by unfold oX7; rw [pF_zs]; rfl
theorem gX7_2 (h : zH) (o : Nat) (r : Nat → Nat) (i : Nat → Int32) : gR (zset h o (oX7 r i)) o 7 2 = some (r 2) := by unfold oX7; rw [gR_zs]; rfl
theorem pX7_2 (h : zH) (o : Nat) (r : Nat → Nat) (i : Nat → Int32) (z : Nat) : pF (zset h o (oX7 r i)) o 7 2 (.ref z) = some (zset h o (oX7 (va_up r 2 z) i)) := by unfold oX7; rw [pF_zs]; rfl
theorem gX7_3 (h : zH) (o : Nat) (r : Nat → Nat) (i : Nat → Int32) : gR (zset h o (oX7 r i)) o 7 3 = some (r 3) := by unfold oX7; rw [gR_zs]; rfl
theorem pX7_3 (h : zH) (o : Nat) (r : Nat → Nat) (i : Nat → Int32) (z : Nat) : pF (zset h o (oX7 r i)) o 7 3 (.ref z) = some (zset h o (oX7 (va_up r 3 z) i)) := by unfold oX7; rw [pF_zs]; rfl
theorem gX7_4 (h : zH) (o : Nat) (r : Nat → Nat) (i : Nat → Int32) : gI (zset h o (oX7 r i)) o 7 4 = some (i 4) := by unfold oX7; rw [gI_zs]; rfl
theorem pX7_4 (h : zH) (o : Nat) (r : Nat → Nat) (i : Nat → Int32) (z : Int32) : pF (zset h o (oX7 r i)) o 7 4 (.int z) = some (zset h o (oX7 r (upd i 4 z))) := by unfold oX7; rw [pF_zs]; rfl
theorem gX7_5 (h : zH) (o : Nat) (r : Nat → Nat) (i : Nat → Int32) : gI (zset h o (oX7 r i)) o 7 5 = some (i 5) := by unfold oX7; rw [gI_zs]; rfl
theorem pX7_5 (h : zH) (o : Nat) (r : Nat → Nat) (i : Nat → Int32) (z : Int32) : pF (zset h o (oX7 r i)) o 7 5 (.int z) = some (zset h o (oX7 r (upd i 5 z))) := by unfold oX7; rw [pF_zs]; rfl
theorem gX7_6 (h : zH) (o : Nat) (r : Nat → Nat) (i : Nat → Int32) : gI (zset h o (oX7 r i)) o 7 6 = some (i 6) := by unfold oX7; rw [gI_zs]; rfl
theorem pX7_6 (h : zH) (o : Nat) (r : Nat → Nat) (i : Nat → Int32) (z : Int32) : pF (zset h o (oX7 r i)) o 7 6 (.int z) = some (zset h o (oX7 r (upd i 6 z))) := by unfold oX7; rw [pF_zs]; rfl
theorem gX7_7 (h : zH) (o : Nat) (r : Nat → Nat) (i : Nat → Int32) : gI (zset h o (oX7 r i)) o 7 7 = some (i 7) := by unfold oX7; rw [gI_zs]; rfl
theorem pX7_7 (h : zH) (o : Nat) (r : Nat → Nat) (i : Nat → Int32) (z : Int32) : pF (zset h o (oX7 r i)) o 7 7 (.int z) = some (zset h o (oX7 r (upd i 7 z))) := by unfold oX7; rw [pF_zs]; rfl
theorem gX7_8 (h : zH) (o : Nat) (r : Nat → Nat) (i : Nat → Int32) : gI (zset h o (oX7 r i)) o 7 8 = some (i 8) := by unfold oX7; rw [gI_zs]; rfl
theorem pX7_8 (h : zH) (o : Nat) (r : Nat → Nat) (i : Nat → Int32) (z : Int32) : pF (zset h o (oX7 r i)) o 7 8 (.int z) = some (zset h o (oX7 r (upd i 8 z))) := by unfold oX7; rw [pF_zs]; rfl
def oX8 (r : Nat → Nat) (i : Nat → Int32) : zE := .inr (8, [.int (i 0), .int (i 1), .int (i 2), .int (i 3), .int (i 4), .int (i 5), .int (i 6)])
theorem zo_X8 (h : zH) (o : Nat) (r : Nat → Nat) (i : Nat → Int32) : zob (zset h o (oX8 r i)) o 8 = true := zob_zs _ _ _ _
theorem gX8_0 (h : zH) (o : Nat) (r : Nat → Nat) (i : Nat → Int32) : gI (zset h o (oX8 r i)) o 8 0 = some (i 0) := by unfold oX8; rw [gI_zs]; rfl
theorem pX8_0 (h : zH) (o : Nat) (r : Nat → Nat) (i : Nat → Int32) (z : Int32) : pF (zset h o (oX8 r i)) o 8 0 (.int z) = some (zset h o (oX8 r (upd i 0 z))) := by unfold oX8; rw [pF_zs]; rfl
theorem gX8_1 (h : zH) (o : Nat) (r : Nat → Nat) (i : Nat → Int32) : gI (zset h o (oX8 r i)) o 8 1 = some (i 1) := by unfold oX8; rw [gI_zs]; rfl
theorem pX8_1 (h : zH) (o : Nat) (r : Nat → Nat) (i : Nat → Int32) (z : Int32) : pF (zset h o (oX8 r i)) o 8 1 (.int z) = some (zset h o (oX8 r (upd i 1 z))) := by unfold oX8; rw [pF_zs]; rfl
theorem gX8_2 (h : zH) (o : Nat) (r : Nat → Nat) (i : Nat → Int32) : gI (zset h o (oX8 r i)) o 8 2 = some (i 2) := by unfold oX8; rw [gI_zs]; rfl
theorem pX8_2 (h : zH) (o : Nat) (r : Nat → Nat) (i : Nat → Int32) (z : Int32) : pF (zset h o (oX8 r i)) o 8 2 (.int z) = some (zset h o (oX8 r (upd i 2 z))) := by unfold oX8; rw [pF_zs]; rfl
theorem gX8_3 (h : zH) (o : Nat) (r : Nat → Nat) (i : Nat → Int32) : gI (zset h o (oX8 r i)) o 8 3 = some (i 3) := by unfold oX8; rw [gI_zs]; rfl
theorem pX8_3 (h : zH) (o : Nat) (r : Nat → Nat) (i : Nat → Int32) (z : Int32) : pF (zset h o (oX8 r i)) o 8 3 (.int z) = some (zset h o (oX8 r (upd i 3 z))) := by unfold oX8; rw [pF_zs]; rfl
theorem gX8_4 (h : zH) (o : Nat) (r : Nat → Nat) (i : Nat → Int32) : gI (zset h o (oX8 r i)) o 8 4 = some (i 4) := by unfold oX8; rw [gI_zs]; rfl
theorem pX8_4 (h : zH) (o : Nat) (r : Nat → Nat) (i : Nat → Int32) (z : Int32) : pF (zset h o (oX8 r i)) o 8 4 (.int z) = some (zset h o (oX8 r (upd i 4 z))) := by unfold oX8; rw [pF_zs]; rfl
theorem gX8_5 (h : zH) (o : Nat) (r : Nat → Nat) (i : Nat → Int32) : gI (zset h o (oX8 r i)) o 8 5 = some (i 5) := by unfold oX8; rw [gI_zs]; rfl
theorem pX8_5 (h : zH) (o : Nat) (r : Nat → Nat) (i : Nat → Int32) (z : Int32) : pF (zset h o (oX8 r i)) o 8 5 (.int z) = some (zset h o (oX8 r (upd i 5 z))) := by unfold oX8; rw [pF_zs]; rfl
theorem gX8_6 (h : zH) (o : Nat) (r : Nat → Nat) (i : Nat → Int32) : gI (zset h o (oX8 r i)) o 8 6 = some (i 6) := by unfold oX8; rw [gI_zs]; rfl
theorem pX8_6 (h : zH) (o : Nat) (r : Nat → Nat) (i : Nat → Int32) (z : Int32) : pF (zset h o (oX8 r i)) o 8 6 (.int z) = some (zset h o (oX8 r (upd i 6 z))) := by unfold oX8; rw [pF_zs]; rfl
def oX9 (r : Nat → Nat) (i : Nat → Int32) (l : Nat → Int64) : zE := .inr (9, [.ref (r 0), .ref (r 1), .int (i 2), .int (i 3), .int (i 4), .int (i 5), .int (i 6), .long (l 7)])
theorem zo_X9 (h : zH) (o : Nat) (r : Nat → Nat) (i : Nat → Int32) (l : Nat → Int64) : zob (zset h o (oX9 r i l)) o 9 = true := zob_zs _ _ _ _
theorem gX9_0 (h : zH) (o : Nat) (r : Nat → Nat) (i : Nat → Int32) (l : Nat → Int64) : gR (zset h o (oX9 r i l)) o 9 0 = some (r 0) := by unfold oX9; rw [gR_zs]; rfl
theorem pX9_0 (h : zH) (o : Nat) (r : Nat → Nat) (i : Nat → Int32) (l : Nat → Int64) (z : Nat) : pF (zset h o (oX9 r i l)) o 9 0 (.ref z) = some (zset h o (oX9 (va_up r 0 z) i l)) := by unfold oX9; rw [pF_zs]; rfl
theorem gX9_1 (h : zH) (o : Nat) (r : Nat → Nat) (i : Nat → Int32) (l : Nat → Int64) : gR (zset h o (oX9 r i l)) o 9 1 = some (r 1) := by unfold oX9; rw [gR_zs]; rfl
theorem pX9_1 (h : zH) (o : Nat) (r : Nat → Nat) (i : Nat → Int32) (l : Nat → Int64) (z : Nat) : pF (zset h o (oX9 r i l)) o 9 1 (.ref z) = some (zset h o (oX9 (va_up r 1 z) i l)) := by unfold oX9; rw [pF_zs]; rfl
theorem gX9_2 (h : zH) (o : Nat) (r : Nat → Nat) (i : Nat → Int32) (l : Nat → Int64) : gI (zset h o (oX9 r i l)) o 9 2 = some (i 2) := by unfold oX9; rw [gI_zs]; rfl
theorem pX9_2 (h : zH) (o : Nat) (r : Nat → Nat) (i : Nat → Int32) (l : Nat → Int64) (z : Int32) : pF (zset h o (oX9 r i l)) o 9 2 (.int z) = some (zset h o (oX9 r (upd i 2 z) l)) := by unfold oX9; rw [pF_zs]; rfl
theorem gX9_3 (h : zH) (o : Nat) (r : Nat → Nat) (i : Nat → Int32) (l : Nat → Int64) : gI (zset h o (oX9 r i l)) o 9 3 = some (i 3) := by unfold oX9; rw [gI_zs]; rfl
theorem pX9_3 (h : zH) (o : Nat) (r : Nat → Nat) (i : Nat → Int32) (l : Nat → Int64) (z : Int32) : pF (zset h o (oX9 r i l)) o 9 3 (.int z) = some (zset h o (oX9 r (upd i 3 z) l)) := by unfold oX9; rw [pF_zs]; rfl
theorem gX9_4 (h : zH) (o : Nat) (r : Nat → Nat) (i : Nat → Int32) (l : Nat → Int64) : gI (zset h o (oX9 r i l)) o 9 4 = some (i 4) := by unfold oX9; rw [gI_zs]; rfl
theorem pX9_4 (h : zH) (o : Nat) (r : Nat → Nat) (i : Nat → Int32) (l : Nat → Int64) (z : Int32) : pF (zset h o (oX9 r i l)) o 9 4 (.int z) = some (zset h o (oX9 r (upd i 4 z) l)) := by unfold oX9; rw [pF_zs]; rfl
theorem gX9_5 (h : zH) (o : Nat) (r : Nat → Nat) (i : Nat → Int32) (l : Nat → Int64) : gI (zset h o (oX9 r i l)) o 9 5 = some (i 5) := by unfold oX9; rw [gI_zs]; rfl
theorem pX9_5 (h : zH) (o : Nat) (r : Nat → Nat) (i : Nat → Int32) (l : Nat → Int64) (z : Int32) : pF (zset h o (oX9 r i l)) o 9 5 (.int z) = some (zset h o (oX9 r (upd i 5 z) l)) := by unfold oX9; rw [pF_zs]; rfl
theorem gX9_6 (h : zH) (o : Nat) (r : Nat → Nat) (i : Nat → Int32) (l : Nat → Int64) : gI (zset h o (oX9 r i l)) o 9 6 = some (i 6) := by unfold oX9; rw [gI_zs]; rfl
theorem pX9_6 (h : zH) (o : Nat) (r : Nat → Nat) (i : Nat → Int32) (l : Nat → Int64) (z : Int32) : pF (zset h o (oX9 r i l)) o 9 6 (.int z) = some (zset h o (oX9 r (upd i 6 z) l)) := by unfold oX9; rw [pF_zs]; rfl
theorem gX9_7 (h : zH) (o : Nat) (r : Nat → Nat) (i : Nat → Int32) (l : Nat → Int64) : gL (zset h o (oX9 r i l)) o 9 7 = some (l 7) := by unfold oX9; rw [gL_zs]; rfl
theorem pX9_7 (h : zH) (o : Nat) (r : Nat → Nat) (i : Nat → Int32) (l : Nat → Int64) (z : Int64) : pF (zset h o (oX9 r i l)) o 9 7 (.long z) = some (zset h o (oX9 r i (vp_updL l 7 z))) := by unfold oX9; rw [pF_zs]; rfl
def oX10 (r : Nat → Nat) (i : Nat → Int32) : zE := .inr (10, [.ref (r 0), .ref (r 1), .ref (r 2), .ref (r 3), .ref (r 4), .ref (r 5), .ref (r 6), .ref (r 7), .int (i 8), .int (i 9), .int (i 10)])
theorem zo_X10 (h : zH) (o : Nat) (r : Nat → Nat) (i : Nat → Int32) : zob (zset h o (oX10 r i)) o 10 = true := zob_zs _ _ _ _
theorem gX10_0 (h : zH) (o : Nat) (r : Nat → Nat) (i : Nat → Int32) : gR (zset h o (oX10 r i)) o 10 0 = some (r 0) := by unfold oX10; rw [gR_zs]; rfl
theorem pX10_0 (h : zH) (o : Nat) (r : Nat → Nat) (i : Nat → Int32) (z : Nat) : pF (zset h o (oX10 r i)) o 10 0 (.ref z) = some (zset h o (oX10 (va_up r 0 z) i)) := by unfold oX10; rw [pF_zs]; rfl
theorem gX10_1 (h : zH) (o : Nat) (r : Nat → Nat) (i : Nat → Int32) : gR (zset h o (oX10 r i)) o 10 1 = some (r 1) := by unfold oX10; rw [gR_zs]; rfl
theorem pX10_1 (h : zH) (o : Nat) (r : Nat → Nat) (i : Nat → Int32) (z : Nat) : pF (zset h o (oX10 r i)) o 10 1 (.ref z) = some (zset h o (oX10 (va_up r 1 z) i)) := by unfold oX10; rw [pF_zs]; rfl
theorem gX10_2 (h : zH) (o : Nat) (r : Nat → Nat) (i : Nat → Int32) : gR (zset h o (oX10 r i)) o 10 2 = some (r 2) := by unfold oX10; rw [gR_zs]; rfl
theorem pX10_2 (h : zH) (o : Nat) (r : Nat → Nat) (i : Nat → Int32) (z : Nat) : pF (zset h o (oX10 r i)) o 10 2 (.ref z) = some (zset h o (oX10 (va_up r 2 z) i)) := by unfold oX10; rw [pF_zs]; rfl
theorem gX10_3 (h : zH) (o : Nat) (r : Nat → Nat) (i : Nat → Int32) : gR (zset h o (oX10 r i)) o 10 3 = some (r 3) := by unfold oX10; rw [gR_zs]; rfl
theorem pX10_3 (h : zH) (o : Nat) (r : Nat → Nat) (i : Nat → Int32) (z : Nat) : pF (zset h o (oX10 r i)) o 10 3 (.ref z) = some (zset h o (oX10 (va_up r 3 z) i)) := by unfold oX10; rw [pF_zs]; rfl
theorem gX10_4 (h : zH) (o : Nat) (r : Nat → Nat) (i : Nat → Int32) : gR (zset h o (oX10 r i)) o 10 4 = some (r 4) := by unfold oX10; rw [gR_zs]; rfl
theorem pX10_4 (h : zH) (o : Nat) (r : Nat → Nat) (i : Nat → Int32) (z : Nat) : pF (zset h o (oX10 r i)) o 10 4 (.ref z) = some (zset h o (oX10 (va_up r 4 z) i)) := by unfold oX10; rw [pF_zs]; rfl
theorem gX10_5 (h : zH) (o : Nat) (r : Nat → Nat) (i : Nat → Int32) : gR (zset h o (oX10 r i)) o 10 5 = some (r 5) := by unfold oX10; rw [gR_zs]; rfl
theorem pX10_5 (h : zH) (o : Nat) (r : Nat → Nat) (i : Nat → Int32) (z : Nat) : pF (zset h o (oX10 r i)) o 10 5 (.ref z) = some (zset h o (oX10 (va_up r 5 z) i)) := by unfold oX10; rw [pF_zs]; rfl
theorem gX10_6 (h : zH) (o : Nat) (r : Nat → Nat) (i : Nat → Int32) : gR (zset h o (oX10 r i)) o 10 6 = some (r 6) := by unfold oX10; rw [gR_zs]; rfl
theorem pX10_6 (h : zH) (o : Nat) (r : Nat → Nat) (i : Nat → Int32) (z : Nat) : pF (zset h o (oX10 r i)) o 10 6 (.ref z) = some (zset h o (oX10 (va_up r 6 z) i)) := by unfold oX10; rw [pF_zs]; rfl
theorem gX10_7 (h : zH) (o : Nat) (r : Nat → Nat) (i : Nat → Int32) : gR (zset h o (oX10 r i)) o 10 7 = some (r 7) := by unfold oX10; rw [gR_zs]; rfl
theorem pX10_7 (h : zH) (o : Nat) (r : Nat → Nat) (i : Nat → Int32) (z : Nat) : pF (zset h o (oX10 r i)) o 10 7 (.ref z) = some (zset h o (oX10 (va_up r 7 z) i)) := by unfold oX10; rw [pF_zs]; rfl
theorem gX10_8 (h : zH) (o : Nat) (r : Nat → Nat) (i : Nat → Int32) : gI (zset h o (oX10 r i)) o 10 8 = some (i 8) := by unfold oX10; rw [gI_zs]; rfl
theorem pX10_8 (h : zH) (o : Nat) (r : Nat → Nat) (i : Nat → Int32) (z : Int32) : pF (zset h o (oX10 r i)) o 10 8 (.int z) = some (zset h o (oX10 r (upd i 8 z))) := by unfold oX10; rw [pF_zs]; rfl
theorem gX10_9 (h : zH) (o : Nat) (r : Nat → Nat) (i : Nat → Int32) : gI (zset h o (oX10 r i)) o 10 9 = some (i 9) := by unfold oX10; rw [gI_zs]; rfl
theorem pX10_9 (h : zH) (o : Nat) (r : Nat → Nat) (i : Nat → Int32) (z : Int32) : pF (zset h o (oX10 r i)) o 10 9 (.int z) = some (zset h o (oX10 r (upd i 9 z))) := by unfold oX10; rw [pF_zs]; rfl
theorem gX10_10 (h : zH) (o : Nat) (r : Nat → Nat) (i : Nat → Int32) : gI (zset h o (oX10 r i)) o 10 10 = some (i 10) := by unfold oX10; rw [gI_zs]; rfl
theorem pX10_10 (h : zH) (o : Nat) (r : Nat → Nat) (i : Nat → Int32) (z : Int32) : pF (zset h o (oX10 r i)) o 10 10 (.int z) = some (zset h o (oX10 r (upd i 10 z))) := by unfold oX10; rw [pF_zs]; rfl
def oX11 (r : Nat → Nat) (i : Nat → Int32) : zE := .inr (11, [.ref (r 0), .ref (r 1), .ref (r 2), .ref (r 3), .ref (r 4), .ref (r 5), .ref (r 6), .ref (r 7), .ref (r 8), .ref (r 9), .int (i 10), .int (i 11), .int (i 12)])
theorem zo_X11 (h : zH) (o : Nat) (r : Nat → Nat) (i : Nat → Int32) : zob (zset h o (oX11 r i)) o 11 = true := zob_zs _ _ _ _
theorem gX11_0 (h : zH) (o : Nat) (r : Nat → Nat) (i : Nat → Int32) : gR (zset h o (oX11 r i)) o 11 0 = some (r 0) := by unfold oX11; rw [gR_zs]; rfl
theorem pX11_0 (h : zH) (o : Nat) (r : Nat → Nat) (i : Nat → Int32) (z : Nat) : pF (zset h o (oX11 r i)) o 11 0 (.ref z) = some (zset h o (oX11 (va_up r 0 z) i)) := by unfold oX11; rw [pF_zs]; rfl
theorem gX11_1 (h : zH) (o : Nat) (r : Nat → Nat) (i : Nat → Int32) : gR (zset h o (oX11 r i)) o 11 1 = some (r 1) := by unfold oX11; rw [gR_zs]; rfl
theorem pX11_1 (h : zH) (o : Nat) (r : Nat → Nat) (i : Nat → Int32) (z : Nat) : pF (zset h o (oX11 r i)) o 11 1 (.ref z) = some (zset h o (oX11 (va_up r 1 z) i)) := by unfold oX11; rw [pF_zs]; rfl
theorem gX11_2 (h : zH) (o : Nat) (r : Nat → Nat) (i : Nat → Int32) : gR (zset h o (oX11 r i)) o 11 2 = some (r 2) := by unfold oX11; rw [gR_zs]; rfl
theorem pX11_2 (h : zH) (o : Nat) (r : Nat → Nat) (i : Nat → Int32) (z : Nat) : pF (zset h o (oX11 r i)) o 11 2 (.ref z) = some (zset h o (oX11 (va_up r 2 z) i)) := by unfold oX11; rw [pF_zs]; rfl
theorem gX11_3 (h : zH) (o : Nat) (r : Nat → Nat) (i : Nat → Int32) : gR (zset h o (oX11 r i)) o 11 3 = some (r 3) := by unfold oX11; rw [gR_zs]; rfl
theorem pX11_3 (h : zH) (o : Nat) (r : Nat → Nat) (i : Nat → Int32) (z : Nat) : pF (zset h o (oX11 r i)) o 11 3 (.ref z) = some (zset h o (oX11 (va_up r 3 z) i)) := by unfold oX11; rw [pF_zs]; rfl
theorem gX11_4 (h : zH) (o : Nat) (r : Nat → Nat) (i : Nat → Int32) : gR (zset h o (oX11 r i)) o 11 4 = some (r 4) := by unfold oX11; rw [gR_zs]; rfl
theorem pX11_4 (h : zH) (o : Nat) (r : Nat → Nat) (i : Nat → Int32) (z : Nat) : pF (zset h o (oX11 r i)) o 11 4 (.ref z) = some (zset h o (oX11 (va_up r 4 z) i)) := by unfold oX11; rw [pF_zs]; rfl
theorem gX11_5 (h : zH) (o : Nat) (r : Nat → Nat) (i : Nat → Int32) : gR (zset h o (oX11 r i)) o 11 5 = some (r 5) := by unfold oX11; rw [gR_zs]; rfl
theorem pX11_5 (h : zH) (o : Nat) (r : Nat → Nat) (i : Nat → Int32) (z : Nat) : pF (zset h o (oX11 r i)) o 11 5 (.ref z) = some (zset h o (oX11 (va_up r 5 z) i)) := by unfold oX11; rw [pF_zs]; rfl
theorem gX11_6 (h : zH) (o : Nat) (r : Nat → Nat) (i : Nat → Int32) : gR (zset h o (oX11 r i)) o 11 6 = some (r 6) := by unfold oX11; rw [gR_zs]; rfl
theorem pX11_6 (h : zH) (o : Nat) (r : Nat → Nat) (i : Nat → Int32) (z : Nat) : pF (zset h o (oX11 r i)) o 11 6 (.ref z) = some (zset h o (oX11 (va_up r 6 z) i)) := by unfold oX11; rw [pF_zs]; rfl
theorem gX11_7 (h : zH) (o : Nat) (r : Nat → Nat) (i : Nat → Int32) : gR (zset h o (oX11 r i)) o 11 7 = some (r 7) := by unfold oX11; rw [gR_zs]; rfl
theorem pX11_7 (h : zH) (o : Nat) (r : Nat → Nat) (i : Nat → Int32) (z : Nat) : pF (zset h o (oX11 r i)) o 11 7 (.ref z) = some (zset h o (oX11 (va_up r 7 z) i)) := by unfold oX11; rw [pF_zs]; rfl
theorem gX11_8 (h : zH) (o : Nat) (r : Nat → Nat) (i : Nat → Int32) : gR (zset h o (oX11 r i)) o 11 8 = some (r 8) := by unfold oX11; rw [gR_zs]; rfl
theorem pX11_8 (h : zH) (o : Nat) (r : Nat → Nat) (i : Nat → Int32) (z : Nat) : pF (zset h o (oX11 r i)) o 11 8 (.ref z) = some (zset h o (oX11 (va_up r 8 z) i)) := by unfold oX11; rw [pF_zs]; rfl
theorem gX11_9 (h : zH) (o : Nat) (r : Nat → Nat) (i : Nat → Int32) : gR (zset h o (oX11 r i)) o 11 9 = some (r 9) := by unfold oX11; rw [gR_zs]; rfl
theorem pX11_9 (h : zH) (o : Nat) (r : Nat → Nat) (i : Nat → Int32) (z : Nat) : pF (zset h o (oX11 r i)) o 11 9 (.ref z) = some (zset h o (oX11 (va_up r 9 z) i)) := by unfold oX11; rw [pF_zs]; rfl
theorem gX11_10 (h : zH) (o : Nat) (r : Nat → Nat) (i : Nat → Int32) : gI (zset h o (oX11 r i)) o 11 10 = some (i 10) := by unfold oX11; rw [gI_zs]; rfl
theorem pX11_10 (h : zH) (o : Nat) (r : Nat → Nat) (i : Nat → Int32) (z : Int32) : pF (zset h o (oX11 r i)) o 11 10 (.int z) = some (zset h o (oX11 r (upd i 10 z))) := by unfold oX11; rw [pF_zs]; rfl
theorem gX11_11 (h : zH) (o : Nat) (r : Nat → Nat) (i : Nat → Int32) : gI (zset h o (oX11 r i)) o 11 11 = some (i 11) := by unfold oX11; rw [gI_zs]; rfl
theorem pX11_11 (h : zH) (o : Nat) (r : Nat → Nat) (i : Nat → Int32) (z : Int32) : pF (zset h o (oX11 r i)) o 11 11 (.int z) = some (zset h o (oX11 r (upd i 11 z))) := by unfold oX11; rw [pF_zs]; rfl
theorem gX11_12 (h : zH) (o : Nat) (r : Nat → Nat) (i : Nat → Int32) : gI (zset h o (oX11 r i)) o 11 12 = some (i 12) := by unfold oX11; rw [gI_zs]; rfl
theorem pX11_12 (h : zH) (o : Nat) (r : Nat → Nat) (i : Nat → Int32) (z : Int32) : pF (zset h o (oX11 r i)) o 11 12 (.int z) = some (zset h o (oX11 r (upd i 12 z))) := by unfold oX11; rw [pF_zs]; rfl
def oX12 (r : Nat → Nat) (i : Nat → Int32) : zE := .inr (12, [.int (i 0), .ref (r 1), .int (i 2), .int (i 3), .ref (r 4), .ref (r 5), .ref (r 6), .int (i 7), .int (i 8), .ref (r 9), .int (i 10), .ref (r 11), .ref (r 12), .ref (r 13), .ref (r 14), .ref (r 15), .ref (r 16), .int (i 17), .ref (r 18), .int (i 19), .ref (r 20), .ref (r 21), .ref (r 22), .ref (r 23), .ref (r 24), .int (i 25), .int (i 26), .int (i 27), .ref (r 28), .ref (r 29), .ref (r 30), .ref (r 31), .ref (r 32), .ref (r 33), .ref (r 34), .ref (r 35), .ref (r 36), .ref (r 37), .ref (r 38), .ref (r 39), .ref (r 40), .ref (r 41), .int (i 42), .int (i 43), .int (i 44), .int (i 45), .int (i 46), .int (i 47), .int (i 48), .int (i 49), .ref (r 50), .ref (r 51), .ref (r 52), .ref (r 53), .ref (r 54), .ref (r 55), .ref (r 56), .ref (r 57), .ref (r 58), .ref (r 59), .ref (r 60), .ref (r 61), .ref (r 62), .int (i 63), .int (i 64), .int (i 65), .ref (r 66), .int (i 67), .ref (r 68), .ref (r 69), .ref (r 70), .ref (r 71), .ref (r 72), .ref (r 73), .ref (r 74), .ref (r 75), .int (i 76), .ref (r 77), .ref (r 78), .ref (r 79)])
theorem zo_X12 (h : zH) (o : Nat) (r : Nat → Nat) (i : Nat → Int32) : zob (zset h o (oX12 r i)) o 12 = true := zob_zs _ _ _ _
theorem gX12_0 (h : zH) (o : Nat) (r : Nat → Nat) (i : Nat → Int32) : gI (zset h o (oX12 r i)) o 12 0 = some (i 0) := by unfold oX12; rw [gI_zs]; rfl
theorem pX12_0 (h : zH) (o : Nat) (r : Nat → Nat) (i : Nat → Int32) (z : Int32) : pF (zset h o (oX12 r i)) o 12 0 (.int z) = some (zset h o (oX12 r (upd i 0 z))) := by unfold oX12; rw [pF_zs]; rfl
theorem gX12_1 (h : zH) (o : Nat) (r : Nat → Nat) (i : Nat → Int32) : gR (zset h o (oX12 r i)) o 12 1 = some (r 1) := by unfold oX12; rw [gR_zs]; rfl
theorem pX12_1 (h : zH) (o : Nat) (r : Nat → Nat) (i : Nat → Int32) (z : Nat) : pF (zset h o (oX12 r i)) o 12 1 (.ref z) = some (zset h o (oX12 (va_up r 1 z) i)) := by unfold oX12; rw [pF_zs]; rfl
theorem gX12_2 (h : zH) (o : Nat) (r : Nat → Nat) (i : Nat → Int32) : gI (zset h o (oX12 r i)) o 12 2 = some (i 2) := by unfold oX12; rw [gI_zs]; rfl
theorem pX12_2 (h : zH) (o : Nat) (r : Nat → Nat) (i : Nat → Int32) (z : Int32) : pF (zset h o (oX12 r i)) o 12 2 (.int z) = some (zset h o (oX12 r (upd i 2 z))) := by unfold oX12; rw [pF_zs]; rfl
theorem gX12_3 (h : zH) (o : Nat) (r : Nat → Nat) (i : Nat → Int32) : gI (zset h o (oX12 r i)) o 12 3 = some (i 3) := by unfold oX12; rw [gI_zs]; rfl
theorem pX12_3 (h : zH) (o : Nat) (r : Nat → Nat) (i : Nat → Int32) (z : Int32) : pF (zset h o (oX12 r i)) o 12 3 (.int z) = some (zset h o (oX12 r (upd i 3 z))) := by unfold oX12; rw [pF_zs]; rfl
theorem gX12_4 (h : zH) (o : Nat) (r : Nat → Nat) (i : Nat → Int32) : gR (zset h o (oX12 r i)) o 12 4 = some (r 4) := by unfold oX12; rw [gR_zs]; rfl
theorem pX12_4 (h : zH) (o : Nat) (r : Nat → Nat) (i : Nat → Int32) (z : Nat) : pF (zset h o (oX12 r i)) o 12 4 (.ref z) = some (zset h o (oX12 (va_up r 4 z) i)) := by unfold oX12; rw [pF_zs]; rfl
theorem gX12_5 (h : zH) (o : Nat) (r : Nat → Nat) (i : Nat → Int32) : gR (zset h o (oX12 r i)) o 12 5 = some (r 5) := by unfold oX12; rw [gR_zs]; rfl
theorem pX12_5 (h : zH) (o : Nat) (r : Nat → Nat) (i : Nat → Int32) (z : Nat) : pF (zset h o (oX12 r i)) o 12 5 (.ref z) = some (zset h o (oX12 (va_up r 5 z) i)) := by unfold oX12; rw [pF_zs]; rfl
theorem gX12_6 (h : zH) (o : Nat) (r : Nat → Nat) (i : Nat → Int32) : gR (zset h o (oX12 r i)) o 12 6 = some (r 6) := by unfold oX12; rw [gR_zs]; rfl
theorem pX12_6 (h : zH) (o : Nat) (r : Nat → Nat) (i : Nat → Int32) (z : Nat) : pF (zset h o (oX12 r i)) o 12 6 (.ref z) = some (zset h o (oX12 (va_up r 6 z) i)) := by unfold oX12; rw [pF_zs]; rfl
theorem gX12_7 (h : zH) (o : Nat) (r : Nat → Nat) (i : Nat → Int32) : gI (zset h o (oX12 r i)) o 12 7 = some (i 7) := by unfold oX12; rw [gI_zs]; rfl
theorem pX12_7 (h : zH) (o : Nat) (r : Nat → Nat) (i : Nat → Int32) (z : Int32) : pF (zset h o (oX12 r i)) o 12 7 (.int z) = some (zset h o (oX12 r (upd i 7 z))) := by unfold oX12; rw [pF_zs]; rfl
theorem gX12_8 (h : zH) (o : Nat) (r : Nat → Nat) (i : Nat → Int32) : gI (zset h o (oX12 r i)) o 12 8 = some (i 8) := by unfold oX12; rw [gI_zs]; rfl
theorem pX12_8 (h : zH) (o : Nat) (r : Nat → Nat) (i : Nat → Int32) (z : Int32) : pF (zset h o (oX12 r i)) o 12 8 (.int z) = some (zset h o (oX12 r (upd i 8 z))) := by unfold oX12; rw [pF_zs]; rfl
theorem gX12_9 (h : zH) (o : Nat) (r : Nat → Nat) (i : Nat → Int32) : gR (zset h o (oX12 r i)) o 12 9 = some (r 9) := by unfold oX12; rw [gR_zs]; rfl
theorem pX12_9 (h : zH) (o : Nat) (r : Nat → Nat) (i : Nat → Int32) (z : Nat) : pF (zset h o (oX12 r i)) o 12 9 (.ref z) = some (zset h o (oX12 (va_up r 9 z) i)) := by unfold oX12; rw [pF_zs]; rfl
theorem gX12_10 (h : zH) (o : Nat) (r : Nat → Nat) (i : Nat → Int32) : gI (zset h o (oX12 r i)) o 12 10 = some (i 10) := by unfold oX12; rw [gI_zs]; rfl
theorem pX12_10 (h : zH) (o : Nat) (r : Nat → Nat) (i : Nat → Int32) (z : Int32) : pF (zset h o (oX12 r i)) o 12 10 (.int z) = some (zset h o (oX12 r (upd i 10 z))) := by unfold oX12; rw [pF_zs]; rfl
theorem gX12_11 (h : zH) (o : Nat) (r : Nat → Nat) (i : Nat → Int32) : gR (zset h o (oX12 r i)) o 12 11 = some (r 11) := by unfold oX12; rw [gR_zs]; rfl
theorem pX12_11 (h : zH) (o : Nat) (r : Nat → Nat) (i : Nat → Int32) (z : Nat) : pF (zset h o (oX12 r i)) o 12 11 (.ref z) = some (zset h o (oX12 (va_up r 11 z) i)) := by unfold oX12; rw [pF_zs]; rfl
theorem gX12_12 (h : zH) (o : Nat) (r : Nat → Nat) (i : Nat → Int32) : gR (zset h o (oX12 r i)) o 12 12 = some (r 12) := by unfold oX12; rw [gR_zs]; rfl
theorem pX12_12 (h : zH) (o : Nat) (r : Nat → Nat) (i : Nat → Int32) (z : Nat) : pF (zset h o (oX12 r i)) o 12 12 (.ref z) = some (zset h o (oX12 (va_up r 12 z) i)) := by unfold oX12; rw [pF_zs]; rfl
theorem gX12_13 (h : zH) (o : Nat) (r : Nat → Nat) (i : Nat → Int32) : gR (zset h o (oX12 r i)) o 12 13 = some (r 13) := by unfold oX12; rw [gR_zs]; rfl
theorem pX12_13 (h : zH) (o : Nat) (r : Nat → Nat) (i : Nat → Int32) (z : Nat) : pF (zset h o (oX12 r i)) o 12 13 (.ref z) = some (zset h o (oX12 (va_up r 13 z) i)) := by unfold oX12; rw [pF_zs]; rfl
theorem gX12_14 (h : zH) (o : Nat) (r : Nat → Nat) (i : Nat → Int32) : gR (zset h o (oX12 r i)) o 12 14 = some (r 14) := by unfold oX12; rw [gR_zs]; rfl
theorem pX12_14 (h : zH) (o : Nat) (r : Nat → Nat) (i : Nat → Int32) (z : Nat) : pF (zset h o (oX12 r i)) o 12 14 (.ref z) = some (zset h o (oX12 (va_up r 14 z) i)) := by unfold oX12; rw [pF_zs]; rfl
theorem gX12_15 (h : zH) (o : Nat) (r : Nat → Nat) (i : Nat → Int32) : gR (zset h o (oX12 r i)) o 12 15 = some (r 15) := by unfold oX12; rw [gR_zs]; rfl
theorem pX12_15 (h : zH) (o : Nat) (r : Nat → Nat) (i : Nat → Int32) (z : Nat) : pF (zset h o (oX12 r i)) o 12 15 (.ref z) = some (zset h o (oX12 (va_up r 15 z) i)) := by unfold oX12; rw [pF_zs]; rfl
theorem gX12_16 (h : zH) (o : Nat) (r : Nat → Nat) (i : Nat → Int32) : gR (zset h o (oX12 r i)) o 12 16 = some (r 16) := by unfold oX12; rw [gR_zs]; rfl
theorem pX12_16 (h : zH) (o : Nat) (r : Nat → Nat) (i : Nat → Int32) (z : Nat) : pF (zset h o (oX12 r i)) o 12 16 (.ref z) = some (zset h o (oX12 (va_up r 16 z) i)) := by unfold oX12; rw [pF_zs]; rfl
theorem gX12_17 (h : zH) (o : Nat) (r : Nat → Nat) (i : Nat → Int32) : gI (zset h o (oX12 r i)) o 12 17 = some (i 17) := by unfold oX12; rw [gI_zs]; rfl
theorem pX12_17 (h : zH) (o : Nat) (r : Nat → Nat) (i : Nat → Int32) (z : Int32) : pF (zset h o (oX12 r i)) o 12 17 (.int z) = some (zset h o (oX12 r (upd i 17 z))) := by unfold oX12; rw [pF_zs]; rfl
theorem gX12_18 (h : zH) (o : Nat) (r : Nat → Nat) (i : Nat → Int32) : gR (zset h o (oX12 r i)) o 12 18 = some (r 18) := by unfold oX12; rw [gR_zs]; rfl
theorem pX12_18 (h : zH) (o : Nat) (r : Nat → Nat) (i : Nat → Int32) (z : Nat) : pF (zset h o (oX12 r i)) o 12 18 (.ref z) = some (zset h o (oX12 (va_up r 18 z) i)) := by unfold oX12; rw [pF_zs]; rfl
theorem gX12_19 (h : zH) (o : Nat) (r : Nat → Nat) (i : Nat → Int32) : gI (zset h o (oX12 r i)) o 12 19 = some (i 19) := by unfold oX12; rw [gI_zs]; rfl
theorem pX12_19 (h : zH) (o : Nat) (r : Nat → Nat) (i : Nat → Int32) (z : Int32) : pF (zset h o (oX12 r i)) o 12 19 (.int z) = some (zset h o (oX12 r (upd i 19 z))) := by unfold oX12; rw [pF_zs]; rfl
theorem gX12_20 (h : zH) (o : Nat) (r : Nat → Nat) (i : Nat → Int32) : gR (zset h o (oX12 r i)) o 12 20 = some (r 20) := by unfold oX12; rw [gR_zs]; rfl
theorem pX12_20 (h : zH) (o : Nat) (r : Nat → Nat) (i : Nat → Int32) (z : Nat) : pF (zset h o (oX12 r i)) o 12 20 (.ref z) = some (zset h o (oX12 (va_up r 20 z) i)) := by unfold oX12; rw [pF_zs]; rfl
theorem gX12_21 (h : zH) (o : Nat) (r : Nat → Nat) (i : Nat → Int32) : gR (zset h o (oX12 r i)) o 12 21 = some (r 21) := by unfold oX12; rw [gR_zs]; rfl
theorem pX12_21 (h : zH) (o : Nat) (r : Nat → Nat) (i : Nat → Int32) (z : Nat) : pF (zset h o (oX12 r i)) o 12 21 (.ref z) = some (zset h o (oX12 (va_up r 21 z) i)) := by unfold oX12; rw [pF_zs]; rfl
theorem gX12_22 (h : zH) (o : Nat) (r : Nat → Nat) (i : Nat → Int32) : gR (zset h o (oX12 r i)) o 12 22 = some (r 22) := by unfold oX12; rw [gR_zs]; rfl
theorem pX12_22 (h : zH) (o : Nat) (r : Nat → Nat) (i : Nat → Int32) (z : Nat) : pF (zset h o (oX12 r i)) o 12 22 (.ref z) = some (zset h o (oX12 (va_up r 22 z) i)) := by unfold oX12; rw [pF_zs]; rfl
theorem gX12_23 (h : zH) (o : Nat) (r : Nat → Nat) (i : Nat → Int32) : gR (zset h o (oX12 r i)) o 12 23 = some (r 23) := by unfold oX12; rw [gR_zs]; rfl
theorem pX12_23 (h : zH) (o : Nat) (r : Nat → Nat) (i : Nat → Int32) (z : Nat) : pF (zset h o (oX12 r i)) o 12 23 (.ref z) = some (zset h o (oX12 (va_up r 23 z) i)) := by unfold oX12; rw [pF_zs]; rfl
theorem gX12_24 (h : zH) (o : Nat) (r : Nat → Nat) (i : Nat → Int32) : gR (zset h o (oX12 r i)) o 12 24 = some (r 24) := by unfold oX12; rw [gR_zs]; rfl
theorem pX12_24 (h : zH) (o : Nat) (r : Nat → Nat) (i : Nat → Int32) (z : Nat) : pF (zset h o (oX12 r i)) o 12 24 (.ref z) = some (zset h o (oX12 (va_up r 24 z) i)) := by unfold oX12; rw [pF_zs]; rfl
theorem gX12_25 (h : zH) (o : Nat) (r : Nat → Nat) (i : Nat → Int32) : gI (zset h o (oX12 r i)) o 12 25 = some (i 25) := by unfold oX12; rw [gI_zs]; rfl
theorem pX12_25 (h : zH) (o : Nat) (r : Nat → Nat) (i : Nat → Int32) (z : Int32) : pF (zset h o (oX12 r i)) o 12 25 (.int z) = some (zset h o (oX12 r (upd i 25 z))) := by unfold oX12; rw [pF_zs]; rfl
theorem gX12_26 (h : zH) (o : Nat) (r : Nat → Nat) (i : Nat → Int32) : gI (zset h o (oX12 r i)) o 12 26 = some (i 26) := by unfold oX12; rw [gI_zs]; rfl
theorem pX12_26 (h : zH) (o : Nat) (r : Nat → Nat) (i : Nat → Int32) (z : Int32) : pF (zset h o (oX12 r i)) o 12 26 (.int z) = some (zset h o (oX12 r (upd i 26 z))) := by unfold oX12; rw [pF_zs]; rfl
theorem gX12_27 (h : zH) (o : Nat) (r : Nat → Nat) (i : Nat → Int32) : gI (zset h o (oX12 r i)) o 12 27 = some (i 27) := by unfold oX12; rw [gI_zs]; rfl
theorem pX12_27 (h : zH) (o : Nat) (r : Nat → Nat) (i : Nat → Int32) (z : Int32) : pF (zset h o (oX12 r i)) o 12 27 (.int z) = some (zset h o (oX12 r (upd i 27 z))) := by unfold oX12; rw [pF_zs]; rfl
theorem gX12_28 (h : zH) (o : Nat) (r : Nat → Nat) (i : Nat → Int32) : gR (zset h o (oX12 r i)) o 12 28 = some (r 28) := by unfold oX12; rw [gR_zs]; rfl
theorem pX12_28 (h : zH) (o : Nat) (r : Nat → Nat) (i : Nat → Int32) (z : Nat) : pF (zset h o (oX12 r i)) o 12 28 (.ref z) = some (zset h o (oX12 (va_up r 28 z) i)) := by unfold oX12; rw [pF_zs]; rfl
theorem gX12_29 (h : zH) (o : Nat) (r : Nat → Nat) (i : Nat → Int32) : gR (zset h o (oX12 r i)) o 12 29 = some (r 29) := by unfold oX12; rw [gR_zs]; rfl
theorem pX12_29 (h : zH) (o : Nat) (r : Nat → Nat) (i : Nat → Int32) (z : Nat) : pF (zset h o (oX12 r i)) o 12 29 (.ref z) = some (zset h o (oX12 (va_up r 29 z) i)) := by unfold oX12; rw [pF_zs]; rfl
theorem gX12_30 (h : zH) (o : Nat) (r : Nat → Nat) (i : Nat → Int32) : gR (zset h o (oX12 r i)) o 12 30 = some (r 30) := by unfold oX12; rw [gR_zs]; rfl
theorem pX12_30 (h : zH) (o : Nat) (r : Nat → Nat) (i : Nat → Int32) (z : Nat) : pF (zset h o (oX12 r i)) o 12 30 (.ref z) = some (zset h o (oX12 (va_up r 30 z) i)) := by unfold oX12; rw [pF_zs]; rfl
theorem gX12_31 (h : zH) (o : Nat) (r : Nat → Nat) (i : Nat → Int32) : gR (zset h o (oX12 r i)) o 12 31 = some (r 31) := by unfold oX12; rw [gR_zs]; rfl
theorem pX12_31 (h : zH) (o : Nat) (r : Nat → Nat) (i : Nat → Int32) (z : Nat) : pF (zset h o (oX12 r i)) o 12 31 (.ref z) = some (zset h o (oX12 (va_up r 31 z) i)) := by unfold oX12; rw [pF_zs]; rfl
theorem gX12_32 (h : zH) (o : Nat) (r : Nat → Nat) (i : Nat → Int32) : gR (zset h o (oX12 r i)) o 12 32 = some (r 32) := by unfold oX12; rw [gR_zs]; rfl
theorem pX12_32 (h : zH) (o : Nat) (r : Nat → Nat) (i : Nat → Int32) (z : Nat) : pF (zset h o (oX12 r i)) o 12 32 (.ref z) = some (zset h o (oX12 (va_up r 32 z) i)) := by unfold oX12; rw [pF_zs]; rfl
theorem gX12_33 (h : zH) (o : Nat) (r : Nat → Nat) (i : Nat → Int32) : gR (zset h o (oX12 r i)) o 12 33 = some (r 33) := by unfold oX12; rw [gR_zs]; rfl
theorem pX12_33 (h : zH) (o : Nat) (r : Nat → Nat) (i : Nat → Int32) (z : Nat) : pF (zset h o (oX12 r i)) o 12 33 (.ref z) = some (zset h o (oX12 (va_up r 33 z) i)) := by unfold oX12; rw [pF_zs]; rfl
theorem gX12_34 (h : zH) (o : Nat) (r : Nat → Nat) (i : Nat → Int32) : gR (zset h o (oX12 r i)) o 12 34 = some (r 34) := by unfold oX12; rw [gR_zs]; rfl
theorem pX12_34 (h : zH) (o : Nat) (r : Nat → Nat) (i : Nat → Int32) (z : Nat) : pF (zset h o (oX12 r i)) o 12 34 (.ref z) = some (zset h o (oX12 (va_up r 34 z) i)) := by unfold oX12; rw [pF_zs]; rfl
theorem gX12_35 (h : zH) (o : Nat) (r : Nat → Nat) (i : Nat → Int32) : gR (zset h o (oX12 r i)) o 12 35 = some (r 35) := by unfold oX12; rw [gR_zs]; rfl
theorem pX12_35 (h : zH) (o : Nat) (r : Nat → Nat) (i : Nat → Int32) (z : Nat) : pF (zset h o (oX12 r i)) o 12 35 (.ref z) = some (zset h o (oX12 (va_up r 35 z) i)) := by unfold oX12; rw [pF_zs]; rfl
theorem gX12_36 (h : zH) (o : Nat) (r : Nat → Nat) (i : Nat → Int32) : gR (zset h o (oX12 r i)) o 12 36 = some (r 36) := by unfold oX12; rw [gR_zs]; rfl
theorem pX12_36 (h : zH) (o : Nat) (r : Nat → Nat) (i : Nat → Int32) (z : Nat) : pF (zset h o (oX12 r i)) o 12 36 (.ref z) = some (zset h o (oX12 (va_up r 36 z) i)) := by unfold oX12; rw [pF_zs]; rfl
theorem gX12_37 (h : zH) (o : Nat) (r : Nat → Nat) (i : Nat → Int32) : gR (zset h o (oX12 r i)) o 12 37 = some (r 37) := by unfold oX12; rw [gR_zs]; rfl
theorem pX12_37 (h : zH) (o : Nat) (r : Nat → Nat) (i : Nat → Int32) (z : Nat) : pF (zset h o (oX12 r i)) o 12 37 (.ref z) = some (zset h o (oX12 (va_up r 37 z) i)) := by unfold oX12; rw [pF_zs]; rfl
theorem gX12_38 (h : zH) (o : Nat) (r : Nat → Nat) (i : Nat → Int32) : gR (zset h o (oX12 r i)) o 12 38 = some (r 38) := by unfold oX12; rw [gR_zs]; rfl
theorem pX12_38 (h : zH) (o : Nat) (r : Nat → Nat) (i : Nat → Int32) (z : Nat) : pF (zset h o (oX12 r i)) o 12 38 (.ref z) = some (zset h o (oX12 (va_up r 38 z) i)) := by unfold oX12; rw [pF_zs]; rfl
theorem gX12_39 (h : zH) (o : Nat) (r : Nat → Nat) (i : Nat → Int32) : gR (zset h o (oX12 r i)) o 12 39 = some (r 39) := by unfold oX12; rw [gR_zs]; rfl
theorem pX12_39 (h : zH) (o : Nat) (r : Nat → Nat) (i : Nat → Int32) (z : Nat) : pF (zset h o (oX12 r i)) o 12 39 (.ref z) = some (zset h o (oX12 (va_up r 39 z) i)) := by unfold oX12; rw [pF_zs]; rfl
theorem gX12_40 (h : zH) (o : Nat) (r : Nat → Nat) (i : Nat → Int32) : gR (zset h o (oX12 r i)) o 12 40 = some (r 40) := by unfold oX12; rw [gR_zs]; rfl
theorem pX12_40 (h : zH) (o : Nat) (r : Nat → Nat) (i : Nat → Int32) (z : Nat) : pF (zset h o (oX12 r i)) o 12 40 (.ref z) = some (zset h o (oX12 (va_up r 40 z) i)) := by unfold oX12; rw [pF_zs]; rfl
theorem gX12_41 (h : zH) (o : Nat) (r : Nat → Nat) (i : Nat → Int32) : gR (zset h o (oX12 r i)) o 12 41 = some (r 41) := by unfold oX12; rw [gR_zs]; rfl
theorem pX12_41 (h : zH) (o : Nat) (r : Nat → Nat) (i : Nat → Int32) (z : Nat) : pF (zset h o (oX12 r i)) o 12 41 (.ref z) = some (zset h o (oX12 (va_up r 41 z) i)) := by unfold oX12; rw [pF_zs]; rfl
theorem gX12_42 (h : zH) (o : Nat) (r : Nat → Nat) (i : Nat → Int32) : gI (zset h o (oX12 r i)) o 12 42 = some (i 42) := by unfold oX12; rw [gI_zs]; rfl
theorem pX12_42 (h : zH) (o : Nat) (r : Nat → Nat) (i : Nat → Int32) (z : Int32) : pF (zset h o (oX12 r i)) o 12 42 (.int z) = some (zset h o (oX12 r (upd i 42 z))) := by unfold oX12; rw [pF_zs]; rfl
theorem gX12_43 (h : zH) (o : Nat) (r : Nat → Nat) (i : Nat → Int32) : gI (zset h o (oX12 r i)) o 12 43 = some (i 43) := by unfold oX12; rw [gI_zs]; rfl
theorem pX12_43 (h : zH) (o : Nat) (r : Nat → Nat) (i : Nat → Int32) (z : Int32) : pF (zset h o (oX12 r i)) o 12 43 (.int z) = some (zset h o (oX12 r (upd i 43 z))) := by unfold oX12; rw [pF_zs]; rfl
theorem gX12_44 (h : zH) (o : Nat) (r : Nat → Nat) (i : Nat → Int32) : gI (zset h o (oX12 r i)) o 12 44 = some (i 44) := by unfold oX12; rw [gI_zs]; rfl
theorem pX12_44 (h : zH) (o : Nat) (r : Nat → Nat) (i : Nat → Int32) (z : Int32) : pF (zset h o (oX12 r i)) o 12 44 (.int z) = some (zset h o (oX12 r (upd i 44 z))) := by unfold oX12; rw [pF_zs]; rfl
theorem gX12_45 (h : zH) (o : Nat) (r : Nat → Nat) (i : Nat → Int32) : gI (zset h o (oX12 r i)) o 12 45 = some (i 45) := by unfold oX12; rw [gI_zs]; rfl
theorem pX12_45 (h : zH) (o : Nat) (r : Nat → Nat) (i : Nat → Int32) (z : Int32) : pF (zset h o (oX12 r i)) o 12 45 (.int z) = some (zset h o (oX12 r (upd i 45 z))) := by unfold oX12; rw [pF_zs]; rfl
theorem gX12_46 (h : zH) (o : Nat) (r : Nat → Nat) (i : Nat → Int32) : gI (zset h o (oX12 r i)) o 12 46 = some (i 46) := by unfold oX12; rw [gI_zs]; rfl
theorem pX12_46 (h : zH) (o : Nat) (r : Nat → Nat) (i : Nat → Int32) (z : Int32) : pF (zset h o (oX12 r i)) o 12 46 (.int z) = some (zset h o (oX12 r (upd i 46 z))) := by unfold oX12; rw [pF_zs]; rfl
theorem gX12_47 (h : zH) (o : Nat) (r : Nat → Nat) (i : Nat → Int32) : gI (zset h o (oX12 r i)) o 12 47 = some (i 47) := by unfold oX12; rw [gI_zs]; rfl
theorem pX12_47 (h : zH) (o : Nat) (r : Nat → Nat) (i : Nat → Int32) (z : Int32) : pF (zset h o (oX12 r i)) o 12 47 (.int z) = some (zset h o (oX12 r (upd i 47 z))) := by unfold oX12; rw [pF_zs]; rfl
theorem gX12_48 (h : zH) (o : Nat) (r : Nat → Nat) (i : Nat → Int32) : gI (zset h o (oX12 r i)) o 12 48 = some (i 48) := by unfold oX12; rw [gI_zs]; rfl
theorem pX12_48 (h : zH) (o : Nat) (r : Nat → Nat) (i : Nat → Int32) (z : Int32) : pF (zset h o (oX12 r i)) o 12 48 (.int z) = some (zset h o (oX12 r (upd i 48 z))) := by unfold oX12; rw [pF_zs]; rfl
theorem gX12_49 (h : zH) (o : Nat) (r : Nat → Nat) (i : Nat → Int32) : gI (zset h o (oX12 r i)) o 12 49 = some (i 49) := by unfold oX12; rw [gI_zs]; rfl
theorem pX12_49 (h : zH) (o : Nat) (r : Nat → Nat) (i : Nat → Int32) (z : Int32) : pF (zset h o (oX12 r i)) o 12 49 (.int z) = some (zset h o (oX12 r (upd i 49 z))) := by unfold oX12; rw [pF_zs]; rfl
theorem gX12_50 (h : zH) (o : Nat) (r : Nat → Nat) (i : Nat → Int32) : gR (zset h o (oX12 r i)) o 12 50 = some (r 50) := by unfold oX12; rw [gR_zs]; rfl
theorem pX12_50 (h : zH) (o : Nat) (r : Nat → Nat) (i : Nat → Int32) (z : Nat) : pF (zset h o (oX12 r i)) o 12 50 (.ref z) = some (zset h o (oX12 (va_up r 50 z) i)) := by unfold oX12; rw [pF_zs]; rfl
theorem gX12_51 (h : zH) (o : Nat) (r : Nat → Nat) (i : Nat → Int32) : gR (zset h o (oX12 r i)) o 12 51 = some (r 51) := by unfold oX12; rw [gR_zs]; rfl
theorem pX12_51 (h : zH) (o : Nat) (r : Nat → Nat) (i : Nat → Int32) (z : Nat) : pF (zset h o (oX12 r i)) o 12 51 (.ref z) = some (zset h o (oX12 (va_up r 51 z) i)) := by unfold oX12; rw [pF_zs]; rfl
theorem gX12_52 (h : zH) (o : Nat) (r : Nat → Nat) (i : Nat → Int32) : gR (zset h o (oX12 r i)) o 12 52 = some (r 52) := by unfold oX12; rw [gR_zs]; rfl
theorem pX12_52 (h : zH) (o : Nat) (r : Nat → Nat) (i : Nat → Int32) (z : Nat) : pF (zset h o (oX12 r i)) o 12 52 (.ref z) = some (zset h o (oX12 (va_up r 52 z) i)) := by unfold oX12; rw [pF_zs]; rfl
theorem gX12_53 (h : zH) (o : Nat) (r : Nat → Nat) (i : Nat → Int32) : gR (zset h o (oX12 r i)) o 12 53 = some (r 53) := by unfold oX12; rw [gR_zs]; rfl
theorem pX12_53 (h : zH) (o : Nat) (r : Nat → Nat) (i : Nat → Int32) (z : Nat) : pF (zset h o (oX12 r i)) o 12 53 (.ref z) = some (zset h o (oX12 (va_up r 53 z) i)) := by unfold oX12; rw [pF_zs]; rfl
theorem gX12_54 (h : zH) (o : Nat) (r : Nat → Nat) (i : Nat → Int32) : gR (zset h o (oX12 r i)) o 12 54 = some (r 54) := by unfold oX12; rw [gR_zs]; rfl
theorem pX12_54 (h : zH) (o : Nat) (r : Nat → Nat) (i : Nat → Int32) (z : Nat) : pF (zset h o (oX12 r i)) o 12 54 (.ref z) = some (zset h o (oX12 (va_up r 54 z) i)) := by unfold oX12; rw [pF_zs]; rfl
theorem gX12_55 (h : zH) (o : Nat) (r : Nat → Nat) (i : Nat → Int32) : gR (zset h o (oX12 r i)) o 12 55 = some (r 55) := by unfold oX12; rw [gR_zs]; rfl
theorem pX12_55 (h : zH) (o : Nat) (r : Nat → Nat) (i : Nat → Int32) (z : Nat) : pF (zset h o (oX12 r i)) o 12 55 (.ref z) = some (zset h o (oX12 (va_up r 55 z) i)) := by unfold oX12; rw [pF_zs]; rfl
theorem gX12_56 (h : zH) (o : Nat) (r : Nat → Nat) (i : Nat → Int32) : gR (zset h o (oX12 r i)) o 12 56 = some (r 56) := by unfold oX12; rw [gR_zs]; rfl
theorem pX12_56 (h : zH) (o : Nat) (r : Nat → Nat) (i : Nat → Int32) (z : Nat) : pF (zset h o (oX12 r i)) o 12 56 (.ref z) = some (zset h o (oX12 (va_up r 56 z) i)) := by unfold oX12; rw [pF_zs]; rfl
theorem gX12_57 (h : zH) (o : Nat) (r : Nat → Nat) (i : Nat → Int32) : gR (zset h o (oX12 r i)) o 12 57 = some (r 57) := by unfold oX12; rw [gR_zs]; rfl
theorem pX12_57 (h : zH) (o : Nat) (r : Nat → Nat) (i : Nat → Int32) (z : Nat) : pF (zset h o (oX12 r i)) o 12 57 (.ref z) = some (zset h o (oX12 (va_up r 57 z) i)) := by unfold oX12; rw [pF_zs]; rfl
theorem gX12_58 (h : zH) (o : Nat) (r : Nat → Nat) (i : Nat → Int32) : gR (zset h o (oX12 r i)) o 12 58 = some (r 58) := by unfold oX12; rw [gR_zs]; rfl
theorem pX12_58 (h : zH) (o : Nat) (r : Nat → Nat) (i : Nat → Int32) (z : Nat) : pF (zset h o (oX12 r i)) o 12 58 (.ref z) = some (zset h o (oX12 (va_up r 58 z) i)) := by unfold oX12; rw [pF_zs]; rfl
theorem gX12_59 (h : zH) (o : Nat) (r : Nat → Nat) (i : Nat → Int32) : gR (zset h o (oX12 r i)) o 12 59 = some (r 59) := by unfold oX12; rw [gR_zs]; rfl
theorem pX12_59 (h : zH) (o : Nat) (r : Nat → Nat) (i : Nat → Int32) (z : Nat) : pF (zset h o (oX12 r i)) o 12 59 (.ref z) = some (zset h o (oX12 (va_up r 59 z) i)) := by unfold oX12; rw [pF_zs]; rfl
theorem gX12_60 (h : zH) (o : Nat) (r : Nat → Nat) (i : Nat → Int32) : gR (zset h o (oX12 r i)) o 12 60 = some (r 60) := by unfold oX12; rw [gR_zs]; rfl
theorem pX12_60 (h : zH) (o : Nat) (r : Nat → Nat) (i : Nat → Int32) (z : Nat) : pF (zset h o (oX12 r i)) o 12 60 (.ref z) = some (zset h o (oX12 (va_up r 60 z) i)) := by unfold oX12; rw [pF_zs]; rfl
theorem gX12_61 (h : zH) (o : Nat) (r : Nat → Nat) (i : Nat → Int32) : gR (zset h o (oX12 r i)) o 12 61 = some (r 61) := by unfold oX12; rw [gR_zs]; rfl
theorem pX12_61 (h : zH) (o : Nat) (r : Nat → Nat) (i : Nat → Int32) (z : Nat) : pF (zset h o (oX12 r i)) o 12 61 (.ref z) = some (zset h o (oX12 (va_up r 61 z) i)) := by unfold oX12; rw [pF_zs]; rfl
theorem gX12_62 (h : zH) (o : Nat) (r : Nat → Nat) (i : Nat → Int32) : gR (zset h o (oX12 r i)) o 12 62 = some (r 62) := by unfold oX12; rw [gR_zs]; rfl
theorem pX12_62 (h : zH) (o : Nat) (r : Nat → Nat) (i : Nat → Int32) (z : Nat) : pF (zset h o (oX12 r i)) o 12 62 (.ref z) = some (zset h o (oX12 (va_up r 62 z) i)) := by unfold oX12; rw [pF_zs]; rfl
theorem gX12_63 (h : zH) (o : Nat) (r : Nat → Nat) (i : Nat → Int32) : gI (zset h o (oX12 r i)) o 12 63 = some (i 63) := by unfold oX12; rw [gI_zs]; rfl
theorem pX12_63 (h : zH) (o : Nat) (r : Nat → Nat) (i : Nat → Int32) (z : Int32) : pF (zset h o (oX12 r i)) o 12 63 (.int z) = some (zset h o (oX12 r (upd i 63 z))) := by unfold oX12; rw [pF_zs]; rfl
theorem gX12_64 (h : zH) (o : Nat) (r : Nat → Nat) (i : Nat → Int32) : gI (zset h o (oX12 r i)) o 12 64 = some (i 64) := by unfold oX12; rw [gI_zs]; rfl
theorem pX12_64 (h : zH) (o : Nat) (r : Nat → Nat) (i : Nat → Int32) (z : Int32) : pF (zset h o (oX12 r i)) o 12 64 (.int z) = some (zset h o (oX12 r (upd i 64 z))) := by unfold oX12; rw [pF_zs]; rfl
theorem gX12_65 (h : zH) (o : Nat) (r : Nat → Nat) (i : Nat → Int32) : gI (zset h o (oX12 r i)) o 12 65 = some (i 65) := by unfold oX12; rw [gI_zs]; rfl
theorem pX12_65 (h : zH) (o : Nat) (r : Nat → Nat) (i : Nat → Int32) (z : Int32) : pF (zset h o (oX12 r i)) o 12 65 (.int z) = some (zset h o (oX12 r (upd i 65 z))) := by unfold oX12; rw [pF_zs]; rfl
theorem gX12_66 (h : zH) (o : Nat) (r : Nat → Nat) (i : Nat → Int32) : gR (zset h o (oX12 r i)) o 12 66 = some (r 66) := by unfold oX12; rw [gR_zs]; rfl
theorem pX12_66 (h : zH) (o : Nat) (r : Nat → Nat) (i : Nat → Int32) (z : Nat) : pF (zset h o (oX12 r i)) o 12 66 (.ref z) = some (zset h o (oX12 (va_up r 66 z) i)) := by unfold oX12; rw [pF_zs]; rfl
theorem gX12_67 (h : zH) (o : Nat) (r : Nat → Nat) (i : Nat → Int32) : gI (zset h o (oX12 r i)) o 12 67 = some (i 67) := by unfold oX12; rw [gI_zs]; rfl
theorem pX12_67 (h : zH) (o : Nat) (r : Nat → Nat) (i : Nat → Int32) (z : Int32) : pF (zset h o (oX12 r i)) o 12 67 (.int z) = some (zset h o (oX12 r (upd i 67 z))) := by unfold oX12; rw [pF_zs]; rfl
theorem gX12_68 (h : zH) (o : Nat) (r : Nat → Nat) (i : Nat → Int32) : gR (zset h o (oX12 r i)) o 12 68 = some (r 68) := by unfold oX12; rw [gR_zs]; rfl
theorem pX12_68 (h : zH) (o : Nat) (r : Nat → Nat) (i : Nat → Int32) (z : Nat) : pF (zset h o (oX12 r i)) o 12 68 (.ref z) = some (zset h o (oX12 (va_up r 68 z) i)) := by unfold oX12; rw [pF_zs]; rfl
theorem gX12_69 (h : zH) (o : Nat) (r : Nat → Nat) (i : Nat → Int32) : gR (zset h o (oX12 r i)) o 12 69 = some (r 69) := by unfold oX12; rw [gR_zs]; rfl
theorem pX12_69 (h : zH) (o : Nat) (r : Nat → Nat) (i : Nat → Int32) (z : Nat) : pF (zset h o (oX12 r i)) o 12 69 (.ref z) = some (zset h o (oX12 (va_up r 69 z) i)) := by unfold oX12; rw [pF_zs]; rfl
theorem gX12_70 (h : zH) (o : Nat) (r : Nat → Nat) (i : Nat → Int32) : gR (zset h o (oX12 r i)) o 12 70 = some (r 70) := by unfold oX12; rw [gR_zs]; rfl
theorem pX12_70 (h : zH) (o : Nat) (r : Nat → Nat) (i : Nat → Int32) (z : Nat) : pF (zset h o (oX12 r i)) o 12 70 (.ref z) = some (zset h o (oX12 (va_up r 70 z) i)) := by unfold oX12; rw [pF_zs]; rfl
theorem gX12_71 (h : zH) (o : Nat) (r : Nat → Nat) (i : Nat → Int32) : gR (zset h o (oX12 r i)) o 12 71 = some (r 71) := by unfold oX12; rw [gR_zs]; rfl
theorem pX12_71 (h : zH) (o : Nat) (r : Nat → Nat) (i : Nat → Int32) (z : Nat) : pF (zset h o (oX12 r i)) o 12 71 (.ref z) = some (zset h o (oX12 (va_up r 71 z) i)) := by unfold oX12; rw [pF_zs]; rfl
theorem gX12_72 (h : zH) (o : Nat) (r : Nat → Nat) (i : Nat → Int32) : gR (zset h o (oX12 r i)) o 12 72 = some (r 72) := by unfold oX12; rw [gR_zs]; rfl
theorem pX12_72 (h : zH) (o : Nat) (r : Nat → Nat) (i : Nat → Int32) (z : Nat) : pF (zset h o (oX12 r i)) o 12 72 (.ref z) = some (zset h o (oX12 (va_up r 72 z) i)) := by unfold oX12; rw [pF_zs]; rfl
theorem gX12_73 (h : zH) (o : Nat) (r : Nat → Nat) (i : Nat → Int32) : gR (zset h o (oX12 r i)) o 12 73 = some (r 73) := by unfold oX12; rw [gR_zs]; rfl
theorem pX12_73 (h : zH) (o : Nat) (r : Nat → Nat) (i : Nat → Int32) (z : Nat) : pF (zset h o (oX12 r i)) o 12 73 (.ref z) = some (zset h o (oX12 (va_up r 73 z) i)) := by unfold oX12; rw [pF_zs]; rfl
theorem gX12_74 (h : zH) (o : Nat) (r : Nat → Nat) (i : Nat → Int32) : gR (zset h o (oX12 r i)) o 12 74 = some (r 74) := by unfold oX12; rw [gR_zs]; rfl
theorem pX12_74 (h : zH) (o : Nat) (r : Nat → Nat) (i : Nat → Int32) (z : Nat) : pF (zset h o (oX12 r i)) o 12 74 (.ref z) = some (zset h o (oX12 (va_up r 74 z) i)) := by unfold oX12; rw [pF_zs]; rfl
theorem gX12_75 (h : zH) (o : Nat) (r : Nat → Nat) (i : Nat → Int32) : gR (zset h o (oX12 r i)) o 12 75 = some (r 75) := by unfold oX12; rw [gR_zs]; rfl
theorem pX12_75 (h : zH) (o : Nat) (r : Nat → Nat) (i : Nat → Int32) (z : Nat) : pF (zset h o (oX12 r i)) o 12 75 (.ref z) = some (zset h o (oX12 (va_up r 75 z) i)) := by unfold oX12; rw [pF_zs]; rfl
theorem gX12_76 (h : zH) (o : Nat) (r : Nat → Nat) (i : Nat → Int32) : gI (zset h o (oX12 r i)) o 12 76 = some (i 76) := by unfold oX12; rw [gI_zs]; rfl
theorem pX12_76 (h : zH) (o : Nat) (r : Nat → Nat) (i : Nat → Int32) (z : Int32) : pF (zset h o (oX12 r i)) o 12 76 (.int z) = some (zset h o (oX12 r (upd i 76 z))) := by unfold oX12; rw [pF_zs]; rfl
theorem gX12_77 (h : zH) (o : Nat) (r : Nat → Nat) (i : Nat → Int32) : gR (zset h o (oX12 r i)) o 12 77 = some (r 77) := by unfold oX12; rw [gR_zs]; rfl
theorem pX12_77 (h : zH) (o : Nat) (r : Nat → Nat) (i : Nat → Int32) (z : Nat) : pF (zset h o (oX12 r i)) o 12 77 (.ref z) = some (zset h o (oX12 (va_up r 77 z) i)) := by unfold oX12; rw [pF_zs]; rfl
theorem gX12_78 (h : zH) (o : Nat) (r : Nat → Nat) (i : Nat → Int32) : gR (zset h o (oX12 r i)) o 12 78 = some (r 78) := by unfold oX12; rw [gR_zs]; rfl
theorem pX12_78 (h : zH) (o : Nat) (r : Nat → Nat) (i : Nat → Int32) (z : Nat) : pF (zset h o (oX12 r i)) o 12 78 (.ref z) = some (zset h o (oX12 (va_up r 78 z) i)) := by unfold oX12; rw [pF_zs]; rfl
theorem gX12_79 (h : zH) (o : Nat) (r : Nat → Nat) (i : Nat → Int32) : gR (zset h o (oX12 r i)) o 12 79 = some (r 79) := by unfold oX12; rw [gR_zs]; rfl
theorem pX12_79 (h : zH) (o : Nat) (r : Nat → Nat) (i : Nat → Int32) (z : Nat) : pF (zset h o (oX12 r i)) o 12 79 (.ref z) = some (zset h o (oX12 (va_up r 79 z) i)) := by unfold oX12; rw [pF_zs]; rfl
