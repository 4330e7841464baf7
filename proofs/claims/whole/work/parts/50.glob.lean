/-! the whole memory of the class -/
/-- the history's six conferences -/
def slC (h : Nat) (Hs : Nat → z_V) (j : Nat) : z_E := cC (h + 32 * (j / 32)) (Hs (j / 32)) (j % 32)
def slS (M : z_M) (h : Nat) (Hs : Nat → z_V) : z_M := rg M h 192 (slC h Hs)
def upH (Hs : Nat → z_V) (k : Nat) (W : z_V) : Nat → z_V := fun j => if j = k then W else Hs j
theorem slS_up {M : z_M} {h k : Nat} {Hs : Nat → z_V} (hk : k < 6) (W : z_V) : cS (slS M h Hs) (h + 32 * k) W = slS M h (upH Hs k W) := by
  unfold cS slS rg
  congr 1
  funext x
  show (if h + 32 * k ≤ x ∧ x < h + 32 * k + 32 then some (cC (h + 32 * k) W (x - (h + 32 * k))) else if h ≤ x ∧ x < h + 192 then some (slC h Hs (x - h)) else M.2 x) = (if h ≤ x ∧ x < h + 192 then some (slC h (upH Hs k W) (x - h)) else M.2 x)
  by_cases h1 : h + 32 * k ≤ x ∧ x < h + 32 * k + 32
  · rw [if_pos h1, if_pos (by omega)]
    have e1 : (x - h) / 32 = k := by omega
    have e2 : (x - h) % 32 = x - (h + 32 * k) := by omega
    unfold slC upH
    rw [e1, e2, if_pos rfl]
  · rw [if_neg h1]
    by_cases h2 : h ≤ x ∧ x < h + 192
    · rw [if_pos h2, if_pos h2]
      have e1 : (x - h) / 32 ≠ k := by omega
      unfold slC upH
      rw [if_neg e1]
    · rw [if_neg h2, if_neg h2]
theorem upH_id (Hs : Nat → z_V) (k : Nat) : upH Hs k (Hs k) = Hs := by
  funext j
  unfold upH
  by_cases h : j = k
  · rw [if_pos h, h]
  · rw [if_neg h]
theorem upH_upH (Hs : Nat → z_V) (k : Nat) (V W : z_V) : upH (upH Hs k V) k W = upH Hs k W := by
  funext j
  unfold upH
  by_cases h : j = k <;> simp [h]
def ob (n : Nat) : z_E := z_O 10 [.ref (n + 1), .ref (n + 33), .ref (n + 65), .ref (n + 73), .ref (n + 267)]
/-- now V, trial Vt, mixer U, history H and Hs, text T -/
def gM (M : z_M) (n : Nat) (V Vt U H T : z_V) (Hs : Nat → z_V) : z_M :=
  cS (xS (cS (hS (slS (tS (z_up M n (ob n)) (n + 267) T) (n + 75) Hs) (n + 73) H) (n + 33) Vt) (n + 65) U) (n + 1) V
theorem gM_1 (M : z_M) (n : Nat) (V Vt U H T : z_V) (Hs : Nat → z_V) : (gM M n V Vt U H T Hs).1 = M.1 := rfl
/-- now and mixer -/
def gX (M : z_M) (n : Nat) (Vt H T : z_V) (Hs : Nat → z_V) : z_M := cS (hS (slS (tS (z_up M n (ob n)) (n + 267) T) (n + 75) Hs) (n + 73) H) (n + 33) Vt
theorem gM_x (M : z_M) (n : Nat) (V Vt U H T : z_V) (Hs : Nat → z_V) : gM M n V Vt U H T Hs = cS (xS (gX M n Vt H T Hs) (n + 65) U) (n + 1) V := rfl
/-- now and the history's numbers -/
def gH (M : z_M) (n : Nat) (Vt U T : z_V) (Hs : Nat → z_V) : z_M := xS (cS (slS (tS (z_up M n (ob n)) (n + 267) T) (n + 75) Hs) (n + 33) Vt) (n + 65) U
theorem gM_h (M : z_M) (n : Nat) (V Vt U H T : z_V) (Hs : Nat → z_V) : gM M n V Vt U H T Hs = cS (hS (gH M n Vt U T Hs) (n + 73) H) (n + 1) V := by
  unfold gM gH cS xS hS
  rw [rg_comm (a := n + 73) (n := 2) (b := n + 33) (m := 32) (by omega), rg_comm (a := n + 73) (n := 2) (b := n + 65) (m := 8) (by omega)]
/-- now, one of the history's, the history's numbers -/
theorem gM_k (M : z_M) (n : Nat) (V Vt U H T : z_V) (Hs : Nat → z_V) (k : Nat) (hk : k < 6) (W : z_V) : gM M n V Vt U H T (upH Hs k W) = cS (cS (hS (gH M n Vt U T Hs) (n + 73) H) (n + 73 + 2 + 32 * k) W) (n + 1) V := by
  rw [gM_h]
  unfold gH
  rw [← slS_up hk W]
  have e : n + 75 + 32 * k = n + 73 + 2 + 32 * k := by omega
  rw [e]
  unfold cS xS hS
  rw [rg_comm (a := n + 73 + 2 + 32 * k) (n := 32) (b := n + 33) (m := 32) (by omega), rg_comm (a := n + 73 + 2 + 32 * k) (n := 32) (b := n + 65) (m := 8) (by omega), rg_comm (a := n + 73 + 2 + 32 * k) (n := 32) (b := n + 73) (m := 2) (by omega)]
/-- the text -/
def gT (M : z_M) (n : Nat) (V Vt U H : z_V) (Hs : Nat → z_V) : z_M := cS (xS (cS (hS (slS (z_up M n (ob n)) (n + 75) Hs) (n + 73) H) (n + 33) Vt) (n + 65) U) (n + 1) V
theorem gM_t (M : z_M) (n : Nat) (V Vt U H T : z_V) (Hs : Nat → z_V) : gM M n V Vt U H T Hs = tS (gT M n V Vt U H Hs) (n + 267) T := by
  unfold gM gT cS xS hS slS tS
  rw [rg_comm (a := n + 267) (n := 5) (b := n + 75) (m := 192) (by omega), rg_comm (a := n + 267) (n := 5) (b := n + 73) (m := 2) (by omega), rg_comm (a := n + 267) (n := 5) (b := n + 33) (m := 32) (by omega), rg_comm (a := n + 267) (n := 5) (b := n + 65) (m := 8) (by omega), rg_comm (a := n + 267) (n := 5) (b := n + 1) (m := 32) (by omega)]
/-- now and trial -/
def gY (M : z_M) (n : Nat) (U H T : z_V) (Hs : Nat → z_V) : z_M := xS (hS (slS (tS (z_up M n (ob n)) (n + 267) T) (n + 75) Hs) (n + 73) H) (n + 65) U
theorem gM_y (M : z_M) (n : Nat) (V Vt U H T : z_V) (Hs : Nat → z_V) : gM M n V Vt U H T Hs = cS (cS (gY M n U H T Hs) (n + 1) V) (n + 33) Vt := by
  unfold gM gY cS xS
  rw [rg_comm (a := n + 33) (n := 32) (b := n + 65) (m := 8) (by omega), rg_comm (a := n + 33) (n := 32) (b := n + 1) (m := 32) (by omega)]
theorem gM_ob (M : z_M) (n : Nat) (V Vt U H T : z_V) (Hs : Nat → z_V) : (gM M n V Vt U H T Hs).2 n = some (.inr (10, [.ref (n + 1), .ref (n + 33), .ref (n + 65), .ref (n + 73), .ref (n + 267)])) := by
  unfold gM
  rw [cS_out (by omega), xS_out (by omega), cS_out (by omega), hS_out (by omega)]
  unfold slS
  rw [rg_out (by omega), tS_out (by omega)]
  show (if n = n then some (ob n) else M.2 n) = _
  rw [if_pos rfl]
  rfl
theorem gM_cf (M : z_M) (n : Nat) (V Vt U H T : z_V) (Hs : Nat → z_V) : (gM M n V Vt U H T Hs).2 (n + 1) = some (.inr (0, [.int (V.1 0), .ref (n + 1 + 1), .ref (n + 1 + 2), .ref (n + 1 + 6), .ref (n + 1 + 17), .ref (n + 1 + 23), .ref (n + 1 + 28)])) := crd0 _ _ _
theorem gM_hc (M : z_M) (n : Nat) (V Vt U H T : z_V) (Hs : Nat → z_V) : (gM M n V Vt U H T Hs).2 (n + 73) = some (.inr (3, [.ref (n + 73 + 1), .int (H.1 0), .int (H.1 1)])) := by
  rw [gM_h, cS_out (by omega)]
  exact hrd0 _ _ _
theorem gM_tc (M : z_M) (n : Nat) (V Vt U H T : z_V) (Hs : Nat → z_V) : (gM M n V Vt U H T Hs).2 (n + 267) = some (.inr (5, [.ref (n + 267 + 1), .int (T.1 0), .int (T.1 1), .int (T.1 2), .int (T.1 3), .ref (n + 267 + 2), .ref (n + 267 + 3), .ref (n + 267 + 4)])) := by
  rw [gM_t]
  exact trd0 _ _ _
theorem gM_cr {M : z_M} {n : Nat} {V Vt U H T : z_V} {Hs : Nat → z_V} {k : Nat} (h : k < 32) : (gM M n V Vt U H T Hs).2 (n + 1 + k) = some (cC (n + 1) V k) := rg_rd h
/-- the history: its numbers in order -/
def okH (H : z_V) (k m : Nat) : Prop := k < 6 ∧ m ≤ 5 ∧ H.1 1 = nI k ∧ H.1 0 = nI m
theorem g28 (M : z_M) (n : Nat) (V Vt U H T : z_V) (Hs : Nat → z_V) (k m : Nat) (hH : okH H k m) (f : Bool) (hf : V.1 4 = bI f) : z_cl 28 [.ref (n + 73), .ref (n + 1)] (gM M n V Vt U H T Hs) = some (none, gM M n V Vt U H T (upH Hs k V)) := by
  have h := m28 (gH M n Vt U T Hs) (n + 1) (n + 73) k hH.1 (by omega) H V (Hs k) hH.2.2.1 f hf
  rw [← gM_k M n V Vt U H T Hs k hH.1 (Hs k), ← gM_k M n V Vt U H T Hs k hH.1 V, upH_id] at h
  exact h
theorem g29 (M : z_M) (n : Nat) (V Vt U H T : z_V) (Hs : Nat → z_V) (k m : Nat) (hH : okH H k m) (a : Int32) : z_cl 29 [.ref (n + 73), .int a] (gM M n V Vt U H T Hs) = some (some (.int a), gM M n V Vt U (setR H a) T Hs) := by
  have h := m29 (gH M n Vt U T Hs) (n + 1) (n + 73) (by omega) H V k m hH.1 hH.2.1 hH.2.2.1 hH.2.2.2 a
  rw [← gM_h, ← gM_h] at h
  exact h
