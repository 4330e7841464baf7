/-! the class's leaves: numbers, events, tree -/
def bI (c : Bool) : Int32 := if c then nI 1 else nI 0
theorem bI_or (c : Bool) : bI c = 0 ∨ bI c = 1 := by cases c <;> simp [bI] <;> decide
theorem bI_t : bI true = nI 1 := rfl
theorem bI_f : bI false = nI 0 := rfl
theorem bI_e0 (c : Bool) : (bI c = nI 0) = (c = false) := by cases c <;> simp [bI] <;> decide
theorem bI_e1 (c : Bool) : (bI c = nI 1) = (c = true) := by cases c <;> simp [bI] <;> decide
theorem m74 (x lo hi : Int32) (M : z_M) : z_cl 74 [.int x, .int lo, .int hi] M = some (some (.int (bI (decide (lo ≤ x ∧ x ≤ hi)))), M) := by
  rw [e74]
  simp only [b74]
  by_cases h1 : x < lo
  · have h2 : ¬ lo ≤ x := Int32.not_le.mpr h1
    simp [h1, h2, bI_f]
    rfl
  · have h2 : lo ≤ x := Int32.not_lt.mp h1
    by_cases h3 : hi < x
    · have h4 : ¬ x ≤ hi := Int32.not_le.mpr h3
      simp [h1, h3, h4, bI_f]
      rfl
    · have h4 : x ≤ hi := Int32.not_lt.mp h3
      simp [h1, h2, h3, h4, bI_t]
      rfl
def nV (V : z_V) (i : Nat) : Nat := (V.1 i).toNatClampNeg
/-- an event noted -/
def evAdd (V : z_V) (x y z : Int32) : z_V :=
  sS (sS (sA (sA (sA V 19 (upd (V.2.2.1 19) (nV V 13) x)) 20 (upd (V.2.2.1 20) (nV V 13) y)) 21 (upd (V.2.2.1 21) (nV V 13) z)) 13 (nI (if 30 ≤ nV V 13 + 1 then 0 else nV V 13 + 1))) 12 (nI (if 30 ≤ nV V 12 then 30 else nV V 12 + 1))
theorem nV_of {V : z_V} {i n : Nat} (h : V.1 i = nI n) (hn : n < 2 ^ 31) : nV V i = n := by unfold nV; rw [h, nI_clamp hn]
theorem m17 (M : z_M) (c : Nat) (V : z_V) (x y z : Int32) (N K : Nat) (hN : N < 30) (hK : K ≤ 30) (h : V.1 13 = nI N) (h2 : V.1 12 = nI K) : z_cl 17 [.ref (c + 28), .int x, .int y, .int z] (cS M c V) = some (none, cS M c (evAdd V x y z)) := by
  rw [e17]
  have e1 := nV_of h (by omega)
  have e2 := nV_of h2 (by omega)
  unfold evAdd
  rw [e1, e2]
  simp (disch := first | omega | (simp only [sgets, reduceIte, Nat.reduceEqDiff, h, h2]; done) | omega) only [cS_1, crd, z_pv_some, z_wv_some, z_cv_v, z_cv_n, cwr, sgets, rc_O, ia_n, fa_n, is_n, fs_n, ↓mI_eq, lits, nI_add, nLe, nLt, nE, mI_ne, mI_ne', mI_lt, mI_le, mI_nlt, mI_nle, ne_eq, mI_addC, pk_sub, pk_mul, pk_div, Nat.reduceEqDiff, Nat.reduceAdd, Nat.reduceMul, Nat.reduceSub, reduceIte, not_true_eq_false, not_false_eq_true, true_or, or_true, if_true, if_false, and_self, and_true, true_and, and_false, false_and, or_self, or_false, false_or, decide_true, decide_false, Bool.false_eq_true, Bool.true_eq_false, bI_t, bI_f, b17, gfs1, pfs1, h, h2]
  by_cases c1 : 30 ≤ N + 1 <;> by_cases c2 : 30 ≤ K <;> simp only [c1, c2, if_true, if_false]
/-- Tree.has -/
theorem m65 (M : z_M) (c : Nat) (V : z_V) (x : Int32) : z_cl 65 [.ref (c + 2), .int x] (cS M c V) = some (some (.int (bI (decide (0 ≤ x ∧ x < V.1 8)))), cS M c V) := by
  rw [e65]
  simp only [b65, crd, gfs9, z_pv_some]
  by_cases h1 : x < 0
  · have h2 : ¬ 0 ≤ x := Int32.not_le.mpr h1
    simp [h1, h2, bI_f]
    rfl
  · have h2 : 0 ≤ x := Int32.not_lt.mp h1
    by_cases h3 : V.1 8 ≤ x
    · have h4 : ¬ x < V.1 8 := Int32.not_lt.mpr h3
      simp [h1, h3, h4, bI_f]
      rfl
    · have h4 : x < V.1 8 := Int32.not_le.mp h3
      simp [h1, h2, h3, h4, bI_t]
      rfl
/-- Tree.refuses -/
theorem m67 (M : z_M) (c : Nat) (V : z_V) (b : Nat) (hb : b < 8) (x : Int32) : z_cl 67 [.ref (c + 2), .int (nI b), .int x] (cS M c V) = some (some (.int (bI (decide (x = nI 1 ∧ V.2.2.1 2 b = nI 1)))), cS M c V) := by
  rw [e67]
  simp (disch := first | omega | (simp only [sgets, reduceIte, Nat.reduceEqDiff]; done) | omega) only [cS_1, crd, z_pv_some, z_wv_some, z_cv_v, z_cv_n, cwr, sgets, rc_O, ia_n, fa_n, is_n, fs_n, ↓mI_eq, lits, nI_add, nLe, nLt, nE, mI_ne, mI_ne', mI_lt, mI_le, mI_nlt, mI_nle, ne_eq, mI_addC, pk_sub, pk_mul, pk_div, Nat.reduceEqDiff, Nat.reduceAdd, Nat.reduceMul, Nat.reduceSub, reduceIte, not_true_eq_false, not_false_eq_true, true_or, or_true, if_true, if_false, and_self, and_true, true_and, and_false, false_and, or_self, or_false, false_or, decide_true, decide_false, Bool.false_eq_true, Bool.true_eq_false, bI_t, bI_f, b67, gfs9]
  by_cases h1 : x = nI 1 <;> by_cases h2 : V.2.2.1 2 b = nI 1 <;> simp [h1, h2, bI] <;> decide
/-- Tree.add -/
theorem m66 (M : z_M) (c : Nat) (V : z_V) (B : Nat) (hB : B < 8) (h : V.1 8 = nI B) (x y : Int32) (z : Bool) : z_cl 66 [.ref (c + 2), .int x, .int y, .int (bI z)] (cS M c V) = some (some (.int (nI B)), cS M c (sS (sA (sA (sA V 0 (upd (V.2.2.1 0) B x)) 1 (upd (V.2.2.1 1) B y)) 2 (upd (V.2.2.1 2) B (bI z))) 8 (nI (B + 1)))) := by
  rw [e66]
  cases z
  · simp (disch := first | omega | (simp only [sgets, reduceIte, Nat.reduceEqDiff, h]; done) | omega) only [cS_1, crd, z_pv_some, z_wv_some, z_cv_v, z_cv_n, cwr, sgets, rc_O, ia_n, fa_n, is_n, fs_n, ↓mI_eq, lits, nI_add, nLe, nLt, nE, mI_ne, mI_ne', mI_lt, mI_le, mI_nlt, mI_nle, ne_eq, mI_addC, pk_sub, pk_mul, pk_div, Nat.reduceEqDiff, Nat.reduceAdd, Nat.reduceMul, Nat.reduceSub, reduceIte, not_true_eq_false, not_false_eq_true, true_or, or_true, if_true, if_false, and_self, and_true, true_and, and_false, false_and, or_self, or_false, false_or, decide_true, decide_false, Bool.false_eq_true, Bool.true_eq_false, bI_t, bI_f, b66, gfs9, pfs9, bI_f, h]
  · simp (disch := first | omega | (simp only [sgets, reduceIte, Nat.reduceEqDiff, h]; done) | omega) only [cS_1, crd, z_pv_some, z_wv_some, z_cv_v, z_cv_n, cwr, sgets, rc_O, ia_n, fa_n, is_n, fs_n, ↓mI_eq, lits, nI_add, nLe, nLt, nE, mI_ne, mI_ne', mI_lt, mI_le, mI_nlt, mI_nle, ne_eq, mI_addC, pk_sub, pk_mul, pk_div, Nat.reduceEqDiff, Nat.reduceAdd, Nat.reduceMul, Nat.reduceSub, reduceIte, not_true_eq_false, not_false_eq_true, true_or, or_true, if_true, if_false, and_self, and_true, true_and, and_false, false_and, or_self, or_false, false_or, decide_true, decide_false, Bool.false_eq_true, Bool.true_eq_false, bI_t, bI_f, b66, gfs9, pfs9, bI_t, h]
/-- Tree.wayInto: bridge b, neighbour n -/
def way (V : z_V) (b n : Nat) : Int32 := if V.2.2.1 0 b = nI n then nI b else if V.2.2.1 0 n = nI b then nI (8 + n) else mI
theorem m68 (M : z_M) (c : Nat) (V : z_V) (b n : Nat) (hb : b < 8) (hn : n < 8) : z_cl 68 [.ref (c + 2), .int (nI b), .int (nI n)] (cS M c V) = some (some (.int (way V b n)), cS M c V) := by
  rw [e68]
  unfold way
  simp (disch := first | omega | (simp only [sgets, reduceIte, Nat.reduceEqDiff]; done) | omega) only [cS_1, crd, z_pv_some, z_wv_some, z_cv_v, z_cv_n, cwr, sgets, rc_O, ia_n, fa_n, is_n, fs_n, ↓mI_eq, lits, nI_add, nLe, nLt, nE, mI_ne, mI_ne', mI_lt, mI_le, mI_nlt, mI_nle, ne_eq, mI_addC, pk_sub, pk_mul, pk_div, Nat.reduceEqDiff, Nat.reduceAdd, Nat.reduceMul, Nat.reduceSub, reduceIte, not_true_eq_false, not_false_eq_true, true_or, or_true, if_true, if_false, and_self, and_true, true_and, and_false, false_and, or_self, or_false, false_or, decide_true, decide_false, Bool.false_eq_true, Bool.true_eq_false, bI_t, bI_f, b68, gfs9]
  by_cases h1 : V.2.2.1 0 b = nI n <;> by_cases h2 : V.2.2.1 0 n = nI b <;> simp [h1, h2]
/-- Tree.placesOf -/
theorem m69 (M : z_M) (c : Nat) (V : z_V) (w : Nat) (hw : w < 16) : z_cl 69 [.ref (c + 2), .int (nI w)] (cS M c V) = some (some (.int (V.2.2.1 1 (if w < 8 then w else w - 8))), cS M c V) := by
  rw [e69]
  by_cases h : w < 8
  · have h8 : ¬ 8 ≤ w := by omega
    simp (disch := first | omega | (simp only [sgets, reduceIte, Nat.reduceEqDiff, h8]; done) | omega) only [cS_1, crd, z_pv_some, z_wv_some, z_cv_v, z_cv_n, cwr, sgets, rc_O, ia_n, fa_n, is_n, fs_n, ↓mI_eq, lits, nI_add, nLe, nLt, nE, mI_ne, mI_ne', mI_lt, mI_le, mI_nlt, mI_nle, ne_eq, mI_addC, pk_sub, pk_mul, pk_div, Nat.reduceEqDiff, Nat.reduceAdd, Nat.reduceMul, Nat.reduceSub, reduceIte, not_true_eq_false, not_false_eq_true, true_or, or_true, if_true, if_false, and_self, and_true, true_and, and_false, false_and, or_self, or_false, false_or, decide_true, decide_false, Bool.false_eq_true, Bool.true_eq_false, bI_t, bI_f, b69, gfs9, h8]
    simp only [h, if_true]
  · have h8 : 8 ≤ w := by omega
    simp (disch := first | omega | (simp only [sgets, reduceIte, Nat.reduceEqDiff, h8]; done) | omega) only [cS_1, crd, z_pv_some, z_wv_some, z_cv_v, z_cv_n, cwr, sgets, rc_O, ia_n, fa_n, is_n, fs_n, ↓mI_eq, lits, nI_add, nLe, nLt, nE, mI_ne, mI_ne', mI_lt, mI_le, mI_nlt, mI_nle, ne_eq, mI_addC, pk_sub, pk_mul, pk_div, Nat.reduceEqDiff, Nat.reduceAdd, Nat.reduceMul, Nat.reduceSub, reduceIte, not_true_eq_false, not_false_eq_true, true_or, or_true, if_true, if_false, and_self, and_true, true_and, and_false, false_and, or_self, or_false, false_or, decide_true, decide_false, Bool.false_eq_true, Bool.true_eq_false, bI_t, bI_f, b69, gfs9, h8]
    simp only [h, if_false]
/-- EventLog.placeOf -/
theorem m18 (M : z_M) (c : Nat) (V : z_V) (N i : Nat) (hN : N < 30) (h : V.1 13 = nI N) (hi : i < 30) : z_cl 18 [.ref (c + 28), .int (nI i)] (cS M c V) = some (some (.int (nI ((N + 29 - i) % 30))), cS M c V) := by
  rw [e18]
  simp (disch := first | omega | (simp only [sgets, reduceIte, Nat.reduceEqDiff, h]; done) | omega) only [cS_1, crd, z_pv_some, z_wv_some, z_cv_v, z_cv_n, cwr, sgets, rc_O, ia_n, fa_n, is_n, fs_n, ↓mI_eq, lits, nI_add, nLe, nLt, nE, mI_ne, mI_ne', mI_lt, mI_le, mI_nlt, mI_nle, ne_eq, mI_addC, pk_sub, pk_mul, pk_div, Nat.reduceEqDiff, Nat.reduceAdd, Nat.reduceMul, Nat.reduceSub, reduceIte, not_true_eq_false, not_false_eq_true, true_or, or_true, if_true, if_false, and_self, and_true, true_and, and_false, false_and, or_self, or_false, false_or, decide_true, decide_false, Bool.false_eq_true, Bool.true_eq_false, bI_t, bI_f, b18, gfs1, h]
  rw [show N + 30 - 1 - i - (N + 30 - 1 - i) / 30 * 30 = (N + 29 - i) % 30 by omega]
