/-! the model's leaves -/
theorem m110 (x lo hi : Int32) (M : z_M) : z_cl 110 [.int x, .int lo, .int hi] M = some (some (.int (bI (decide (lo ≤ x ∧ x ≤ hi)))), M) := by
  rw [e110]
  simp only [b110]
  by_cases h1 : x < lo
  · have h2 : ¬ lo ≤ x := Int32.not_le.mpr h1
    simp [h1, h2, bI_f]
    rfl
  · have h2 : lo ≤ x := Int32.not_lt.mp h1
    by_cases h3 : hi < x
    · have h4 : ¬ x ≤ hi := Int32.not_le.mpr h3
      simp [h1, h3, h4, bI_f]
      rfl
    · have h4 : x ≤ hi := Int32.not_lt.mp h3
      simp [h1, h2, h3, h4, bI_t]
      rfl
theorem m116 (M : z_M) (o : Nat) (Y : z_V) (w : Int64) (p j : Nat) (hp : p < 20) (hj : j < 13) : z_cl 116 [.ref o, .int (nI p), .int (nI j)] (yS M o Y w) = some (some (.int (Y.2.2.1 (4 + j) p)), yS M o Y w) := by
  rw [e116]
  simp (disch := first | omega | (simp only [sgets, reduceIte, Nat.reduceEqDiff, dec_S, Nat.reduceAdd]; done) | omega) only [cS_1, crd, z_pv_some, z_wv_some, z_cv_v, z_cv_n, cwr, sgets, rc_O, ia_n, fa_n, is_n, fs_n, ↓mI_eq, lits, nI_add, nLe, nLt, nE, mI_ne, mI_ne', mI_lt, mI_le, mI_nlt, mI_nle, ne_eq, mI_addC, pk_sub, pk_mul, pk_div, Nat.reduceEqDiff, Nat.reduceAdd, Nat.reduceMul, Nat.reduceSub, reduceIte, not_true_eq_false, not_false_eq_true, true_or, or_true, if_true, if_false, and_self, and_true, true_and, and_false, false_and, or_self, or_false, false_or, decide_true, decide_false, Bool.false_eq_true, Bool.true_eq_false, bI_t, bI_f, oS_1, ord, owA0, owF0, owF1, owA1, owF2, owA2, owF3, owA3, ywo, gfs11, pfs11, yrd, ywr, b116, dec_S, Nat.reduceAdd]
theorem m117 (M : z_M) (o : Nat) (Y : z_V) (w : Int64) (b j : Nat) (hb : b < 8) (hj : j < 4) : z_cl 117 [.ref o, .int (nI b), .int (nI j)] (yS M o Y w) = some (some (.int (Y.2.2.1 j b)), yS M o Y w) := by
  rw [e117]
  simp (disch := first | omega | (simp only [sgets, reduceIte, Nat.reduceEqDiff, dec_S, Nat.reduceAdd]; done) | omega) only [cS_1, crd, z_pv_some, z_wv_some, z_cv_v, z_cv_n, cwr, sgets, rc_O, ia_n, fa_n, is_n, fs_n, ↓mI_eq, lits, nI_add, nLe, nLt, nE, mI_ne, mI_ne', mI_lt, mI_le, mI_nlt, mI_nle, ne_eq, mI_addC, pk_sub, pk_mul, pk_div, Nat.reduceEqDiff, Nat.reduceAdd, Nat.reduceMul, Nat.reduceSub, reduceIte, not_true_eq_false, not_false_eq_true, true_or, or_true, if_true, if_false, and_self, and_true, true_and, and_false, false_and, or_self, or_false, false_or, decide_true, decide_false, Bool.false_eq_true, Bool.true_eq_false, bI_t, bI_f, oS_1, ord, owA0, owF0, owF1, owA1, owF2, owA2, owF3, owA3, ywo, gfs11, pfs11, yrd, ywr, b117, dec_S, Nat.reduceAdd]
theorem m118 (M : z_M) (o : Nat) (Y : z_V) (w : Int64) (p j : Nat) (hp : p < 20) (hj : j < 13) (x : Int32) : z_cl 118 [.ref o, .int (nI p), .int (nI j), .int x] (yS M o Y w) = some (none, yS M o (sA Y (4 + j) (upd (Y.2.2.1 (4 + j)) p x)) w) := by
  rw [e118]
  simp (disch := first | omega | (simp only [sgets, reduceIte, Nat.reduceEqDiff, dec_S, Nat.reduceAdd]; done) | omega) only [cS_1, crd, z_pv_some, z_wv_some, z_cv_v, z_cv_n, cwr, sgets, rc_O, ia_n, fa_n, is_n, fs_n, ↓mI_eq, lits, nI_add, nLe, nLt, nE, mI_ne, mI_ne', mI_lt, mI_le, mI_nlt, mI_nle, ne_eq, mI_addC, pk_sub, pk_mul, pk_div, Nat.reduceEqDiff, Nat.reduceAdd, Nat.reduceMul, Nat.reduceSub, reduceIte, not_true_eq_false, not_false_eq_true, true_or, or_true, if_true, if_false, and_self, and_true, true_and, and_false, false_and, or_self, or_false, false_or, decide_true, decide_false, Bool.false_eq_true, Bool.true_eq_false, bI_t, bI_f, oS_1, ord, owA0, owF0, owF1, owA1, owF2, owA2, owF3, owA3, ywo, gfs11, pfs11, yrd, ywr, b118, dec_S, Nat.reduceAdd]
theorem m113 (M : z_M) (o : Nat) (Y : z_V) (w : Int64) (b j : Nat) (hb : b < 8) (hj : j < 4) (x : Int32) : z_cl 113 [.ref o, .int (nI b), .int (nI j), .int x] (yS M o Y w) = some (none, yS M o (sA Y j (upd (Y.2.2.1 j) b x)) w) := by
  rw [e113]
  simp (disch := first | omega | (simp only [sgets, reduceIte, Nat.reduceEqDiff, dec_S, Nat.reduceAdd]; done) | omega) only [cS_1, crd, z_pv_some, z_wv_some, z_cv_v, z_cv_n, cwr, sgets, rc_O, ia_n, fa_n, is_n, fs_n, ↓mI_eq, lits, nI_add, nLe, nLt, nE, mI_ne, mI_ne', mI_lt, mI_le, mI_nlt, mI_nle, ne_eq, mI_addC, pk_sub, pk_mul, pk_div, Nat.reduceEqDiff, Nat.reduceAdd, Nat.reduceMul, Nat.reduceSub, reduceIte, not_true_eq_false, not_false_eq_true, true_or, or_true, if_true, if_false, and_self, and_true, true_and, and_false, false_and, or_self, or_false, false_or, decide_true, decide_false, Bool.false_eq_true, Bool.true_eq_false, bI_t, bI_f, oS_1, ord, owA0, owF0, owF1, owA1, owF2, owA2, owF3, owA3, ywo, gfs11, pfs11, yrd, ywr, b113, dec_S, Nat.reduceAdd]
/-- a bit of a set -/
def tb (x : Int32) (p : Nat) : Bool := decide ((x >>> (nI p &&& nI 31)) &&& nI 1 = nI 1)
theorem m138 (M : z_M) (o : Nat) (Y : z_V) (w : Int64) (b p : Nat) (hb : b < 8) : z_cl 138 [.ref o, .int (nI b), .int (nI p)] (yS M o Y w) = some (some (.int (bI (tb (Y.2.2.1 3 b) p))), yS M o Y w) := by
  rw [e138]
  have h := m117 M o Y w b 3 hb (by omega)
  unfold tb
  simp (disch := first | omega | (simp only [sgets, reduceIte, Nat.reduceEqDiff, dec_S, Nat.reduceAdd]; done) | omega) only [cS_1, crd, z_pv_some, z_wv_some, z_cv_v, z_cv_n, cwr, sgets, rc_O, ia_n, fa_n, is_n, fs_n, ↓mI_eq, lits, nI_add, nLe, nLt, nE, mI_ne, mI_ne', mI_lt, mI_le, mI_nlt, mI_nle, ne_eq, mI_addC, pk_sub, pk_mul, pk_div, Nat.reduceEqDiff, Nat.reduceAdd, Nat.reduceMul, Nat.reduceSub, reduceIte, not_true_eq_false, not_false_eq_true, true_or, or_true, if_true, if_false, and_self, and_true, true_and, and_false, false_and, or_self, or_false, false_or, decide_true, decide_false, Bool.false_eq_true, Bool.true_eq_false, bI_t, bI_f, oS_1, ord, owA0, owF0, owF1, owA1, owF2, owA2, owF3, owA3, ywo, gfs11, pfs11, yrd, ywr, b138, h, dec_S, Nat.reduceAdd]
  by_cases h1 : (Y.2.2.1 3 b >>> (nI p &&& nI 31)) &&& nI 1 = nI 1 <;> simp [h1, bI] <;> decide
theorem m176 (M : z_M) (o : Nat) (Y : z_V) (w : Int64) (x : Int64) : z_cl 176 [.ref o, .long x] (yS M o Y w) = some (none, yS M o Y (31 * w + x)) := by
  rw [e176]
  simp (disch := first | omega | (simp only [sgets, reduceIte, Nat.reduceEqDiff, dec_S, Nat.reduceAdd]; done) | omega) only [cS_1, crd, z_pv_some, z_wv_some, z_cv_v, z_cv_n, cwr, sgets, rc_O, ia_n, fa_n, is_n, fs_n, ↓mI_eq, lits, nI_add, nLe, nLt, nE, mI_ne, mI_ne', mI_lt, mI_le, mI_nlt, mI_nle, ne_eq, mI_addC, pk_sub, pk_mul, pk_div, Nat.reduceEqDiff, Nat.reduceAdd, Nat.reduceMul, Nat.reduceSub, reduceIte, not_true_eq_false, not_false_eq_true, true_or, or_true, if_true, if_false, and_self, and_true, true_and, and_false, false_and, or_self, or_false, false_or, decide_true, decide_false, Bool.false_eq_true, Bool.true_eq_false, bI_t, bI_f, oS_1, ord, owA0, owF0, owF1, owA1, owF2, owA2, owF3, owA3, ywo, gfs11, pfs11, yrd, ywr, b176, dec_S, Nat.reduceAdd]
