/-! people and floor: reads -/
theorem it_run {σ ρ : Type} (E : Nat → σ → ρ) (f : Nat → σ → σ) (n : Nat) (s : σ) (hb : ∀ i s, i < n → E i s = E (i + 1) (f i s)) : E 0 s = E n (it f n s) :=
  (it_for E f (fun _ _ => True) n (fun i s hi _ => ⟨hb i s hi, trivial⟩) s trivial n (Nat.le_refl n)).1
/-- how many of the first n -/
def cnt (P : Nat → Bool) (n : Nat) : Nat := it (fun k s => s + if P k then 1 else 0) n 0
theorem cnt_0 (P : Nat → Bool) : cnt P 0 = 0 := rfl
theorem cnt_s (P : Nat → Bool) (n : Nat) : cnt P (n + 1) = cnt P n + if P n then 1 else 0 := rfl
theorem cnt_le (P : Nat → Bool) (n : Nat) : cnt P n ≤ n := by
  induction n with
  | zero => exact Nat.le_refl _
  | succ n ih => rw [cnt_s]; split <;> omega
theorem cnt_congr {P Q : Nat → Bool} {n : Nat} (h : ∀ k, k < n → P k = Q k) : cnt P n = cnt Q n := by
  induction n with
  | zero => rfl
  | succ n ih => rw [cnt_s, cnt_s, ih (fun k hk => h k (by omega)), h n (by omega)]
/-- People.othersAt -/
theorem m49 (M : z_M) (c : Nat) (V : z_V) (J : Nat) (hJ : J ≤ 20) (h : V.1 9 = nI J) (x y : Int32) : z_cl 49 [.ref (c + 6), .int x, .int y] (cS M c V) = some (some (.int (nI (cnt (fun k => decide (V.2.2.1 3 k = x ∧ ¬ nI k = y)) J))), cS M c V) := by
  rw [e49]
  simp (disch := first | omega | (simp only [sgets, reduceIte, Nat.reduceEqDiff]; done) | omega) only [cS_1, crd, z_pv_some, z_wv_some, z_cv_v, z_cv_n, cwr, sgets, rc_O, ia_n, fa_n, is_n, fs_n, ↓mI_eq, lits, nI_add, nLe, nLt, nE, mI_ne, mI_ne', mI_lt, mI_le, mI_nlt, mI_nle, ne_eq, mI_addC, pk_sub, pk_mul, pk_div, Nat.reduceEqDiff, Nat.reduceAdd, Nat.reduceMul, Nat.reduceSub, reduceIte, not_true_eq_false, not_false_eq_true, true_or, or_true, if_true, if_false, and_self, and_true, true_and, and_false, false_and, or_self, or_false, false_or, decide_true, decide_false, Bool.false_eq_true, Bool.true_eq_false, bI_t, bI_f, b49]
  have hl := it_run (fun k n => z_ex 49 M.1 5 [some (.ref (c + 6)), some (.int x), some (.int y), some (.int (nI n)), some (.int (nI k))] [] (cS M c V)) (fun k s => s + if decide (V.2.2.1 3 k = x ∧ ¬ nI k = y) = true then 1 else 0) J 0 (by
    intro k n hk
    have hk2 : ¬ J ≤ k := by omega
    rw [q49_5]
    simp (disch := first | omega | (simp only [sgets, reduceIte, Nat.reduceEqDiff, h, hk2]; done) | omega) only [cS_1, crd, z_pv_some, z_wv_some, z_cv_v, z_cv_n, cwr, sgets, rc_O, ia_n, fa_n, is_n, fs_n, ↓mI_eq, lits, nI_add, nLe, nLt, nE, mI_ne, mI_ne', mI_lt, mI_le, mI_nlt, mI_nle, ne_eq, mI_addC, pk_sub, pk_mul, pk_div, Nat.reduceEqDiff, Nat.reduceAdd, Nat.reduceMul, Nat.reduceSub, reduceIte, not_true_eq_false, not_false_eq_true, true_or, or_true, if_true, if_false, and_self, and_true, true_and, and_false, false_and, or_self, or_false, false_or, decide_true, decide_false, Bool.false_eq_true, Bool.true_eq_false, bI_t, bI_f, b49, gfs6, h, hk2]
    by_cases h1 : V.2.2.1 3 k = x <;> by_cases h2 : nI k = y <;> simp [h1, h2])
  refine hl.trans ?_
  rw [q49_5]
  simp (disch := first | omega | (simp only [sgets, reduceIte, Nat.reduceEqDiff, h]; done) | omega) only [cS_1, crd, z_pv_some, z_wv_some, z_cv_v, z_cv_n, cwr, sgets, rc_O, ia_n, fa_n, is_n, fs_n, ↓mI_eq, lits, nI_add, nLe, nLt, nE, mI_ne, mI_ne', mI_lt, mI_le, mI_nlt, mI_nle, ne_eq, mI_addC, pk_sub, pk_mul, pk_div, Nat.reduceEqDiff, Nat.reduceAdd, Nat.reduceMul, Nat.reduceSub, reduceIte, not_true_eq_false, not_false_eq_true, true_or, or_true, if_true, if_false, and_self, and_true, true_and, and_false, false_and, or_self, or_false, false_or, decide_true, decide_false, Bool.false_eq_true, Bool.true_eq_false, bI_t, bI_f, b49, gfs6, Nat.le_refl, h]
  rfl
/-- People.isPresent -/
def here (V : z_V) (x : Int32) : Bool := decide (0 ≤ x ∧ x < V.1 9 ∧ ¬ V.2.2.1 3 x.toNatClampNeg = mI)
theorem m51 (M : z_M) (c : Nat) (V : z_V) (J : Nat) (hJ : J ≤ 20) (h : V.1 9 = nI J) (x : Int32) : z_cl 51 [.ref (c + 6), .int x] (cS M c V) = some (some (.int (bI (here V x))), cS M c V) := by
  rw [e51]
  unfold here
  by_cases h1 : x < 0
  · have h2 : ¬ 0 ≤ x := Int32.not_le.mpr h1
    simp only [b51, h1, if_true, h2, false_and, decide_false, bI_f]
    rfl
  · have h2 : 0 ≤ x := Int32.not_lt.mp h1
    by_cases h3 : V.1 9 ≤ x
    · have h4 : ¬ x < V.1 9 := Int32.not_lt.mpr h3
      simp only [b51, crd, gfs6, z_pv_some, h1, if_true, if_false, h3, h4, false_and, and_false, decide_false, bI_f]
      rfl
    · have h4 : x < V.1 9 := Int32.not_le.mp h3
      obtain ⟨k, hk, rfl⟩ := nI_of h1
      rw [h, nLt (by omega) (by omega)] at h4
      have h5 : ¬ J ≤ k := by omega
      simp (disch := first | omega | (simp only [sgets, reduceIte, Nat.reduceEqDiff, h, h5, h4]; done) | omega) only [cS_1, crd, z_pv_some, z_wv_some, z_cv_v, z_cv_n, cwr, sgets, rc_O, ia_n, fa_n, is_n, fs_n, ↓mI_eq, lits, nI_add, nLe, nLt, nE, mI_ne, mI_ne', mI_lt, mI_le, mI_nlt, mI_nle, ne_eq, mI_addC, pk_sub, pk_mul, pk_div, Nat.reduceEqDiff, Nat.reduceAdd, Nat.reduceMul, Nat.reduceSub, reduceIte, not_true_eq_false, not_false_eq_true, true_or, or_true, if_true, if_false, and_self, and_true, true_and, and_false, false_and, or_self, or_false, false_or, decide_true, decide_false, Bool.false_eq_true, Bool.true_eq_false, bI_t, bI_f, b51, gfs6, nI_clamp, Nat.zero_le, true_and, h, h5, h4]
      by_cases h6 : V.2.2.1 3 k = mI <;> simp [h6, bI_t, bI_f] <;> rfl
/-- People.speakers -/
theorem m54 (M : z_M) (c : Nat) (V : z_V) (J : Nat) (hJ : J ≤ 20) (h : V.1 9 = nI J) : z_cl 54 [.ref (c + 6)] (cS M c V) = some (some (.int (nI (cnt (fun k => decide (¬ V.2.2.1 9 k = mI)) J))), cS M c V) := by
  rw [e54]
  simp (disch := first | omega | (simp only [sgets, reduceIte, Nat.reduceEqDiff]; done) | omega) only [cS_1, crd, z_pv_some, z_wv_some, z_cv_v, z_cv_n, cwr, sgets, rc_O, ia_n, fa_n, is_n, fs_n, ↓mI_eq, lits, nI_add, nLe, nLt, nE, mI_ne, mI_ne', mI_lt, mI_le, mI_nlt, mI_nle, ne_eq, mI_addC, pk_sub, pk_mul, pk_div, Nat.reduceEqDiff, Nat.reduceAdd, Nat.reduceMul, Nat.reduceSub, reduceIte, not_true_eq_false, not_false_eq_true, true_or, or_true, if_true, if_false, and_self, and_true, true_and, and_false, false_and, or_self, or_false, false_or, decide_true, decide_false, Bool.false_eq_true, Bool.true_eq_false, bI_t, bI_f, b54]
  have hl := it_run (fun k n => z_ex 54 M.1 4 [some (.ref (c + 6)), some (.int (nI n)), some (.int (nI k))] [] (cS M c V)) (fun k s => s + if decide (¬ V.2.2.1 9 k = mI) = true then 1 else 0) J 0 (by
    intro k n hk
    have hk2 : ¬ J ≤ k := by omega
    rw [q54_4]
    simp (disch := first | omega | (simp only [sgets, reduceIte, Nat.reduceEqDiff, h, hk2]; done) | omega) only [cS_1, crd, z_pv_some, z_wv_some, z_cv_v, z_cv_n, cwr, sgets, rc_O, ia_n, fa_n, is_n, fs_n, ↓mI_eq, lits, nI_add, nLe, nLt, nE, mI_ne, mI_ne', mI_lt, mI_le, mI_nlt, mI_nle, ne_eq, mI_addC, pk_sub, pk_mul, pk_div, Nat.reduceEqDiff, Nat.reduceAdd, Nat.reduceMul, Nat.reduceSub, reduceIte, not_true_eq_false, not_false_eq_true, true_or, or_true, if_true, if_false, and_self, and_true, true_and, and_false, false_and, or_self, or_false, false_or, decide_true, decide_false, Bool.false_eq_true, Bool.true_eq_false, bI_t, bI_f, b54, gfs6, h, hk2]
    by_cases h1 : V.2.2.1 9 k = mI <;> simp [h1])
  refine hl.trans ?_
  rw [q54_4]
  simp (disch := first | omega | (simp only [sgets, reduceIte, Nat.reduceEqDiff, h]; done) | omega) only [cS_1, crd, z_pv_some, z_wv_some, z_cv_v, z_cv_n, cwr, sgets, rc_O, ia_n, fa_n, is_n, fs_n, ↓mI_eq, lits, nI_add, nLe, nLt, nE, mI_ne, mI_ne', mI_lt, mI_le, mI_nlt, mI_nle, ne_eq, mI_addC, pk_sub, pk_mul, pk_div, Nat.reduceEqDiff, Nat.reduceAdd, Nat.reduceMul, Nat.reduceSub, reduceIte, not_true_eq_false, not_false_eq_true, true_or, or_true, if_true, if_false, and_self, and_true, true_and, and_false, false_and, or_self, or_false, false_or, decide_true, decide_false, Bool.false_eq_true, Bool.true_eq_false, bI_t, bI_f, b54, gfs6, Nat.le_refl, h]
  rfl
/-- People.add -/
theorem m50 (M : z_M) (c : Nat) (V : z_V) (J : Nat) (hJ : J < 20) (h : V.1 9 = nI J) (x y : Int32) : z_cl 50 [.ref (c + 6), .int x, .int y] (cS M c V) = some (some (.int (nI J)), cS M c (sS (sS (sA (sA V 3 (upd (V.2.2.1 3) J x)) 4 (upd (V.2.2.1 4) J y)) 9 (nI (J + 1))) 10 (V.1 10 + nI 1))) := by
  rw [e50]
  simp (disch := first | omega | (simp only [sgets, reduceIte, Nat.reduceEqDiff, h]; done) | omega) only [cS_1, crd, z_pv_some, z_wv_some, z_cv_v, z_cv_n, cwr, sgets, rc_O, ia_n, fa_n, is_n, fs_n, ↓mI_eq, lits, nI_add, nLe, nLt, nE, mI_ne, mI_ne', mI_lt, mI_le, mI_nlt, mI_nle, ne_eq, mI_addC, pk_sub, pk_mul, pk_div, Nat.reduceEqDiff, Nat.reduceAdd, Nat.reduceMul, Nat.reduceSub, reduceIte, not_true_eq_false, not_false_eq_true, true_or, or_true, if_true, if_false, and_self, and_true, true_and, and_false, false_and, or_self, or_false, false_or, decide_true, decide_false, Bool.false_eq_true, Bool.true_eq_false, bI_t, bI_f, b50, gfs6, pfs6, h]
/-- Floor.placeInQueue -/
def qAt (V : z_V) (x : Int32) : Nat → Int32
  | 0 => mI
  | n + 1 => if qAt V x n = mI then (if V.2.2.1 11 n = x then nI n else mI) else qAt V x n
theorem m22 (M : z_M) (c : Nat) (V : z_V) (W : Nat) (hW : W ≤ 20) (h : V.1 11 = nI W) (x : Int32) : z_cl 22 [.ref (c + 17), .int x] (cS M c V) = some (some (.int (qAt V x W)), cS M c V) := by
  rw [e22]
  simp (disch := first | omega | (simp only [sgets, reduceIte, Nat.reduceEqDiff]; done) | omega) only [cS_1, crd, z_pv_some, z_wv_some, z_cv_v, z_cv_n, cwr, sgets, rc_O, ia_n, fa_n, is_n, fs_n, ↓mI_eq, lits, nI_add, nLe, nLt, nE, mI_ne, mI_ne', mI_lt, mI_le, mI_nlt, mI_nle, ne_eq, mI_addC, pk_sub, pk_mul, pk_div, Nat.reduceEqDiff, Nat.reduceAdd, Nat.reduceMul, Nat.reduceSub, reduceIte, not_true_eq_false, not_false_eq_true, true_or, or_true, if_true, if_false, and_self, and_true, true_and, and_false, false_and, or_self, or_false, false_or, decide_true, decide_false, Bool.false_eq_true, Bool.true_eq_false, bI_t, bI_f, b22]
  have hl : ∀ k, k ≤ W → z_ex 22 M.1 2 [some (.ref (c + 17)), some (.int x), some (.int (nI 0))] [] (cS M c V) = if qAt V x k = mI then z_ex 22 M.1 2 [some (.ref (c + 17)), some (.int x), some (.int (nI k))] [] (cS M c V) else some (some (.int (qAt V x k)), cS M c V) := by
    intro k
    induction k with
    | zero => intro _; simp only [qAt, if_true]
    | succ k ih =>
      intro hk
      rw [ih (by omega)]
      have hk2 : ¬ W ≤ k := by omega
      by_cases h0 : qAt V x k = mI
      · rw [if_pos h0, q22_2]
        simp (disch := first | omega | (simp only [sgets, reduceIte, Nat.reduceEqDiff, h, hk2]; done) | omega) only [cS_1, crd, z_pv_some, z_wv_some, z_cv_v, z_cv_n, cwr, sgets, rc_O, ia_n, fa_n, is_n, fs_n, ↓mI_eq, lits, nI_add, nLe, nLt, nE, mI_ne, mI_ne', mI_lt, mI_le, mI_nlt, mI_nle, ne_eq, mI_addC, pk_sub, pk_mul, pk_div, Nat.reduceEqDiff, Nat.reduceAdd, Nat.reduceMul, Nat.reduceSub, reduceIte, not_true_eq_false, not_false_eq_true, true_or, or_true, if_true, if_false, and_self, and_true, true_and, and_false, false_and, or_self, or_false, false_or, decide_true, decide_false, Bool.false_eq_true, Bool.true_eq_false, bI_t, bI_f, b22, gfs2, h, hk2]
        by_cases h1 : V.2.2.1 11 k = x
        · simp only [qAt, h0, h1, if_true]
          simp (disch := first | omega | (simp only [sgets, reduceIte, Nat.reduceEqDiff]; done) | omega) only [cS_1, crd, z_pv_some, z_wv_some, z_cv_v, z_cv_n, cwr, sgets, rc_O, ia_n, fa_n, is_n, fs_n, ↓mI_eq, lits, nI_add, nLe, nLt, nE, mI_ne, mI_ne', mI_lt, mI_le, mI_nlt, mI_nle, ne_eq, mI_addC, pk_sub, pk_mul, pk_div, Nat.reduceEqDiff, Nat.reduceAdd, Nat.reduceMul, Nat.reduceSub, reduceIte, not_true_eq_false, not_false_eq_true, true_or, or_true, if_true, if_false, and_self, and_true, true_and, and_false, false_and, or_self, or_false, false_or, decide_true, decide_false, Bool.false_eq_true, Bool.true_eq_false, bI_t, bI_f]
        · simp only [qAt, h0, h1, if_true, if_false]
          simp
      · rw [if_neg h0]
        simp only [qAt, h0, if_false]
  rw [hl W (Nat.le_refl W)]
  by_cases h0 : qAt V x W = mI
  · rw [if_pos h0, q22_2, h0]
    simp (disch := first | omega | (simp only [sgets, reduceIte, Nat.reduceEqDiff, h]; done) | omega) only [cS_1, crd, z_pv_some, z_wv_some, z_cv_v, z_cv_n, cwr, sgets, rc_O, ia_n, fa_n, is_n, fs_n, ↓mI_eq, lits, nI_add, nLe, nLt, nE, mI_ne, mI_ne', mI_lt, mI_le, mI_nlt, mI_nle, ne_eq, mI_addC, pk_sub, pk_mul, pk_div, Nat.reduceEqDiff, Nat.reduceAdd, Nat.reduceMul, Nat.reduceSub, reduceIte, not_true_eq_false, not_false_eq_true, true_or, or_true, if_true, if_false, and_self, and_true, true_and, and_false, false_and, or_self, or_false, false_or, decide_true, decide_false, Bool.false_eq_true, Bool.true_eq_false, bI_t, bI_f, b22, gfs2, Nat.le_refl, h]
  · rw [if_neg h0]
/-- Floor.standing -/
def stands (V : z_V) (p W : Nat) : Int32 := if V.2.2.1 13 p = nI 1 then nI 2 else if qAt V (nI p) W = mI then nI 0 else nI 1
theorem m23 (M : z_M) (c : Nat) (V : z_V) (W : Nat) (hW : W ≤ 20) (h : V.1 11 = nI W) (p : Nat) (hp : p < 20) : z_cl 23 [.ref (c + 17), .int (nI p)] (cS M c V) = some (some (.int (stands V p W)), cS M c V) := by
  rw [e23]
  unfold stands
  simp (disch := first | omega | (simp only [sgets, reduceIte, Nat.reduceEqDiff]; done) | omega) only [cS_1, crd, z_pv_some, z_wv_some, z_cv_v, z_cv_n, cwr, sgets, rc_O, ia_n, fa_n, is_n, fs_n, ↓mI_eq, lits, nI_add, nLe, nLt, nE, mI_ne, mI_ne', mI_lt, mI_le, mI_nlt, mI_nle, ne_eq, mI_addC, pk_sub, pk_mul, pk_div, Nat.reduceEqDiff, Nat.reduceAdd, Nat.reduceMul, Nat.reduceSub, reduceIte, not_true_eq_false, not_false_eq_true, true_or, or_true, if_true, if_false, and_self, and_true, true_and, and_false, false_and, or_self, or_false, false_or, decide_true, decide_false, Bool.false_eq_true, Bool.true_eq_false, bI_t, bI_f, b23, gfs2, m22 M c V W hW h]
  by_cases h1 : V.2.2.1 13 p = nI 1 <;> by_cases h2 : qAt V (nI p) W = mI <;> simp [h1, h2]
/-- Floor.holders -/
def sumI (f : Nat → Int32) (n : Nat) : Int32 := it (fun k s => s + f k) n (nI 0)
theorem m25 (M : z_M) (c : Nat) (V : z_V) : z_cl 25 [.ref (c + 17)] (cS M c V) = some (some (.int (sumI (V.2.2.1 13) 20)), cS M c V) := by
  rw [e25]
  simp (disch := first | omega | (simp only [sgets, reduceIte, Nat.reduceEqDiff]; done) | omega) only [cS_1, crd, z_pv_some, z_wv_some, z_cv_v, z_cv_n, cwr, sgets, rc_O, ia_n, fa_n, is_n, fs_n, ↓mI_eq, lits, nI_add, nLe, nLt, nE, mI_ne, mI_ne', mI_lt, mI_le, mI_nlt, mI_nle, ne_eq, mI_addC, pk_sub, pk_mul, pk_div, Nat.reduceEqDiff, Nat.reduceAdd, Nat.reduceMul, Nat.reduceSub, reduceIte, not_true_eq_false, not_false_eq_true, true_or, or_true, if_true, if_false, and_self, and_true, true_and, and_false, false_and, or_self, or_false, false_or, decide_true, decide_false, Bool.false_eq_true, Bool.true_eq_false, bI_t, bI_f, b25]
  have hl := it_run (fun k s => z_ex 25 M.1 4 [some (.ref (c + 17)), some (.int s), some (.int (nI k))] [] (cS M c V)) (fun k s => s + V.2.2.1 13 k) 20 (nI 0) (by
    intro k n hk
    have hk2 : ¬ 20 ≤ k := by omega
    rw [q25_4]
    simp (disch := first | omega | (simp only [sgets, reduceIte, Nat.reduceEqDiff, hk2]; done) | omega) only [cS_1, crd, z_pv_some, z_wv_some, z_cv_v, z_cv_n, cwr, sgets, rc_O, ia_n, fa_n, is_n, fs_n, ↓mI_eq, lits, nI_add, nLe, nLt, nE, mI_ne, mI_ne', mI_lt, mI_le, mI_nlt, mI_nle, ne_eq, mI_addC, pk_sub, pk_mul, pk_div, Nat.reduceEqDiff, Nat.reduceAdd, Nat.reduceMul, Nat.reduceSub, reduceIte, not_true_eq_false, not_false_eq_true, true_or, or_true, if_true, if_false, and_self, and_true, true_and, and_false, false_and, or_self, or_false, false_or, decide_true, decide_false, Bool.false_eq_true, Bool.true_eq_false, bI_t, bI_f, b25, gfs2, hk2])
  refine hl.trans ?_
  rw [q25_4]
  simp (disch := first | omega | (simp only [sgets, reduceIte, Nat.reduceEqDiff]; done) | omega) only [cS_1, crd, z_pv_some, z_wv_some, z_cv_v, z_cv_n, cwr, sgets, rc_O, ia_n, fa_n, is_n, fs_n, ↓mI_eq, lits, nI_add, nLe, nLt, nE, mI_ne, mI_ne', mI_lt, mI_le, mI_nlt, mI_nle, ne_eq, mI_addC, pk_sub, pk_mul, pk_div, Nat.reduceEqDiff, Nat.reduceAdd, Nat.reduceMul, Nat.reduceSub, reduceIte, not_true_eq_false, not_false_eq_true, true_or, or_true, if_true, if_false, and_self, and_true, true_and, and_false, false_and, or_self, or_false, false_or, decide_true, decide_false, Bool.false_eq_true, Bool.true_eq_false, bI_t, bI_f, b25, gfs2, Nat.le_refl]
  rfl
