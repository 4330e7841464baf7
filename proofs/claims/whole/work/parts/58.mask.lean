/-! the model's questions: who is here, how many -/
theorem Rl_12 {c J S Hy B : Nat} {V Y : z_V} (h : Rl c J S Hy B V Y) : Y.1 12 = nI J := by
  obtain ⟨⟨⟨hJ, h9⟩, -⟩, hf, hSB, s, -⟩ := h
  rw [s.2.2.2.2.2.2.2.2.2.2]
  exact h9
theorem Rl_J {c J S Hy B : Nat} {V Y : z_V} (h : Rl c J S Hy B V Y) : J ≤ 20 ∧ V.1 9 = nI J := h.1.1
theorem m120 (M : z_M) (o : Nat) (w : Int64) {c J S Hy B : Nat} {V Y : z_V} (h : Rl c J S Hy B V Y) (x : Int32) : z_cl 120 [.ref o, .int x] (yS M o Y w) = some (some (.int (bI (here V x))), yS M o Y w) := by
  rw [e120]
  have e12 := Rl_12 h
  obtain ⟨hJ, h9⟩ := Rl_J h
  obtain ⟨-, -, -, -, -, hh, -⟩ := h
  by_cases hx : 0 ≤ x ∧ x < nI J
  · obtain ⟨k, hk, rfl⟩ := has_k (by omega) hx
    have h110 := m110 (nI k) (nI 0) (nI (J - 1)) (yS M o Y w)
    have hc : decide (nI 0 ≤ nI k ∧ nI k ≤ nI (J - 1)) = true := by
      rw [decide_eq_true_eq, nLe (by omega) (by omega), nLe (by omega) (by omega)]
      omega
    rw [hc] at h110
    have h116 := m116 M o Y w k 0 (by omega) (by omega)
    by_cases hp : V.2.2.1 3 k = mI
    · have e1 := (hh.1 k hk hp).1
      have e2 : here V (nI k) = false := by unfold here; rw [nI_clamp (by omega)]; simp [hp]
      rw [e2]
      simp (disch := first | omega | (simp only [sgets, reduceIte, Nat.reduceEqDiff, e12, e1, dec_S, Nat.reduceAdd]; done) | omega) only [cS_1, crd, z_pv_some, z_wv_some, z_cv_v, z_cv_n, cwr, sgets, rc_O, ia_n, fa_n, is_n, fs_n, ↓mI_eq, lits, nI_add, nLe, nLt, nE, mI_ne, mI_ne', mI_lt, mI_le, mI_nlt, mI_nle, ne_eq, mI_addC, pk_sub, pk_mul, pk_div, Nat.reduceEqDiff, Nat.reduceAdd, Nat.reduceMul, Nat.reduceSub, reduceIte, not_true_eq_false, not_false_eq_true, true_or, or_true, if_true, if_false, and_self, and_true, true_and, and_false, false_and, or_self, or_false, false_or, decide_true, decide_false, Bool.false_eq_true, Bool.true_eq_false, bI_t, bI_f, oS_1, ord, owA0, owF0, owF1, owA1, owF2, owA2, owF3, owA3, ywo, gfs11, pfs11, yrd, ywr, b120, h110, h116, bI_t, e12, e1, dec_S, Nat.reduceAdd]
    · have e1 := (hh.2.1 k hk hp).1
      have e2 : here V (nI k) = true := by
        unfold here
        rw [decide_eq_true_eq, nI_clamp (by omega), h9]
        exact ⟨hx.1, hx.2, hp⟩
      rw [e2]
      simp (disch := first | omega | (simp only [sgets, reduceIte, Nat.reduceEqDiff, e12, e1, dec_S, Nat.reduceAdd]; done) | omega) only [cS_1, crd, z_pv_some, z_wv_some, z_cv_v, z_cv_n, cwr, sgets, rc_O, ia_n, fa_n, is_n, fs_n, ↓mI_eq, lits, nI_add, nLe, nLt, nE, mI_ne, mI_ne', mI_lt, mI_le, mI_nlt, mI_nle, ne_eq, mI_addC, pk_sub, pk_mul, pk_div, Nat.reduceEqDiff, Nat.reduceAdd, Nat.reduceMul, Nat.reduceSub, reduceIte, not_true_eq_false, not_false_eq_true, true_or, or_true, if_true, if_false, and_self, and_true, true_and, and_false, false_and, or_self, or_false, false_or, decide_true, decide_false, Bool.false_eq_true, Bool.true_eq_false, bI_t, bI_f, oS_1, ord, owA0, owF0, owF1, owA1, owF2, owA2, owF3, owA3, ywo, gfs11, pfs11, yrd, ywr, b120, h110, h116, bI_t, e12, e1, dec_S, Nat.reduceAdd]
  · have e2 : here V x = false := by
      unfold here
      rw [h9, decide_eq_false_iff_not]
      intro h3
      exact hx ⟨h3.1, h3.2.1⟩
    rw [e2]
    by_cases hJ0 : J = 0
    · subst hJ0
      have h110 := m110 x (nI 0) (nI 0 - nI 1) (yS M o Y w)
      have hc : decide (nI 0 ≤ x ∧ x ≤ nI 0 - nI 1) = false := by
        rw [decide_eq_false_iff_not]
        intro h3
        have h4 := Int32.le_trans h3.1 h3.2
        exact absurd h4 (by decide)
      rw [hc] at h110
      simp (disch := first | omega | (simp only [sgets, reduceIte, Nat.reduceEqDiff, e12, dec_S, Nat.reduceAdd]; done) | omega) only [cS_1, crd, z_pv_some, z_wv_some, z_cv_v, z_cv_n, cwr, sgets, rc_O, ia_n, fa_n, is_n, fs_n, ↓mI_eq, lits, nI_add, nLe, nLt, nE, mI_ne, mI_ne', mI_lt, mI_le, mI_nlt, mI_nle, ne_eq, mI_addC, pk_sub, pk_mul, pk_div, Nat.reduceEqDiff, Nat.reduceAdd, Nat.reduceMul, Nat.reduceSub, reduceIte, not_true_eq_false, not_false_eq_true, true_or, or_true, if_true, if_false, and_self, and_true, true_and, and_false, false_and, or_self, or_false, false_or, decide_true, decide_false, Bool.false_eq_true, Bool.true_eq_false, bI_t, bI_f, oS_1, ord, owA0, owF0, owF1, owA1, owF2, owA2, owF3, owA3, ywo, gfs11, pfs11, yrd, ywr, b120, h110, bI_f, e12, dec_S, Nat.reduceAdd]
    · have h110 := m110 x (nI 0) (nI (J - 1)) (yS M o Y w)
      have hc : decide (nI 0 ≤ x ∧ x ≤ nI (J - 1)) = false := by
        rw [decide_eq_false_iff_not]
        intro h3
        obtain ⟨k, _, hk, rfl⟩ := in_nI (by omega) (by omega) h3
        exact hx ⟨h3.1, by rw [nLt (by omega) (by omega)]; omega⟩
      rw [hc] at h110
      simp (disch := first | omega | (simp only [sgets, reduceIte, Nat.reduceEqDiff, e12, dec_S, Nat.reduceAdd]; done) | omega) only [cS_1, crd, z_pv_some, z_wv_some, z_cv_v, z_cv_n, cwr, sgets, rc_O, ia_n, fa_n, is_n, fs_n, ↓mI_eq, lits, nI_add, nLe, nLt, nE, mI_ne, mI_ne', mI_lt, mI_le, mI_nlt, mI_nle, ne_eq, mI_addC, pk_sub, pk_mul, pk_div, Nat.reduceEqDiff, Nat.reduceAdd, Nat.reduceMul, Nat.reduceSub, reduceIte, not_true_eq_false, not_false_eq_true, true_or, or_true, if_true, if_false, and_self, and_true, true_and, and_false, false_and, or_self, or_false, false_or, decide_true, decide_false, Bool.false_eq_true, Bool.true_eq_false, bI_t, bI_f, oS_1, ord, owA0, owF0, owF1, owA1, owF2, owA2, owF3, owA3, ywo, gfs11, pfs11, yrd, ywr, b120, h110, bI_f, e12, dec_S, Nat.reduceAdd]
/-- counts -/
theorem m115 (M : z_M) (o : Nat) (w : Int64) (Y : z_V) (J : Nat) (hJ : J ≤ 20) (e12 : Y.1 12 = nI J) (j : Nat) (hj : j < 13) (x : Int32) : z_cl 115 [.ref o, .int (nI j), .int x] (yS M o Y w) = some (some (.int (nI (cnt (fun k => decide (Y.2.2.1 4 k = nI 1 ∧ Y.2.2.1 (4 + j) k = x)) J))), yS M o Y w) := by
  rw [e115]
  simp (disch := first | omega | (simp only [sgets, reduceIte, Nat.reduceEqDiff, dec_S, Nat.reduceAdd]; done) | omega) only [cS_1, crd, z_pv_some, z_wv_some, z_cv_v, z_cv_n, cwr, sgets, rc_O, ia_n, fa_n, is_n, fs_n, ↓mI_eq, lits, nI_add, nLe, nLt, nE, mI_ne, mI_ne', mI_lt, mI_le, mI_nlt, mI_nle, ne_eq, mI_addC, pk_sub, pk_mul, pk_div, Nat.reduceEqDiff, Nat.reduceAdd, Nat.reduceMul, Nat.reduceSub, reduceIte, not_true_eq_false, not_false_eq_true, true_or, or_true, if_true, if_false, and_self, and_true, true_and, and_false, false_and, or_self, or_false, false_or, decide_true, decide_false, Bool.false_eq_true, Bool.true_eq_false, bI_t, bI_f, oS_1, ord, owA0, owF0, owF1, owA1, owF2, owA2, owF3, owA3, ywo, gfs11, pfs11, yrd, ywr, b115, dec_S, Nat.reduceAdd]
  have hl := it_run (fun k n => z_ex 115 M.1 5 [some (.ref o), some (.int (nI j)), some (.int x), some (.int (nI n)), some (.int (nI k))] [] (yS M o Y w)) (fun k s => s + if decide (Y.2.2.1 4 k = nI 1 ∧ Y.2.2.1 (4 + j) k = x) = true then 1 else 0) J 0 (by
    intro k n hk
    have hk2 : ¬ J ≤ k := by omega
    have h1 := m116 M o Y w k 0 (by omega) (by omega)
    have h2 := m116 M o Y w k j (by omega) (by omega)
    rw [q115_5]
    simp (disch := first | omega | (simp only [sgets, reduceIte, Nat.reduceEqDiff, e12, hk2, dec_S, Nat.reduceAdd]; done) | omega) only [cS_1, crd, z_pv_some, z_wv_some, z_cv_v, z_cv_n, cwr, sgets, rc_O, ia_n, fa_n, is_n, fs_n, ↓mI_eq, lits, nI_add, nLe, nLt, nE, mI_ne, mI_ne', mI_lt, mI_le, mI_nlt, mI_nle, ne_eq, mI_addC, pk_sub, pk_mul, pk_div, Nat.reduceEqDiff, Nat.reduceAdd, Nat.reduceMul, Nat.reduceSub, reduceIte, not_true_eq_false, not_false_eq_true, true_or, or_true, if_true, if_false, and_self, and_true, true_and, and_false, false_and, or_self, or_false, false_or, decide_true, decide_false, Bool.false_eq_true, Bool.true_eq_false, bI_t, bI_f, oS_1, ord, owA0, owF0, owF1, owA1, owF2, owA2, owF3, owA3, ywo, gfs11, pfs11, yrd, ywr, b115, h1, h2, e12, hk2, dec_S, Nat.reduceAdd]
    by_cases c1 : Y.2.2.1 4 k = nI 1 <;> by_cases c2 : Y.2.2.1 (4 + j) k = x <;> simp [c1, c2])
  refine hl.trans ?_
  rw [q115_5]
  simp (disch := first | omega | (simp only [sgets, reduceIte, Nat.reduceEqDiff, e12, dec_S, Nat.reduceAdd]; done) | omega) only [cS_1, crd, z_pv_some, z_wv_some, z_cv_v, z_cv_n, cwr, sgets, rc_O, ia_n, fa_n, is_n, fs_n, ↓mI_eq, lits, nI_add, nLe, nLt, nE, mI_ne, mI_ne', mI_lt, mI_le, mI_nlt, mI_nle, ne_eq, mI_addC, pk_sub, pk_mul, pk_div, Nat.reduceEqDiff, Nat.reduceAdd, Nat.reduceMul, Nat.reduceSub, reduceIte, not_true_eq_false, not_false_eq_true, true_or, or_true, if_true, if_false, and_self, and_true, true_and, and_false, false_and, or_self, or_false, false_or, decide_true, decide_false, Bool.false_eq_true, Bool.true_eq_false, bI_t, bI_f, oS_1, ord, owA0, owF0, owF1, owA1, owF2, owA2, owF3, owA3, ywo, gfs11, pfs11, yrd, ywr, b115, Nat.le_refl, e12, dec_S, Nat.reduceAdd]
  rfl
theorem m128y (M : z_M) (o : Nat) (w : Int64) (Y : z_V) (J : Nat) (hJ : J ≤ 20) (e12 : Y.1 12 = nI J) : z_cl 128 [.ref o] (yS M o Y w) = some (some (.int (nI (cnt (fun k => decide (Y.2.2.1 4 k = nI 1 ∧ ¬ Y.2.2.1 14 k = mI)) J))), yS M o Y w) := by
  rw [e128]
  simp (disch := first | omega | (simp only [sgets, reduceIte, Nat.reduceEqDiff, dec_S, Nat.reduceAdd]; done) | omega) only [cS_1, crd, z_pv_some, z_wv_some, z_cv_v, z_cv_n, cwr, sgets, rc_O, ia_n, fa_n, is_n, fs_n, ↓mI_eq, lits, nI_add, nLe, nLt, nE, mI_ne, mI_ne', mI_lt, mI_le, mI_nlt, mI_nle, ne_eq, mI_addC, pk_sub, pk_mul, pk_div, Nat.reduceEqDiff, Nat.reduceAdd, Nat.reduceMul, Nat.reduceSub, reduceIte, not_true_eq_false, not_false_eq_true, true_or, or_true, if_true, if_false, and_self, and_true, true_and, and_false, false_and, or_self, or_false, false_or, decide_true, decide_false, Bool.false_eq_true, Bool.true_eq_false, bI_t, bI_f, oS_1, ord, owA0, owF0, owF1, owA1, owF2, owA2, owF3, owA3, ywo, gfs11, pfs11, yrd, ywr, b128, dec_S, Nat.reduceAdd]
  have hl := it_run (fun k n => z_ex 128 M.1 4 [some (.ref o), some (.int (nI n)), some (.int (nI k))] [] (yS M o Y w)) (fun k s => s + if decide (Y.2.2.1 4 k = nI 1 ∧ ¬ Y.2.2.1 14 k = mI) = true then 1 else 0) J 0 (by
    intro k n hk
    have hk2 : ¬ J ≤ k := by omega
    have h1 := m116 M o Y w k 0 (by omega) (by omega)
    have h2 := m116 M o Y w k 10 (by omega) (by omega)
    rw [q128_4]
    simp (disch := first | omega | (simp only [sgets, reduceIte, Nat.reduceEqDiff, e12, hk2, dec_S, Nat.reduceAdd]; done) | omega) only [cS_1, crd, z_pv_some, z_wv_some, z_cv_v, z_cv_n, cwr, sgets, rc_O, ia_n, fa_n, is_n, fs_n, ↓mI_eq, lits, nI_add, nLe, nLt, nE, mI_ne, mI_ne', mI_lt, mI_le, mI_nlt, mI_nle, ne_eq, mI_addC, pk_sub, pk_mul, pk_div, Nat.reduceEqDiff, Nat.reduceAdd, Nat.reduceMul, Nat.reduceSub, reduceIte, not_true_eq_false, not_false_eq_true, true_or, or_true, if_true, if_false, and_self, and_true, true_and, and_false, false_and, or_self, or_false, false_or, decide_true, decide_false, Bool.false_eq_true, Bool.true_eq_false, bI_t, bI_f, oS_1, ord, owA0, owF0, owF1, owA1, owF2, owA2, owF3, owA3, ywo, gfs11, pfs11, yrd, ywr, b128, h1, h2, e12, hk2, dec_S, Nat.reduceAdd]
    by_cases c1 : Y.2.2.1 4 k = nI 1 <;> by_cases c2 : Y.2.2.1 14 k = mI <;> simp [c1, c2])
  refine hl.trans ?_
  rw [q128_4]
  simp (disch := first | omega | (simp only [sgets, reduceIte, Nat.reduceEqDiff, e12, dec_S, Nat.reduceAdd]; done) | omega) only [cS_1, crd, z_pv_some, z_wv_some, z_cv_v, z_cv_n, cwr, sgets, rc_O, ia_n, fa_n, is_n, fs_n, ↓mI_eq, lits, nI_add, nLe, nLt, nE, mI_ne, mI_ne', mI_lt, mI_le, mI_nlt, mI_nle, ne_eq, mI_addC, pk_sub, pk_mul, pk_div, Nat.reduceEqDiff, Nat.reduceAdd, Nat.reduceMul, Nat.reduceSub, reduceIte, not_true_eq_false, not_false_eq_true, true_or, or_true, if_true, if_false, and_self, and_true, true_and, and_false, false_and, or_self, or_false, false_or, decide_true, decide_false, Bool.false_eq_true, Bool.true_eq_false, bI_t, bI_f, oS_1, ord, owA0, owF0, owF1, owA1, owF2, owA2, owF3, owA3, ywo, gfs11, pfs11, yrd, ywr, b128, Nat.le_refl, e12, dec_S, Nat.reduceAdd]
  rfl
theorem m121 (M : z_M) (o : Nat) (w : Int64) {c J S Hy B : Nat} {V Y : z_V} (h : Rl c J S Hy B V Y) : z_cl 121 [.ref o] (yS M o Y w) = some (some (.int (V.1 10)), yS M o Y w) := by
  rw [e121]
  have e12 := Rl_12 h
  obtain ⟨hJ, h9⟩ := Rl_J h
  obtain ⟨-, -, -, -, -, hh, -⟩ := h
  have h1 := m115 M o w Y J hJ e12 0 (by omega) (nI 1)
  have e : cnt (fun k => decide (Y.2.2.1 4 k = nI 1 ∧ Y.2.2.1 (4 + 0) k = nI 1)) J = cnt (fun k => decide (¬ V.2.2.1 3 k = mI)) J := by
    apply cnt_congr
    intro k hk
    by_cases hp : V.2.2.1 3 k = mI
    · have e1 := (hh.1 k hk hp).1
      simp [hp, e1, nE]
    · have e1 := (hh.2.1 k hk hp).1
      simp [hp, e1]
  rw [e, ← hh.2.2.2.2.1] at h1
  simp (disch := first | omega | (simp only [sgets, reduceIte, Nat.reduceEqDiff, dec_S, Nat.reduceAdd]; done) | omega) only [cS_1, crd, z_pv_some, z_wv_some, z_cv_v, z_cv_n, cwr, sgets, rc_O, ia_n, fa_n, is_n, fs_n, ↓mI_eq, lits, nI_add, nLe, nLt, nE, mI_ne, mI_ne', mI_lt, mI_le, mI_nlt, mI_nle, ne_eq, mI_addC, pk_sub, pk_mul, pk_div, Nat.reduceEqDiff, Nat.reduceAdd, Nat.reduceMul, Nat.reduceSub, reduceIte, not_true_eq_false, not_false_eq_true, true_or, or_true, if_true, if_false, and_self, and_true, true_and, and_false, false_and, or_self, or_false, false_or, decide_true, decide_false, Bool.false_eq_true, Bool.true_eq_false, bI_t, bI_f, oS_1, ord, owA0, owF0, owF1, owA1, owF2, owA2, owF3, owA3, ywo, gfs11, pfs11, yrd, ywr, b121, h1, dec_S, Nat.reduceAdd]
/-! the queue -/
def inQ (q : Nat → Nat) : Nat → Nat → Bool
  | 0, _ => false
  | k + 1, p => inQ q k p || decide (q k = p)
theorem inQ_iff (q : Nat → Nat) (k p : Nat) : inQ q k p = true ↔ ∃ i, i < k ∧ q i = p := by
  induction k with
  | zero => simp [inQ]
  | succ k ih =>
    rw [inQ, Bool.or_eq_true, ih, decide_eq_true_eq]
    constructor
    · rintro (⟨i, h1, h2⟩ | h)
      · exact ⟨i, by omega, h2⟩
      · exact ⟨k, by omega, h⟩
    · rintro ⟨i, h1, h2⟩
      by_cases c : i = k
      · subst c; exact Or.inr h2
      · exact Or.inl ⟨i, by omega, h2⟩
theorem cnt_ins {P : Nat → Bool} {x : Nat} (J : Nat) (hP : P x = false) : cnt (fun p => P p || decide (x = p)) J = cnt P J + if x < J then 1 else 0 := by
  induction J with
  | zero => rfl
  | succ J ih =>
    rw [cnt_s, cnt_s, ih]
    by_cases c : x = J
    · subst c
      rw [if_neg (Nat.lt_irrefl x), if_pos (Nat.lt_succ_self x), hP]
      simp
    · have e : decide (x = J) = false := by simp [c]
      rw [e, Bool.or_false]
      by_cases c2 : x < J
      · rw [if_pos c2, if_pos (show x < J + 1 by omega)]; omega
      · rw [if_neg c2, if_neg (show ¬ x < J + 1 by omega)]; omega
theorem cnt_inQ (q : Nat → Nat) (J k : Nat) (h1 : ∀ i, i < k → q i < J) (h2 : ∀ i j, i < j → j < k → q i ≠ q j) : cnt (inQ q k) J = k := by
  induction k with
  | zero =>
    clear h1 h2
    induction J with
    | zero => rfl
    | succ J ih => rw [cnt_s, ih]; rfl
  | succ k ih =>
    have e : inQ q (k + 1) = fun p => inQ q k p || decide (q k = p) := rfl
    have hP : inQ q k (q k) = false := by
      rw [Bool.eq_false_iff]
      intro h
      obtain ⟨i, h3, h4⟩ := (inQ_iff q k (q k)).mp h
      exact h2 i k h3 (by omega) h4
    rw [e, cnt_ins J hP, ih (fun i hi => h1 i (by omega)) (fun i j a b => h2 i j a (by omega)), if_pos (h1 k (by omega))]
/-- who is asked in the queue: by the model's words -/
theorem rQ_mem {c J S Hy B : Nat} {V Y : z_V} (h : Rl c J S Hy B V Y) {W n : Nat} {q pr ak : Nat → Nat} (w5 : ∀ k, k < W → V.2.2.1 11 k = nI (q k) ∧ q k < J ∧ ¬ V.2.2.1 3 (q k) = mI ∧ V.2.2.1 13 (q k) = nI 0 ∧ Y.2.2.1 14 (q k) = nI (pr (q k)) ∧ pr (q k) < 10 ∧ V.2.2.1 12 (q k) = nI (pr (q k)) ∧ Y.2.2.1 15 (q k) = nI (ak (q k)) ∧ ak (q k) < n) (w7 : ∀ p, p < J → ¬ V.2.2.1 3 p = mI → (∀ k, k < W → q k ≠ p) → Y.2.2.1 14 p = mI) (p : Nat) (hp : p < J) : (Y.2.2.1 4 p = nI 1 ∧ ¬ Y.2.2.1 14 p = mI) ↔ inQ q W p = true := by
  obtain ⟨-, -, -, -, -, hh, -⟩ := h
  rw [inQ_iff]
  constructor
  · rintro ⟨a1, a2⟩
    have hpn : ¬ V.2.2.1 3 p = mI := by
      intro e
      have := (hh.1 p hp e).1
      rw [this, nE (by omega) (by omega)] at a1
      omega
    by_cases hex : ∃ i, i < W ∧ q i = p
    · exact hex
    · exact absurd (w7 p hp hpn (fun k hk e => hex ⟨k, hk, e⟩)) a2
  · rintro ⟨i, h1, rfl⟩
    obtain ⟨v1, v2, v3, v4, v5, v6, v7, v8⟩ := w5 i h1
    refine ⟨(hh.2.1 _ v2 v3).1, ?_⟩
    rw [v5, mI_ne (by omega)]
    exact id
theorem rQ_inj {W : Nat} {q pr ak : Nat → Nat} (w6 : ∀ k l, k < l → l < W → pr (q l) < pr (q k) ∨ (pr (q l) = pr (q k) ∧ ak (q k) < ak (q l))) : ∀ i j, i < j → j < W → q i ≠ q j := by
  intro i j h1 h2 e
  have := w6 i j h1 h2
  rw [e] at this
  omega
theorem m128 (M : z_M) (o : Nat) (w : Int64) {c J S Hy B : Nat} {V Y : z_V} (h : Rl c J S Hy B V Y) : z_cl 128 [.ref o] (yS M o Y w) = some (some (.int (V.1 11)), yS M o Y w) := by
  have h1 := m128y M o w Y J (Rl_J h).1 (Rl_12 h)
  have hq := h
  obtain ⟨-, -, -, -, -, -, -, -, ⟨W, n, q, pr, ak, w1, w2, w3, w4, w5, w6, w7⟩, -⟩ := hq
  have e : cnt (fun k => decide (Y.2.2.1 4 k = nI 1 ∧ ¬ Y.2.2.1 14 k = mI)) J = W := by
    rw [← cnt_inQ q J W (fun i hi => (w5 i hi).2.1) (rQ_inj w6)]
    apply cnt_congr
    intro k hk
    have := rQ_mem h w5 w7 k hk
    by_cases c1 : inQ q W k = true
    · rw [c1, decide_eq_true_eq]; exact this.mpr c1
    · rw [Bool.not_eq_true] at c1
      rw [c1, decide_eq_false_iff_not]
      intro hn
      rw [this.mp hn] at c1
      exact absurd c1 (by decide)
  rw [e, ← w3] at h1
  exact h1
