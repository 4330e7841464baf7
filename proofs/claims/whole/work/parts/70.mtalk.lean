/-! the model's tick: who speaks; its questions -/
theorem Rl_11 {c J S Hy B : Nat} {V Y : z_V} (h : Rl c J S Hy B V Y) : B ≤ 8 ∧ Y.1 11 = nI B := by
  obtain ⟨⟨-, -, -, ⟨hB, h8⟩, -⟩, hf, hSB, s, -⟩ := h
  exact ⟨hB, by rw [s.2.2.2.2.2.2.2.2.2.1]; exact h8⟩
theorem dmI {d : Nat} (h : d < 2 ^ 31) : decide (mI = nI d) = false := by
  rw [decide_eq_false_iff_not, mI_ne' h]
  exact id
theorem dnI {a b : Nat} (ha : a < 2 ^ 31) (hb : b < 2 ^ 31) : decide (nI a = nI b) = decide (a = b) := by
  simp only [nE ha hb]
theorem m138r (M : z_M) (o : Nat) (w : Int64) {c J S Hy B : Nat} {V Y : z_V} (h : Rl c J S Hy B V Y) {b p : Nat} (hb : b < 8) (hp : p < 20) : z_cl 138 [.ref o, .int (nI b), .int (nI p)] (yS M o Y w) = some (some (.int (bI (decide (V.2.2.1 9 p = nI b)))), yS M o Y w) := by
  rw [m138 M o Y w b p hb, (h.2.2.2.2.2.2.1 p hp).2.2 b hb]
theorem m139r (M : z_M) (o : Nat) (w : Int64) {c J S Hy B : Nat} {V Y : z_V} (h : Rl c J S Hy B V Y) {b p : Nat} (hb : b < 8) (hp : p < J) : z_cl 139 [.ref o, .int (nI b), .int (nI p)] (yS M o Y w) = some (some (.int (bI (mayS V b p))), yS M o Y w) := by
  have hJ := (Rl_J h).1
  obtain ⟨hC, ⟨f, hf⟩, hSB, r1, r2, r3, -⟩ := h
  have g0 := m116 M o Y w p 0 (by omega) (by omega)
  have g2 := m116 M o Y w p 2 (by omega) (by omega)
  have g4 := m116 M o Y w p 4 (by omega) (by omega)
  have g7 := m116 M o Y w p 7 (by omega) (by omega)
  simp only [Nat.reduceAdd] at g0 g2 g4 g7
  have e4 : Y.1 4 = V.1 4 := r1.2.2.2.2.1
  have e8 : Y.2.2.1 8 p = V.2.2.1 6 p := by rw [r2.2.2.1]
  rw [e139]
  unfold mayS
  by_cases hm : V.2.2.1 3 p = mI
  · have a1 := (r3.1 p hp hm).1
    have hx : ¬ (mI = nI b ∧ V.2.2.1 6 p = nI 0 ∧ (V.1 4 = nI 0 ∨ V.2.2.1 13 p = nI 1)) := by rw [mI_ne' (by omega)]; exact fun q => q.1
    rw [hm, decide_eq_false hx]
    simp (disch := first | omega | (simp only [sgets, reduceIte, Nat.reduceEqDiff, a1, dec_S, Nat.reduceAdd]; done) | omega) only [cS_1, crd, z_pv_some, z_wv_some, z_cv_v, z_cv_n, cwr, sgets, rc_O, ia_n, fa_n, is_n, fs_n, ↓mI_eq, lits, nI_add, nLe, nLt, nE, mI_ne, mI_ne', mI_lt, mI_le, mI_nlt, mI_nle, ne_eq, mI_addC, pk_sub, pk_mul, pk_div, Nat.reduceEqDiff, Nat.reduceAdd, Nat.reduceMul, Nat.reduceSub, reduceIte, not_true_eq_false, not_false_eq_true, true_or, or_true, if_true, if_false, and_self, and_true, true_and, and_false, false_and, or_self, or_false, false_or, decide_true, decide_false, Bool.false_eq_true, Bool.true_eq_false, bI_t, bI_f, oS_1, ord, owA0, owF0, owF1, owA1, owF2, owA2, owF3, owA3, ywo, gfs11, pfs11, yrd, ywr, b139, g0, a1, dec_S, Nat.reduceAdd]
  · obtain ⟨a1, a2, a3, -⟩ := r3.2.1 p hp hm
    by_cases c1 : V.2.2.1 3 p = nI b
    · by_cases c2 : V.2.2.1 6 p = nI 0
      · by_cases c3 : V.1 4 = nI 0
        · simp (disch := first | omega | (simp only [sgets, reduceIte, Nat.reduceEqDiff, a1, a2, a3, e4, e8, c1, c2, c3, dec_S, Nat.reduceAdd]; done) | omega) only [cS_1, crd, z_pv_some, z_wv_some, z_cv_v, z_cv_n, cwr, sgets, rc_O, ia_n, fa_n, is_n, fs_n, ↓mI_eq, lits, nI_add, nLe, nLt, nE, mI_ne, mI_ne', mI_lt, mI_le, mI_nlt, mI_nle, ne_eq, mI_addC, pk_sub, pk_mul, pk_div, Nat.reduceEqDiff, Nat.reduceAdd, Nat.reduceMul, Nat.reduceSub, reduceIte, not_true_eq_false, not_false_eq_true, true_or, or_true, if_true, if_false, and_self, and_true, true_and, and_false, false_and, or_self, or_false, false_or, decide_true, decide_false, Bool.false_eq_true, Bool.true_eq_false, bI_t, bI_f, oS_1, ord, owA0, owF0, owF1, owA1, owF2, owA2, owF3, owA3, ywo, gfs11, pfs11, yrd, ywr, b139, g0, g2, g4, g7, a1, a2, a3, e4, e8, c1, c2, c3, dec_S, Nat.reduceAdd]
        · by_cases c4 : V.2.2.1 13 p = nI 1
          · simp (disch := first | omega | (simp only [sgets, reduceIte, Nat.reduceEqDiff, a1, a2, a3, e4, e8, c1, c2, c3, c4, dec_S, Nat.reduceAdd]; done) | omega) only [cS_1, crd, z_pv_some, z_wv_some, z_cv_v, z_cv_n, cwr, sgets, rc_O, ia_n, fa_n, is_n, fs_n, ↓mI_eq, lits, nI_add, nLe, nLt, nE, mI_ne, mI_ne', mI_lt, mI_le, mI_nlt, mI_nle, ne_eq, mI_addC, pk_sub, pk_mul, pk_div, Nat.reduceEqDiff, Nat.reduceAdd, Nat.reduceMul, Nat.reduceSub, reduceIte, not_true_eq_false, not_false_eq_true, true_or, or_true, if_true, if_false, and_self, and_true, true_and, and_false, false_and, or_self, or_false, false_or, decide_true, decide_false, Bool.false_eq_true, Bool.true_eq_false, bI_t, bI_f, oS_1, ord, owA0, owF0, owF1, owA1, owF2, owA2, owF3, owA3, ywo, gfs11, pfs11, yrd, ywr, b139, g0, g2, g4, g7, a1, a2, a3, e4, e8, c1, c2, c3, c4, dec_S, Nat.reduceAdd]
          · simp (disch := first | omega | (simp only [sgets, reduceIte, Nat.reduceEqDiff, a1, a2, a3, e4, e8, c1, c2, c3, c4, dec_S, Nat.reduceAdd]; done) | omega) only [cS_1, crd, z_pv_some, z_wv_some, z_cv_v, z_cv_n, cwr, sgets, rc_O, ia_n, fa_n, is_n, fs_n, ↓mI_eq, lits, nI_add, nLe, nLt, nE, mI_ne, mI_ne', mI_lt, mI_le, mI_nlt, mI_nle, ne_eq, mI_addC, pk_sub, pk_mul, pk_div, Nat.reduceEqDiff, Nat.reduceAdd, Nat.reduceMul, Nat.reduceSub, reduceIte, not_true_eq_false, not_false_eq_true, true_or, or_true, if_true, if_false, and_self, and_true, true_and, and_false, false_and, or_self, or_false, false_or, decide_true, decide_false, Bool.false_eq_true, Bool.true_eq_false, bI_t, bI_f, oS_1, ord, owA0, owF0, owF1, owA1, owF2, owA2, owF3, owA3, ywo, gfs11, pfs11, yrd, ywr, b139, g0, g2, g4, g7, a1, a2, a3, e4, e8, c1, c2, c3, c4, dec_S, Nat.reduceAdd]
      · simp (disch := first | omega | (simp only [sgets, reduceIte, Nat.reduceEqDiff, a1, a2, a3, e4, e8, c1, c2, dec_S, Nat.reduceAdd]; done) | omega) only [cS_1, crd, z_pv_some, z_wv_some, z_cv_v, z_cv_n, cwr, sgets, rc_O, ia_n, fa_n, is_n, fs_n, ↓mI_eq, lits, nI_add, nLe, nLt, nE, mI_ne, mI_ne', mI_lt, mI_le, mI_nlt, mI_nle, ne_eq, mI_addC, pk_sub, pk_mul, pk_div, Nat.reduceEqDiff, Nat.reduceAdd, Nat.reduceMul, Nat.reduceSub, reduceIte, not_true_eq_false, not_false_eq_true, true_or, or_true, if_true, if_false, and_self, and_true, true_and, and_false, false_and, or_self, or_false, false_or, decide_true, decide_false, Bool.false_eq_true, Bool.true_eq_false, bI_t, bI_f, oS_1, ord, owA0, owF0, owF1, owA1, owF2, owA2, owF3, owA3, ywo, gfs11, pfs11, yrd, ywr, b139, g0, g2, g4, g7, a1, a2, a3, e4, e8, c1, c2, dec_S, Nat.reduceAdd]
    · simp (disch := first | omega | (simp only [sgets, reduceIte, Nat.reduceEqDiff, a1, a2, a3, e4, e8, c1, dec_S, Nat.reduceAdd]; done) | omega) only [cS_1, crd, z_pv_some, z_wv_some, z_cv_v, z_cv_n, cwr, sgets, rc_O, ia_n, fa_n, is_n, fs_n, ↓mI_eq, lits, nI_add, nLe, nLt, nE, mI_ne, mI_ne', mI_lt, mI_le, mI_nlt, mI_nle, ne_eq, mI_addC, pk_sub, pk_mul, pk_div, Nat.reduceEqDiff, Nat.reduceAdd, Nat.reduceMul, Nat.reduceSub, reduceIte, not_true_eq_false, not_false_eq_true, true_or, or_true, if_true, if_false, and_self, and_true, true_and, and_false, false_and, or_self, or_false, false_or, decide_true, decide_false, Bool.false_eq_true, Bool.true_eq_false, bI_t, bI_f, oS_1, ord, owA0, owF0, owF1, owA1, owF2, owA2, owF3, owA3, ywo, gfs11, pfs11, yrd, ywr, b139, g0, g2, g4, g7, a1, a2, a3, e4, e8, c1, dec_S, Nat.reduceAdd]
theorem spk_it {f : Nat → Int32} {p n : Nat} : it (fun k s => s || decide (f p = nI k)) n false = true ↔ ∃ b, b < n ∧ f p = nI b := by
  induction n with
  | zero => exact ⟨fun h => absurd (show false = true from h) (by decide), fun ⟨b, h, _⟩ => absurd h (by omega)⟩
  | succ n ih =>
    have e : it (fun k s => s || decide (f p = nI k)) (n + 1) false = (it (fun k s => s || decide (f p = nI k)) n false || decide (f p = nI n)) := rfl
    rw [e, Bool.or_eq_true, ih, decide_eq_true_eq]
    constructor
    · rintro (⟨b, h1, h2⟩ | h)
      · exact ⟨b, by omega, h2⟩
      · exact ⟨n, by omega, h⟩
    · rintro ⟨b, h1, h2⟩
      by_cases c : b = n
      · subst c; exact Or.inr h2
      · exact Or.inl ⟨b, by omega, h2⟩
theorem m144r (M : z_M) (o : Nat) (w : Int64) {c J S Hy B : Nat} {V Y : z_V} (h : Rl c J S Hy B V Y) {p : Nat} (hp : p < 20) : z_cl 144 [.ref o, .int (nI p)] (yS M o Y w) = some (some (.int (bI (decide (¬ V.2.2.1 9 p = mI)))), yS M o Y w) := by
  obtain ⟨hB, e11⟩ := Rl_11 h
  rw [e144]
  have hl := it_run (fun k (s : Bool) => z_ex 144 M.1 4 [some (.ref o), some (.int (nI p)), some (.int (bI s)), some (.int (nI k))] [] (yS M o Y w)) (fun k s => s || decide (V.2.2.1 9 p = nI k)) B false (by
    intro k s hk
    have hk2 : ¬ B ≤ k := by omega
    have h138 := m138r M o w h (show k < 8 by omega) hp
    rw [q144_4]
    by_cases c1 : V.2.2.1 9 p = nI k
    · have c1' := eq_true c1
      simp only [c1', decide_true, Bool.or_true] at h138 ⊢
      cases s
      · simp (disch := first | omega | (simp only [sgets, reduceIte, Nat.reduceEqDiff, e11, hk2, dec_S, Nat.reduceAdd]; done) | omega) only [cS_1, crd, z_pv_some, z_wv_some, z_cv_v, z_cv_n, cwr, sgets, rc_O, ia_n, fa_n, is_n, fs_n, ↓mI_eq, lits, nI_add, nLe, nLt, nE, mI_ne, mI_ne', mI_lt, mI_le, mI_nlt, mI_nle, ne_eq, mI_addC, pk_sub, pk_mul, pk_div, Nat.reduceEqDiff, Nat.reduceAdd, Nat.reduceMul, Nat.reduceSub, reduceIte, not_true_eq_false, not_false_eq_true, true_or, or_true, if_true, if_false, and_self, and_true, true_and, and_false, false_and, or_self, or_false, false_or, decide_true, decide_false, Bool.false_eq_true, Bool.true_eq_false, bI_t, bI_f, oS_1, ord, owA0, owF0, owF1, owA1, owF2, owA2, owF3, owA3, ywo, gfs11, pfs11, yrd, ywr, q144_5, q144_6, q144_9, q144_11, q144_12, q144_15, q144_16, q144_19, q144_20, q144_21, q144_22, q144_25, q144_28, q144_29, q144_32, q144_33, q144_34, q144_37, h138, e11, hk2, dec_S, Nat.reduceAdd]
      · simp (disch := first | omega | (simp only [sgets, reduceIte, Nat.reduceEqDiff, e11, hk2, dec_S, Nat.reduceAdd]; done) | omega) only [cS_1, crd, z_pv_some, z_wv_some, z_cv_v, z_cv_n, cwr, sgets, rc_O, ia_n, fa_n, is_n, fs_n, ↓mI_eq, lits, nI_add, nLe, nLt, nE, mI_ne, mI_ne', mI_lt, mI_le, mI_nlt, mI_nle, ne_eq, mI_addC, pk_sub, pk_mul, pk_div, Nat.reduceEqDiff, Nat.reduceAdd, Nat.reduceMul, Nat.reduceSub, reduceIte, not_true_eq_false, not_false_eq_true, true_or, or_true, if_true, if_false, and_self, and_true, true_and, and_false, false_and, or_self, or_false, false_or, decide_true, decide_false, Bool.false_eq_true, Bool.true_eq_false, bI_t, bI_f, oS_1, ord, owA0, owF0, owF1, owA1, owF2, owA2, owF3, owA3, ywo, gfs11, pfs11, yrd, ywr, q144_5, q144_6, q144_9, q144_11, q144_12, q144_15, q144_16, q144_19, q144_20, q144_21, q144_22, q144_25, q144_28, q144_29, q144_32, q144_33, q144_34, q144_37, h138, e11, hk2, dec_S, Nat.reduceAdd]
    · simp only [c1, decide_false, Bool.or_false] at h138 ⊢
      cases s
      · simp (disch := first | omega | (simp only [sgets, reduceIte, Nat.reduceEqDiff, e11, hk2, dec_S, Nat.reduceAdd]; done) | omega) only [cS_1, crd, z_pv_some, z_wv_some, z_cv_v, z_cv_n, cwr, sgets, rc_O, ia_n, fa_n, is_n, fs_n, ↓mI_eq, lits, nI_add, nLe, nLt, nE, mI_ne, mI_ne', mI_lt, mI_le, mI_nlt, mI_nle, ne_eq, mI_addC, pk_sub, pk_mul, pk_div, Nat.reduceEqDiff, Nat.reduceAdd, Nat.reduceMul, Nat.reduceSub, reduceIte, not_true_eq_false, not_false_eq_true, true_or, or_true, if_true, if_false, and_self, and_true, true_and, and_false, false_and, or_self, or_false, false_or, decide_true, decide_false, Bool.false_eq_true, Bool.true_eq_false, bI_t, bI_f, oS_1, ord, owA0, owF0, owF1, owA1, owF2, owA2, owF3, owA3, ywo, gfs11, pfs11, yrd, ywr, q144_5, q144_6, q144_9, q144_11, q144_12, q144_15, q144_16, q144_19, q144_20, q144_21, q144_22, q144_25, q144_28, q144_29, q144_32, q144_33, q144_34, q144_37, h138, e11, hk2, dec_S, Nat.reduceAdd]
      · simp (disch := first | omega | (simp only [sgets, reduceIte, Nat.reduceEqDiff, e11, hk2, dec_S, Nat.reduceAdd]; done) | omega) only [cS_1, crd, z_pv_some, z_wv_some, z_cv_v, z_cv_n, cwr, sgets, rc_O, ia_n, fa_n, is_n, fs_n, ↓mI_eq, lits, nI_add, nLe, nLt, nE, mI_ne, mI_ne', mI_lt, mI_le, mI_nlt, mI_nle, ne_eq, mI_addC, pk_sub, pk_mul, pk_div, Nat.reduceEqDiff, Nat.reduceAdd, Nat.reduceMul, Nat.reduceSub, reduceIte, not_true_eq_false, not_false_eq_true, true_or, or_true, if_true, if_false, and_self, and_true, true_and, and_false, false_and, or_self, or_false, false_or, decide_true, decide_false, Bool.false_eq_true, Bool.true_eq_false, bI_t, bI_f, oS_1, ord, owA0, owF0, owF1, owA1, owF2, owA2, owF3, owA3, ywo, gfs11, pfs11, yrd, ywr, q144_5, q144_6, q144_9, q144_11, q144_12, q144_15, q144_16, q144_19, q144_20, q144_21, q144_22, q144_25, q144_28, q144_29, q144_32, q144_33, q144_34, q144_37, h138, e11, hk2, dec_S, Nat.reduceAdd])
  have e0 : z_ex 144 (yS M o Y w).1 0 [some (.ref o), some (.int (nI p)), none, none] [] (yS M o Y w) = z_ex 144 M.1 4 [some (.ref o), some (.int (nI p)), some (.int (bI false)), some (.int (nI 0))] [] (yS M o Y w) := by
    simp (disch := first | omega | (simp only [sgets, reduceIte, Nat.reduceEqDiff, dec_S, Nat.reduceAdd]; done) | omega) only [cS_1, crd, z_pv_some, z_wv_some, z_cv_v, z_cv_n, cwr, sgets, rc_O, ia_n, fa_n, is_n, fs_n, ↓mI_eq, lits, nI_add, nLe, nLt, nE, mI_ne, mI_ne', mI_lt, mI_le, mI_nlt, mI_nle, ne_eq, mI_addC, pk_sub, pk_mul, pk_div, Nat.reduceEqDiff, Nat.reduceAdd, Nat.reduceMul, Nat.reduceSub, reduceIte, not_true_eq_false, not_false_eq_true, true_or, or_true, if_true, if_false, and_self, and_true, true_and, and_false, false_and, or_self, or_false, false_or, decide_true, decide_false, Bool.false_eq_true, Bool.true_eq_false, bI_t, bI_f, oS_1, ord, owA0, owF0, owF1, owA1, owF2, owA2, owF3, owA3, ywo, gfs11, pfs11, yrd, ywr, q144_0, q144_1, q144_2, q144_3, dec_S, Nat.reduceAdd]
  rw [e0, hl]
  have e1 : it (fun k s => s || decide (V.2.2.1 9 p = nI k)) B false = decide (¬ V.2.2.1 9 p = mI) := by
    have hT := (h.2.2.2.2.2.2.1 p hp).1
    by_cases c1 : V.2.2.1 9 p = mI
    · rw [show decide (¬ V.2.2.1 9 p = mI) = false by simp [c1], Bool.eq_false_iff]
      intro h2
      obtain ⟨b, h3, h4⟩ := spk_it.mp h2
      rw [c1, mI_ne' (by omega)] at h4
      exact h4
    · rw [show decide (¬ V.2.2.1 9 p = mI) = true by simp [c1]]
      rcases hT with h2 | h2
      · exact absurd h2 c1
      · exact spk_it.mpr h2
  rw [e1, q144_4]
  generalize decide (¬ V.2.2.1 9 p = mI) = s
  cases s
  · simp (disch := first | omega | (simp only [sgets, reduceIte, Nat.reduceEqDiff, e11, dec_S, Nat.reduceAdd]; done) | omega) only [cS_1, crd, z_pv_some, z_wv_some, z_cv_v, z_cv_n, cwr, sgets, rc_O, ia_n, fa_n, is_n, fs_n, ↓mI_eq, lits, nI_add, nLe, nLt, nE, mI_ne, mI_ne', mI_lt, mI_le, mI_nlt, mI_nle, ne_eq, mI_addC, pk_sub, pk_mul, pk_div, Nat.reduceEqDiff, Nat.reduceAdd, Nat.reduceMul, Nat.reduceSub, reduceIte, not_true_eq_false, not_false_eq_true, true_or, or_true, if_true, if_false, and_self, and_true, true_and, and_false, false_and, or_self, or_false, false_or, decide_true, decide_false, Bool.false_eq_true, Bool.true_eq_false, bI_t, bI_f, oS_1, ord, owA0, owF0, owF1, owA1, owF2, owA2, owF3, owA3, ywo, gfs11, pfs11, yrd, ywr, q144_5, q144_6, q144_9, q144_11, q144_12, q144_15, q144_16, q144_19, q144_20, q144_21, q144_22, q144_25, q144_28, q144_29, q144_32, q144_33, q144_34, q144_37, q144_40, q144_41, Nat.le_refl, e11, dec_S, Nat.reduceAdd]
  · simp (disch := first | omega | (simp only [sgets, reduceIte, Nat.reduceEqDiff, e11, dec_S, Nat.reduceAdd]; done) | omega) only [cS_1, crd, z_pv_some, z_wv_some, z_cv_v, z_cv_n, cwr, sgets, rc_O, ia_n, fa_n, is_n, fs_n, ↓mI_eq, lits, nI_add, nLe, nLt, nE, mI_ne, mI_ne', mI_lt, mI_le, mI_nlt, mI_nle, ne_eq, mI_addC, pk_sub, pk_mul, pk_div, Nat.reduceEqDiff, Nat.reduceAdd, Nat.reduceMul, Nat.reduceSub, reduceIte, not_true_eq_false, not_false_eq_true, true_or, or_true, if_true, if_false, and_self, and_true, true_and, and_false, false_and, or_self, or_false, false_or, decide_true, decide_false, Bool.false_eq_true, Bool.true_eq_false, bI_t, bI_f, oS_1, ord, owA0, owF0, owF1, owA1, owF2, owA2, owF3, owA3, ywo, gfs11, pfs11, yrd, ywr, q144_5, q144_6, q144_9, q144_11, q144_12, q144_15, q144_16, q144_19, q144_20, q144_21, q144_22, q144_25, q144_28, q144_29, q144_32, q144_33, q144_34, q144_37, q144_40, q144_41, Nat.le_refl, e11, dec_S, Nat.reduceAdd]
theorem m141r (M : z_M) (o : Nat) (w : Int64) {c J S Hy B : Nat} {V Y : z_V} (h : Rl c J S Hy B V Y) {b : Nat} (hb : b < 8) : z_cl 141 [.ref o, .int (nI b)] (yS M o Y w) = some (some (.int (nI (cnt (fun k => decide (V.2.2.1 9 k = nI b)) J))), yS M o Y w) := by
  have e12 := Rl_12 h
  have hJ := (Rl_J h).1
  rw [e141]
  have hl := it_run (fun k (n : Nat) => z_ex 141 M.1 4 [some (.ref o), some (.int (nI b)), some (.int (nI n)), some (.int (nI k))] [] (yS M o Y w)) (fun k s => s + if decide (V.2.2.1 9 k = nI b) = true then 1 else 0) J 0 (by
    intro k n hk
    have hk2 : ¬ J ≤ k := by omega
    have h138 := m138r M o w h hb (show k < 20 by omega)
    rw [q141_4]
    by_cases c1 : V.2.2.1 9 k = nI b
    · have c1' := eq_true c1
      simp only [c1', decide_true, if_true] at h138 ⊢
      simp (disch := first | omega | (simp only [sgets, reduceIte, Nat.reduceEqDiff, e12, hk2, dec_S, Nat.reduceAdd]; done) | omega) only [cS_1, crd, z_pv_some, z_wv_some, z_cv_v, z_cv_n, cwr, sgets, rc_O, ia_n, fa_n, is_n, fs_n, ↓mI_eq, lits, nI_add, nLe, nLt, nE, mI_ne, mI_ne', mI_lt, mI_le, mI_nlt, mI_nle, ne_eq, mI_addC, pk_sub, pk_mul, pk_div, Nat.reduceEqDiff, Nat.reduceAdd, Nat.reduceMul, Nat.reduceSub, reduceIte, not_true_eq_false, not_false_eq_true, true_or, or_true, if_true, if_false, and_self, and_true, true_and, and_false, false_and, or_self, or_false, false_or, decide_true, decide_false, Bool.false_eq_true, Bool.true_eq_false, bI_t, bI_f, oS_1, ord, owA0, owF0, owF1, owA1, owF2, owA2, owF3, owA3, ywo, gfs11, pfs11, yrd, ywr, q141_5, q141_6, q141_9, q141_11, q141_12, q141_15, q141_16, q141_17, q141_18, q141_19, q141_22, q141_25, q141_26, q141_29, q141_30, q141_31, q141_32, q141_35, h138, e12, hk2, dec_S, Nat.reduceAdd]
    · simp only [c1, decide_false, if_false, Bool.false_eq_true] at h138 ⊢
      simp (disch := first | omega | (simp only [sgets, reduceIte, Nat.reduceEqDiff, e12, hk2, dec_S, Nat.reduceAdd]; done) | omega) only [cS_1, crd, z_pv_some, z_wv_some, z_cv_v, z_cv_n, cwr, sgets, rc_O, ia_n, fa_n, is_n, fs_n, ↓mI_eq, lits, nI_add, nLe, nLt, nE, mI_ne, mI_ne', mI_lt, mI_le, mI_nlt, mI_nle, ne_eq, mI_addC, pk_sub, pk_mul, pk_div, Nat.reduceEqDiff, Nat.reduceAdd, Nat.reduceMul, Nat.reduceSub, reduceIte, not_true_eq_false, not_false_eq_true, true_or, or_true, if_true, if_false, and_self, and_true, true_and, and_false, false_and, or_self, or_false, false_or, decide_true, decide_false, Bool.false_eq_true, Bool.true_eq_false, bI_t, bI_f, oS_1, ord, owA0, owF0, owF1, owA1, owF2, owA2, owF3, owA3, ywo, gfs11, pfs11, yrd, ywr, q141_5, q141_6, q141_9, q141_11, q141_12, q141_15, q141_16, q141_17, q141_18, q141_19, q141_22, q141_25, q141_26, q141_29, q141_30, q141_31, q141_32, q141_35, h138, e12, hk2, dec_S, Nat.reduceAdd])
  have e0 : z_ex 141 (yS M o Y w).1 0 [some (.ref o), some (.int (nI b)), none, none] [] (yS M o Y w) = z_ex 141 M.1 4 [some (.ref o), some (.int (nI b)), some (.int (nI 0)), some (.int (nI 0))] [] (yS M o Y w) := by
    simp (disch := first | omega | (simp only [sgets, reduceIte, Nat.reduceEqDiff, dec_S, Nat.reduceAdd]; done) | omega) only [cS_1, crd, z_pv_some, z_wv_some, z_cv_v, z_cv_n, cwr, sgets, rc_O, ia_n, fa_n, is_n, fs_n, ↓mI_eq, lits, nI_add, nLe, nLt, nE, mI_ne, mI_ne', mI_lt, mI_le, mI_nlt, mI_nle, ne_eq, mI_addC, pk_sub, pk_mul, pk_div, Nat.reduceEqDiff, Nat.reduceAdd, Nat.reduceMul, Nat.reduceSub, reduceIte, not_true_eq_false, not_false_eq_true, true_or, or_true, if_true, if_false, and_self, and_true, true_and, and_false, false_and, or_self, or_false, false_or, decide_true, decide_false, Bool.false_eq_true, Bool.true_eq_false, bI_t, bI_f, oS_1, ord, owA0, owF0, owF1, owA1, owF2, owA2, owF3, owA3, ywo, gfs11, pfs11, yrd, ywr, q141_0, q141_1, q141_2, q141_3, dec_S, Nat.reduceAdd]
  rw [e0, hl, q141_4]
  simp (disch := first | omega | (simp only [sgets, reduceIte, Nat.reduceEqDiff, e12, dec_S, Nat.reduceAdd]; done) | omega) only [cS_1, crd, z_pv_some, z_wv_some, z_cv_v, z_cv_n, cwr, sgets, rc_O, ia_n, fa_n, is_n, fs_n, ↓mI_eq, lits, nI_add, nLe, nLt, nE, mI_ne, mI_ne', mI_lt, mI_le, mI_nlt, mI_nle, ne_eq, mI_addC, pk_sub, pk_mul, pk_div, Nat.reduceEqDiff, Nat.reduceAdd, Nat.reduceMul, Nat.reduceSub, reduceIte, not_true_eq_false, not_false_eq_true, true_or, or_true, if_true, if_false, and_self, and_true, true_and, and_false, false_and, or_self, or_false, false_or, decide_true, decide_false, Bool.false_eq_true, Bool.true_eq_false, bI_t, bI_f, oS_1, ord, owA0, owF0, owF1, owA1, owF2, owA2, owF3, owA3, ywo, gfs11, pfs11, yrd, ywr, q141_5, q141_6, q141_9, q141_11, q141_12, q141_15, q141_16, q141_17, q141_18, q141_19, q141_22, q141_25, q141_26, q141_29, q141_30, q141_31, q141_32, q141_35, q141_38, q141_39, Nat.le_refl, e12, dec_S, Nat.reduceAdd]
  rfl
theorem m142r (M : z_M) (o : Nat) (w : Int64) {c J S Hy B : Nat} {V Y : z_V} (h : Rl c J S Hy B V Y) {b : Nat} (hb : b < 8) : z_cl 142 [.ref o, .int (nI b)] (yS M o Y w) = some (some (.int (quietV V b J)), yS M o Y w) := by
  have e12 := Rl_12 h
  have hJ := (Rl_J h).1
  have eF : Y.2.2.2 0 = V.2.2.2 0 := h.2.2.2.2.1.2.2.2.2.2.2.2.2.2.2.2.1
  rw [e142]
  have hl := it_for (fun k f => z_ex 142 M.1 4 [some (.ref o), some (.int (nI b)), some (.int f), some (.int (nI k))] [] (yS M o Y w)) (fun k f => if decide (V.2.2.1 9 k = nI b) = true ∧ (f = mI ∨ Op.cmpValue (FP.fcmp (V.2.2.2 0 k) (V.2.2.2 0 f.toNatClampNeg)) .g ≤ nI 0) then nI k else f) (fun k f => f = mI ∨ ∃ r, r < k ∧ f = nI r) J (by
    intro k f hk hf
    have hk2 : ¬ J ≤ k := by omega
    have h138 := m138r M o w h hb (show k < 20 by omega)
    constructor
    · rw [q142_4]
      by_cases c1 : V.2.2.1 9 k = nI b
      · have c1' := eq_true c1
        simp only [c1', decide_true, true_and] at h138 ⊢
        rcases hf with rfl | ⟨r, hr, rfl⟩
        · simp (disch := first | omega | (simp only [sgets, reduceIte, Nat.reduceEqDiff, e12, hk2, dec_S, Nat.reduceAdd]; done) | omega) only [cS_1, crd, z_pv_some, z_wv_some, z_cv_v, z_cv_n, cwr, sgets, rc_O, ia_n, fa_n, is_n, fs_n, ↓mI_eq, lits, nI_add, nLe, nLt, nE, mI_ne, mI_ne', mI_lt, mI_le, mI_nlt, mI_nle, ne_eq, mI_addC, pk_sub, pk_mul, pk_div, Nat.reduceEqDiff, Nat.reduceAdd, Nat.reduceMul, Nat.reduceSub, reduceIte, not_true_eq_false, not_false_eq_true, true_or, or_true, if_true, if_false, and_self, and_true, true_and, and_false, false_and, or_self, or_false, false_or, decide_true, decide_false, Bool.false_eq_true, Bool.true_eq_false, bI_t, bI_f, oS_1, ord, owA0, owF0, owF1, owA1, owF2, owA2, owF3, owA3, ywo, gfs11, pfs11, yrd, ywr, q142_5, q142_6, q142_9, q142_11, q142_12, q142_15, q142_16, q142_17, q142_18, q142_21, q142_24, q142_25, q142_26, q142_29, q142_30, q142_33, q142_34, q142_35, q142_36, q142_39, q142_40, q142_41, q142_42, q142_45, q142_46, q142_49, q142_50, q142_51, q142_54, h138, e12, hk2, dec_S, Nat.reduceAdd]
        · by_cases c2 : nI 0 < Op.cmpValue (FP.fcmp (V.2.2.2 0 k) (V.2.2.2 0 r)) .g
          · have c3 : ¬ Op.cmpValue (FP.fcmp (V.2.2.2 0 k) (V.2.2.2 0 r)) .g ≤ nI 0 := Int32.not_le.mpr c2
            simp (disch := first | omega | (simp only [sgets, reduceIte, Nat.reduceEqDiff, e12, hk2, c2, c3, dec_S, Nat.reduceAdd]; done) | omega) only [cS_1, crd, z_pv_some, z_wv_some, z_cv_v, z_cv_n, cwr, sgets, rc_O, ia_n, fa_n, is_n, fs_n, ↓mI_eq, lits, nI_add, nLe, nLt, nE, mI_ne, mI_ne', mI_lt, mI_le, mI_nlt, mI_nle, ne_eq, mI_addC, pk_sub, pk_mul, pk_div, Nat.reduceEqDiff, Nat.reduceAdd, Nat.reduceMul, Nat.reduceSub, reduceIte, not_true_eq_false, not_false_eq_true, true_or, or_true, if_true, if_false, and_self, and_true, true_and, and_false, false_and, or_self, or_false, false_or, decide_true, decide_false, Bool.false_eq_true, Bool.true_eq_false, bI_t, bI_f, oS_1, ord, owA0, owF0, owF1, owA1, owF2, owA2, owF3, owA3, ywo, gfs11, pfs11, yrd, ywr, q142_5, q142_6, q142_9, q142_11, q142_12, q142_15, q142_16, q142_17, q142_18, q142_21, q142_24, q142_25, q142_26, q142_29, q142_30, q142_33, q142_34, q142_35, q142_36, q142_39, q142_40, q142_41, q142_42, q142_45, q142_46, q142_49, q142_50, q142_51, q142_54, h138, nI_clamp, eF, e12, hk2, c2, c3, dec_S, Nat.reduceAdd]
          · have c3 : Op.cmpValue (FP.fcmp (V.2.2.2 0 k) (V.2.2.2 0 r)) .g ≤ nI 0 := Int32.not_lt.mp c2
            simp (disch := first | omega | (simp only [sgets, reduceIte, Nat.reduceEqDiff, e12, hk2, c2, c3, dec_S, Nat.reduceAdd]; done) | omega) only [cS_1, crd, z_pv_some, z_wv_some, z_cv_v, z_cv_n, cwr, sgets, rc_O, ia_n, fa_n, is_n, fs_n, ↓mI_eq, lits, nI_add, nLe, nLt, nE, mI_ne, mI_ne', mI_lt, mI_le, mI_nlt, mI_nle, ne_eq, mI_addC, pk_sub, pk_mul, pk_div, Nat.reduceEqDiff, Nat.reduceAdd, Nat.reduceMul, Nat.reduceSub, reduceIte, not_true_eq_false, not_false_eq_true, true_or, or_true, if_true, if_false, and_self, and_true, true_and, and_false, false_and, or_self, or_false, false_or, decide_true, decide_false, Bool.false_eq_true, Bool.true_eq_false, bI_t, bI_f, oS_1, ord, owA0, owF0, owF1, owA1, owF2, owA2, owF3, owA3, ywo, gfs11, pfs11, yrd, ywr, q142_5, q142_6, q142_9, q142_11, q142_12, q142_15, q142_16, q142_17, q142_18, q142_21, q142_24, q142_25, q142_26, q142_29, q142_30, q142_33, q142_34, q142_35, q142_36, q142_39, q142_40, q142_41, q142_42, q142_45, q142_46, q142_49, q142_50, q142_51, q142_54, h138, nI_clamp, eF, e12, hk2, c2, c3, dec_S, Nat.reduceAdd]
      · simp only [c1, decide_false, Bool.false_eq_true, false_and, if_false] at h138 ⊢
        simp (disch := first | omega | (simp only [sgets, reduceIte, Nat.reduceEqDiff, e12, hk2, dec_S, Nat.reduceAdd]; done) | omega) only [cS_1, crd, z_pv_some, z_wv_some, z_cv_v, z_cv_n, cwr, sgets, rc_O, ia_n, fa_n, is_n, fs_n, ↓mI_eq, lits, nI_add, nLe, nLt, nE, mI_ne, mI_ne', mI_lt, mI_le, mI_nlt, mI_nle, ne_eq, mI_addC, pk_sub, pk_mul, pk_div, Nat.reduceEqDiff, Nat.reduceAdd, Nat.reduceMul, Nat.reduceSub, reduceIte, not_true_eq_false, not_false_eq_true, true_or, or_true, if_true, if_false, and_self, and_true, true_and, and_false, false_and, or_self, or_false, false_or, decide_true, decide_false, Bool.false_eq_true, Bool.true_eq_false, bI_t, bI_f, oS_1, ord, owA0, owF0, owF1, owA1, owF2, owA2, owF3, owA3, ywo, gfs11, pfs11, yrd, ywr, q142_5, q142_6, q142_9, q142_11, q142_12, q142_15, q142_16, q142_17, q142_18, q142_21, q142_24, q142_25, q142_26, q142_29, q142_30, q142_33, q142_34, q142_35, q142_36, q142_39, q142_40, q142_41, q142_42, q142_45, q142_46, q142_49, q142_50, q142_51, q142_54, h138, e12, hk2, dec_S, Nat.reduceAdd]
    · split
      · exact Or.inr ⟨k, by omega, rfl⟩
      · rcases hf with hf | ⟨r, hr, hf⟩
        · exact Or.inl hf
        · exact Or.inr ⟨r, by omega, hf⟩) mI (Or.inl rfl) J (Nat.le_refl J)
  have e0 : z_ex 142 (yS M o Y w).1 0 [some (.ref o), some (.int (nI b)), none, none] [] (yS M o Y w) = z_ex 142 M.1 4 [some (.ref o), some (.int (nI b)), some (.int mI), some (.int (nI 0))] [] (yS M o Y w) := by
    simp (disch := first | omega | (simp only [sgets, reduceIte, Nat.reduceEqDiff, dec_S, Nat.reduceAdd]; done) | omega) only [cS_1, crd, z_pv_some, z_wv_some, z_cv_v, z_cv_n, cwr, sgets, rc_O, ia_n, fa_n, is_n, fs_n, ↓mI_eq, lits, nI_add, nLe, nLt, nE, mI_ne, mI_ne', mI_lt, mI_le, mI_nlt, mI_nle, ne_eq, mI_addC, pk_sub, pk_mul, pk_div, Nat.reduceEqDiff, Nat.reduceAdd, Nat.reduceMul, Nat.reduceSub, reduceIte, not_true_eq_false, not_false_eq_true, true_or, or_true, if_true, if_false, and_self, and_true, true_and, and_false, false_and, or_self, or_false, false_or, decide_true, decide_false, Bool.false_eq_true, Bool.true_eq_false, bI_t, bI_f, oS_1, ord, owA0, owF0, owF1, owA1, owF2, owA2, owF3, owA3, ywo, gfs11, pfs11, yrd, ywr, q142_0, q142_1, q142_2, q142_3, dec_S, Nat.reduceAdd]
  rw [e0, hl.1, q142_4]
  simp (disch := first | omega | (simp only [sgets, reduceIte, Nat.reduceEqDiff, e12, dec_S, Nat.reduceAdd]; done) | omega) only [cS_1, crd, z_pv_some, z_wv_some, z_cv_v, z_cv_n, cwr, sgets, rc_O, ia_n, fa_n, is_n, fs_n, ↓mI_eq, lits, nI_add, nLe, nLt, nE, mI_ne, mI_ne', mI_lt, mI_le, mI_nlt, mI_nle, ne_eq, mI_addC, pk_sub, pk_mul, pk_div, Nat.reduceEqDiff, Nat.reduceAdd, Nat.reduceMul, Nat.reduceSub, reduceIte, not_true_eq_false, not_false_eq_true, true_or, or_true, if_true, if_false, and_self, and_true, true_and, and_false, false_and, or_self, or_false, false_or, decide_true, decide_false, Bool.false_eq_true, Bool.true_eq_false, bI_t, bI_f, oS_1, ord, owA0, owF0, owF1, owA1, owF2, owA2, owF3, owA3, ywo, gfs11, pfs11, yrd, ywr, q142_5, q142_6, q142_9, q142_11, q142_12, q142_15, q142_16, q142_17, q142_18, q142_21, q142_24, q142_25, q142_26, q142_29, q142_30, q142_33, q142_34, q142_35, q142_36, q142_39, q142_40, q142_41, q142_42, q142_45, q142_46, q142_49, q142_50, q142_51, q142_54, q142_57, q142_58, Nat.le_refl, e12, dec_S, Nat.reduceAdd]
  rfl
theorem m143r (M : z_M) (o : Nat) (w : Int64) {c J S Hy B : Nat} {V Y : z_V} (h : Rl c J S Hy B V Y) {b : Nat} (hb : b < 8) : z_cl 143 [.ref o, .int (nI b), .float V.2.1] (yS M o Y w) = some (some (.int (loudV V b J)), yS M o Y w) := by
  have e12 := Rl_12 h
  have hJ := (Rl_J h).1
  have eF : Y.2.2.2 0 = V.2.2.2 0 := h.2.2.2.2.1.2.2.2.2.2.2.2.2.2.2.2.1
  rw [e143]
  have hl := lp_for (fun k f (j : Option Value) => z_ex 143 M.1 5 [some (.ref o), some (.int (nI b)), some (.float V.2.1), some (.int f), some (.int (nI k)), j] [] (yS M o Y w)) (fun k f => if candS V b k = true ∧ (f = mI ∨ nI 0 < Op.cmpValue (FP.fcmp (V.2.2.2 0 k) (V.2.2.2 0 f.toNatClampNeg)) .l) then nI k else f) (fun k f => f = mI ∨ ∃ r, r < k ∧ f = nI r) J (fun f => some (some (.int f), yS M o Y w)) (by
    intro k f j hk hf
    have hk2 : ¬ J ≤ k := by omega
    have h139 := m139r M o w h hb hk
    have h144 := m144r M o w h (show k < 20 by omega)
    rw [q143_5]
    have hcand : candS V b k = decide (V.2.2.1 9 k = mI ∧ ¬ Op.cmpValue (FP.fcmp (V.2.2.2 0 k) V.2.1) .l < nI 0 ∧ mayS V b k = true) := rfl
    cases h3 : mayS V b k with
    | false =>
      have hc : candS V b k = false := by rw [hcand]; simp [h3]
      rw [h3] at h139
      simp (disch := first | omega | (simp only [sgets, reduceIte, Nat.reduceEqDiff, e12, hk2, dec_S, Nat.reduceAdd]; done) | omega) only [cS_1, crd, z_pv_some, z_wv_some, z_cv_v, z_cv_n, cwr, sgets, rc_O, ia_n, fa_n, is_n, fs_n, ↓mI_eq, lits, nI_add, nLe, nLt, nE, mI_ne, mI_ne', mI_lt, mI_le, mI_nlt, mI_nle, ne_eq, mI_addC, pk_sub, pk_mul, pk_div, Nat.reduceEqDiff, Nat.reduceAdd, Nat.reduceMul, Nat.reduceSub, reduceIte, not_true_eq_false, not_false_eq_true, true_or, or_true, if_true, if_false, and_self, and_true, true_and, and_false, false_and, or_self, or_false, false_or, decide_true, decide_false, Bool.false_eq_true, Bool.true_eq_false, bI_t, bI_f, oS_1, ord, owA0, owF0, owF1, owA1, owF2, owA2, owF3, owA3, ywo, gfs11, pfs11, yrd, ywr, q143_7, q143_8, q143_11, q143_13, q143_14, q143_17, q143_18, q143_19, q143_21, q143_24, q143_27, q143_28, q143_30, q143_33, q143_36, q143_37, q143_40, q143_42, q143_43, q143_44, q143_45, q143_48, q143_49, q143_52, q143_53, q143_55, q143_57, q143_60, q143_61, q143_62, q143_65, q143_66, q143_69, q143_71, q143_72, q143_73, q143_76, q143_77, q143_78, q143_79, q143_82, q143_84, q143_87, q143_88, q143_89, q143_92, h139, hc, e12, hk2, dec_S, Nat.reduceAdd]
      exact ⟨_, rfl⟩
    | true =>
      rw [h3] at h139
      by_cases h1 : V.2.2.1 9 k = mI
      · have h1' := eq_true h1
        simp only [h1', not_true_eq_false, decide_false] at h144
        by_cases h2 : Op.cmpValue (FP.fcmp (V.2.2.2 0 k) V.2.1) .l < nI 0
        · have hc : candS V b k = false := by rw [hcand]; simp [h2]
          simp (disch := first | omega | (simp only [sgets, reduceIte, Nat.reduceEqDiff, e12, hk2, h2, dec_S, Nat.reduceAdd]; done) | omega) only [cS_1, crd, z_pv_some, z_wv_some, z_cv_v, z_cv_n, cwr, sgets, rc_O, ia_n, fa_n, is_n, fs_n, ↓mI_eq, lits, nI_add, nLe, nLt, nE, mI_ne, mI_ne', mI_lt, mI_le, mI_nlt, mI_nle, ne_eq, mI_addC, pk_sub, pk_mul, pk_div, Nat.reduceEqDiff, Nat.reduceAdd, Nat.reduceMul, Nat.reduceSub, reduceIte, not_true_eq_false, not_false_eq_true, true_or, or_true, if_true, if_false, and_self, and_true, true_and, and_false, false_and, or_self, or_false, false_or, decide_true, decide_false, Bool.false_eq_true, Bool.true_eq_false, bI_t, bI_f, oS_1, ord, owA0, owF0, owF1, owA1, owF2, owA2, owF3, owA3, ywo, gfs11, pfs11, yrd, ywr, q143_7, q143_8, q143_11, q143_13, q143_14, q143_17, q143_18, q143_19, q143_21, q143_24, q143_27, q143_28, q143_30, q143_33, q143_36, q143_37, q143_40, q143_42, q143_43, q143_44, q143_45, q143_48, q143_49, q143_52, q143_53, q143_55, q143_57, q143_60, q143_61, q143_62, q143_65, q143_66, q143_69, q143_71, q143_72, q143_73, q143_76, q143_77, q143_78, q143_79, q143_82, q143_84, q143_87, q143_88, q143_89, q143_92, h139, h144, hc, eF, e12, hk2, h2, dec_S, Nat.reduceAdd]
          exact ⟨_, rfl⟩
        · have hc : candS V b k = true := by rw [hcand]; simp [h1, h2, h3]
          rcases hf with rfl | ⟨r, hr, rfl⟩
          · simp (disch := first | omega | (simp only [sgets, reduceIte, Nat.reduceEqDiff, e12, hk2, h2, dec_S, Nat.reduceAdd]; done) | omega) only [cS_1, crd, z_pv_some, z_wv_some, z_cv_v, z_cv_n, cwr, sgets, rc_O, ia_n, fa_n, is_n, fs_n, ↓mI_eq, lits, nI_add, nLe, nLt, nE, mI_ne, mI_ne', mI_lt, mI_le, mI_nlt, mI_nle, ne_eq, mI_addC, pk_sub, pk_mul, pk_div, Nat.reduceEqDiff, Nat.reduceAdd, Nat.reduceMul, Nat.reduceSub, reduceIte, not_true_eq_false, not_false_eq_true, true_or, or_true, if_true, if_false, and_self, and_true, true_and, and_false, false_and, or_self, or_false, false_or, decide_true, decide_false, Bool.false_eq_true, Bool.true_eq_false, bI_t, bI_f, oS_1, ord, owA0, owF0, owF1, owA1, owF2, owA2, owF3, owA3, ywo, gfs11, pfs11, yrd, ywr, q143_7, q143_8, q143_11, q143_13, q143_14, q143_17, q143_18, q143_19, q143_21, q143_24, q143_27, q143_28, q143_30, q143_33, q143_36, q143_37, q143_40, q143_42, q143_43, q143_44, q143_45, q143_48, q143_49, q143_52, q143_53, q143_55, q143_57, q143_60, q143_61, q143_62, q143_65, q143_66, q143_69, q143_71, q143_72, q143_73, q143_76, q143_77, q143_78, q143_79, q143_82, q143_84, q143_87, q143_88, q143_89, q143_92, h139, h144, hc, eF, e12, hk2, h2, dec_S, Nat.reduceAdd]
            exact ⟨_, rfl⟩
          · by_cases h4 : Op.cmpValue (FP.fcmp (V.2.2.2 0 k) (V.2.2.2 0 r)) .l ≤ nI 0
            · have h5 : ¬ nI 0 < Op.cmpValue (FP.fcmp (V.2.2.2 0 k) (V.2.2.2 0 r)) .l := Int32.not_lt.mpr h4
              simp (disch := first | omega | (simp only [sgets, reduceIte, Nat.reduceEqDiff, e12, hk2, h2, h4, h5, dec_S, Nat.reduceAdd]; done) | omega) only [cS_1, crd, z_pv_some, z_wv_some, z_cv_v, z_cv_n, cwr, sgets, rc_O, ia_n, fa_n, is_n, fs_n, ↓mI_eq, lits, nI_add, nLe, nLt, nE, mI_ne, mI_ne', mI_lt, mI_le, mI_nlt, mI_nle, ne_eq, mI_addC, pk_sub, pk_mul, pk_div, Nat.reduceEqDiff, Nat.reduceAdd, Nat.reduceMul, Nat.reduceSub, reduceIte, not_true_eq_false, not_false_eq_true, true_or, or_true, if_true, if_false, and_self, and_true, true_and, and_false, false_and, or_self, or_false, false_or, decide_true, decide_false, Bool.false_eq_true, Bool.true_eq_false, bI_t, bI_f, oS_1, ord, owA0, owF0, owF1, owA1, owF2, owA2, owF3, owA3, ywo, gfs11, pfs11, yrd, ywr, q143_7, q143_8, q143_11, q143_13, q143_14, q143_17, q143_18, q143_19, q143_21, q143_24, q143_27, q143_28, q143_30, q143_33, q143_36, q143_37, q143_40, q143_42, q143_43, q143_44, q143_45, q143_48, q143_49, q143_52, q143_53, q143_55, q143_57, q143_60, q143_61, q143_62, q143_65, q143_66, q143_69, q143_71, q143_72, q143_73, q143_76, q143_77, q143_78, q143_79, q143_82, q143_84, q143_87, q143_88, q143_89, q143_92, h139, h144, hc, eF, nI_clamp, e12, hk2, h2, h4, h5, dec_S, Nat.reduceAdd]
              exact ⟨_, rfl⟩
            · have h5 : nI 0 < Op.cmpValue (FP.fcmp (V.2.2.2 0 k) (V.2.2.2 0 r)) .l := Int32.not_le.mp h4
              simp (disch := first | omega | (simp only [sgets, reduceIte, Nat.reduceEqDiff, e12, hk2, h2, h4, h5, dec_S, Nat.reduceAdd]; done) | omega) only [cS_1, crd, z_pv_some, z_wv_some, z_cv_v, z_cv_n, cwr, sgets, rc_O, ia_n, fa_n, is_n, fs_n, ↓mI_eq, lits, nI_add, nLe, nLt, nE, mI_ne, mI_ne', mI_lt, mI_le, mI_nlt, mI_nle, ne_eq, mI_addC, pk_sub, pk_mul, pk_div, Nat.reduceEqDiff, Nat.reduceAdd, Nat.reduceMul, Nat.reduceSub, reduceIte, not_true_eq_false, not_false_eq_true, true_or, or_true, if_true, if_false, and_self, and_true, true_and, and_false, false_and, or_self, or_false, false_or, decide_true, decide_false, Bool.false_eq_true, Bool.true_eq_false, bI_t, bI_f, oS_1, ord, owA0, owF0, owF1, owA1, owF2, owA2, owF3, owA3, ywo, gfs11, pfs11, yrd, ywr, q143_7, q143_8, q143_11, q143_13, q143_14, q143_17, q143_18, q143_19, q143_21, q143_24, q143_27, q143_28, q143_30, q143_33, q143_36, q143_37, q143_40, q143_42, q143_43, q143_44, q143_45, q143_48, q143_49, q143_52, q143_53, q143_55, q143_57, q143_60, q143_61, q143_62, q143_65, q143_66, q143_69, q143_71, q143_72, q143_73, q143_76, q143_77, q143_78, q143_79, q143_82, q143_84, q143_87, q143_88, q143_89, q143_92, h139, h144, hc, eF, nI_clamp, e12, hk2, h2, h4, h5, dec_S, Nat.reduceAdd]
              exact ⟨_, rfl⟩
      · simp only [h1, not_false_eq_true, decide_true] at h144
        have hc : candS V b k = false := by rw [hcand]; simp [h1]
        simp (disch := first | omega | (simp only [sgets, reduceIte, Nat.reduceEqDiff, e12, hk2, dec_S, Nat.reduceAdd]; done) | omega) only [cS_1, crd, z_pv_some, z_wv_some, z_cv_v, z_cv_n, cwr, sgets, rc_O, ia_n, fa_n, is_n, fs_n, ↓mI_eq, lits, nI_add, nLe, nLt, nE, mI_ne, mI_ne', mI_lt, mI_le, mI_nlt, mI_nle, ne_eq, mI_addC, pk_sub, pk_mul, pk_div, Nat.reduceEqDiff, Nat.reduceAdd, Nat.reduceMul, Nat.reduceSub, reduceIte, not_true_eq_false, not_false_eq_true, true_or, or_true, if_true, if_false, and_self, and_true, true_and, and_false, false_and, or_self, or_false, false_or, decide_true, decide_false, Bool.false_eq_true, Bool.true_eq_false, bI_t, bI_f, oS_1, ord, owA0, owF0, owF1, owA1, owF2, owA2, owF3, owA3, ywo, gfs11, pfs11, yrd, ywr, q143_7, q143_8, q143_11, q143_13, q143_14, q143_17, q143_18, q143_19, q143_21, q143_24, q143_27, q143_28, q143_30, q143_33, q143_36, q143_37, q143_40, q143_42, q143_43, q143_44, q143_45, q143_48, q143_49, q143_52, q143_53, q143_55, q143_57, q143_60, q143_61, q143_62, q143_65, q143_66, q143_69, q143_71, q143_72, q143_73, q143_76, q143_77, q143_78, q143_79, q143_82, q143_84, q143_87, q143_88, q143_89, q143_92, h139, h144, hc, eF, e12, hk2, dec_S, Nat.reduceAdd]
        exact ⟨_, rfl⟩) (by
    intro k f hk hf
    show (if _ then _ else _) = mI ∨ _
    split
    · exact Or.inr ⟨k, by omega, rfl⟩
    · rcases hf with hf | ⟨r, hr, hf⟩
      · exact Or.inl hf
      · exact Or.inr ⟨r, by omega, hf⟩) (by
    intro f j hf
    rw [q143_5]
    simp (disch := first | omega | (simp only [sgets, reduceIte, Nat.reduceEqDiff, e12, dec_S, Nat.reduceAdd]; done) | omega) only [cS_1, crd, z_pv_some, z_wv_some, z_cv_v, z_cv_n, cwr, sgets, rc_O, ia_n, fa_n, is_n, fs_n, ↓mI_eq, lits, nI_add, nLe, nLt, nE, mI_ne, mI_ne', mI_lt, mI_le, mI_nlt, mI_nle, ne_eq, mI_addC, pk_sub, pk_mul, pk_div, Nat.reduceEqDiff, Nat.reduceAdd, Nat.reduceMul, Nat.reduceSub, reduceIte, not_true_eq_false, not_false_eq_true, true_or, or_true, if_true, if_false, and_self, and_true, true_and, and_false, false_and, or_self, or_false, false_or, decide_true, decide_false, Bool.false_eq_true, Bool.true_eq_false, bI_t, bI_f, oS_1, ord, owA0, owF0, owF1, owA1, owF2, owA2, owF3, owA3, ywo, gfs11, pfs11, yrd, ywr, q143_7, q143_8, q143_11, q143_13, q143_14, q143_17, q143_18, q143_19, q143_21, q143_24, q143_27, q143_28, q143_30, q143_33, q143_36, q143_37, q143_40, q143_42, q143_43, q143_44, q143_45, q143_48, q143_49, q143_52, q143_53, q143_55, q143_57, q143_60, q143_61, q143_62, q143_65, q143_66, q143_69, q143_71, q143_72, q143_73, q143_76, q143_77, q143_78, q143_79, q143_82, q143_84, q143_87, q143_88, q143_89, q143_92, q143_95, q143_96, Nat.le_refl, e12, dec_S, Nat.reduceAdd]) mI none (Or.inl rfl)
  have e0 : z_ex 143 (yS M o Y w).1 0 [some (.ref o), some (.int (nI b)), some (.float V.2.1), none, none, none] [] (yS M o Y w) = z_ex 143 M.1 5 [some (.ref o), some (.int (nI b)), some (.float V.2.1), some (.int mI), some (.int (nI 0)), none] [] (yS M o Y w) := by
    simp (disch := first | omega | (simp only [sgets, reduceIte, Nat.reduceEqDiff, dec_S, Nat.reduceAdd]; done) | omega) only [cS_1, crd, z_pv_some, z_wv_some, z_cv_v, z_cv_n, cwr, sgets, rc_O, ia_n, fa_n, is_n, fs_n, ↓mI_eq, lits, nI_add, nLe, nLt, nE, mI_ne, mI_ne', mI_lt, mI_le, mI_nlt, mI_nle, ne_eq, mI_addC, pk_sub, pk_mul, pk_div, Nat.reduceEqDiff, Nat.reduceAdd, Nat.reduceMul, Nat.reduceSub, reduceIte, not_true_eq_false, not_false_eq_true, true_or, or_true, if_true, if_false, and_self, and_true, true_and, and_false, false_and, or_self, or_false, false_or, decide_true, decide_false, Bool.false_eq_true, Bool.true_eq_false, bI_t, bI_f, oS_1, ord, owA0, owF0, owF1, owA1, owF2, owA2, owF3, owA3, ywo, gfs11, pfs11, yrd, ywr, q143_0, q143_1, q143_2, q143_3, dec_S, Nat.reduceAdd]
  rw [e0]
  exact hl.1
/-! speakers: set, cleared -/
theorem Rl_t {c J S Hy B : Nat} {V Y : z_V} (h : Rl c J S Hy B V Y) (f g : Nat → Int32) (hT : rT J B (sA V 9 f) (sA Y 3 g)) : Rl c J S Hy B (sA V 9 f) (sA Y 3 g) := by
  obtain ⟨⟨q1, q2, q3, q4, q5, q6, q7, q8, q9, q10, q11⟩, hfl, hSB, r1, r2, r3, r4, r5, r6, r7⟩ := h
  exact ⟨⟨q1, q2, q3, q4, q5, q6, q7, q8, q9, q10, q11⟩, hfl, hSB, r1, r2, r3, hT, r5, r6, r7⟩
theorem s140 (M : z_M) (o : Nat) (w : Int64) {c J S Hy B : Nat} {V Y : z_V} (h : Rl c J S Hy B V Y) {b p : Nat} (hb : b < 8) (hp : p < J) (h9 : V.2.2.1 9 p = nI b) : ∃ Z, z_cl 140 [.ref o, .int (nI b), .int (nI p)] (yS M o Y w) = some (none, yS M o Z w) ∧ Rl c J S Hy B (dropS V p) Z ∧ kY Y Z := by
  have hJ := (Rl_J h).1
  have hT := h.2.2.2.2.2.2.1
  have hR : Rl c J S Hy B (sA V 9 (upd (V.2.2.1 9) p mI)) (sA Y 3 (upd (Y.2.2.1 3) b (Y.2.2.1 3 b &&& ((nI 1 <<< (nI p &&& nI 31)) ^^^ mI)))) := by
    refine Rl_t h _ _ (fun r hr => ?_)
    obtain ⟨t1, t2, t3⟩ := hT r hr
    show (upd (V.2.2.1 9) p mI r = mI ∨ ∃ d, d < B ∧ upd (V.2.2.1 9) p mI r = nI d) ∧ (J ≤ r → upd (V.2.2.1 9) p mI r = mI) ∧ ∀ d, d < 8 → tb (upd (Y.2.2.1 3) b (Y.2.2.1 3 b &&& ((nI 1 <<< (nI p &&& nI 31)) ^^^ mI)) d) r = decide (upd (V.2.2.1 9) p mI r = nI d)
    by_cases cp : r = p
    · subst cp
      rw [upd_eq]
      refine ⟨Or.inl rfl, fun _ => rfl, fun d hd => ?_⟩
      rw [dmI (by omega)]
      by_cases cd : d = b
      · subst cd
        rw [upd_eq, tb_clr (by omega) (by omega)]
        simp
      · rw [upd_ne _ _ cd, t3 d hd, h9, dnI (by omega) (by omega)]
        simp
        exact fun e => cd e.symm
    · rw [upd_ne _ _ cp]
      refine ⟨t1, t2, fun d hd => ?_⟩
      by_cases cd : d = b
      · subst cd
        rw [upd_eq, tb_clr (by omega) (by omega), t3 d hd]
        simp [cp]
      · rw [upd_ne _ _ cd, t3 d hd]
  have g1 := m117 M o Y w b 3 hb (by omega)
  have g2 := m113 M o Y w b 3 hb (by omega) (Y.2.2.1 3 b &&& ((nI 1 <<< (nI p &&& nI 31)) ^^^ mI))
  have g3 := m135r M o w hR (nI 5) (nI p)
  refine ⟨_, ?_, Rl_ev hR (nI 5) (nI p), (show kY Y (sA Y 3 (upd (Y.2.2.1 3) b (Y.2.2.1 3 b &&& ((nI 1 <<< (nI p &&& nI 31)) ^^^ mI)))) from ⟨fun _ _ => rfl, ⟨rfl, rfl⟩, rfl, rfl⟩).tr (kY_note _ _ _)⟩
  rw [e140]
  simp (disch := first | omega | (simp only [sgets, reduceIte, Nat.reduceEqDiff, dec_S, Nat.reduceAdd]; done) | omega) only [cS_1, crd, z_pv_some, z_wv_some, z_cv_v, z_cv_n, cwr, sgets, rc_O, ia_n, fa_n, is_n, fs_n, ↓mI_eq, lits, nI_add, nLe, nLt, nE, mI_ne, mI_ne', mI_lt, mI_le, mI_nlt, mI_nle, ne_eq, mI_addC, pk_sub, pk_mul, pk_div, Nat.reduceEqDiff, Nat.reduceAdd, Nat.reduceMul, Nat.reduceSub, reduceIte, not_true_eq_false, not_false_eq_true, true_or, or_true, if_true, if_false, and_self, and_true, true_and, and_false, false_and, or_self, or_false, false_or, decide_true, decide_false, Bool.false_eq_true, Bool.true_eq_false, bI_t, bI_f, oS_1, ord, owA0, owF0, owF1, owA1, owF2, owA2, owF3, owA3, ywo, gfs11, pfs11, yrd, ywr, b140, g1, g2, g3, dec_S, Nat.reduceAdd]
theorem s145 (M : z_M) (o : Nat) (w : Int64) {c J S Hy B : Nat} {V Y : z_V} (h : Rl c J S Hy B V Y) {b p : Nat} (hb : b < B) (hp : p < J) (h9 : V.2.2.1 9 p = mI) : ∃ Z, z_cl 145 [.ref o, .int (nI b), .int (nI p)] (yS M o Y w) = some (none, yS M o Z w) ∧ Rl c J S Hy B (chooS V b p) Z ∧ kY Y Z := by
  have hJ := (Rl_J h).1
  have hB := (Rl_11 h).1
  have hT := h.2.2.2.2.2.2.1
  have hR : Rl c J S Hy B (sA V 9 (upd (V.2.2.1 9) p (nI b))) (sA Y 3 (upd (Y.2.2.1 3) b (Y.2.2.1 3 b ||| (nI 1 <<< (nI p &&& nI 31))))) := by
    refine Rl_t h _ _ (fun r hr => ?_)
    obtain ⟨t1, t2, t3⟩ := hT r hr
    show (upd (V.2.2.1 9) p (nI b) r = mI ∨ ∃ d, d < B ∧ upd (V.2.2.1 9) p (nI b) r = nI d) ∧ (J ≤ r → upd (V.2.2.1 9) p (nI b) r = mI) ∧ ∀ d, d < 8 → tb (upd (Y.2.2.1 3) b (Y.2.2.1 3 b ||| (nI 1 <<< (nI p &&& nI 31))) d) r = decide (upd (V.2.2.1 9) p (nI b) r = nI d)
    by_cases cp : r = p
    · subst cp
      rw [upd_eq]
      refine ⟨Or.inr ⟨b, hb, rfl⟩, fun q => absurd q (by omega), fun d hd => ?_⟩
      rw [dnI (by omega) (by omega)]
      by_cases cd : d = b
      · subst cd
        rw [upd_eq, tb_set (by omega) (by omega)]
        simp
      · rw [upd_ne _ _ cd, t3 d hd, h9, dmI (by omega)]
        simp
        exact fun e => cd e.symm
    · rw [upd_ne _ _ cp]
      refine ⟨t1, t2, fun d hd => ?_⟩
      by_cases cd : d = b
      · subst cd
        rw [upd_eq, tb_set (by omega) (by omega), t3 d hd]
        simp [cp]
      · rw [upd_ne _ _ cd, t3 d hd]
  have g1 := m117 M o Y w b 3 (by omega) (by omega)
  have g2 := m113 M o Y w b 3 (by omega) (by omega) (Y.2.2.1 3 b ||| (nI 1 <<< (nI p &&& nI 31)))
  have g3 := m135r M o w hR (nI 1) (nI p)
  refine ⟨_, ?_, Rl_ev hR (nI 1) (nI p), (show kY Y (sA Y 3 (upd (Y.2.2.1 3) b (Y.2.2.1 3 b ||| (nI 1 <<< (nI p &&& nI 31))))) from ⟨fun _ _ => rfl, ⟨rfl, rfl⟩, rfl, rfl⟩).tr (kY_note _ _ _)⟩
  rw [e145]
  simp (disch := first | omega | (simp only [sgets, reduceIte, Nat.reduceEqDiff, dec_S, Nat.reduceAdd]; done) | omega) only [cS_1, crd, z_pv_some, z_wv_some, z_cv_v, z_cv_n, cwr, sgets, rc_O, ia_n, fa_n, is_n, fs_n, ↓mI_eq, lits, nI_add, nLe, nLt, nE, mI_ne, mI_ne', mI_lt, mI_le, mI_nlt, mI_nle, ne_eq, mI_addC, pk_sub, pk_mul, pk_div, Nat.reduceEqDiff, Nat.reduceAdd, Nat.reduceMul, Nat.reduceSub, reduceIte, not_true_eq_false, not_false_eq_true, true_or, or_true, if_true, if_false, and_self, and_true, true_and, and_false, false_and, or_self, or_false, false_or, decide_true, decide_false, Bool.false_eq_true, Bool.true_eq_false, bI_t, bI_f, oS_1, ord, owA0, owF0, owF1, owA1, owF2, owA2, owF3, owA3, ywo, gfs11, pfs11, yrd, ywr, b145, g1, g2, g3, dec_S, Nat.reduceAdd]
