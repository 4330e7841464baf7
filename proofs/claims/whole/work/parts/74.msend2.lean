/-! the model's tick: streams sent over all links -/
def arrY (Y : z_V) : z_V := sF (sA (sA (sA Y 20 (Y.2.2.1 25)) 21 (Y.2.2.1 26)) 22 (Y.2.2.1 27)) 2 (Y.2.2.2 6)
theorem way_cs {V : z_V} {y x w : Nat} (hy : y < 8) (hx : x < 8) (hw : w < 16) (h : way V y x = nI w) : (w = y ∧ V.2.2.1 0 y = nI x) ∨ (w = 8 + x ∧ V.2.2.1 0 x = nI y ∧ ¬ V.2.2.1 0 y = nI x) := by
  unfold way at h
  by_cases c1 : V.2.2.1 0 y = nI x
  · rw [if_pos c1, nE (by omega) (by omega)] at h
    exact Or.inl ⟨h.symm, c1⟩
  · rw [if_neg c1] at h
    by_cases c2 : V.2.2.1 0 x = nI y
    · rw [if_pos c2, nE (by omega) (by omega)] at h
      exact Or.inr ⟨h.symm, c2, c1⟩
    · rw [if_neg c2, mI_ne' (by omega)] at h
      exact h.elim
theorem way_inj {V : z_V} {y x y' x' w : Nat} (hy : y < 8) (hx : x < 8) (hy' : y' < 8) (hx' : x' < 8) (hw : w < 16) (h : way V y x = nI w) (h' : way V y' x' = nI w) : y = y' ∧ x = x' := by
  rcases way_cs hy hx hw h with ⟨a1, a2⟩ | ⟨a1, a2, a3⟩
  · rcases way_cs hy' hx' hw h' with ⟨b1, b2⟩ | ⟨b1, b2, b3⟩
    · have e : y = y' := by omega
      subst e
      rw [a2, nE (by omega) (by omega)] at b2
      exact ⟨rfl, b2⟩
    · omega
  · rcases way_cs hy' hx' hw h' with ⟨b1, b2⟩ | ⟨b1, b2, b3⟩
    · omega
    · have e : x = x' := by omega
      subst e
      rw [a2, nE (by omega) (by omega)] at b2
      exact ⟨b2, rfl⟩
theorem par_lt {B : Nat} {V Y : z_V} (h : rG B V Y) (hB : B ≤ 8) {b a : Nat} (hb : b < B) (ha : a < 8) (e : V.2.2.1 0 b = nI a) : a < b := by
  obtain ⟨-, -, -, h4, h5⟩ := h
  by_cases c : b = 0
  · rw [c, h4, mI_ne' (by omega)] at e
    exact e.elim
  · obtain ⟨a', h6, h7⟩ := h5 b (by omega) hb
    rw [h7, nE (by omega) (by omega)] at e
    omega
section
variable (M : z_M) (o : Nat) (u : Int64) {c J S Hy B : Nat}
theorem m150 {V Y : z_V} (h : Rl c J S Hy B V Y) {x y : Nat} (hx : x < B) (hy : y < B) : z_cl 150 [.ref o, .int (nI x), .int (nI y)] (yS M o Y u) = some (some (.int (bI (decide (¬ way V y x = mI)))), yS M o Y u) := by
  have hB := (Rl_11 h).1
  have g1 := m117 M o Y u x 0 (by omega) (by omega)
  have g2 := m117 M o Y u y 0 (by omega) (by omega)
  have e0 : Y.2.2.1 0 = V.2.2.1 0 := h.2.2.2.2.1.2.2.2.2.2.2.2.2.1
  rw [e0] at g1 g2
  have hG := h.2.2.2.2.2.2.2.2.2
  rw [e150]
  unfold way
  by_cases c0 : x = y
  · subst c0
    have c1 : ¬ V.2.2.1 0 x = nI x := fun e => absurd (par_lt hG hB hx (by omega) e) (by omega)
    rw [if_neg c1, if_neg c1, show decide (¬ mI = mI) = false by simp]
    simp (disch := first | omega | (simp only [sgets, reduceIte, Nat.reduceEqDiff, dec_S, Nat.reduceAdd]; done) | omega) only [cS_1, crd, z_pv_some, z_wv_some, z_cv_v, z_cv_n, cwr, sgets, rc_O, ia_n, fa_n, is_n, fs_n, ↓mI_eq, lits, nI_add, nLe, nLt, nE, mI_ne, mI_ne', mI_lt, mI_le, mI_nlt, mI_nle, ne_eq, mI_addC, pk_sub, pk_mul, pk_div, Nat.reduceEqDiff, Nat.reduceAdd, Nat.reduceMul, Nat.reduceSub, reduceIte, not_true_eq_false, not_false_eq_true, true_or, or_true, if_true, if_false, and_self, and_true, true_and, and_false, false_and, or_self, or_false, false_or, decide_true, decide_false, Bool.false_eq_true, Bool.true_eq_false, bI_t, bI_f, oS_1, ord, owA0, owF0, owF1, owA1, owF2, owA2, owF3, owA3, ywo, gfs11, pfs11, yrd, ywr, b150, dec_S, Nat.reduceAdd]
  · by_cases c1 : V.2.2.1 0 y = nI x
    · rw [if_pos c1, show decide (¬ nI y = mI) = true by simp [mI_ne (show y < 2 ^ 31 by omega)]]
      by_cases c2 : V.2.2.1 0 x = nI y
      · simp (disch := first | omega | (simp only [sgets, reduceIte, Nat.reduceEqDiff, c0, c1, c2, dec_S, Nat.reduceAdd]; done) | omega) only [cS_1, crd, z_pv_some, z_wv_some, z_cv_v, z_cv_n, cwr, sgets, rc_O, ia_n, fa_n, is_n, fs_n, ↓mI_eq, lits, nI_add, nLe, nLt, nE, mI_ne, mI_ne', mI_lt, mI_le, mI_nlt, mI_nle, ne_eq, mI_addC, pk_sub, pk_mul, pk_div, Nat.reduceEqDiff, Nat.reduceAdd, Nat.reduceMul, Nat.reduceSub, reduceIte, not_true_eq_false, not_false_eq_true, true_or, or_true, if_true, if_false, and_self, and_true, true_and, and_false, false_and, or_self, or_false, false_or, decide_true, decide_false, Bool.false_eq_true, Bool.true_eq_false, bI_t, bI_f, oS_1, ord, owA0, owF0, owF1, owA1, owF2, owA2, owF3, owA3, ywo, gfs11, pfs11, yrd, ywr, b150, g1, g2, c0, c1, c2, dec_S, Nat.reduceAdd]
      · simp (disch := first | omega | (simp only [sgets, reduceIte, Nat.reduceEqDiff, c0, c1, c2, dec_S, Nat.reduceAdd]; done) | omega) only [cS_1, crd, z_pv_some, z_wv_some, z_cv_v, z_cv_n, cwr, sgets, rc_O, ia_n, fa_n, is_n, fs_n, ↓mI_eq, lits, nI_add, nLe, nLt, nE, mI_ne, mI_ne', mI_lt, mI_le, mI_nlt, mI_nle, ne_eq, mI_addC, pk_sub, pk_mul, pk_div, Nat.reduceEqDiff, Nat.reduceAdd, Nat.reduceMul, Nat.reduceSub, reduceIte, not_true_eq_false, not_false_eq_true, true_or, or_true, if_true, if_false, and_self, and_true, true_and, and_false, false_and, or_self, or_false, false_or, decide_true, decide_false, Bool.false_eq_true, Bool.true_eq_false, bI_t, bI_f, oS_1, ord, owA0, owF0, owF1, owA1, owF2, owA2, owF3, owA3, ywo, gfs11, pfs11, yrd, ywr, b150, g1, g2, c0, c1, c2, dec_S, Nat.reduceAdd]
    · rw [if_neg c1]
      by_cases c2 : V.2.2.1 0 x = nI y
      · rw [if_pos c2, show decide (¬ nI (8 + x) = mI) = true by simp [mI_ne (show 8 + x < 2 ^ 31 by omega)]]
        simp (disch := first | omega | (simp only [sgets, reduceIte, Nat.reduceEqDiff, c0, c1, c2, dec_S, Nat.reduceAdd]; done) | omega) only [cS_1, crd, z_pv_some, z_wv_some, z_cv_v, z_cv_n, cwr, sgets, rc_O, ia_n, fa_n, is_n, fs_n, ↓mI_eq, lits, nI_add, nLe, nLt, nE, mI_ne, mI_ne', mI_lt, mI_le, mI_nlt, mI_nle, ne_eq, mI_addC, pk_sub, pk_mul, pk_div, Nat.reduceEqDiff, Nat.reduceAdd, Nat.reduceMul, Nat.reduceSub, reduceIte, not_true_eq_false, not_false_eq_true, true_or, or_true, if_true, if_false, and_self, and_true, true_and, and_false, false_and, or_self, or_false, false_or, decide_true, decide_false, Bool.false_eq_true, Bool.true_eq_false, bI_t, bI_f, oS_1, ord, owA0, owF0, owF1, owA1, owF2, owA2, owF3, owA3, ywo, gfs11, pfs11, yrd, ywr, b150, g1, g2, c0, c1, c2, dec_S, Nat.reduceAdd]
      · rw [if_neg c2, show decide (¬ mI = mI) = false by simp]
        simp (disch := first | omega | (simp only [sgets, reduceIte, Nat.reduceEqDiff, c0, c1, c2, dec_S, Nat.reduceAdd]; done) | omega) only [cS_1, crd, z_pv_some, z_wv_some, z_cv_v, z_cv_n, cwr, sgets, rc_O, ia_n, fa_n, is_n, fs_n, ↓mI_eq, lits, nI_add, nLe, nLt, nE, mI_ne, mI_ne', mI_lt, mI_le, mI_nlt, mI_nle, ne_eq, mI_addC, pk_sub, pk_mul, pk_div, Nat.reduceEqDiff, Nat.reduceAdd, Nat.reduceMul, Nat.reduceSub, reduceIte, not_true_eq_false, not_false_eq_true, true_or, or_true, if_true, if_false, and_self, and_true, true_and, and_false, false_and, or_self, or_false, false_or, decide_true, decide_false, Bool.false_eq_true, Bool.true_eq_false, bI_t, bI_f, oS_1, ord, owA0, owF0, owF1, owA1, owF2, owA2, owF3, owA3, ywo, gfs11, pfs11, yrd, ywr, b150, g1, g2, c0, c1, c2, dec_S, Nat.reduceAdd]
theorem m152 {V Y : z_V} (h : Rl c J S Hy B V Y) {x y w : Nat} (hx : x < B) (hy : y < B) (hw : w < 16) (hwy : way V y x = nI w) : z_cl 152 [.ref o, .int (nI x), .int (nI y)] (yS M o Y u) = some (some (.int (V.2.2.1 1 (if w < 8 then w else w - 8))), yS M o Y u) := by
  have hB := (Rl_11 h).1
  have g0 := m117 M o Y u x 0 (by omega) (by omega)
  have g1 := m117 M o Y u x 1 (by omega) (by omega)
  have g2 := m117 M o Y u y 1 (by omega) (by omega)
  have e0 : Y.2.2.1 0 = V.2.2.1 0 := h.2.2.2.2.1.2.2.2.2.2.2.2.2.1
  have e1 : Y.2.2.1 1 = V.2.2.1 1 := h.2.2.2.2.1.2.2.2.2.2.2.2.2.2.1
  rw [e0] at g0
  rw [e1] at g1 g2
  have hG := h.2.2.2.2.2.2.2.2.2
  rw [e152]
  rcases way_cs (by omega) (by omega) hw hwy with ⟨a1, a2⟩ | ⟨a1, a2, a3⟩
  · subst a1
    have c1 : ¬ V.2.2.1 0 x = nI w := fun e => by
      have := par_lt hG hB hx (by omega) e
      have := par_lt hG hB hy (by omega) a2
      omega
    rw [if_pos (by omega)]
    simp (disch := first | omega | (simp only [sgets, reduceIte, Nat.reduceEqDiff, c1, dec_S, Nat.reduceAdd]; done) | omega) only [cS_1, crd, z_pv_some, z_wv_some, z_cv_v, z_cv_n, cwr, sgets, rc_O, ia_n, fa_n, is_n, fs_n, ↓mI_eq, lits, nI_add, nLe, nLt, nE, mI_ne, mI_ne', mI_lt, mI_le, mI_nlt, mI_nle, ne_eq, mI_addC, pk_sub, pk_mul, pk_div, Nat.reduceEqDiff, Nat.reduceAdd, Nat.reduceMul, Nat.reduceSub, reduceIte, not_true_eq_false, not_false_eq_true, true_or, or_true, if_true, if_false, and_self, and_true, true_and, and_false, false_and, or_self, or_false, false_or, decide_true, decide_false, Bool.false_eq_true, Bool.true_eq_false, bI_t, bI_f, oS_1, ord, owA0, owF0, owF1, owA1, owF2, owA2, owF3, owA3, ywo, gfs11, pfs11, yrd, ywr, b152, g0, g1, g2, c1, dec_S, Nat.reduceAdd]
  · subst a1
    rw [if_neg (by omega), Nat.add_sub_cancel_left]
    simp (disch := first | omega | (simp only [sgets, reduceIte, Nat.reduceEqDiff, a2, dec_S, Nat.reduceAdd]; done) | omega) only [cS_1, crd, z_pv_some, z_wv_some, z_cv_v, z_cv_n, cwr, sgets, rc_O, ia_n, fa_n, is_n, fs_n, ↓mI_eq, lits, nI_add, nLe, nLt, nE, mI_ne, mI_ne', mI_lt, mI_le, mI_nlt, mI_nle, ne_eq, mI_addC, pk_sub, pk_mul, pk_div, Nat.reduceEqDiff, Nat.reduceAdd, Nat.reduceMul, Nat.reduceSub, reduceIte, not_true_eq_false, not_false_eq_true, true_or, or_true, if_true, if_false, and_self, and_true, true_and, and_false, false_and, or_self, or_false, false_or, decide_true, decide_false, Bool.false_eq_true, Bool.true_eq_false, bI_t, bI_f, oS_1, ord, owA0, owF0, owF1, owA1, owF2, owA2, owF3, owA3, ywo, gfs11, pfs11, yrd, ywr, b152, g0, g1, g2, a2, dec_S, Nat.reduceAdd]
theorem s151 {V Y : z_V} (h : Rl c J S Hy B V Y) {x y w : Nat} (hx : x < B) (hy : y < B) (hw : w < 16) (hwy : way V y x = nI w) (U : z_V) (hz : U.2.2.1 1 w = nI 0) : ∃ Z k', z_cl 151 [.ref o, .int (nI x), .int (nI y)] (yS M o Y u) = some (none, yS M o Z u) ∧ k' ≤ 4 ∧ (senN V J B x y U).2.2.1 1 w = nI k' ∧ Z.2.2.1 25 (8 * y + x) = nI k' ∧ eL w (8 * y + x) k' (senN V J B x y U) Z ∧ kW w U (senN V J B x y U) ∧ (Z.1 = Y.1 ∧ (∀ a, a ≠ 24 → a ≠ 25 → a ≠ 26 → a ≠ 27 → Z.2.2.1 a = Y.2.2.1 a) ∧ (∀ a, a ≠ 5 → a ≠ 6 → Z.2.2.2 a = Y.2.2.2 a) ∧ (∀ m, m ≠ 8 * y + x → Z.2.2.1 25 m = Y.2.2.1 25 m) ∧ ∀ m i, m ≠ 8 * y + x → i < 4 → Z.2.2.1 26 (4 * m + i) = Y.2.2.1 26 (4 * m + i) ∧ Z.2.2.1 27 (4 * m + i) = Y.2.2.1 27 (4 * m + i) ∧ Z.2.2.2 6 (4 * m + i) = Y.2.2.2 6 (4 * m + i)) := by
  have hB := (Rl_11 h).1
  have hJ := (Rl_J h).1
  have hpl := h.1.2.2.2.2.2.2.2.2.2.1
  obtain ⟨Z1, z1, z2, z3⟩ := s147 M o u h hx (nI y) U
  have h152 := m152 M o u (Rl_kG z2 h) hx hy hw hwy
  obtain ⟨P, hP, hPe⟩ := hpl (if w < 8 then w else w - 8) (by split <;> omega)
  rw [hPe] at h152
  obtain ⟨gk1, gk2⟩ := gath_keep V x (nI y) J B U
  have hz2 : (gath V x (nI y) J B U).2.2.1 1 w = nI 0 := by rw [gk1 1 (by omega)]; exact hz
  obtain ⟨Z2, k', b', j', y1, y2, y3, y4, y5, y6⟩ := sen_lp M o u hJ hw (show 8 * y + x < 64 by omega) hP (some (.int (nI x))) (some (.int (nI y))) P 0 (gath V x (nI y) J B U) Z1 (nI 0) none (by omega) z3 hz2 (fun i hi => by omega) (by rw [mI_ne (by omega)]; exact not_false)
  have hsen : senN V J B x y U = sendL w J P (gath V x (nI y) J B U) := by
    unfold senN
    rw [if_neg (by rw [hwy, mI_ne (by omega)]; exact not_false), hwy, nI_clamp (by omega), hPe, nI_clamp (by omega)]
  rw [hsen]
  refine ⟨sA Z2 25 (upd (Z2.2.2.1 25) (8 * y + x) (nI k')), k', ?_, y2, y3, by simp only [sgets, if_true]; rw [upd_eq], y4, ?_, ?_, ?_, ?_, ?_, ?_⟩
  · rw [e151]
    refine Eq.trans ?_ (y1.trans ?_)
    · simp (disch := first | omega | (simp only [sgets, reduceIte, Nat.reduceEqDiff, dec_S, Nat.reduceAdd]; done) | omega) only [cS_1, crd, z_pv_some, z_wv_some, z_cv_v, z_cv_n, cwr, sgets, rc_O, ia_n, fa_n, is_n, fs_n, ↓mI_eq, lits, nI_add, nLe, nLt, nE, mI_ne, mI_ne', mI_lt, mI_le, mI_nlt, mI_nle, ne_eq, mI_addC, pk_sub, pk_mul, pk_div, Nat.reduceEqDiff, Nat.reduceAdd, Nat.reduceMul, Nat.reduceSub, reduceIte, not_true_eq_false, not_false_eq_true, true_or, or_true, if_true, if_false, and_self, and_true, true_and, and_false, false_and, or_self, or_false, false_or, decide_true, decide_false, Bool.false_eq_true, Bool.true_eq_false, bI_t, bI_f, oS_1, ord, owA0, owF0, owF1, owA1, owF2, owA2, owF3, owA3, ywo, gfs11, pfs11, yrd, ywr, q151_0, q151_1, q151_2, q151_3, q151_6, q151_7, q151_8, q151_9, q151_12, q151_13, q151_15, q151_16, q151_17, q151_18, q151_19, q151_21, q151_22, q151_24, q151_25, z1, h152, dec_S, Nat.reduceAdd]
    · simp (disch := first | omega | (simp only [sgets, reduceIte, Nat.reduceEqDiff, dec_S, Nat.reduceAdd]; done) | omega) only [cS_1, crd, z_pv_some, z_wv_some, z_cv_v, z_cv_n, cwr, sgets, rc_O, ia_n, fa_n, is_n, fs_n, ↓mI_eq, lits, nI_add, nLe, nLt, nE, mI_ne, mI_ne', mI_lt, mI_le, mI_nlt, mI_nle, ne_eq, mI_addC, pk_sub, pk_mul, pk_div, Nat.reduceEqDiff, Nat.reduceAdd, Nat.reduceMul, Nat.reduceSub, reduceIte, not_true_eq_false, not_false_eq_true, true_or, or_true, if_true, if_false, and_self, and_true, true_and, and_false, false_and, or_self, or_false, false_or, decide_true, decide_false, Bool.false_eq_true, Bool.true_eq_false, bI_t, bI_f, oS_1, ord, owA0, owF0, owF1, owA1, owF2, owA2, owF3, owA3, ywo, gfs11, pfs11, yrd, ywr, q151_186, q151_187, q151_190, q151_192, q151_194, q151_195, q151_197, q151_198, dec_S, Nat.reduceAdd]
  · refine ⟨fun v a => ?_, fun v i a b => ?_⟩
    · rw [y5.1 v a, gk1 1 (by omega)]
    · obtain ⟨q1, q2, q3⟩ := y5.2 v i a b
      rw [q1, q2, q3, gk1 2 (by omega), gk1 3 (by omega), gk2 1 (by omega)]
      exact ⟨rfl, rfl, rfl⟩
  · exact y6.1.trans z2.1
  · intro a a1 a2 a3 a4
    simp only [sgets, a2, if_false]
    rw [y6.2.1 a a1 a3 a4, z2.2.1 a a1]
  · intro a a1 a2
    show Z2.2.2.2 a = _
    rw [y6.2.2.1 a a2, z2.2.2 a a1]
  · intro m hm
    simp only [sgets, if_true]
    rw [upd_ne _ _ hm, y6.2.1 25 (by omega) (by omega) (by omega), z2.2.1 25 (by omega)]
  · intro m i hm hi
    obtain ⟨q1, q2, q3⟩ := y6.2.2.2 m i hm hi
    refine ⟨q1.trans ?_, q2.trans ?_, q3.trans ?_⟩
    · rw [z2.2.1 26 (by omega)]
    · rw [z2.2.1 27 (by omega)]
    · rw [z2.2.2 6 (by omega)]
/-- one link more -/
theorem rG_st {V Y Z U U' : z_V} (hB : B ≤ 8) (hG : rG B (arrV' V U) (arrY Y)) {x y w k' : Nat} (hx : x < B) (hy : y < B) (hw : w < 16) (hwy : way V y x = nI w) (hk : k' ≤ 4) (e1 : U'.2.2.1 1 w = nI k') (e2 : Z.2.2.1 25 (8 * y + x) = nI k') (e3 : eL w (8 * y + x) k' U' Z) (kw : kW w U U') (k25 : ∀ m, m ≠ 8 * y + x → Z.2.2.1 25 m = Y.2.2.1 25 m) (kz : ∀ m i, m ≠ 8 * y + x → i < 4 → Z.2.2.1 26 (4 * m + i) = Y.2.2.1 26 (4 * m + i) ∧ Z.2.2.1 27 (4 * m + i) = Y.2.2.1 27 (4 * m + i) ∧ Z.2.2.2 6 (4 * m + i) = Y.2.2.2 6 (4 * m + i)) (hsz : ∀ v, v < 16 → ∃ n, n ≤ 4 ∧ U.2.2.1 1 v = nI n) : rG B (arrV' V U') (arrY Z) := by
  obtain ⟨g1, g2, g3, g4, g5⟩ := hG
  refine ⟨fun y' x' hy' hx' => ?_, fun b h1 h2 => ?_, fun y' x' h1 h2 h3 => ?_, g4, g5⟩
  · have g := g1 y' x' hy' hx'
    replace g : lkS (arrV' V U) (arrY Y) (8 * y' + x') (way V y' x') := g
    show lkS (arrV' V U') (arrY Z) (8 * y' + x') (way V y' x')
    by_cases cl : 8 * y' + x' = 8 * y + x
    · have ey : y' = y := by omega
      have ex : x' = x := by omega
      subst ey
      subst ex
      rw [hwy]
      refine ⟨fun q => ?_, fun v hv hv16 => ?_⟩
      · rw [mI_ne (by omega)] at q; exact q.elim
      · rw [nE (by omega) (by omega)] at hv
        subst hv
        refine ⟨e2.trans e1.symm, fun i hi => ?_⟩
        replace hi : i < (U'.2.2.1 1 w).toNatClampNeg := hi
        rw [e1, nI_clamp (by omega)] at hi
        exact e3 i hi
    · obtain ⟨q1, q2⟩ := g
      refine ⟨fun q => (k25 _ cl).trans (q1 q), fun v hv hv16 => ?_⟩
      have hvw : v ≠ w := by
        intro e
        rw [e] at hv
        obtain ⟨a1, a2⟩ := way_inj (by omega) (by omega) (by omega) (by omega) hw hwy hv
        omega
      obtain ⟨q3, q4⟩ := q2 v hv hv16
      replace q3 : Y.2.2.1 25 (8 * y' + x') = U.2.2.1 1 v := q3
      refine ⟨?_, fun i hi => ?_⟩
      · show Z.2.2.1 25 (8 * y' + x') = U'.2.2.1 1 v
        rw [k25 _ cl, kw.1 v hvw]; exact q3
      · replace hi : i < (U'.2.2.1 1 v).toNatClampNeg := hi
        rw [kw.1 v hvw] at hi
        obtain ⟨n, n1, n2⟩ := hsz v hv16
        have hi4 : i < 4 := by
          rw [n2, nI_clamp (by omega)] at hi
          omega
        obtain ⟨t1, t2, t3⟩ := q4 i hi
        obtain ⟨s1, s2, s3⟩ := kz _ i cl hi4
        obtain ⟨r1, r2, r3⟩ := kw.2 v i hvw hi4
        exact ⟨s1.trans (t1.trans r1.symm), s2.trans (t2.trans r2.symm), s3.trans (t3.trans r3.symm)⟩
  · obtain ⟨a1, a2⟩ := g2 b h1 h2
    replace a1 : U.2.2.1 1 b = nI 0 := a1
    replace a2 : U.2.2.1 1 (8 + b) = nI 0 := a2
    show U'.2.2.1 1 b = nI 0 ∧ U'.2.2.1 1 (8 + b) = nI 0
    have hc := way_cs (by omega) (by omega) hw hwy
    rw [kw.1 b (by omega), kw.1 (8 + b) (by omega)]
    exact ⟨a1, a2⟩
  · show Z.2.2.1 25 (8 * y' + x') = nI 0
    rw [k25 _ (by omega)]
    exact g3 y' x' h1 h2 h3
end
