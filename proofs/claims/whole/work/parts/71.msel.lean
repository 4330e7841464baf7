/-! the model's tick: a bridge selects -/
theorem quietF_no {P : Nat → Bool} {lo : Nat → UInt32} {n : Nat} (hn : n ≤ 20) (h : quietF P lo n = mI) : cnt P n = 0 := by
  induction n with
  | zero => rfl
  | succ n ih =>
    have e : quietF P lo (n + 1) = if P n = true ∧ (quietF P lo n = mI ∨ Op.cmpValue (FP.fcmp (lo n) (lo (quietF P lo n).toNatClampNeg)) .g ≤ nI 0) then nI n else quietF P lo n := rfl
    rw [e] at h
    by_cases hc : P n = true ∧ (quietF P lo n = mI ∨ Op.cmpValue (FP.fcmp (lo n) (lo (quietF P lo n).toNatClampNeg)) .g ≤ nI 0)
    · rw [if_pos hc, mI_ne (by omega)] at h
      exact h.elim
    · rw [if_neg hc] at h
      have hP : ¬ P n = true := fun hp => hc ⟨hp, Or.inl h⟩
      rw [cnt_s, ih (by omega) h, if_neg hP]
theorem drop_9 (V : z_V) (p : Nat) : (dropS V p).2.2.1 9 = upd (V.2.2.1 9) p mI := by
  unfold dropS
  rw [evAdd_A _ _ _ _ _ (by omega)]
  rfl
theorem choo_9 (V : z_V) (b p : Nat) : (chooS V b p).2.2.1 9 = upd (V.2.2.1 9) p (nI b) := by
  unfold chooS
  rw [evAdd_A _ _ _ _ _ (by omega)]
  rfl
theorem drop_cnt {V : z_V} {b p J : Nat} (hb : b < 8) (hp : p < J) (h9 : V.2.2.1 9 p = nI b) : cnt (fun k => decide (V.2.2.1 9 k = nI b)) J = cnt (fun k => decide ((dropS V p).2.2.1 9 k = nI b)) J + 1 := by
  rw [cnt_but (fun k => decide (V.2.2.1 9 k = nI b)) p J, if_pos ⟨hp, by simp [h9]⟩, drop_9]
  congr 1
  apply cnt_congr
  intro k hk
  by_cases cp : k = p
  · subst cp
    rw [upd_eq, dmI (by omega)]
    simp
  · rw [upd_ne _ _ cp]
    simp [cp]
theorem choo_cnt {V : z_V} {b p J : Nat} (hb : b < 8) (hp : p < J) (h9 : V.2.2.1 9 p = mI) : cnt (fun k => decide ((chooS V b p).2.2.1 9 k = nI b)) J = cnt (fun k => decide (V.2.2.1 9 k = nI b)) J + 1 := by
  have e1 := cnt_ins (P := fun k => decide (V.2.2.1 9 k = nI b)) (x := p) J (by rw [h9, dmI (by omega)])
  rw [if_pos hp] at e1
  rw [← e1, choo_9]
  apply cnt_congr
  intro k hk
  by_cases cp : k = p
  · rw [cp, upd_eq]; simp
  · rw [upd_ne _ _ cp]
    have : ¬ p = k := fun e => cp e.symm
    simp [this]
theorem kS_T {V W : z_V} (h : kS V W) : W.2.1 = V.2.1 := h.2.2.1
section
variable (M : z_M) (o : Nat) (w : Int64) {c J S Hy B : Nat}
theorem sel1 {V Y : z_V} (h : Rl c J S Hy B V Y) {b : Nat} (hb : b < B) (j4 : Option Value) : ∃ Z, z_ex 137 M.1 2 [some (.ref o), some (.int (nI b)), some (.float V.2.1), some (.int (nI 0)), j4] [] (yS M o Y w) = z_ex 137 M.1 58 [some (.ref o), some (.int (nI b)), some (.float V.2.1), some (.int (nI J)), j4] [] (yS M o Z w) ∧ Rl c J S Hy B (it (uStep b) J V) Z ∧ kY Y Z ∧ (it (uStep b) J V).2.1 = V.2.1 := by
  obtain ⟨Z, -, l1, l2, l3, l4⟩ := lp_rel (fun k (Y : z_V) (_ : Unit) => z_ex 137 M.1 2 [some (.ref o), some (.int (nI b)), some (.float V.2.1), some (.int (nI k)), j4] [] (yS M o Y w)) (uStep b) (fun _ V' Y' => Rl c J S Hy B V' Y' ∧ kY Y Y' ∧ V'.2.1 = V.2.1) J (by
    rintro k V' Y' - hk ⟨hR, hK, hT⟩
    have e12 := Rl_12 hR
    have hJ := (Rl_J hR).1
    have hB := (Rl_11 hR).1
    have hk2 : ¬ J ≤ k := by omega
    have h138 := m138r M o w hR (show b < 8 by omega) (show k < 20 by omega)
    have h139 := m139r M o w hR (show b < 8 by omega) hk
    have g5 := m116 M o Y' w k 5 (by omega) (by omega)
    simp only [Nat.reduceAdd] at g5
    have e9 : Y'.2.2.1 9 k = V'.2.2.1 7 k := by rw [hR.2.2.2.2.1.2.2.2.1]
    have e3 : Y'.1 3 = V'.1 3 := hR.2.2.2.1.2.2.2.1
    have kt := kS_T (kS_u hR.1.2.2.2.2.1 b k)
    by_cases h3 : V'.2.2.1 9 k = nI b
    · have h3' := eq_true h3
      simp only [h3', decide_true] at h138
      obtain ⟨Z, z1, z2, z3⟩ := s140 M o w hR (show b < 8 by omega) hk h3
      cases h1 : mayS V' b k with
      | false =>
        have hu : uStep b k V' = dropS V' k := by unfold uStep; rw [if_pos ⟨h3, Or.inl h1⟩]
        rw [h1] at h139
        refine ⟨Z, (), ?_, ?_, hK.tr z3, kt.trans hT⟩
        · rw [q137_2]
          simp (disch := first | omega | (simp only [sgets, reduceIte, Nat.reduceEqDiff, e12, hk2, dec_S, Nat.reduceAdd]; done) | omega) only [cS_1, crd, z_pv_some, z_wv_some, z_cv_v, z_cv_n, cwr, sgets, rc_O, ia_n, fa_n, is_n, fs_n, ↓mI_eq, lits, nI_add, nLe, nLt, nE, mI_ne, mI_ne', mI_lt, mI_le, mI_nlt, mI_nle, ne_eq, mI_addC, pk_sub, pk_mul, pk_div, Nat.reduceEqDiff, Nat.reduceAdd, Nat.reduceMul, Nat.reduceSub, reduceIte, not_true_eq_false, not_false_eq_true, true_or, or_true, if_true, if_false, and_self, and_true, true_and, and_false, false_and, or_self, or_false, false_or, decide_true, decide_false, Bool.false_eq_true, Bool.true_eq_false, bI_t, bI_f, oS_1, ord, owA0, owF0, owF1, owA1, owF2, owA2, owF3, owA3, ywo, gfs11, pfs11, yrd, ywr, q137_3, q137_4, q137_7, q137_9, q137_10, q137_13, q137_14, q137_15, q137_16, q137_19, q137_22, q137_23, q137_24, q137_25, q137_28, q137_31, q137_32, q137_33, q137_34, q137_37, q137_38, q137_41, q137_42, q137_43, q137_46, q137_47, q137_48, q137_49, q137_52, q137_55, h138, h139, z1, e12, hk2, dec_S, Nat.reduceAdd]
        · rw [hu]; exact z2
      | true =>
        rw [h1] at h139
        by_cases h2 : V'.2.2.1 7 k ≤ V'.1 3
        · have h2' : ¬ V'.1 3 < V'.2.2.1 7 k := Int32.not_lt.mpr h2
          have hu : uStep b k V' = V' := by unfold uStep; rw [if_neg (by simp [h1, h2'])]
          refine ⟨Y', (), ?_, ?_⟩
          · rw [q137_2]
            simp (disch := first | omega | (simp only [sgets, reduceIte, Nat.reduceEqDiff, e12, hk2, e9, e3, h2, dec_S, Nat.reduceAdd]; done) | omega) only [cS_1, crd, z_pv_some, z_wv_some, z_cv_v, z_cv_n, cwr, sgets, rc_O, ia_n, fa_n, is_n, fs_n, ↓mI_eq, lits, nI_add, nLe, nLt, nE, mI_ne, mI_ne', mI_lt, mI_le, mI_nlt, mI_nle, ne_eq, mI_addC, pk_sub, pk_mul, pk_div, Nat.reduceEqDiff, Nat.reduceAdd, Nat.reduceMul, Nat.reduceSub, reduceIte, not_true_eq_false, not_false_eq_true, true_or, or_true, if_true, if_false, and_self, and_true, true_and, and_false, false_and, or_self, or_false, false_or, decide_true, decide_false, Bool.false_eq_true, Bool.true_eq_false, bI_t, bI_f, oS_1, ord, owA0, owF0, owF1, owA1, owF2, owA2, owF3, owA3, ywo, gfs11, pfs11, yrd, ywr, q137_3, q137_4, q137_7, q137_9, q137_10, q137_13, q137_14, q137_15, q137_16, q137_19, q137_22, q137_23, q137_24, q137_25, q137_28, q137_31, q137_32, q137_33, q137_34, q137_37, q137_38, q137_41, q137_42, q137_43, q137_46, q137_47, q137_48, q137_49, q137_52, q137_55, h138, h139, g5, e12, hk2, e9, e3, h2, dec_S, Nat.reduceAdd]
          · rw [hu]; exact ⟨hR, hK, hT⟩
        · have h2' : V'.1 3 < V'.2.2.1 7 k := Int32.not_le.mp h2
          have hu : uStep b k V' = dropS V' k := by unfold uStep; rw [if_pos ⟨h3, Or.inr h2'⟩]
          refine ⟨Z, (), ?_, ?_, hK.tr z3, kt.trans hT⟩
          · rw [q137_2]
            simp (disch := first | omega | (simp only [sgets, reduceIte, Nat.reduceEqDiff, e12, hk2, e9, e3, h2, dec_S, Nat.reduceAdd]; done) | omega) only [cS_1, crd, z_pv_some, z_wv_some, z_cv_v, z_cv_n, cwr, sgets, rc_O, ia_n, fa_n, is_n, fs_n, ↓mI_eq, lits, nI_add, nLe, nLt, nE, mI_ne, mI_ne', mI_lt, mI_le, mI_nlt, mI_nle, ne_eq, mI_addC, pk_sub, pk_mul, pk_div, Nat.reduceEqDiff, Nat.reduceAdd, Nat.reduceMul, Nat.reduceSub, reduceIte, not_true_eq_false, not_false_eq_true, true_or, or_true, if_true, if_false, and_self, and_true, true_and, and_false, false_and, or_self, or_false, false_or, decide_true, decide_false, Bool.false_eq_true, Bool.true_eq_false, bI_t, bI_f, oS_1, ord, owA0, owF0, owF1, owA1, owF2, owA2, owF3, owA3, ywo, gfs11, pfs11, yrd, ywr, q137_3, q137_4, q137_7, q137_9, q137_10, q137_13, q137_14, q137_15, q137_16, q137_19, q137_22, q137_23, q137_24, q137_25, q137_28, q137_31, q137_32, q137_33, q137_34, q137_37, q137_38, q137_41, q137_42, q137_43, q137_46, q137_47, q137_48, q137_49, q137_52, q137_55, h138, h139, g5, z1, e12, hk2, e9, e3, h2, dec_S, Nat.reduceAdd]
          · rw [hu]; exact z2
    · simp only [h3, decide_false] at h138
      have hu : uStep b k V' = V' := by unfold uStep; rw [if_neg (fun q => h3 q.1)]
      refine ⟨Y', (), ?_, ?_⟩
      · rw [q137_2]
        simp (disch := first | omega | (simp only [sgets, reduceIte, Nat.reduceEqDiff, e12, hk2, dec_S, Nat.reduceAdd]; done) | omega) only [cS_1, crd, z_pv_some, z_wv_some, z_cv_v, z_cv_n, cwr, sgets, rc_O, ia_n, fa_n, is_n, fs_n, ↓mI_eq, lits, nI_add, nLe, nLt, nE, mI_ne, mI_ne', mI_lt, mI_le, mI_nlt, mI_nle, ne_eq, mI_addC, pk_sub, pk_mul, pk_div, Nat.reduceEqDiff, Nat.reduceAdd, Nat.reduceMul, Nat.reduceSub, reduceIte, not_true_eq_false, not_false_eq_true, true_or, or_true, if_true, if_false, and_self, and_true, true_and, and_false, false_and, or_self, or_false, false_or, decide_true, decide_false, Bool.false_eq_true, Bool.true_eq_false, bI_t, bI_f, oS_1, ord, owA0, owF0, owF1, owA1, owF2, owA2, owF3, owA3, ywo, gfs11, pfs11, yrd, ywr, q137_3, q137_4, q137_7, q137_9, q137_10, q137_13, q137_14, q137_15, q137_16, q137_19, q137_22, q137_23, q137_24, q137_25, q137_28, q137_31, q137_32, q137_33, q137_34, q137_37, q137_38, q137_41, q137_42, q137_43, q137_46, q137_47, q137_48, q137_49, q137_52, q137_55, h138, e12, hk2, dec_S, Nat.reduceAdd]
      · rw [hu]; exact ⟨hR, hK, hT⟩) V Y () ⟨h, kY.rf Y, rfl⟩
  have e12 := Rl_12 l2
  have hJ := (Rl_J l2).1
  refine ⟨Z, l1.trans ?_, l2, l3, l4⟩
  rw [q137_2]
  simp (disch := first | omega | (simp only [sgets, reduceIte, Nat.reduceEqDiff, e12, dec_S, Nat.reduceAdd]; done) | omega) only [cS_1, crd, z_pv_some, z_wv_some, z_cv_v, z_cv_n, cwr, sgets, rc_O, ia_n, fa_n, is_n, fs_n, ↓mI_eq, lits, nI_add, nLe, nLt, nE, mI_ne, mI_ne', mI_lt, mI_le, mI_nlt, mI_nle, ne_eq, mI_addC, pk_sub, pk_mul, pk_div, Nat.reduceEqDiff, Nat.reduceAdd, Nat.reduceMul, Nat.reduceSub, reduceIte, not_true_eq_false, not_false_eq_true, true_or, or_true, if_true, if_false, and_self, and_true, true_and, and_false, false_and, or_self, or_false, false_or, decide_true, decide_false, Bool.false_eq_true, Bool.true_eq_false, bI_t, bI_f, oS_1, ord, owA0, owF0, owF1, owA1, owF2, owA2, owF3, owA3, ywo, gfs11, pfs11, yrd, ywr, q137_3, q137_4, q137_7, q137_9, q137_10, Nat.le_refl, e12, dec_S, Nat.reduceAdd]
theorem Rl_0 {V Y : z_V} (h : Rl c J S Hy B V Y) : S ≤ 4 ∧ 1 ≤ S ∧ Y.1 0 = nI S := by
  obtain ⟨⟨-, ⟨hS, h1⟩, -⟩, hf, ⟨hS1, -⟩, s, -⟩ := h
  exact ⟨hS, hS1, by rw [s.2.1]; exact h1⟩
theorem sel2 {b : Nat} (hb : b < B) (x3 x4 : Option Value) (t : UInt32) : ∀ (d : Nat) (V Y : z_V), Rl c J S Hy B V Y → cnt (fun k => decide (V.2.2.1 9 k = nI b)) J - S = d → ∃ Z, z_ex 137 M.1 58 [some (.ref o), some (.int (nI b)), some (.float t), x3, x4] [] (yS M o Y w) = z_ex 137 M.1 85 [some (.ref o), some (.int (nI b)), some (.float t), x3, x4] [] (yS M o Z w) ∧ Rl c J S Hy B (surp b J d V) Z ∧ kY Y Z ∧ (surp b J d V).2.1 = V.2.1 := by
  intro d
  induction d with
  | zero =>
    intro V Y h hd
    have h141 := m141r M o w h (show b < 8 by have := (Rl_11 h).1; omega)
    obtain ⟨hS, hS1, e0⟩ := Rl_0 h
    have hle := cnt_le (fun k => decide (V.2.2.1 9 k = nI b)) J
    have hJ := (Rl_J h).1
    refine ⟨Y, ?_, h, kY.rf Y, rfl⟩
    generalize cnt (fun k => decide (V.2.2.1 9 k = nI b)) J = n at hd h141 hle
    have hn : n ≤ S := by omega
    rw [q137_58]
    simp (disch := first | omega | (simp only [sgets, reduceIte, Nat.reduceEqDiff, e0, hn, dec_S, Nat.reduceAdd]; done) | omega) only [cS_1, crd, z_pv_some, z_wv_some, z_cv_v, z_cv_n, cwr, sgets, rc_O, ia_n, fa_n, is_n, fs_n, ↓mI_eq, lits, nI_add, nLe, nLt, nE, mI_ne, mI_ne', mI_lt, mI_le, mI_nlt, mI_nle, ne_eq, mI_addC, pk_sub, pk_mul, pk_div, Nat.reduceEqDiff, Nat.reduceAdd, Nat.reduceMul, Nat.reduceSub, reduceIte, not_true_eq_false, not_false_eq_true, true_or, or_true, if_true, if_false, and_self, and_true, true_and, and_false, false_and, or_self, or_false, false_or, decide_true, decide_false, Bool.false_eq_true, Bool.true_eq_false, bI_t, bI_f, oS_1, ord, owA0, owF0, owF1, owA1, owF2, owA2, owF3, owA3, ywo, gfs11, pfs11, yrd, ywr, q137_59, q137_60, q137_63, q137_64, q137_67, q137_68, q137_69, h141, e0, hn, dec_S, Nat.reduceAdd]
  | succ d ih =>
    intro V Y h hd
    have hB := (Rl_11 h).1
    have h141 := m141r M o w h (show b < 8 by omega)
    have h142 := m142r M o w h (show b < 8 by omega)
    obtain ⟨hS, hS1, e0⟩ := Rl_0 h
    have hle := cnt_le (fun k => decide (V.2.2.1 9 k = nI b)) J
    have hJ := (Rl_J h).1
    rcases quietF_lt (fun k => decide (V.2.2.1 9 k = nI b)) (V.2.2.2 0) J with h0 | ⟨r, hr, h0, hPr⟩
    · have := quietF_no hJ h0
      omega
    · replace h0 : quietV V b J = nI r := h0
      rw [h0] at h142
      have h9 : V.2.2.1 9 r = nI b := of_decide_eq_true hPr
      obtain ⟨Z, z1, z2, z3⟩ := s140 M o w h (show b < 8 by omega) hr h9
      have hdc := drop_cnt (J := J) (show b < 8 by omega) hr h9
      obtain ⟨Z2, y1, y2, y3, y4⟩ := ih (dropS V r) Z z2 (by omega)
      unfold surp
      rw [h0, if_neg (by rw [mI_ne (by omega)]; exact not_false), nI_clamp (by omega)]
      refine ⟨Z2, ?_, y2, z3.tr y3, y4.trans (kS_T (kS_drop h.1.2.2.2.2.1 r))⟩
      generalize cnt (fun k => decide (V.2.2.1 9 k = nI b)) J = n at hd h141 hle
      have hn : ¬ n ≤ S := by omega
      rw [q137_58]
      simp (disch := first | omega | (simp only [sgets, reduceIte, Nat.reduceEqDiff, e0, hn, dec_S, Nat.reduceAdd]; done) | omega) only [cS_1, crd, z_pv_some, z_wv_some, z_cv_v, z_cv_n, cwr, sgets, rc_O, ia_n, fa_n, is_n, fs_n, ↓mI_eq, lits, nI_add, nLe, nLt, nE, mI_ne, mI_ne', mI_lt, mI_le, mI_nlt, mI_nle, ne_eq, mI_addC, pk_sub, pk_mul, pk_div, Nat.reduceEqDiff, Nat.reduceAdd, Nat.reduceMul, Nat.reduceSub, reduceIte, not_true_eq_false, not_false_eq_true, true_or, or_true, if_true, if_false, and_self, and_true, true_and, and_false, false_and, or_self, or_false, false_or, decide_true, decide_false, Bool.false_eq_true, Bool.true_eq_false, bI_t, bI_f, oS_1, ord, owA0, owF0, owF1, owA1, owF2, owA2, owF3, owA3, ywo, gfs11, pfs11, yrd, ywr, q137_59, q137_60, q137_63, q137_64, q137_67, q137_68, q137_69, q137_72, q137_73, q137_74, q137_75, q137_76, q137_79, q137_82, h141, h142, z1, y1, e0, hn, dec_S, Nat.reduceAdd]
theorem sel3 {b : Nat} (hb : b < B) (x4 : Option Value) : ∀ (d : Nat) (V Y : z_V), Rl c J S Hy B V Y → S - cnt (fun k => decide (V.2.2.1 9 k = nI b)) J = d → ∃ Z, z_ex 137 M.1 92 [some (.ref o), some (.int (nI b)), some (.float V.2.1), some (.int (loudV V b J)), x4] [] (yS M o Y w) = z_ex 137 M.1 127 [some (.ref o), some (.int (nI b)), some (.float V.2.1), some (.int (loudV (fillP b J d V) b J)), x4] [] (yS M o Z w) ∧ Rl c J S Hy B (fillP b J d V) Z ∧ kY Y Z ∧ (fillP b J d V).2.1 = V.2.1 ∧ (loudV (fillP b J d V) b J = mI ∨ S ≤ cnt (fun k => decide ((fillP b J d V).2.2.1 9 k = nI b)) J) := by
  intro d
  induction d with
  | zero =>
    intro V Y h hd
    have h141 := m141r M o w h (show b < 8 by have := (Rl_11 h).1; omega)
    obtain ⟨hS, hS1, e0⟩ := Rl_0 h
    have hle := cnt_le (fun k => decide (V.2.2.1 9 k = nI b)) J
    have hJ := (Rl_J h).1
    refine ⟨Y, ?_, h, kY.rf Y, rfl, Or.inr (by show S ≤ cnt (fun k => decide (V.2.2.1 9 k = nI b)) J; omega)⟩
    unfold fillP
    generalize cnt (fun k => decide (V.2.2.1 9 k = nI b)) J = n at hd h141 hle
    have hn : S ≤ n := by omega
    rw [q137_92]
    rcases loudF_lt (candS V b) (V.2.2.2 0) J with h0 | ⟨r, hr, h0, -⟩
    · replace h0 : loudV V b J = mI := h0
      rw [h0]
      simp (disch := first | omega | (simp only [sgets, reduceIte, Nat.reduceEqDiff, e0, hn, dec_S, Nat.reduceAdd]; done) | omega) only [cS_1, crd, z_pv_some, z_wv_some, z_cv_v, z_cv_n, cwr, sgets, rc_O, ia_n, fa_n, is_n, fs_n, ↓mI_eq, lits, nI_add, nLe, nLt, nE, mI_ne, mI_ne', mI_lt, mI_le, mI_nlt, mI_nle, ne_eq, mI_addC, pk_sub, pk_mul, pk_div, Nat.reduceEqDiff, Nat.reduceAdd, Nat.reduceMul, Nat.reduceSub, reduceIte, not_true_eq_false, not_false_eq_true, true_or, or_true, if_true, if_false, and_self, and_true, true_and, and_false, false_and, or_self, or_false, false_or, decide_true, decide_false, Bool.false_eq_true, Bool.true_eq_false, bI_t, bI_f, oS_1, ord, owA0, owF0, owF1, owA1, owF2, owA2, owF3, owA3, ywo, gfs11, pfs11, yrd, ywr, q137_93, q137_94, q137_97, q137_98, q137_99, q137_102, q137_103, q137_106, q137_107, q137_108, q137_111, q137_112, q137_113, q137_114, q137_117, q137_118, q137_119, q137_120, q137_123, q137_124, h141, e0, hn, dec_S, Nat.reduceAdd]
    · replace h0 : loudV V b J = nI r := h0
      rw [h0]
      simp (disch := first | omega | (simp only [sgets, reduceIte, Nat.reduceEqDiff, e0, hn, dec_S, Nat.reduceAdd]; done) | omega) only [cS_1, crd, z_pv_some, z_wv_some, z_cv_v, z_cv_n, cwr, sgets, rc_O, ia_n, fa_n, is_n, fs_n, ↓mI_eq, lits, nI_add, nLe, nLt, nE, mI_ne, mI_ne', mI_lt, mI_le, mI_nlt, mI_nle, ne_eq, mI_addC, pk_sub, pk_mul, pk_div, Nat.reduceEqDiff, Nat.reduceAdd, Nat.reduceMul, Nat.reduceSub, reduceIte, not_true_eq_false, not_false_eq_true, true_or, or_true, if_true, if_false, and_self, and_true, true_and, and_false, false_and, or_self, or_false, false_or, decide_true, decide_false, Bool.false_eq_true, Bool.true_eq_false, bI_t, bI_f, oS_1, ord, owA0, owF0, owF1, owA1, owF2, owA2, owF3, owA3, ywo, gfs11, pfs11, yrd, ywr, q137_93, q137_94, q137_97, q137_98, q137_99, q137_102, q137_103, q137_106, q137_107, q137_108, q137_111, q137_112, q137_113, q137_114, q137_117, q137_118, q137_119, q137_120, q137_123, q137_124, h141, e0, hn, dec_S, Nat.reduceAdd]
  | succ d ih =>
    intro V Y h hd
    have hB := (Rl_11 h).1
    have h141 := m141r M o w h (show b < 8 by omega)
    obtain ⟨hS, hS1, e0⟩ := Rl_0 h
    have hle := cnt_le (fun k => decide (V.2.2.1 9 k = nI b)) J
    have hJ := (Rl_J h).1
    rcases loudF_lt (candS V b) (V.2.2.2 0) J with h0 | ⟨r, hr, h0, hPr⟩
    · replace h0 : loudV V b J = mI := h0
      unfold fillP
      rw [if_pos h0]
      refine ⟨Y, ?_, h, kY.rf Y, rfl, Or.inl h0⟩
      rw [h0, q137_92]
      simp (disch := first | omega | (simp only [sgets, reduceIte, Nat.reduceEqDiff, dec_S, Nat.reduceAdd]; done) | omega) only [cS_1, crd, z_pv_some, z_wv_some, z_cv_v, z_cv_n, cwr, sgets, rc_O, ia_n, fa_n, is_n, fs_n, ↓mI_eq, lits, nI_add, nLe, nLt, nE, mI_ne, mI_ne', mI_lt, mI_le, mI_nlt, mI_nle, ne_eq, mI_addC, pk_sub, pk_mul, pk_div, Nat.reduceEqDiff, Nat.reduceAdd, Nat.reduceMul, Nat.reduceSub, reduceIte, not_true_eq_false, not_false_eq_true, true_or, or_true, if_true, if_false, and_self, and_true, true_and, and_false, false_and, or_self, or_false, false_or, decide_true, decide_false, Bool.false_eq_true, Bool.true_eq_false, bI_t, bI_f, oS_1, ord, owA0, owF0, owF1, owA1, owF2, owA2, owF3, owA3, ywo, gfs11, pfs11, yrd, ywr, q137_93, q137_94, q137_97, q137_98, q137_99, q137_102, q137_103, q137_106, q137_107, q137_108, q137_111, q137_112, q137_113, q137_114, q137_117, q137_118, q137_119, q137_120, q137_123, q137_124, dec_S, Nat.reduceAdd]
    · replace h0 : loudV V b J = nI r := h0
      have h9 : V.2.2.1 9 r = mI := (of_decide_eq_true hPr).1
      obtain ⟨Z, z1, z2, z3⟩ := s145 M o w h hb hr h9
      have hdc := choo_cnt (J := J) (show b < 8 by omega) hr h9
      have hT := kS_T (kS_choo h.1.2.2.2.2.1 b r)
      have h143 := m143r M o w z2 (show b < 8 by omega)
      obtain ⟨Z2, y1, y2, y3, y4, y5⟩ := ih (chooS V b r) Z z2 (by omega)
      unfold fillP
      rw [h0, if_neg (by rw [mI_ne (by omega)]; exact not_false), nI_clamp (by omega)]
      rw [hT] at y1 y4 h143
      refine ⟨Z2, ?_, y2, z3.tr y3, y4, y5⟩
      generalize cnt (fun k => decide (V.2.2.1 9 k = nI b)) J = n at hd h141 hle
      have hn : ¬ S ≤ n := by omega
      rw [q137_92]
      simp (disch := first | omega | (simp only [sgets, reduceIte, Nat.reduceEqDiff, e0, hn, dec_S, Nat.reduceAdd]; done) | omega) only [cS_1, crd, z_pv_some, z_wv_some, z_cv_v, z_cv_n, cwr, sgets, rc_O, ia_n, fa_n, is_n, fs_n, ↓mI_eq, lits, nI_add, nLe, nLt, nE, mI_ne, mI_ne', mI_lt, mI_le, mI_nlt, mI_nle, ne_eq, mI_addC, pk_sub, pk_mul, pk_div, Nat.reduceEqDiff, Nat.reduceAdd, Nat.reduceMul, Nat.reduceSub, reduceIte, not_true_eq_false, not_false_eq_true, true_or, or_true, if_true, if_false, and_self, and_true, true_and, and_false, false_and, or_self, or_false, false_or, decide_true, decide_false, Bool.false_eq_true, Bool.true_eq_false, bI_t, bI_f, oS_1, ord, owA0, owF0, owF1, owA1, owF2, owA2, owF3, owA3, ywo, gfs11, pfs11, yrd, ywr, q137_93, q137_94, q137_97, q137_98, q137_99, q137_102, q137_103, q137_106, q137_107, q137_108, q137_111, q137_112, q137_113, q137_114, q137_117, q137_118, q137_119, q137_120, q137_123, q137_124, h141, z1, h143, y1, e0, hn, dec_S, Nat.reduceAdd]
theorem sel4 {V Y : z_V} (h : Rl c J S Hy B V Y) {b : Nat} (hb : b < B) (t : UInt32) (x4 : Option Value) (hor : loudV V b J = mI ∨ S ≤ cnt (fun k => decide (V.2.2.1 9 k = nI b)) J) : ∃ Z x4', z_ex 137 M.1 127 [some (.ref o), some (.int (nI b)), some (.float t), some (.int (loudV V b J)), x4] [] (yS M o Y w) = z_ex 137 M.1 180 [some (.ref o), some (.int (nI b)), some (.float t), some (.int (loudV V b J)), x4'] [] (yS M o Z w) ∧ Rl c J S Hy B (repl b J V) Z ∧ kY Y Z := by
  have hB := (Rl_11 h).1
  have hJ := (Rl_J h).1
  have h142 := m142r M o w h (show b < 8 by omega)
  obtain ⟨hS, hS1, e0⟩ := Rl_0 h
  have eF : Y.2.2.2 0 = V.2.2.2 0 := h.2.2.2.2.1.2.2.2.2.2.2.2.2.2.2.2.1
  obtain ⟨Hyle, h2⟩ := h.1.2.2.1
  have e2 : Y.1 2 = nI Hy := by rw [h.2.2.2.1.2.2.1]; exact h2
  have hd := h.1.2.2.2.2.2.2.2.1
  unfold repl
  rcases loudF_lt (candS V b) (V.2.2.2 0) J with h0 | ⟨r, hr, h0, hPr⟩
  · replace h0 : loudV V b J = mI := h0
    rw [if_pos (Or.inl h0)]
    refine ⟨Y, x4, ?_, h, kY.rf Y⟩
    rw [h0]
    simp (disch := first | omega | (simp only [sgets, reduceIte, Nat.reduceEqDiff, dec_S, Nat.reduceAdd]; done) | omega) only [cS_1, crd, z_pv_some, z_wv_some, z_cv_v, z_cv_n, cwr, sgets, rc_O, ia_n, fa_n, is_n, fs_n, ↓mI_eq, lits, nI_add, nLe, nLt, nE, mI_ne, mI_ne', mI_lt, mI_le, mI_nlt, mI_nle, ne_eq, mI_addC, pk_sub, pk_mul, pk_div, Nat.reduceEqDiff, Nat.reduceAdd, Nat.reduceMul, Nat.reduceSub, reduceIte, not_true_eq_false, not_false_eq_true, true_or, or_true, if_true, if_false, and_self, and_true, true_and, and_false, false_and, or_self, or_false, false_or, decide_true, decide_false, Bool.false_eq_true, Bool.true_eq_false, bI_t, bI_f, oS_1, ord, owA0, owF0, owF1, owA1, owF2, owA2, owF3, owA3, ywo, gfs11, pfs11, yrd, ywr, q137_127, q137_128, q137_129, q137_132, q137_133, q137_134, q137_137, q137_139, q137_140, q137_143, q137_144, q137_145, q137_146, q137_149, q137_151, q137_152, q137_153, q137_156, q137_157, q137_158, q137_159, q137_160, q137_162, q137_163, q137_164, q137_167, q137_168, q137_169, q137_171, q137_174, q137_175, q137_176, q137_177, dec_S, Nat.reduceAdd]
  · replace h0 : loudV V b J = nI r := h0
    have hcS : S ≤ cnt (fun k => decide (V.2.2.1 9 k = nI b)) J := by
      rcases hor with q | q
      · rw [h0, mI_ne (by omega)] at q; exact q.elim
      · exact q
    rcases quietF_lt (fun k => decide (V.2.2.1 9 k = nI b)) (V.2.2.2 0) J with h3 | ⟨q, hq, h3, hPq⟩
    · have := quietF_no hJ h3
      omega
    · replace h3 : quietV V b J = nI q := h3
      have h9 : V.2.2.1 9 q = nI b := of_decide_eq_true hPq
      have h9r : V.2.2.1 9 r = mI := (of_decide_eq_true hPr).1
      rw [h3] at h142
      have hrq : r ≠ q := by
        intro e
        rw [e, h9, mI_ne (by omega)] at h9r
        exact h9r
      obtain ⟨Z, z1, z2, z3⟩ := s140 M o w h (show b < 8 by omega) hq h9
      obtain ⟨Z2, y1, y2, y3⟩ := s145 M o w z2 hb hr (by rw [drop_9, upd_ne _ _ hrq]; exact h9r)
      obtain ⟨n1, n2⟩ := hysF_ok (hd q (by omega)) Hyle
      rw [h0, h3, if_neg (by rw [mI_ne (by omega), mI_ne (by omega)]; simp), nI_clamp (by omega), nI_clamp (by omega), h2]
      unfold hysF at n2 ⊢
      by_cases hc : Op.cmpValue (FP.fcmp (V.2.2.2 0 r) (FP.fdiv (FP.fmul (V.2.2.2 0 q) (FP.i2f (nI Hy))) 1082130432)) .l ≤ nI 0
      · rw [if_pos hc]
        refine ⟨Y, some (.int (nI q)), ?_, h, kY.rf Y⟩
        simp (disch := first | omega | (simp only [sgets, reduceIte, Nat.reduceEqDiff, e2, hc, dec_S, Nat.reduceAdd]; done) | omega) only [cS_1, crd, z_pv_some, z_wv_some, z_cv_v, z_cv_n, cwr, sgets, rc_O, ia_n, fa_n, is_n, fs_n, ↓mI_eq, lits, nI_add, nLe, nLt, nE, mI_ne, mI_ne', mI_lt, mI_le, mI_nlt, mI_nle, ne_eq, mI_addC, pk_sub, pk_mul, pk_div, Nat.reduceEqDiff, Nat.reduceAdd, Nat.reduceMul, Nat.reduceSub, reduceIte, not_true_eq_false, not_false_eq_true, true_or, or_true, if_true, if_false, and_self, and_true, true_and, and_false, false_and, or_self, or_false, false_or, decide_true, decide_false, Bool.false_eq_true, Bool.true_eq_false, bI_t, bI_f, oS_1, ord, owA0, owF0, owF1, owA1, owF2, owA2, owF3, owA3, ywo, gfs11, pfs11, yrd, ywr, q137_127, q137_128, q137_129, q137_132, q137_133, q137_134, q137_137, q137_139, q137_140, q137_143, q137_144, q137_145, q137_146, q137_149, q137_151, q137_152, q137_153, q137_156, q137_157, q137_158, q137_159, q137_160, q137_162, q137_163, q137_164, q137_167, q137_168, q137_169, q137_171, q137_174, q137_175, q137_176, q137_177, h142, eF, n1, n2, e2, hc, dec_S, Nat.reduceAdd]
      · rw [if_neg hc]
        refine ⟨Z2, some (.int (nI q)), ?_, y2, z3.tr y3⟩
        simp (disch := first | omega | (simp only [sgets, reduceIte, Nat.reduceEqDiff, e2, hc, dec_S, Nat.reduceAdd]; done) | omega) only [cS_1, crd, z_pv_some, z_wv_some, z_cv_v, z_cv_n, cwr, sgets, rc_O, ia_n, fa_n, is_n, fs_n, ↓mI_eq, lits, nI_add, nLe, nLt, nE, mI_ne, mI_ne', mI_lt, mI_le, mI_nlt, mI_nle, ne_eq, mI_addC, pk_sub, pk_mul, pk_div, Nat.reduceEqDiff, Nat.reduceAdd, Nat.reduceMul, Nat.reduceSub, reduceIte, not_true_eq_false, not_false_eq_true, true_or, or_true, if_true, if_false, and_self, and_true, true_and, and_false, false_and, or_self, or_false, false_or, decide_true, decide_false, Bool.false_eq_true, Bool.true_eq_false, bI_t, bI_f, oS_1, ord, owA0, owF0, owF1, owA1, owF2, owA2, owF3, owA3, ywo, gfs11, pfs11, yrd, ywr, q137_127, q137_128, q137_129, q137_132, q137_133, q137_134, q137_137, q137_139, q137_140, q137_143, q137_144, q137_145, q137_146, q137_149, q137_151, q137_152, q137_153, q137_156, q137_157, q137_158, q137_159, q137_160, q137_162, q137_163, q137_164, q137_167, q137_168, q137_169, q137_171, q137_174, q137_175, q137_176, q137_177, h142, eF, n1, n2, z1, y1, e2, hc, dec_S, Nat.reduceAdd]
theorem Rl_tk {V Y : z_V} (h : Rl c J S Hy B V Y) (f : Nat → Int32) : Rl c J S Hy B (sA V 8 f) (sA Y 10 f) := by
  obtain ⟨⟨q1, q2, q3, q4, q5, q6, q7, q8, q9, q10, q11⟩, hfl, hSB, r1, r2, r3, r4, r5, r6, r7⟩ := h
  exact ⟨⟨q1, q2, q3, q4, q5, q6, q7, q8, q9, q10, q11⟩, hfl, hSB, r1, ⟨r2.1, r2.2.1, r2.2.2.1, r2.2.2.2.1, rfl, r2.2.2.2.2.2⟩, r3, r4, r5, r6, r7⟩
theorem add0 (x : Int32) : x + nI 0 = x := Int32.add_zero x
theorem sel5 {V Y : z_V} (h : Rl c J S Hy B V Y) {b : Nat} (hb : b < B) (t : UInt32) (x3 x4 : Option Value) : ∃ Z, z_ex 137 M.1 180 [some (.ref o), some (.int (nI b)), some (.float t), x3, x4] [] (yS M o Y w) = some (none, yS M o Z w) ∧ Rl c J S Hy B (it (talkS b) J V) Z ∧ kY Y Z := by
  obtain ⟨Z, -, l1, l2, l3⟩ := lp_rel (fun k (Y : z_V) (_ : Unit) => z_ex 137 M.1 183 [some (.ref o), some (.int (nI b)), some (.float t), x3, some (.int (nI k))] [] (yS M o Y w)) (talkS b) (fun _ V' Y' => Rl c J S Hy B V' Y' ∧ kY Y Y') J (by
    rintro k V' Y' - hk ⟨hR, hK⟩
    have e12 := Rl_12 hR
    have hJ := (Rl_J hR).1
    have hB := (Rl_11 hR).1
    have hk2 : ¬ J ≤ k := by omega
    have h138 := m138r M o w hR (show b < 8 by omega) (show k < 20 by omega)
    have g6 := m116 M o Y' w k 6 (by omega) (by omega)
    have s6 := fun x => m118 M o Y' w k 6 (by omega) (by omega) x
    simp only [Nat.reduceAdd] at g6 s6
    have e10 : Y'.2.2.1 10 = V'.2.2.1 8 := hR.2.2.2.2.1.2.2.2.2.1
    by_cases h3 : V'.2.2.1 9 k = nI b
    · have h3' := eq_true h3
      simp only [h3', decide_true] at h138
      have hu : talkS b k V' = sA V' 8 (upd (V'.2.2.1 8) k (V'.2.2.1 8 k + nI 1)) := by unfold talkS; rw [if_pos h3]
      refine ⟨sA Y' 10 (upd (Y'.2.2.1 10) k (Y'.2.2.1 10 k + nI 1)), (), ?_, ?_, hK.tr ⟨fun _ _ => rfl, ⟨rfl, rfl⟩, rfl, rfl⟩⟩
      · rw [q137_183]
        simp (disch := first | omega | (simp only [sgets, reduceIte, Nat.reduceEqDiff, e12, hk2, dec_S, Nat.reduceAdd]; done) | omega) only [cS_1, crd, z_pv_some, z_wv_some, z_cv_v, z_cv_n, cwr, sgets, rc_O, ia_n, fa_n, is_n, fs_n, ↓mI_eq, lits, nI_add, nLe, nLt, nE, mI_ne, mI_ne', mI_lt, mI_le, mI_nlt, mI_nle, ne_eq, mI_addC, pk_sub, pk_mul, pk_div, Nat.reduceEqDiff, Nat.reduceAdd, Nat.reduceMul, Nat.reduceSub, reduceIte, not_true_eq_false, not_false_eq_true, true_or, or_true, if_true, if_false, and_self, and_true, true_and, and_false, false_and, or_self, or_false, false_or, decide_true, decide_false, Bool.false_eq_true, Bool.true_eq_false, bI_t, bI_f, oS_1, ord, owA0, owF0, owF1, owA1, owF2, owA2, owF3, owA3, ywo, gfs11, pfs11, yrd, ywr, q137_185, q137_186, q137_189, q137_191, q137_192, q137_195, q137_196, q137_198, q137_200, q137_201, q137_203, q137_205, q137_208, q137_209, q137_210, q137_212, q137_215, q137_218, q137_219, q137_222, q137_223, q137_224, q137_227, q137_230, h138, g6, s6, e12, hk2, dec_S, Nat.reduceAdd]
      · rw [hu, e10]
        exact Rl_tk hR _
    · simp only [h3, decide_false] at h138
      have hu : talkS b k V' = V' := by unfold talkS; rw [if_neg h3]
      refine ⟨Y', (), ?_, ?_⟩
      · rw [q137_183]
        have e := s6 (Y'.2.2.1 10 k + nI 0)
        rw [add0, upd_self rfl, sA_idV] at e
        simp (disch := first | omega | (simp only [sgets, reduceIte, Nat.reduceEqDiff, e12, hk2, dec_S, Nat.reduceAdd]; done) | omega) only [cS_1, crd, z_pv_some, z_wv_some, z_cv_v, z_cv_n, cwr, sgets, rc_O, ia_n, fa_n, is_n, fs_n, ↓mI_eq, lits, nI_add, nLe, nLt, nE, mI_ne, mI_ne', mI_lt, mI_le, mI_nlt, mI_nle, ne_eq, mI_addC, pk_sub, pk_mul, pk_div, Nat.reduceEqDiff, Nat.reduceAdd, Nat.reduceMul, Nat.reduceSub, reduceIte, not_true_eq_false, not_false_eq_true, true_or, or_true, if_true, if_false, and_self, and_true, true_and, and_false, false_and, or_self, or_false, false_or, decide_true, decide_false, Bool.false_eq_true, Bool.true_eq_false, bI_t, bI_f, oS_1, ord, owA0, owF0, owF1, owA1, owF2, owA2, owF3, owA3, ywo, gfs11, pfs11, yrd, ywr, q137_185, q137_186, q137_189, q137_191, q137_192, q137_195, q137_196, q137_198, q137_200, q137_201, q137_203, q137_205, q137_208, q137_209, q137_210, q137_212, q137_215, q137_218, q137_219, q137_222, q137_223, q137_224, q137_227, q137_230, h138, g6, add0, e, e12, hk2, dec_S, Nat.reduceAdd]
      · rw [hu]; exact ⟨hR, hK⟩) V Y () ⟨h, kY.rf Y⟩
  have e12 := Rl_12 l2
  have hJ := (Rl_J l2).1
  refine ⟨Z, ?_, l2, l3⟩
  refine Eq.trans ?_ (l1.trans ?_)
  · simp (disch := first | omega | (simp only [sgets, reduceIte, Nat.reduceEqDiff, dec_S, Nat.reduceAdd]; done) | omega) only [cS_1, crd, z_pv_some, z_wv_some, z_cv_v, z_cv_n, cwr, sgets, rc_O, ia_n, fa_n, is_n, fs_n, ↓mI_eq, lits, nI_add, nLe, nLt, nE, mI_ne, mI_ne', mI_lt, mI_le, mI_nlt, mI_nle, ne_eq, mI_addC, pk_sub, pk_mul, pk_div, Nat.reduceEqDiff, Nat.reduceAdd, Nat.reduceMul, Nat.reduceSub, reduceIte, not_true_eq_false, not_false_eq_true, true_or, or_true, if_true, if_false, and_self, and_true, true_and, and_false, false_and, or_self, or_false, false_or, decide_true, decide_false, Bool.false_eq_true, Bool.true_eq_false, bI_t, bI_f, oS_1, ord, owA0, owF0, owF1, owA1, owF2, owA2, owF3, owA3, ywo, gfs11, pfs11, yrd, ywr, q137_180, q137_181, dec_S, Nat.reduceAdd]
  · rw [q137_183]
    simp (disch := first | omega | (simp only [sgets, reduceIte, Nat.reduceEqDiff, e12, dec_S, Nat.reduceAdd]; done) | omega) only [cS_1, crd, z_pv_some, z_wv_some, z_cv_v, z_cv_n, cwr, sgets, rc_O, ia_n, fa_n, is_n, fs_n, ↓mI_eq, lits, nI_add, nLe, nLt, nE, mI_ne, mI_ne', mI_lt, mI_le, mI_nlt, mI_nle, ne_eq, mI_addC, pk_sub, pk_mul, pk_div, Nat.reduceEqDiff, Nat.reduceAdd, Nat.reduceMul, Nat.reduceSub, reduceIte, not_true_eq_false, not_false_eq_true, true_or, or_true, if_true, if_false, and_self, and_true, true_and, and_false, false_and, or_self, or_false, false_or, decide_true, decide_false, Bool.false_eq_true, Bool.true_eq_false, bI_t, bI_f, oS_1, ord, owA0, owF0, owF1, owA1, owF2, owA2, owF3, owA3, ywo, gfs11, pfs11, yrd, ywr, q137_185, q137_186, q137_189, q137_191, q137_192, q137_195, q137_196, q137_198, q137_200, q137_201, q137_203, q137_205, q137_208, q137_209, q137_210, q137_212, q137_215, q137_218, q137_219, q137_222, q137_223, q137_224, q137_227, q137_230, q137_233, Nat.le_refl, e12, dec_S, Nat.reduceAdd]
theorem s137 {V Y : z_V} (h : Rl c J S Hy B V Y) {b : Nat} (hb : b < B) : ∃ Z, z_cl 137 [.ref o, .int (nI b), .float V.2.1] (yS M o Y w) = some (none, yS M o Z w) ∧ Rl c J S Hy B (selB J S b V) Z ∧ kY Y Z ∧ (selB J S b V).2.1 = V.2.1 := by
  have hB := (Rl_11 h).1
  obtain ⟨Z1, a1, a2, a3, a4⟩ := sel1 M o w h hb none
  generalize hV1 : it (uStep b) J V = V1 at a2 a4
  obtain ⟨Z2, b1, b2, b3, b4⟩ := sel2 M o w hb (some (.int (nI J))) none V.2.1 _ V1 Z1 a2 rfl
  unfold selB
  rw [hV1]
  generalize hV2 : surp b J (cnt (fun i => decide (V1.2.2.1 9 i = nI b)) J - S) V1 = V2 at b2 b4 ⊢
  have h143 := m143r M o w b2 (show b < 8 by omega)
  obtain ⟨Z3, c1, c2, c3, c4, c5⟩ := sel3 M o w hb none _ V2 Z2 b2 rfl
  rw [b4, a4] at c1 h143
  generalize hV3 : fillP b J (S - cnt (fun i => decide (V2.2.2.1 9 i = nI b)) J) V2 = V3 at c1 c2 c4 c5 ⊢
  obtain ⟨Z4, x4, d1, d2, d3⟩ := sel4 M o w c2 hb V.2.1 none c5
  have kt := kS_T (kS_repl b J c2.1.2.2.2.2.1)
  generalize hV4 : repl b J V3 = V4 at d2 kt ⊢
  obtain ⟨Z5, f1, f2, f3⟩ := sel5 M o w d2 hb V.2.1 (some (.int (loudV V3 b J))) x4
  refine ⟨Z5, ?_, f2, (((a3.tr b3).tr c3).tr d3).tr f3, ?_⟩
  · rw [e137]
    refine Eq.trans ?_ (a1.trans (b1.trans ?_))
    · simp (disch := first | omega | (simp only [sgets, reduceIte, Nat.reduceEqDiff, dec_S, Nat.reduceAdd]; done) | omega) only [cS_1, crd, z_pv_some, z_wv_some, z_cv_v, z_cv_n, cwr, sgets, rc_O, ia_n, fa_n, is_n, fs_n, ↓mI_eq, lits, nI_add, nLe, nLt, nE, mI_ne, mI_ne', mI_lt, mI_le, mI_nlt, mI_nle, ne_eq, mI_addC, pk_sub, pk_mul, pk_div, Nat.reduceEqDiff, Nat.reduceAdd, Nat.reduceMul, Nat.reduceSub, reduceIte, not_true_eq_false, not_false_eq_true, true_or, or_true, if_true, if_false, and_self, and_true, true_and, and_false, false_and, or_self, or_false, false_or, decide_true, decide_false, Bool.false_eq_true, Bool.true_eq_false, bI_t, bI_f, oS_1, ord, owA0, owF0, owF1, owA1, owF2, owA2, owF3, owA3, ywo, gfs11, pfs11, yrd, ywr, q137_0, q137_1, dec_S, Nat.reduceAdd]
    · refine Eq.trans ?_ (c1.trans (d1.trans f1))
      simp (disch := first | omega | (simp only [sgets, reduceIte, Nat.reduceEqDiff, dec_S, Nat.reduceAdd]; done) | omega) only [cS_1, crd, z_pv_some, z_wv_some, z_cv_v, z_cv_n, cwr, sgets, rc_O, ia_n, fa_n, is_n, fs_n, ↓mI_eq, lits, nI_add, nLe, nLt, nE, mI_ne, mI_ne', mI_lt, mI_le, mI_nlt, mI_nle, ne_eq, mI_addC, pk_sub, pk_mul, pk_div, Nat.reduceEqDiff, Nat.reduceAdd, Nat.reduceMul, Nat.reduceSub, reduceIte, not_true_eq_false, not_false_eq_true, true_or, or_true, if_true, if_false, and_self, and_true, true_and, and_false, false_and, or_self, or_false, false_or, decide_true, decide_false, Bool.false_eq_true, Bool.true_eq_false, bI_t, bI_f, oS_1, ord, owA0, owF0, owF1, owA1, owF2, owA2, owF3, owA3, ywo, gfs11, pfs11, yrd, ywr, q137_85, q137_86, q137_87, q137_88, q137_91, h143, dec_S, Nat.reduceAdd]
  · have kk : ∀ n, (it (talkS b) n V4).2.1 = V4.2.1 := by
      intro n
      induction n with
      | zero => rfl
      | succ n ih =>
        refine Eq.trans ?_ ih
        show (talkS b n (it (talkS b) n V4)).2.1 = _
        unfold talkS
        split <;> rfl
    rw [kk, kt, c4, b4, a4]
end
