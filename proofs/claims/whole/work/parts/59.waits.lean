/-! the model's waits: the queue's places -/
def befY (Y : z_V) (r p : Nat) : Prop := Y.2.2.1 14 p < Y.2.2.1 14 r ∨ (Y.2.2.1 14 r = Y.2.2.1 14 p ∧ Y.2.2.1 15 r < Y.2.2.1 15 p)
def aheP (Y : z_V) (p r : Nat) : Bool := decide (Y.2.2.1 4 r = nI 1 ∧ ¬ Y.2.2.1 14 r = mI ∧ (Y.2.2.1 14 p < Y.2.2.1 14 r ∨ (Y.2.2.1 14 r = Y.2.2.1 14 p ∧ Y.2.2.1 15 r < Y.2.2.1 15 p)))
theorem wait_in (M : z_M) (o : Nat) (w : Int64) (Y : z_V) (J : Nat) (hJ : J ≤ 20) (e12 : Y.1 12 = nI J) (x : Value) (p : Nat) (hp : p < J) (j3 j4 j5 : Option Value) : ∃ k4 k5, z_ex 136 M.1 2 [some (.ref o), some x, some (.int (nI p)), j3, j4, j5] [] (yS M o Y w) = z_ex 136 M.1 133 [some (.ref o), some x, some (.int (nI p)), some (.int (nI (cnt (aheP Y p) J))), k4, k5] [] (yS M o Y w) := by
  have hp2 : ¬ J ≤ p := by omega
  rw [q136_2]
  simp (disch := first | omega | (simp only [sgets, reduceIte, Nat.reduceEqDiff, e12, hp2, dec_S, Nat.reduceAdd]; done) | omega) only [cS_1, crd, z_pv_some, z_wv_some, z_cv_v, z_cv_n, cwr, sgets, rc_O, ia_n, fa_n, is_n, fs_n, ↓mI_eq, lits, nI_add, nLe, nLt, nE, mI_ne, mI_ne', mI_lt, mI_le, mI_nlt, mI_nle, ne_eq, mI_addC, pk_sub, pk_mul, pk_div, Nat.reduceEqDiff, Nat.reduceAdd, Nat.reduceMul, Nat.reduceSub, reduceIte, not_true_eq_false, not_false_eq_true, true_or, or_true, if_true, if_false, and_self, and_true, true_and, and_false, false_and, or_self, or_false, false_or, decide_true, decide_false, Bool.false_eq_true, Bool.true_eq_false, bI_t, bI_f, oS_1, ord, owA0, owF0, owF1, owA1, owF2, owA2, owF3, owA3, ywo, gfs11, pfs11, yrd, ywr, q136_3, q136_4, q136_7, q136_9, q136_10, q136_13, q136_14, q136_15, q136_16, e12, hp2, dec_S, Nat.reduceAdd]
  have h14p := m116 M o Y w p 10 (by omega) (by omega)
  have h15p := m116 M o Y w p 11 (by omega) (by omega)
  obtain ⟨⟨j', hl⟩, -⟩ := lp_ex (fun k n (j : Option Value) => z_ex 136 M.1 18 [some (.ref o), some x, some (.int (nI p)), some (.int (nI n)), some (.int (nI k)), j] [] (yS M o Y w)) (fun k s => s + if aheP Y p k = true then 1 else 0) (fun _ _ => True) J (by
    intro k n j hk _
    have hk2 : ¬ J ≤ k := by omega
    have h0 := m116 M o Y w k 0 (by omega) (by omega)
    have h1 := m116 M o Y w k 10 (by omega) (by omega)
    have h2 := m116 M o Y w k 11 (by omega) (by omega)
    unfold aheP
    rw [q136_18]
    by_cases c1 : Y.2.2.1 14 p < Y.2.2.1 14 k
    · simp (disch := first | omega | (simp only [sgets, reduceIte, Nat.reduceEqDiff, e12, hk2, dec_S, Nat.reduceAdd]; done) | omega) only [cS_1, crd, z_pv_some, z_wv_some, z_cv_v, z_cv_n, cwr, sgets, rc_O, ia_n, fa_n, is_n, fs_n, ↓mI_eq, lits, nI_add, nLe, nLt, nE, mI_ne, mI_ne', mI_lt, mI_le, mI_nlt, mI_nle, ne_eq, mI_addC, pk_sub, pk_mul, pk_div, Nat.reduceEqDiff, Nat.reduceAdd, Nat.reduceMul, Nat.reduceSub, reduceIte, not_true_eq_false, not_false_eq_true, true_or, or_true, if_true, if_false, and_self, and_true, true_and, and_false, false_and, or_self, or_false, false_or, decide_true, decide_false, Bool.false_eq_true, Bool.true_eq_false, bI_t, bI_f, oS_1, ord, owA0, owF0, owF1, owA1, owF2, owA2, owF3, owA3, ywo, gfs11, pfs11, yrd, ywr, q136_20, q136_21, q136_24, q136_26, q136_27, q136_30, q136_31, q136_33, q136_35, q136_38, q136_39, q136_40, q136_42, q136_45, q136_48, q136_49, q136_51, q136_53, q136_56, q136_57, q136_58, q136_60, q136_63, q136_66, q136_67, q136_69, q136_71, q136_74, q136_75, q136_76, q136_78, q136_81, q136_84, q136_85, q136_88, q136_89, q136_91, q136_92, q136_93, q136_95, q136_96, q136_99, q136_100, q136_103, q136_104, q136_106, q136_108, q136_111, q136_112, q136_115, q136_117, q136_120, q136_121, q136_124, q136_125, q136_126, q136_127, q136_130, h0, h1, h2, h14p, h15p, c1, e12, hk2, dec_S, Nat.reduceAdd]
      refine ⟨some (.int (nI 1)), ?_⟩
      by_cases c2 : Y.2.2.1 4 k = nI 1 <;> by_cases c3 : Y.2.2.1 14 k = mI <;> simp [c2, c3]
    · by_cases c4 : Y.2.2.1 14 k = Y.2.2.1 14 p
      · by_cases c5 : Y.2.2.1 15 p ≤ Y.2.2.1 15 k
        · have c6 : ¬ Y.2.2.1 15 k < Y.2.2.1 15 p := Int32.not_lt.mpr c5
          simp (disch := first | omega | (simp only [sgets, reduceIte, Nat.reduceEqDiff, e12, hk2, dec_S, Nat.reduceAdd]; done) | omega) only [cS_1, crd, z_pv_some, z_wv_some, z_cv_v, z_cv_n, cwr, sgets, rc_O, ia_n, fa_n, is_n, fs_n, ↓mI_eq, lits, nI_add, nLe, nLt, nE, mI_ne, mI_ne', mI_lt, mI_le, mI_nlt, mI_nle, ne_eq, mI_addC, pk_sub, pk_mul, pk_div, Nat.reduceEqDiff, Nat.reduceAdd, Nat.reduceMul, Nat.reduceSub, reduceIte, not_true_eq_false, not_false_eq_true, true_or, or_true, if_true, if_false, and_self, and_true, true_and, and_false, false_and, or_self, or_false, false_or, decide_true, decide_false, Bool.false_eq_true, Bool.true_eq_false, bI_t, bI_f, oS_1, ord, owA0, owF0, owF1, owA1, owF2, owA2, owF3, owA3, ywo, gfs11, pfs11, yrd, ywr, q136_20, q136_21, q136_24, q136_26, q136_27, q136_30, q136_31, q136_33, q136_35, q136_38, q136_39, q136_40, q136_42, q136_45, q136_48, q136_49, q136_51, q136_53, q136_56, q136_57, q136_58, q136_60, q136_63, q136_66, q136_67, q136_69, q136_71, q136_74, q136_75, q136_76, q136_78, q136_81, q136_84, q136_85, q136_88, q136_89, q136_91, q136_92, q136_93, q136_95, q136_96, q136_99, q136_100, q136_103, q136_104, q136_106, q136_108, q136_111, q136_112, q136_115, q136_117, q136_120, q136_121, q136_124, q136_125, q136_126, q136_127, q136_130, h0, h1, h2, h14p, h15p, c1, c5, e12, hk2, dec_S, Nat.reduceAdd]
          refine ⟨some (.int (nI 0)), ?_⟩
          have c7 : ¬ (Y.2.2.1 4 k = nI 1 ∧ ¬ Y.2.2.1 14 k = mI ∧ (Y.2.2.1 14 p < Y.2.2.1 14 k ∨ (Y.2.2.1 14 k = Y.2.2.1 14 p ∧ Y.2.2.1 15 k < Y.2.2.1 15 p))) := fun h => h.2.2.elim c1 (fun h => c6 h.2)
          by_cases c2 : Y.2.2.1 4 k = nI 1 <;> by_cases c3 : Y.2.2.1 14 k = mI <;> simp [c1, c2, c3, c4, c6]
        · have c6 : Y.2.2.1 15 k < Y.2.2.1 15 p := Int32.not_le.mp c5
          simp (disch := first | omega | (simp only [sgets, reduceIte, Nat.reduceEqDiff, e12, hk2, dec_S, Nat.reduceAdd]; done) | omega) only [cS_1, crd, z_pv_some, z_wv_some, z_cv_v, z_cv_n, cwr, sgets, rc_O, ia_n, fa_n, is_n, fs_n, ↓mI_eq, lits, nI_add, nLe, nLt, nE, mI_ne, mI_ne', mI_lt, mI_le, mI_nlt, mI_nle, ne_eq, mI_addC, pk_sub, pk_mul, pk_div, Nat.reduceEqDiff, Nat.reduceAdd, Nat.reduceMul, Nat.reduceSub, reduceIte, not_true_eq_false, not_false_eq_true, true_or, or_true, if_true, if_false, and_self, and_true, true_and, and_false, false_and, or_self, or_false, false_or, decide_true, decide_false, Bool.false_eq_true, Bool.true_eq_false, bI_t, bI_f, oS_1, ord, owA0, owF0, owF1, owA1, owF2, owA2, owF3, owA3, ywo, gfs11, pfs11, yrd, ywr, q136_20, q136_21, q136_24, q136_26, q136_27, q136_30, q136_31, q136_33, q136_35, q136_38, q136_39, q136_40, q136_42, q136_45, q136_48, q136_49, q136_51, q136_53, q136_56, q136_57, q136_58, q136_60, q136_63, q136_66, q136_67, q136_69, q136_71, q136_74, q136_75, q136_76, q136_78, q136_81, q136_84, q136_85, q136_88, q136_89, q136_91, q136_92, q136_93, q136_95, q136_96, q136_99, q136_100, q136_103, q136_104, q136_106, q136_108, q136_111, q136_112, q136_115, q136_117, q136_120, q136_121, q136_124, q136_125, q136_126, q136_127, q136_130, h0, h1, h2, h14p, h15p, c5, c4, Int32.lt_irrefl, e12, hk2, dec_S, Nat.reduceAdd]
          refine ⟨some (.int (nI 1)), ?_⟩
          by_cases c2 : Y.2.2.1 4 k = nI 1 <;> by_cases c3 : Y.2.2.1 14 p = mI <;> simp [c2, c3, c6]
      · simp (disch := first | omega | (simp only [sgets, reduceIte, Nat.reduceEqDiff, e12, hk2, dec_S, Nat.reduceAdd]; done) | omega) only [cS_1, crd, z_pv_some, z_wv_some, z_cv_v, z_cv_n, cwr, sgets, rc_O, ia_n, fa_n, is_n, fs_n, ↓mI_eq, lits, nI_add, nLe, nLt, nE, mI_ne, mI_ne', mI_lt, mI_le, mI_nlt, mI_nle, ne_eq, mI_addC, pk_sub, pk_mul, pk_div, Nat.reduceEqDiff, Nat.reduceAdd, Nat.reduceMul, Nat.reduceSub, reduceIte, not_true_eq_false, not_false_eq_true, true_or, or_true, if_true, if_false, and_self, and_true, true_and, and_false, false_and, or_self, or_false, false_or, decide_true, decide_false, Bool.false_eq_true, Bool.true_eq_false, bI_t, bI_f, oS_1, ord, owA0, owF0, owF1, owA1, owF2, owA2, owF3, owA3, ywo, gfs11, pfs11, yrd, ywr, q136_20, q136_21, q136_24, q136_26, q136_27, q136_30, q136_31, q136_33, q136_35, q136_38, q136_39, q136_40, q136_42, q136_45, q136_48, q136_49, q136_51, q136_53, q136_56, q136_57, q136_58, q136_60, q136_63, q136_66, q136_67, q136_69, q136_71, q136_74, q136_75, q136_76, q136_78, q136_81, q136_84, q136_85, q136_88, q136_89, q136_91, q136_92, q136_93, q136_95, q136_96, q136_99, q136_100, q136_103, q136_104, q136_106, q136_108, q136_111, q136_112, q136_115, q136_117, q136_120, q136_121, q136_124, q136_125, q136_126, q136_127, q136_130, h0, h1, h2, h14p, h15p, c1, c4, e12, hk2, dec_S, Nat.reduceAdd]
        refine ⟨some (.int (nI 0)), ?_⟩
        by_cases c2 : Y.2.2.1 4 k = nI 1 <;> by_cases c3 : Y.2.2.1 14 k = mI <;> simp [c1, c2, c3, c4]) (fun _ _ _ _ => trivial) 0 j5 trivial
  refine ⟨some (.int (nI J)), j', hl.trans ?_⟩
  rw [q136_18]
  simp (disch := first | omega | (simp only [sgets, reduceIte, Nat.reduceEqDiff, e12, dec_S, Nat.reduceAdd]; done) | omega) only [cS_1, crd, z_pv_some, z_wv_some, z_cv_v, z_cv_n, cwr, sgets, rc_O, ia_n, fa_n, is_n, fs_n, ↓mI_eq, lits, nI_add, nLe, nLt, nE, mI_ne, mI_ne', mI_lt, mI_le, mI_nlt, mI_nle, ne_eq, mI_addC, pk_sub, pk_mul, pk_div, Nat.reduceEqDiff, Nat.reduceAdd, Nat.reduceMul, Nat.reduceSub, reduceIte, not_true_eq_false, not_false_eq_true, true_or, or_true, if_true, if_false, and_self, and_true, true_and, and_false, false_and, or_self, or_false, false_or, decide_true, decide_false, Bool.false_eq_true, Bool.true_eq_false, bI_t, bI_f, oS_1, ord, owA0, owF0, owF1, owA1, owF2, owA2, owF3, owA3, ywo, gfs11, pfs11, yrd, ywr, q136_20, q136_21, q136_24, q136_26, q136_27, q136_30, q136_31, q136_33, q136_35, q136_38, q136_39, q136_40, q136_42, q136_45, q136_48, q136_49, q136_51, q136_53, q136_56, q136_57, q136_58, q136_60, q136_63, q136_66, q136_67, q136_69, q136_71, q136_74, q136_75, q136_76, q136_78, q136_81, q136_84, q136_85, q136_88, q136_89, q136_91, q136_92, q136_93, q136_95, q136_96, q136_99, q136_100, q136_103, q136_104, q136_106, q136_108, q136_111, q136_112, q136_115, q136_117, q136_120, q136_121, q136_124, q136_125, q136_126, q136_127, q136_130, Nat.le_refl, e12, dec_S, Nat.reduceAdd]
  rfl
def wtP (Y : z_V) (J i p : Nat) : Prop := Y.2.2.1 4 p = nI 1 ∧ ¬ Y.2.2.1 14 p = mI ∧ cnt (aheP Y p) J = i
theorem wait_go (M : z_M) (o : Nat) (w : Int64) (Y : z_V) (J : Nat) (hJ : J ≤ 20) (e12 : Y.1 12 = nI J) (i : Nat) (hi : i < 2 ^ 31) (k : Nat) : k ≤ J → (∀ p, p < k → ¬ wtP Y J i p) → ∃ j3 j4 j5, z_cl 136 [.ref o, .int (nI i)] (yS M o Y w) = z_ex 136 M.1 2 [some (.ref o), some (.int (nI i)), some (.int (nI k)), j3, j4, j5] [] (yS M o Y w) := by
  induction k with
  | zero =>
    intro _ _
    rw [e136]
    simp (disch := first | omega | (simp only [sgets, reduceIte, Nat.reduceEqDiff, dec_S, Nat.reduceAdd]; done) | omega) only [cS_1, crd, z_pv_some, z_wv_some, z_cv_v, z_cv_n, cwr, sgets, rc_O, ia_n, fa_n, is_n, fs_n, ↓mI_eq, lits, nI_add, nLe, nLt, nE, mI_ne, mI_ne', mI_lt, mI_le, mI_nlt, mI_nle, ne_eq, mI_addC, pk_sub, pk_mul, pk_div, Nat.reduceEqDiff, Nat.reduceAdd, Nat.reduceMul, Nat.reduceSub, reduceIte, not_true_eq_false, not_false_eq_true, true_or, or_true, if_true, if_false, and_self, and_true, true_and, and_false, false_and, or_self, or_false, false_or, decide_true, decide_false, Bool.false_eq_true, Bool.true_eq_false, bI_t, bI_f, oS_1, ord, owA0, owF0, owF1, owA1, owF2, owA2, owF3, owA3, ywo, gfs11, pfs11, yrd, ywr, q136_0, q136_1, dec_S, Nat.reduceAdd]
    exact ⟨none, none, none, rfl⟩
  | succ k ih =>
    intro hk hn
    obtain ⟨j3, j4, j5, e⟩ := ih (by omega) (fun p hp => hn p (by omega))
    obtain ⟨k4, k5, e2⟩ := wait_in M o w Y J hJ e12 (.int (nI i)) k (by omega) j3 j4 j5
    rw [e, e2]
    have h0 := m116 M o Y w k 0 (by omega) (by omega)
    have h1 := m116 M o Y w k 10 (by omega) (by omega)
    have hno := hn k (by omega)
    have hc := cnt_le (aheP Y k) J
    unfold wtP at hno
    refine ⟨some (.int (nI (cnt (aheP Y k) J))), k4, k5, ?_⟩
    by_cases c2 : Y.2.2.1 4 k = nI 1
    · by_cases c3 : Y.2.2.1 14 k = mI
      · simp (disch := first | omega | (simp only [sgets, reduceIte, Nat.reduceEqDiff, c2, c3, dec_S, Nat.reduceAdd]; done) | omega) only [cS_1, crd, z_pv_some, z_wv_some, z_cv_v, z_cv_n, cwr, sgets, rc_O, ia_n, fa_n, is_n, fs_n, ↓mI_eq, lits, nI_add, nLe, nLt, nE, mI_ne, mI_ne', mI_lt, mI_le, mI_nlt, mI_nle, ne_eq, mI_addC, pk_sub, pk_mul, pk_div, Nat.reduceEqDiff, Nat.reduceAdd, Nat.reduceMul, Nat.reduceSub, reduceIte, not_true_eq_false, not_false_eq_true, true_or, or_true, if_true, if_false, and_self, and_true, true_and, and_false, false_and, or_self, or_false, false_or, decide_true, decide_false, Bool.false_eq_true, Bool.true_eq_false, bI_t, bI_f, oS_1, ord, owA0, owF0, owF1, owA1, owF2, owA2, owF3, owA3, ywo, gfs11, pfs11, yrd, ywr, q136_133, q136_134, q136_135, q136_136, q136_139, q136_140, q136_143, q136_144, q136_145, q136_147, q136_150, q136_151, q136_154, q136_155, q136_156, q136_159, q136_160, q136_161, q136_164, h0, h1, c2, c3, dec_S, Nat.reduceAdd]
      · have c4 : ¬ cnt (aheP Y k) J = i := fun e => hno ⟨c2, c3, e⟩
        simp (disch := first | omega | (simp only [sgets, reduceIte, Nat.reduceEqDiff, c2, c3, c4, dec_S, Nat.reduceAdd]; done) | omega) only [cS_1, crd, z_pv_some, z_wv_some, z_cv_v, z_cv_n, cwr, sgets, rc_O, ia_n, fa_n, is_n, fs_n, ↓mI_eq, lits, nI_add, nLe, nLt, nE, mI_ne, mI_ne', mI_lt, mI_le, mI_nlt, mI_nle, ne_eq, mI_addC, pk_sub, pk_mul, pk_div, Nat.reduceEqDiff, Nat.reduceAdd, Nat.reduceMul, Nat.reduceSub, reduceIte, not_true_eq_false, not_false_eq_true, true_or, or_true, if_true, if_false, and_self, and_true, true_and, and_false, false_and, or_self, or_false, false_or, decide_true, decide_false, Bool.false_eq_true, Bool.true_eq_false, bI_t, bI_f, oS_1, ord, owA0, owF0, owF1, owA1, owF2, owA2, owF3, owA3, ywo, gfs11, pfs11, yrd, ywr, q136_133, q136_134, q136_135, q136_136, q136_139, q136_140, q136_143, q136_144, q136_145, q136_147, q136_150, q136_151, q136_154, q136_155, q136_156, q136_159, q136_160, q136_161, q136_164, h0, h1, c2, c3, c4, dec_S, Nat.reduceAdd]
    · simp (disch := first | omega | (simp only [sgets, reduceIte, Nat.reduceEqDiff, c2, dec_S, Nat.reduceAdd]; done) | omega) only [cS_1, crd, z_pv_some, z_wv_some, z_cv_v, z_cv_n, cwr, sgets, rc_O, ia_n, fa_n, is_n, fs_n, ↓mI_eq, lits, nI_add, nLe, nLt, nE, mI_ne, mI_ne', mI_lt, mI_le, mI_nlt, mI_nle, ne_eq, mI_addC, pk_sub, pk_mul, pk_div, Nat.reduceEqDiff, Nat.reduceAdd, Nat.reduceMul, Nat.reduceSub, reduceIte, not_true_eq_false, not_false_eq_true, true_or, or_true, if_true, if_false, and_self, and_true, true_and, and_false, false_and, or_self, or_false, false_or, decide_true, decide_false, Bool.false_eq_true, Bool.true_eq_false, bI_t, bI_f, oS_1, ord, owA0, owF0, owF1, owA1, owF2, owA2, owF3, owA3, ywo, gfs11, pfs11, yrd, ywr, q136_133, q136_134, q136_135, q136_136, q136_139, q136_140, q136_143, q136_144, q136_145, q136_147, q136_150, q136_151, q136_154, q136_155, q136_156, q136_159, q136_160, q136_161, q136_164, h0, h1, c2, dec_S, Nat.reduceAdd]
theorem m136y (M : z_M) (o : Nat) (w : Int64) (Y : z_V) (J : Nat) (hJ : J ≤ 20) (e12 : Y.1 12 = nI J) (i : Nat) (hi : i < 2 ^ 31) (p : Nat) (hp : p < J) (h1 : ∀ r, r < p → ¬ wtP Y J i r) (h2 : wtP Y J i p) : z_cl 136 [.ref o, .int (nI i)] (yS M o Y w) = some (some (.int (nI p)), yS M o Y w) := by
  obtain ⟨j3, j4, j5, e⟩ := wait_go M o w Y J hJ e12 i hi p (by omega) h1
  obtain ⟨k4, k5, e2⟩ := wait_in M o w Y J hJ e12 (.int (nI i)) p hp j3 j4 j5
  have g0 := m116 M o Y w p 0 (by omega) (by omega)
  have g1 := m116 M o Y w p 10 (by omega) (by omega)
  obtain ⟨c2, c3, c4⟩ := h2
  rw [e, e2, c4]
  simp (disch := first | omega | (simp only [sgets, reduceIte, Nat.reduceEqDiff, c2, c3, dec_S, Nat.reduceAdd]; done) | omega) only [cS_1, crd, z_pv_some, z_wv_some, z_cv_v, z_cv_n, cwr, sgets, rc_O, ia_n, fa_n, is_n, fs_n, ↓mI_eq, lits, nI_add, nLe, nLt, nE, mI_ne, mI_ne', mI_lt, mI_le, mI_nlt, mI_nle, ne_eq, mI_addC, pk_sub, pk_mul, pk_div, Nat.reduceEqDiff, Nat.reduceAdd, Nat.reduceMul, Nat.reduceSub, reduceIte, not_true_eq_false, not_false_eq_true, true_or, or_true, if_true, if_false, and_self, and_true, true_and, and_false, false_and, or_self, or_false, false_or, decide_true, decide_false, Bool.false_eq_true, Bool.true_eq_false, bI_t, bI_f, oS_1, ord, owA0, owF0, owF1, owA1, owF2, owA2, owF3, owA3, ywo, gfs11, pfs11, yrd, ywr, q136_133, q136_134, q136_135, q136_136, q136_139, q136_140, q136_143, q136_144, q136_145, q136_147, q136_150, q136_151, q136_154, q136_155, q136_156, q136_159, q136_160, q136_161, q136_164, g0, g1, c2, c3, dec_S, Nat.reduceAdd]
theorem m136z (M : z_M) (o : Nat) (w : Int64) (Y : z_V) (J : Nat) (hJ : J ≤ 20) (e12 : Y.1 12 = nI J) (i : Nat) (hi : i < 2 ^ 31) (h1 : ∀ r, r < J → ¬ wtP Y J i r) : z_cl 136 [.ref o, .int (nI i)] (yS M o Y w) = some (some (.int mI), yS M o Y w) := by
  obtain ⟨j3, j4, j5, e⟩ := wait_go M o w Y J hJ e12 i hi J (by omega) h1
  rw [e, q136_2]
  simp (disch := first | omega | (simp only [sgets, reduceIte, Nat.reduceEqDiff, e12, dec_S, Nat.reduceAdd]; done) | omega) only [cS_1, crd, z_pv_some, z_wv_some, z_cv_v, z_cv_n, cwr, sgets, rc_O, ia_n, fa_n, is_n, fs_n, ↓mI_eq, lits, nI_add, nLe, nLt, nE, mI_ne, mI_ne', mI_lt, mI_le, mI_nlt, mI_nle, ne_eq, mI_addC, pk_sub, pk_mul, pk_div, Nat.reduceEqDiff, Nat.reduceAdd, Nat.reduceMul, Nat.reduceSub, reduceIte, not_true_eq_false, not_false_eq_true, true_or, or_true, if_true, if_false, and_self, and_true, true_and, and_false, false_and, or_self, or_false, false_or, decide_true, decide_false, Bool.false_eq_true, Bool.true_eq_false, bI_t, bI_f, oS_1, ord, owA0, owF0, owF1, owA1, owF2, owA2, owF3, owA3, ywo, gfs11, pfs11, yrd, ywr, q136_3, q136_4, q136_7, q136_9, q136_10, q136_13, q136_14, q136_15, q136_16, q136_167, q136_168, Nat.le_refl, e12, dec_S, Nat.reduceAdd]
theorem wt_iff {c J S Hy B : Nat} {V Y : z_V} (h : Rl c J S Hy B V Y) {W n : Nat} (hn : n < 2 ^ 31) {q pr ak : Nat → Nat} (w5 : ∀ k, k < W → V.2.2.1 11 k = nI (q k) ∧ q k < J ∧ ¬ V.2.2.1 3 (q k) = mI ∧ V.2.2.1 13 (q k) = nI 0 ∧ Y.2.2.1 14 (q k) = nI (pr (q k)) ∧ pr (q k) < 10 ∧ V.2.2.1 12 (q k) = nI (pr (q k)) ∧ Y.2.2.1 15 (q k) = nI (ak (q k)) ∧ ak (q k) < n) (w6 : ∀ k l, k < l → l < W → pr (q l) < pr (q k) ∨ (pr (q l) = pr (q k) ∧ ak (q k) < ak (q l))) (w7 : ∀ p, p < J → ¬ V.2.2.1 3 p = mI → (∀ k, k < W → q k ≠ p) → Y.2.2.1 14 p = mI) (i p : Nat) (hp : p < J) : wtP Y J i p ↔ i < W ∧ q i = p := by
  have key : ∀ k, k < W → cnt (aheP Y (q k)) J = k := by
    intro k hk
    rw [← cnt_inQ q J k (fun i hi => (w5 i (by omega)).2.1) (fun i j a b => rQ_inj w6 i j a (by omega))]
    rw [cnt_inQ q J k (fun i hi => (w5 i (by omega)).2.1) (fun i j a b => rQ_inj w6 i j a (by omega))]
    have e : cnt (aheP Y (q k)) J = cnt (inQ q k) J := by
      apply cnt_congr
      intro r hr
      have hm := rQ_mem h w5 w7 r hr
      obtain ⟨v1, v2, v3, v4, v5, v6, v7, v8, v9⟩ := w5 k hk
      by_cases c1 : inQ q W r = true
      · obtain ⟨i, hi, rfl⟩ := (inQ_iff q W r).mp c1
        obtain ⟨u1, u2, u3, u4, u5, u6, u7, u8, u9⟩ := w5 i hi
        have hm2 := hm.mpr c1
        by_cases c2 : i < k
        · have := w6 i k c2 hk
          rw [(inQ_iff q k (q i)).mpr ⟨i, c2, rfl⟩]
          unfold aheP
          rw [decide_eq_true_eq]
          refine ⟨hm2.1, hm2.2, ?_⟩
          rw [u5, u8, v5, v8, nLt (by omega) (by omega), nE (by omega) (by omega), nLt (by omega) (by omega)]
          omega
        · have c3 : inQ q k (q i) = false := by
            rw [Bool.eq_false_iff]
            intro hx
            obtain ⟨j, hj, he⟩ := (inQ_iff q k (q i)).mp hx
            exact rQ_inj w6 j i (by omega) hi he
          rw [c3]
          unfold aheP
          rw [decide_eq_false_iff_not]
          intro hx
          have hx2 := hx.2.2
          rw [u5, u8, v5, v8, nLt (by omega) (by omega), nE (by omega) (by omega), nLt (by omega) (by omega)] at hx2
          by_cases c4 : i = k
          · subst c4; omega
          · have := w6 k i (by omega) hi
            omega
      · have c3 : inQ q k r = false := by
          rw [Bool.eq_false_iff]
          intro hx
          obtain ⟨j, hj, he⟩ := (inQ_iff q k r).mp hx
          exact c1 ((inQ_iff q W r).mpr ⟨j, by omega, he⟩)
        rw [c3]
        unfold aheP
        rw [decide_eq_false_iff_not]
        intro hx
        exact c1 (hm.mp ⟨hx.1, hx.2.1⟩)
    rw [e, cnt_inQ q J k (fun i hi => (w5 i (by omega)).2.1) (fun i j a b => rQ_inj w6 i j a (by omega))]
  constructor
  · rintro ⟨a1, a2, a3⟩
    obtain ⟨k, hk, rfl⟩ := (inQ_iff q W p).mp ((rQ_mem h w5 w7 p hp).mp ⟨a1, a2⟩)
    rw [key k hk] at a3
    subst a3
    exact ⟨hk, rfl⟩
  · rintro ⟨a1, rfl⟩
    have := (rQ_mem h w5 w7 (q i) hp).mpr ((inQ_iff q W (q i)).mpr ⟨i, a1, rfl⟩)
    exact ⟨this.1, this.2, key i a1⟩
theorem m136 (M : z_M) (o : Nat) (w : Int64) {c J S Hy B : Nat} {V Y : z_V} (h : Rl c J S Hy B V Y) (hc : c < 2 ^ 31) (i : Nat) (hi : i < nV V 11) : z_cl 136 [.ref o, .int (nI i)] (yS M o Y w) = some (some (.int (V.2.2.1 11 i)), yS M o Y w) := by
  have hq := h
  obtain ⟨-, -, -, -, -, -, -, -, ⟨W, n, q, pr, ak, w1, w2, w3, w4, w5, w6, w7⟩, -⟩ := hq
  have hW : nV V 11 = W := nV_of w3 (by omega)
  rw [hW] at hi
  rw [(w5 i hi).1]
  refine m136y M o w Y J (Rl_J h).1 (Rl_12 h) i (by omega) (q i) (w5 i hi).2.1 (fun r hr hw => ?_) ?_
  · have := (wt_iff h (by omega) w5 w6 w7 i r (by have := (w5 i hi).2.1; omega)).mp hw
    omega
  · exact (wt_iff h (by omega) w5 w6 w7 i (q i) (w5 i hi).2.1).mpr ⟨hi, rfl⟩
theorem m136n (M : z_M) (o : Nat) (w : Int64) {c J S Hy B : Nat} {V Y : z_V} (h : Rl c J S Hy B V Y) (hc : c < 2 ^ 31) (i : Nat) (hi : i < 2 ^ 31) (hi2 : nV V 11 ≤ i) : z_cl 136 [.ref o, .int (nI i)] (yS M o Y w) = some (some (.int mI), yS M o Y w) := by
  have hq := h
  obtain ⟨-, -, -, -, -, -, -, -, ⟨W, n, q, pr, ak, w1, w2, w3, w4, w5, w6, w7⟩, -⟩ := hq
  have hW : nV V 11 = W := nV_of w3 (by omega)
  refine m136z M o w Y J (Rl_J h).1 (Rl_12 h) i hi (fun r hr hw => ?_)
  have := (wt_iff h (by omega) w5 w6 w7 i r hr).mp hw
  omega
