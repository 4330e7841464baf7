/-! the model's tick: streams sent over a link -/
/-- all ways but w -/
def kW (w : Nat) (U U' : z_V) : Prop := (∀ v, v ≠ w → U'.2.2.1 1 v = U.2.2.1 1 v) ∧ ∀ v i, v ≠ w → i < 4 → U'.2.2.1 2 (v * 4 + i) = U.2.2.1 2 (v * 4 + i) ∧ U'.2.2.1 3 (v * 4 + i) = U.2.2.1 3 (v * 4 + i) ∧ U'.2.2.2 1 (v * 4 + i) = U.2.2.2 1 (v * 4 + i)
theorem kW.rf (w : Nat) (U : z_V) : kW w U U := ⟨fun _ _ => rfl, fun _ _ _ _ => ⟨rfl, rfl, rfl⟩⟩
theorem kW.tr {w : Nat} {U U' U'' : z_V} (h1 : kW w U U') (h2 : kW w U' U'') : kW w U U'' := ⟨fun v a => (h2.1 v a).trans (h1.1 v a), fun v i a b => ⟨(h2.2 v i a b).1.trans (h1.2 v i a b).1, (h2.2 v i a b).2.1.trans (h1.2 v i a b).2.1, (h2.2 v i a b).2.2.trans (h1.2 v i a b).2.2⟩⟩
/-- all links but l -/
def kL (l : Nat) (Y Z : z_V) : Prop := Z.1 = Y.1 ∧ (∀ a, a ≠ 24 → a ≠ 26 → a ≠ 27 → Z.2.2.1 a = Y.2.2.1 a) ∧ (∀ a, a ≠ 6 → Z.2.2.2 a = Y.2.2.2 a) ∧ ∀ m i, m ≠ l → i < 4 → Z.2.2.1 26 (4 * m + i) = Y.2.2.1 26 (4 * m + i) ∧ Z.2.2.1 27 (4 * m + i) = Y.2.2.1 27 (4 * m + i) ∧ Z.2.2.2 6 (4 * m + i) = Y.2.2.2 6 (4 * m + i)
theorem kL.rf (l : Nat) (Y : z_V) : kL l Y Y := ⟨rfl, fun _ _ _ _ => rfl, fun _ _ => rfl, fun _ _ _ _ => ⟨rfl, rfl, rfl⟩⟩
theorem kL.tr {l : Nat} {Y Z W : z_V} (h1 : kL l Y Z) (h2 : kL l Z W) : kL l Y W := ⟨h2.1.trans h1.1, fun a x y z => (h2.2.1 a x y z).trans (h1.2.1 a x y z), fun a x => (h2.2.2.1 a x).trans (h1.2.2.1 a x), fun m i a b => ⟨(h2.2.2.2 m i a b).1.trans (h1.2.2.2 m i a b).1, (h2.2.2.2 m i a b).2.1.trans (h1.2.2.2 m i a b).2.1, (h2.2.2.2 m i a b).2.2.trans (h1.2.2.2 m i a b).2.2⟩⟩
/-- what lies on way w and on link l -/
def eL (w l k : Nat) (U Y : z_V) : Prop := ∀ i, i < k → Y.2.2.1 26 (4 * l + i) = U.2.2.1 2 (w * 4 + i) ∧ Y.2.2.1 27 (4 * l + i) = U.2.2.1 3 (w * 4 + i) ∧ Y.2.2.2 6 (4 * l + i) = U.2.2.2 1 (w * 4 + i)
def snU (U : z_V) (w k r : Nat) : z_V := sA (sA (sF (sA (sA U 2 (upd (U.2.2.1 2) (w * 4 + k) (nI r))) 3 (upd (U.2.2.1 3) (w * 4 + k) (U.2.2.1 0 r + nI 1))) 1 (vf_upd (U.2.2.2 1) (w * 4 + k) (U.2.2.2 0 r))) 1 (upd (U.2.2.1 1) w (nI (k + 1)))) 0 (upd (U.2.2.1 0) r mI)
def snY (Y : z_V) (l k r : Nat) : z_V := sA (sF (sA (sA Y 26 (upd (Y.2.2.1 26) (4 * l + k) (nI r))) 27 (upd (Y.2.2.1 27) (4 * l + k) (Y.2.2.1 24 r + nI 1))) 6 (vf_upd (Y.2.2.2 6) (4 * l + k) (Y.2.2.2 5 r))) 24 (upd (Y.2.2.1 24) r mI)
theorem snU_eq {U : z_V} {w k r : Nat} (hk : k < 4) (hz : U.2.2.1 1 w = nI k) : sA (addSt U w (nI r) (U.2.2.1 0 r + nI 1) (U.2.2.2 0 r)) 0 (upd (U.2.2.1 0) r mI) = snU U w k r := by
  unfold addSt snU
  rw [hz, nI_clamp (by omega), if_neg (by omega)]
theorem kW_sn (U : z_V) (w k r : Nat) (hk : k < 4) : kW w U (snU U w k r) := by
  unfold snU
  refine ⟨fun v a => ?_, fun v i a b => ?_⟩
  · simp only [sgets, Nat.reduceEqDiff, if_true, if_false]
    rw [upd_ne _ _ a]
  · simp only [sgets, Nat.reduceEqDiff, if_true, if_false]
    rw [upd_ne _ _ (by omega), upd_ne _ _ (by omega), updF_ne _ _ (by omega)]
    exact ⟨rfl, rfl, rfl⟩
theorem kL_sn (Y : z_V) (l k r : Nat) (hk : k < 4) : kL l Y (snY Y l k r) := by
  unfold snY
  refine ⟨rfl, fun a x y z => ?_, fun a x => ?_, fun m i a b => ?_⟩
  · simp only [sgets, x, y, z, if_false]
  · simp only [sgets, x, if_false]
  · simp only [sgets, Nat.reduceEqDiff, if_true, if_false]
    rw [upd_ne _ _ (by omega), upd_ne _ _ (by omega), updF_ne _ _ (by omega)]
    exact ⟨rfl, rfl, rfl⟩
section
variable (M : z_M) (o : Nat) (u : Int64)
theorem sen_lp {J w l P : Nat} (hJ : J ≤ 20) (hw : w < 16) (hl : l < 64) (hP : P ≤ 4) (x1 x2 : Option Value) : ∀ (d k : Nat) (U Y : z_V) (best : Int32) (j : Option Value), d + k = P → gR J U Y → U.2.2.1 1 w = nI k → eL w l k U Y → ¬ best = mI → ∃ Z k' b' j', z_ex 151 M.1 27 [some (.ref o), x1, x2, some (.int (nI P)), some (.int (nI l)), some (.int (nI k)), some (.int best), j] [] (yS M o Y u) = z_ex 151 M.1 186 [some (.ref o), x1, x2, some (.int (nI P)), some (.int (nI l)), some (.int (nI k')), b', j'] [] (yS M o Z u) ∧ k' ≤ 4 ∧ (sendL w J d U).2.2.1 1 w = nI k' ∧ eL w l k' (sendL w J d U) Z ∧ kW w U (sendL w J d U) ∧ kL l Y Z := by
  intro d
  induction d with
  | zero =>
    intro k U Y best j hk hg hz he hb
    have hk' : k = P := by omega
    subst hk'
    refine ⟨Y, k, some (.int best), j, ?_, hP, hz, he, kW.rf w U, kL.rf l Y⟩
    rw [q151_27]
    simp (disch := first | omega | (simp only [sgets, reduceIte, Nat.reduceEqDiff, dec_S, Nat.reduceAdd]; done) | omega) only [cS_1, crd, z_pv_some, z_wv_some, z_cv_v, z_cv_n, cwr, sgets, rc_O, ia_n, fa_n, is_n, fs_n, ↓mI_eq, lits, nI_add, nLe, nLt, nE, mI_ne, mI_ne', mI_lt, mI_le, mI_nlt, mI_nle, ne_eq, mI_addC, pk_sub, pk_mul, pk_div, Nat.reduceEqDiff, Nat.reduceAdd, Nat.reduceMul, Nat.reduceSub, reduceIte, not_true_eq_false, not_false_eq_true, true_or, or_true, if_true, if_false, and_self, and_true, true_and, and_false, false_and, or_self, or_false, false_or, decide_true, decide_false, Bool.false_eq_true, Bool.true_eq_false, bI_t, bI_f, oS_1, ord, owA0, owF0, owF1, owA1, owF2, owA2, owF3, owA3, ywo, gfs11, pfs11, yrd, ywr, q151_29, q151_30, q151_33, q151_35, q151_36, Nat.le_refl, dec_S, Nat.reduceAdd]
  | succ d ih =>
    intro k U Y best j hk hg hz he hb
    have hk2 : ¬ P ≤ k := by omega
    have hlp := it_for (fun i f => z_ex 151 M.1 45 [some (.ref o), x1, x2, some (.int (nI P)), some (.int (nI l)), some (.int (nI k)), some (.int f), some (.int (nI i))] [] (yS M o Y u)) (fun i f => if i < J then (if decide (¬ U.2.2.1 0 i = mI) = true ∧ (f = mI ∨ nI 0 < Op.cmpValue (FP.fcmp (U.2.2.2 0 i) (U.2.2.2 0 f.toNatClampNeg)) .l) then nI i else f) else f) (fun i f => f = mI ∨ ∃ r, r < i ∧ r < J ∧ f = nI r) 20 (by
      intro i f hi hf
      have hi2 : ¬ 20 ≤ i := by omega
      constructor
      · rw [q151_45]
        by_cases cJ : i < J
        · obtain ⟨a24, a5⟩ := hg.1 i cJ
          simp only [cJ, if_true]
          by_cases a1 : U.2.2.1 0 i = mI
          · simp (disch := first | omega | (simp only [sgets, reduceIte, Nat.reduceEqDiff, hi2, a24, a1, dec_S, Nat.reduceAdd]; done) | omega) only [cS_1, crd, z_pv_some, z_wv_some, z_cv_v, z_cv_n, cwr, sgets, rc_O, ia_n, fa_n, is_n, fs_n, ↓mI_eq, lits, nI_add, nLe, nLt, nE, mI_ne, mI_ne', mI_lt, mI_le, mI_nlt, mI_nle, ne_eq, mI_addC, pk_sub, pk_mul, pk_div, Nat.reduceEqDiff, Nat.reduceAdd, Nat.reduceMul, Nat.reduceSub, reduceIte, not_true_eq_false, not_false_eq_true, true_or, or_true, if_true, if_false, and_self, and_true, true_and, and_false, false_and, or_self, or_false, false_or, decide_true, decide_false, Bool.false_eq_true, Bool.true_eq_false, bI_t, bI_f, oS_1, ord, owA0, owF0, owF1, owA1, owF2, owA2, owF3, owA3, ywo, gfs11, pfs11, yrd, ywr, q151_47, q151_49, q151_52, q151_53, q151_56, q151_58, q151_59, q151_60, q151_63, q151_65, q151_66, q151_69, q151_70, q151_73, q151_75, q151_76, q151_77, q151_80, q151_82, q151_83, q151_84, q151_87, q151_89, q151_92, q151_94, q151_96, q151_99, hi2, a24, a1, dec_S, Nat.reduceAdd]
          · rcases hf with rfl | ⟨r, hr, hrJ, rfl⟩
            · simp (disch := first | omega | (simp only [sgets, reduceIte, Nat.reduceEqDiff, hi2, a24, a1, dec_S, Nat.reduceAdd]; done) | omega) only [cS_1, crd, z_pv_some, z_wv_some, z_cv_v, z_cv_n, cwr, sgets, rc_O, ia_n, fa_n, is_n, fs_n, ↓mI_eq, lits, nI_add, nLe, nLt, nE, mI_ne, mI_ne', mI_lt, mI_le, mI_nlt, mI_nle, ne_eq, mI_addC, pk_sub, pk_mul, pk_div, Nat.reduceEqDiff, Nat.reduceAdd, Nat.reduceMul, Nat.reduceSub, reduceIte, not_true_eq_false, not_false_eq_true, true_or, or_true, if_true, if_false, and_self, and_true, true_and, and_false, false_and, or_self, or_false, false_or, decide_true, decide_false, Bool.false_eq_true, Bool.true_eq_false, bI_t, bI_f, oS_1, ord, owA0, owF0, owF1, owA1, owF2, owA2, owF3, owA3, ywo, gfs11, pfs11, yrd, ywr, q151_47, q151_49, q151_52, q151_53, q151_56, q151_58, q151_59, q151_60, q151_63, q151_65, q151_66, q151_69, q151_70, q151_73, q151_75, q151_76, q151_77, q151_80, q151_82, q151_83, q151_84, q151_87, q151_89, q151_92, q151_94, q151_96, q151_99, hi2, a24, a1, dec_S, Nat.reduceAdd]
            · have b5 := (hg.1 r hrJ).2
              by_cases h4 : Op.cmpValue (FP.fcmp (U.2.2.2 0 i) (U.2.2.2 0 r)) .l ≤ nI 0
              · have h5 : ¬ nI 0 < Op.cmpValue (FP.fcmp (U.2.2.2 0 i) (U.2.2.2 0 r)) .l := Int32.not_lt.mpr h4
                simp (disch := first | omega | (simp only [sgets, reduceIte, Nat.reduceEqDiff, hi2, a24, a5, b5, a1, h4, h5, dec_S, Nat.reduceAdd]; done) | omega) only [cS_1, crd, z_pv_some, z_wv_some, z_cv_v, z_cv_n, cwr, sgets, rc_O, ia_n, fa_n, is_n, fs_n, ↓mI_eq, lits, nI_add, nLe, nLt, nE, mI_ne, mI_ne', mI_lt, mI_le, mI_nlt, mI_nle, ne_eq, mI_addC, pk_sub, pk_mul, pk_div, Nat.reduceEqDiff, Nat.reduceAdd, Nat.reduceMul, Nat.reduceSub, reduceIte, not_true_eq_false, not_false_eq_true, true_or, or_true, if_true, if_false, and_self, and_true, true_and, and_false, false_and, or_self, or_false, false_or, decide_true, decide_false, Bool.false_eq_true, Bool.true_eq_false, bI_t, bI_f, oS_1, ord, owA0, owF0, owF1, owA1, owF2, owA2, owF3, owA3, ywo, gfs11, pfs11, yrd, ywr, q151_47, q151_49, q151_52, q151_53, q151_56, q151_58, q151_59, q151_60, q151_63, q151_65, q151_66, q151_69, q151_70, q151_73, q151_75, q151_76, q151_77, q151_80, q151_82, q151_83, q151_84, q151_87, q151_89, q151_92, q151_94, q151_96, q151_99, nI_clamp, hi2, a24, a5, b5, a1, h4, h5, dec_S, Nat.reduceAdd]
              · have h5 : nI 0 < Op.cmpValue (FP.fcmp (U.2.2.2 0 i) (U.2.2.2 0 r)) .l := Int32.not_le.mp h4
                simp (disch := first | omega | (simp only [sgets, reduceIte, Nat.reduceEqDiff, hi2, a24, a5, b5, a1, h4, h5, dec_S, Nat.reduceAdd]; done) | omega) only [cS_1, crd, z_pv_some, z_wv_some, z_cv_v, z_cv_n, cwr, sgets, rc_O, ia_n, fa_n, is_n, fs_n, ↓mI_eq, lits, nI_add, nLe, nLt, nE, mI_ne, mI_ne', mI_lt, mI_le, mI_nlt, mI_nle, ne_eq, mI_addC, pk_sub, pk_mul, pk_div, Nat.reduceEqDiff, Nat.reduceAdd, Nat.reduceMul, Nat.reduceSub, reduceIte, not_true_eq_false, not_false_eq_true, true_or, or_true, if_true, if_false, and_self, and_true, true_and, and_false, false_and, or_self, or_false, false_or, decide_true, decide_false, Bool.false_eq_true, Bool.true_eq_false, bI_t, bI_f, oS_1, ord, owA0, owF0, owF1, owA1, owF2, owA2, owF3, owA3, ywo, gfs11, pfs11, yrd, ywr, q151_47, q151_49, q151_52, q151_53, q151_56, q151_58, q151_59, q151_60, q151_63, q151_65, q151_66, q151_69, q151_70, q151_73, q151_75, q151_76, q151_77, q151_80, q151_82, q151_83, q151_84, q151_87, q151_89, q151_92, q151_94, q151_96, q151_99, nI_clamp, hi2, a24, a5, b5, a1, h4, h5, dec_S, Nat.reduceAdd]
        · have a24 := hg.2 i (by omega) hi
          simp only [cJ, if_false]
          simp (disch := first | omega | (simp only [sgets, reduceIte, Nat.reduceEqDiff, hi2, a24, dec_S, Nat.reduceAdd]; done) | omega) only [cS_1, crd, z_pv_some, z_wv_some, z_cv_v, z_cv_n, cwr, sgets, rc_O, ia_n, fa_n, is_n, fs_n, ↓mI_eq, lits, nI_add, nLe, nLt, nE, mI_ne, mI_ne', mI_lt, mI_le, mI_nlt, mI_nle, ne_eq, mI_addC, pk_sub, pk_mul, pk_div, Nat.reduceEqDiff, Nat.reduceAdd, Nat.reduceMul, Nat.reduceSub, reduceIte, not_true_eq_false, not_false_eq_true, true_or, or_true, if_true, if_false, and_self, and_true, true_and, and_false, false_and, or_self, or_false, false_or, decide_true, decide_false, Bool.false_eq_true, Bool.true_eq_false, bI_t, bI_f, oS_1, ord, owA0, owF0, owF1, owA1, owF2, owA2, owF3, owA3, ywo, gfs11, pfs11, yrd, ywr, q151_47, q151_49, q151_52, q151_53, q151_56, q151_58, q151_59, q151_60, q151_63, q151_65, q151_66, q151_69, q151_70, q151_73, q151_75, q151_76, q151_77, q151_80, q151_82, q151_83, q151_84, q151_87, q151_89, q151_92, q151_94, q151_96, q151_99, hi2, a24, dec_S, Nat.reduceAdd]
      · split
        · split
          · exact Or.inr ⟨i, by omega, by assumption, rfl⟩
          · rcases hf with hf | ⟨r, hr, hrJ, hf⟩
            · exact Or.inl hf
            · exact Or.inr ⟨r, by omega, hrJ, hf⟩
        · rcases hf with hf | ⟨r, hr, hrJ, hf⟩
          · exact Or.inl hf
          · exact Or.inr ⟨r, by omega, hrJ, hf⟩) mI (Or.inl rfl) 20 (Nat.le_refl 20)
    have eit : it (fun i f => if i < J then (if decide (¬ U.2.2.1 0 i = mI) = true ∧ (f = mI ∨ nI 0 < Op.cmpValue (FP.fcmp (U.2.2.2 0 i) (U.2.2.2 0 f.toNatClampNeg)) .l) then nI i else f) else f) 20 mI = mLoud U J := by
      rw [it_ext (J := J) hJ (fun k s a b => by rw [if_neg (by omega)])]
      exact it_congr (fun k s hk => if_pos hk) _
    obtain ⟨hl1, -⟩ := hlp
    rw [eit] at hl1
    unfold sendL
    rcases loudF_lt (fun k => decide (¬ U.2.2.1 0 k = mI)) (U.2.2.2 0) J with h0 | ⟨r, hr, h0, -⟩
    · replace h0 : mLoud U J = mI := h0
      rw [h0] at hl1
      rw [if_pos h0]
      refine ⟨Y, k, some (.int mI), some (.int (nI 20)), ?_, by omega, hz, he, kW.rf w U, kL.rf l Y⟩
      rw [q151_27]
      refine Eq.trans ?_ (hl1.trans ?_)
      · simp (disch := first | omega | (simp only [sgets, reduceIte, Nat.reduceEqDiff, hk2, hb, dec_S, Nat.reduceAdd]; done) | omega) only [cS_1, crd, z_pv_some, z_wv_some, z_cv_v, z_cv_n, cwr, sgets, rc_O, ia_n, fa_n, is_n, fs_n, ↓mI_eq, lits, nI_add, nLe, nLt, nE, mI_ne, mI_ne', mI_lt, mI_le, mI_nlt, mI_nle, ne_eq, mI_addC, pk_sub, pk_mul, pk_div, Nat.reduceEqDiff, Nat.reduceAdd, Nat.reduceMul, Nat.reduceSub, reduceIte, not_true_eq_false, not_false_eq_true, true_or, or_true, if_true, if_false, and_self, and_true, true_and, and_false, false_and, or_self, or_false, false_or, decide_true, decide_false, Bool.false_eq_true, Bool.true_eq_false, bI_t, bI_f, oS_1, ord, owA0, owF0, owF1, owA1, owF2, owA2, owF3, owA3, ywo, gfs11, pfs11, yrd, ywr, q151_29, q151_30, q151_33, q151_35, q151_36, q151_39, q151_40, q151_42, q151_43, hk2, hb, dec_S, Nat.reduceAdd]
      · rw [q151_45]
        simp (disch := first | omega | (simp only [sgets, reduceIte, Nat.reduceEqDiff, hk2, dec_S, Nat.reduceAdd]; done) | omega) only [cS_1, crd, z_pv_some, z_wv_some, z_cv_v, z_cv_n, cwr, sgets, rc_O, ia_n, fa_n, is_n, fs_n, ↓mI_eq, lits, nI_add, nLe, nLt, nE, mI_ne, mI_ne', mI_lt, mI_le, mI_nlt, mI_nle, ne_eq, mI_addC, pk_sub, pk_mul, pk_div, Nat.reduceEqDiff, Nat.reduceAdd, Nat.reduceMul, Nat.reduceSub, reduceIte, not_true_eq_false, not_false_eq_true, true_or, or_true, if_true, if_false, and_self, and_true, true_and, and_false, false_and, or_self, or_false, false_or, decide_true, decide_false, Bool.false_eq_true, Bool.true_eq_false, bI_t, bI_f, oS_1, ord, owA0, owF0, owF1, owA1, owF2, owA2, owF3, owA3, ywo, gfs11, pfs11, yrd, ywr, q151_47, q151_49, q151_102, q151_104, q151_105, q151_27, q151_29, q151_30, q151_33, q151_35, q151_36, Nat.le_refl, hk2, dec_S, Nat.reduceAdd]
    · replace h0 : mLoud U J = nI r := h0
      rw [h0] at hl1 ⊢
      rw [if_neg (by rw [mI_ne (by omega)]; exact not_false), nI_clamp (by omega), snU_eq (by omega) hz]
      obtain ⟨a24, a5⟩ := hg.1 r hr
      have hgs : gR J (snU U w k r) (snY Y l k r) := by
        unfold snU snY
        refine ⟨fun p hp => ?_, fun p h1 h2 => ?_⟩
        · simp only [sgets, Nat.reduceEqDiff, if_true, if_false]
          by_cases c : p = r
          · subst c; rw [upd_eq, upd_eq]; exact ⟨rfl, (hg.1 p hp).2⟩
          · rw [upd_ne _ _ c, upd_ne _ _ c]; exact hg.1 p hp
        · simp only [sgets, Nat.reduceEqDiff, if_true, if_false]
          rw [upd_ne _ _ (by omega)]; exact hg.2 p h1 h2
      have hes : eL w l (k + 1) (snU U w k r) (snY Y l k r) := by
        intro i hi
        unfold snU snY
        simp only [sgets, Nat.reduceEqDiff, if_true, if_false]
        by_cases c : i = k
        · subst c
          rw [upd_eq, upd_eq, upd_eq, upd_eq, updF_eq, updF_eq, a24, a5]
          exact ⟨rfl, rfl, rfl⟩
        · rw [upd_ne _ _ (by omega), upd_ne _ _ (by omega), upd_ne _ _ (by omega), upd_ne _ _ (by omega), updF_ne _ _ (by omega), updF_ne _ _ (by omega)]
          exact he i (by omega)
      have hzs : (snU U w k r).2.2.1 1 w = nI (k + 1) := by
        unfold snU
        simp only [sgets, Nat.reduceEqDiff, if_true, if_false]
        rw [upd_eq]
      obtain ⟨Z, k', b', j', z1, z2, z3, z4, z5, z6⟩ := ih (k + 1) (snU U w k r) (snY Y l k r) (nI r) (some (.int (nI 20))) (by omega) hgs hzs hes (by rw [mI_ne (by omega)]; exact not_false)
      refine ⟨Z, k', b', j', ?_, z2, z3, z4, (kW_sn U w k r (by omega)).tr z5, (kL_sn Y l k r (by omega)).tr z6⟩
      unfold snY at z1
      rw [q151_27]
      refine Eq.trans ?_ (hl1.trans ?_)
      · simp (disch := first | omega | (simp only [sgets, reduceIte, Nat.reduceEqDiff, hk2, hb, dec_S, Nat.reduceAdd]; done) | omega) only [cS_1, crd, z_pv_some, z_wv_some, z_cv_v, z_cv_n, cwr, sgets, rc_O, ia_n, fa_n, is_n, fs_n, ↓mI_eq, lits, nI_add, nLe, nLt, nE, mI_ne, mI_ne', mI_lt, mI_le, mI_nlt, mI_nle, ne_eq, mI_addC, pk_sub, pk_mul, pk_div, Nat.reduceEqDiff, Nat.reduceAdd, Nat.reduceMul, Nat.reduceSub, reduceIte, not_true_eq_false, not_false_eq_true, true_or, or_true, if_true, if_false, and_self, and_true, true_and, and_false, false_and, or_self, or_false, false_or, decide_true, decide_false, Bool.false_eq_true, Bool.true_eq_false, bI_t, bI_f, oS_1, ord, owA0, owF0, owF1, owA1, owF2, owA2, owF3, owA3, ywo, gfs11, pfs11, yrd, ywr, q151_29, q151_30, q151_33, q151_35, q151_36, q151_39, q151_40, q151_42, q151_43, hk2, hb, dec_S, Nat.reduceAdd]
      · rw [q151_45]
        simp (disch := first | omega | (simp only [sgets, reduceIte, Nat.reduceEqDiff, dec_S, Nat.reduceAdd]; done) | omega) only [cS_1, crd, z_pv_some, z_wv_some, z_cv_v, z_cv_n, cwr, sgets, rc_O, ia_n, fa_n, is_n, fs_n, ↓mI_eq, lits, nI_add, nLe, nLt, nE, mI_ne, mI_ne', mI_lt, mI_le, mI_nlt, mI_nle, ne_eq, mI_addC, pk_sub, pk_mul, pk_div, Nat.reduceEqDiff, Nat.reduceAdd, Nat.reduceMul, Nat.reduceSub, reduceIte, not_true_eq_false, not_false_eq_true, true_or, or_true, if_true, if_false, and_self, and_true, true_and, and_false, false_and, or_self, or_false, false_or, decide_true, decide_false, Bool.false_eq_true, Bool.true_eq_false, bI_t, bI_f, oS_1, ord, owA0, owF0, owF1, owA1, owF2, owA2, owF3, owA3, ywo, gfs11, pfs11, yrd, ywr, q151_47, q151_49, q151_102, q151_104, q151_105, q151_108, q151_109, q151_112, q151_114, q151_116, q151_117, q151_118, q151_119, q151_120, q151_122, q151_123, q151_124, q151_126, q151_127, q151_128, q151_131, q151_133, q151_135, q151_136, q151_137, q151_138, q151_139, q151_141, q151_142, q151_143, q151_144, q151_147, q151_149, q151_150, q151_151, q151_152, q151_153, q151_154, q151_157, q151_158, q151_160, q151_161, q151_163, q151_164, q151_165, q151_168, q151_170, q151_171, q151_172, q151_173, q151_176, q151_178, q151_179, q151_180, q151_183, z1, Nat.le_refl, dec_S, Nat.reduceAdd]
end
