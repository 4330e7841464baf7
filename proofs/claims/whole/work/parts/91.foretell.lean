/-! foretell -/
/-- what a question with a trial leaves: the saved states, the text -/
def kX (Y Z : z_V) : Prop := (∀ i, 12 < i → Z.1 i = Y.1 i) ∧ Z.2.2.1 28 = Y.2.2.1 28 ∧ Z.2.2.2 4 = Y.2.2.2 4 ∧ ∀ k, 1 ≤ k → k ≤ 5 → ∀ W, hol Y k W → hol Z k W
theorem kX.rf (Y : z_V) : kX Y Y := ⟨fun _ _ => rfl, rfl, rfl, fun _ _ _ _ h => h⟩
theorem kX_re {Y Z : z_V} (h : kY (cpY Y 0 6) Z) : kX Y (reY Z Y) := by
  refine ⟨fun i hi => ?_, ?_, ?_, fun k h1 h2 W hh => ?_⟩
  · show (if i < 13 then Y.1 i else Z.1 i) = Y.1 i
    rw [if_neg (by omega), h.1 i hi]
    rfl
  · show Z.2.2.1 28 = Y.2.2.1 28
    rw [h.2.1.2]
    rfl
  · show Z.2.2.2 4 = Y.2.2.2 4
    rw [h.2.2.2]
    rfl
  · exact hol_re (by omega) (hol_kY h (by omega) (hol_cp2 (by omega) (by omega) hh))
theorem okSv_kX {Y Z : z_V} {s : Nat} {Ss : Nat → z_V} (h : kX Y Z) (hs : okSv Y s Ss) : okSv Z s Ss :=
  ⟨hs.1, by rw [h.1 13 (by omega)]; exact hs.2.1, fun k a b => h.2.2.2 k a (by have := hs.1; omega) _ (hs.2.2 k a b)⟩
theorem kX_b {Y Z : z_V} (h : kX Y Z) (hb : okb Y) : okb Z := by unfold okb at *; rw [h.2.2.1]; exact hb
section
variable (M : z_M) (n : Nat) (V Vt U H T : z_V) (Hs : Nat → z_V) (M' : z_M) (o : Nat) (w : Int64) {c J S Hy B : Nat} {Y : z_V}
theorem tr0 : (gM M n V Vt U H T Hs).2 (n + 33) = some (z_O 0 [.int (Vt.1 0), .ref (n + 33 + 1), .ref (n + 33 + 2), .ref (n + 33 + 6), .ref (n + 33 + 17), .ref (n + 33 + 23), .ref (n + 33 + 28)]) := by
  rw [gM_y]; exact crd0 _ _ _
theorem tr6 : (gM M n V Vt U H T Hs).2 (n + 33 + 6) = some (z_O 6 [.int (Vt.1 9), .int (Vt.1 10), .ref (n + 33 + 7), .ref (n + 33 + 8), .ref (n + 33 + 9), .ref (n + 33 + 10), .ref (n + 33 + 11), .ref (n + 33 + 12), .ref (n + 33 + 13), .ref (n + 33 + 14), .ref (n + 33 + 15), .ref (n + 33 + 16)]) := by
  rw [gM_y]; exact crd6 _ _ _
theorem tr14 : (gM M n V Vt U H T Hs).2 (n + 33 + 14) = some (z_I 20 (Vt.2.2.1 9)) := by
  rw [gM_y]; exact crd14 _ _ _
theorem fr_lp {p N : Nat} (hp : p < 20) (hN : N ≤ 99) (hc : c < 2 ^ 31) (hb : okb Y) : ∀ (d i : Nat) (W Vi Yi : z_V), i + d = N → okC W J S Hy B → Vi = rp Vi W → Rl c J S Hy B Vi Yi → kY (cpY Y 0 6) Yi → ∃ r W' Z, z_ex 101 (gM M n V W U H T Hs).1 43 [some (.ref n), some (.int (nI p)), some (.int (nI N)), some (.int (nI i))] [] (gM M n V W U H T Hs) = some (some (.int r), gM M n V W' U H T Hs) ∧ z_ex 173 M'.1 38 [some (.ref o), some (.int (nI p)), some (.int (nI N)), some (.int (nI i)), none] [] (yS M' o Yi w) = some (some (.int r), yS M' o (reY Z Y) w) ∧ kY (cpY Y 0 6) Z := by
  intro d
  have hend : ∀ Z, kY (cpY Y 0 6) Z → z_cl 112 [.ref o, .int (nI 5826), .int (nI 0), .int (nI 1776), .int (nI 0)] (yS M' o Z w) = some (none, yS M' o (reY Z Y) w) := fun Z hZ =>
    m112r M' o Z Y w 6 (by omega) (by omega) (hol_kY hZ (by omega) (hol_cp1 (by omega) (hol_0 Y)))
  induction d with
  | zero =>
    intro i W Vi Yi hi hC hr hR hk
    obtain rfl : i = N := by omega
    have h0 := tr0 M n V W U H T Hs
    have h6 := tr6 M n V W U H T Hs
    have h14 := tr14 M n V W U H T Hs
    have h144 := m144r M' o w hR hp
    have e9 : Vi.2.2.1 9 p = W.2.2.1 9 p := by rw [hr]; exact congrFun (rp_A Vi (W := W) (i := 9) (by omega)) p
    rw [e9] at h144
    have he := hend Yi hk
    by_cases hs : W.2.2.1 9 p = mI
    · refine ⟨mI, W, Yi, ?_, ?_, hk⟩
      · rw [q101_43]
        simp (disch := first | omega | (simp only [sgets, reduceIte, Nat.reduceEqDiff, hs]; done) | omega) only [cS_1, crd, z_pv_some, z_wv_some, z_cv_v, z_cv_n, cwr, sgets, rc_O, ia_n, fa_n, is_n, fs_n, ↓mI_eq, lits, nI_add, nLe, nLt, nE, mI_ne, mI_ne', mI_lt, mI_le, mI_nlt, mI_nle, ne_eq, mI_addC, pk_sub, pk_mul, pk_div, Nat.reduceEqDiff, Nat.reduceAdd, Nat.reduceMul, Nat.reduceSub, reduceIte, not_true_eq_false, not_false_eq_true, true_or, or_true, if_true, if_false, and_self, and_true, true_and, and_false, false_and, or_self, or_false, false_or, decide_true, decide_false, Bool.false_eq_true, Bool.true_eq_false, bI_t, bI_f, grd, gM_1, gfs10, gfs0, gfs3, gfs5, gfs6, gfs9, gfs2, gfs7, gfs8, gfs1, q101_44, q101_45, q101_48, q101_49, q101_52, q101_55, q101_58, q101_59, q101_60, q101_61, q101_64, q101_65, q101_66, q101_67, q101_70, q101_73, q101_76, q101_79, q101_80, q101_83, q101_86, q101_89, q101_90, q101_91, q101_92, q101_95, q101_96, q101_99, q101_100, h0, h6, h14, Nat.le_refl, hs]
      · rw [show decide (¬ W.2.2.1 9 p = mI) = false by simp [hs]] at h144
        rw [q173_38]
        simp (disch := first | omega | (simp only [sgets, reduceIte, Nat.reduceEqDiff, dec_S, Nat.reduceAdd]; done) | omega) only [cS_1, crd, z_pv_some, z_wv_some, z_cv_v, z_cv_n, cwr, sgets, rc_O, ia_n, fa_n, is_n, fs_n, ↓mI_eq, lits, nI_add, nLe, nLt, nE, mI_ne, mI_ne', mI_lt, mI_le, mI_nlt, mI_nle, ne_eq, mI_addC, pk_sub, pk_mul, pk_div, Nat.reduceEqDiff, Nat.reduceAdd, Nat.reduceMul, Nat.reduceSub, reduceIte, not_true_eq_false, not_false_eq_true, true_or, or_true, if_true, if_false, and_self, and_true, true_and, and_false, false_and, or_self, or_false, false_or, decide_true, decide_false, Bool.false_eq_true, Bool.true_eq_false, bI_t, bI_f, oS_1, ord, owA0, owF0, owF1, owA1, owF2, owA2, owF3, owA3, ywo, gfs11, pfs11, yrd, ywr, q173_39, q173_40, q173_43, q173_44, q173_45, q173_48, q173_51, q173_52, q173_55, q173_58, q173_61, q173_62, q173_63, q173_66, q173_69, q173_70, q173_73, q173_74, q173_76, q173_77, q173_80, q173_81, q173_84, q173_85, q173_88, q173_90, h144, he, Nat.le_refl, dec_S, Nat.reduceAdd]
    · refine ⟨nI i, W, Yi, ?_, ?_, hk⟩
      · rw [q101_43]
        simp (disch := first | omega | (simp only [sgets, reduceIte, Nat.reduceEqDiff, hs]; done) | omega) only [cS_1, crd, z_pv_some, z_wv_some, z_cv_v, z_cv_n, cwr, sgets, rc_O, ia_n, fa_n, is_n, fs_n, ↓mI_eq, lits, nI_add, nLe, nLt, nE, mI_ne, mI_ne', mI_lt, mI_le, mI_nlt, mI_nle, ne_eq, mI_addC, pk_sub, pk_mul, pk_div, Nat.reduceEqDiff, Nat.reduceAdd, Nat.reduceMul, Nat.reduceSub, reduceIte, not_true_eq_false, not_false_eq_true, true_or, or_true, if_true, if_false, and_self, and_true, true_and, and_false, false_and, or_self, or_false, false_or, decide_true, decide_false, Bool.false_eq_true, Bool.true_eq_false, bI_t, bI_f, grd, gM_1, gfs10, gfs0, gfs3, gfs5, gfs6, gfs9, gfs2, gfs7, gfs8, gfs1, q101_44, q101_45, q101_48, q101_49, q101_52, q101_55, q101_58, q101_59, q101_60, q101_61, q101_64, q101_65, q101_66, q101_67, q101_70, q101_73, q101_76, q101_79, q101_80, q101_83, q101_86, q101_89, q101_90, q101_91, q101_92, q101_95, q101_96, q101_99, q101_100, h0, h6, h14, Nat.le_refl, hs]
      · rw [show decide (¬ W.2.2.1 9 p = mI) = true by simp [hs]] at h144
        rw [q173_38]
        simp (disch := first | omega | (simp only [sgets, reduceIte, Nat.reduceEqDiff, dec_S, Nat.reduceAdd]; done) | omega) only [cS_1, crd, z_pv_some, z_wv_some, z_cv_v, z_cv_n, cwr, sgets, rc_O, ia_n, fa_n, is_n, fs_n, ↓mI_eq, lits, nI_add, nLe, nLt, nE, mI_ne, mI_ne', mI_lt, mI_le, mI_nlt, mI_nle, ne_eq, mI_addC, pk_sub, pk_mul, pk_div, Nat.reduceEqDiff, Nat.reduceAdd, Nat.reduceMul, Nat.reduceSub, reduceIte, not_true_eq_false, not_false_eq_true, true_or, or_true, if_true, if_false, and_self, and_true, true_and, and_false, false_and, or_self, or_false, false_or, decide_true, decide_false, Bool.false_eq_true, Bool.true_eq_false, bI_t, bI_f, oS_1, ord, owA0, owF0, owF1, owA1, owF2, owA2, owF3, owA3, ywo, gfs11, pfs11, yrd, ywr, q173_39, q173_40, q173_43, q173_44, q173_45, q173_48, q173_51, q173_52, q173_55, q173_58, q173_61, q173_62, q173_63, q173_66, q173_69, q173_70, q173_73, q173_74, q173_76, q173_77, q173_80, q173_81, q173_84, q173_85, q173_88, q173_90, h144, he, Nat.le_refl, dec_S, Nat.reduceAdd]
  | succ d ih =>
    intro i W Vi Yi hi hC hr hR hk
    have hiN : ¬ N ≤ i := by omega
    have h0 := tr0 M n V W U H T Hs
    have h6 := tr6 M n V W U H T Hs
    have h14 := tr14 M n V W U H T Hs
    have h144 := m144r M' o w hR hp
    have e9 : Vi.2.2.1 9 p = W.2.2.1 9 p := by rw [hr]; exact congrFun (rp_A Vi (W := W) (i := 9) (by omega)) p
    rw [e9] at h144
    by_cases hs : W.2.2.1 9 p = mI
    · obtain ⟨Z1, z1, z2, z3⟩ := s131 M' o w hR (kY_b hk (kV_b (kV_cp Y 0 6) hb)) hc U
      have hr2 : (tick1 J S B (U, Vi)).2 = rp (tick1 J S B (U, Vi)).2 (begT W J S B) := by
        have e := tick_rp hR.1 U
        have e2 : begT Vi J S B = rp Vi (begT W J S B) := by
          conv => lhs; rw [hr]
          exact begT_rp Vi J S B W
        rw [e2, rp_rp] at e
        exact e
      obtain ⟨r, W', Z, a1, a2, a3⟩ := ih (i + 1) (begT W J S B) _ Z1 (by omega) (okC_beg (M := M) (c := n) hC) hr2 z2 (hk.tr z3)
      have hC2 := hC
      obtain ⟨⟨hJ, h9⟩, ⟨hS, h1⟩, ⟨hHy, h2⟩, ⟨hB, h8⟩, hE, hw, hl, hd, hst, hpl, hmx⟩ := hC2
      have h11 : z_cl 11 [.ref (n + 33)] (gM M n V W U H T Hs) = some (none, gM M n V (begT W J S B) U H T Hs) := by
        rw [gM_y, gM_y]
        exact m11 _ (n + 33) W J S Hy B hJ h9 hS h1 hHy h2 hB h8 hE hw hl hd
      refine ⟨r, W', Z, ?_, ?_, a3⟩
      · refine Eq.trans ?_ a1
        rw [q101_43]
        simp (disch := first | omega | (simp only [sgets, reduceIte, Nat.reduceEqDiff, hs, hiN]; done) | omega) only [cS_1, crd, z_pv_some, z_wv_some, z_cv_v, z_cv_n, cwr, sgets, rc_O, ia_n, fa_n, is_n, fs_n, ↓mI_eq, lits, nI_add, nLe, nLt, nE, mI_ne, mI_ne', mI_lt, mI_le, mI_nlt, mI_nle, ne_eq, mI_addC, pk_sub, pk_mul, pk_div, Nat.reduceEqDiff, Nat.reduceAdd, Nat.reduceMul, Nat.reduceSub, reduceIte, not_true_eq_false, not_false_eq_true, true_or, or_true, if_true, if_false, and_self, and_true, true_and, and_false, false_and, or_self, or_false, false_or, decide_true, decide_false, Bool.false_eq_true, Bool.true_eq_false, bI_t, bI_f, grd, gM_1, gfs10, gfs0, gfs3, gfs5, gfs6, gfs9, gfs2, gfs7, gfs8, gfs1, q101_44, q101_45, q101_48, q101_49, q101_52, q101_55, q101_58, q101_59, q101_60, q101_61, q101_64, q101_65, q101_66, q101_67, q101_70, q101_73, q101_76, h0, h6, h14, h11, hs, hiN]
      · refine Eq.trans ?_ a2
        rw [show decide (¬ W.2.2.1 9 p = mI) = false by simp [hs]] at h144
        rw [q173_38]
        simp (disch := first | omega | (simp only [sgets, reduceIte, Nat.reduceEqDiff, hiN, dec_S, Nat.reduceAdd]; done) | omega) only [cS_1, crd, z_pv_some, z_wv_some, z_cv_v, z_cv_n, cwr, sgets, rc_O, ia_n, fa_n, is_n, fs_n, ↓mI_eq, lits, nI_add, nLe, nLt, nE, mI_ne, mI_ne', mI_lt, mI_le, mI_nlt, mI_nle, ne_eq, mI_addC, pk_sub, pk_mul, pk_div, Nat.reduceEqDiff, Nat.reduceAdd, Nat.reduceMul, Nat.reduceSub, reduceIte, not_true_eq_false, not_false_eq_true, true_or, or_true, if_true, if_false, and_self, and_true, true_and, and_false, false_and, or_self, or_false, false_or, decide_true, decide_false, Bool.false_eq_true, Bool.true_eq_false, bI_t, bI_f, oS_1, ord, owA0, owF0, owF1, owA1, owF2, owA2, owF3, owA3, ywo, gfs11, pfs11, yrd, ywr, q173_39, q173_40, q173_43, q173_44, q173_45, q173_48, q173_51, q173_52, q173_55, q173_58, h144, z1, hiN, dec_S, Nat.reduceAdd]
    · have he := hend Yi hk
      refine ⟨nI i, W, Yi, ?_, ?_, hk⟩
      · rw [q101_43]
        simp (disch := first | omega | (simp only [sgets, reduceIte, Nat.reduceEqDiff, hs, hiN]; done) | omega) only [cS_1, crd, z_pv_some, z_wv_some, z_cv_v, z_cv_n, cwr, sgets, rc_O, ia_n, fa_n, is_n, fs_n, ↓mI_eq, lits, nI_add, nLe, nLt, nE, mI_ne, mI_ne', mI_lt, mI_le, mI_nlt, mI_nle, ne_eq, mI_addC, pk_sub, pk_mul, pk_div, Nat.reduceEqDiff, Nat.reduceAdd, Nat.reduceMul, Nat.reduceSub, reduceIte, not_true_eq_false, not_false_eq_true, true_or, or_true, if_true, if_false, and_self, and_true, true_and, and_false, false_and, or_self, or_false, false_or, decide_true, decide_false, Bool.false_eq_true, Bool.true_eq_false, bI_t, bI_f, grd, gM_1, gfs10, gfs0, gfs3, gfs5, gfs6, gfs9, gfs2, gfs7, gfs8, gfs1, q101_44, q101_45, q101_48, q101_49, q101_52, q101_55, q101_58, q101_59, q101_60, q101_61, q101_64, q101_65, q101_66, q101_67, q101_70, q101_73, q101_76, h0, h6, h14, hs, hiN]
      · rw [show decide (¬ W.2.2.1 9 p = mI) = true by simp [hs]] at h144
        rw [q173_38]
        simp (disch := first | omega | (simp only [sgets, reduceIte, Nat.reduceEqDiff, hiN, dec_S, Nat.reduceAdd]; done) | omega) only [cS_1, crd, z_pv_some, z_wv_some, z_cv_v, z_cv_n, cwr, sgets, rc_O, ia_n, fa_n, is_n, fs_n, ↓mI_eq, lits, nI_add, nLe, nLt, nE, mI_ne, mI_ne', mI_lt, mI_le, mI_nlt, mI_nle, ne_eq, mI_addC, pk_sub, pk_mul, pk_div, Nat.reduceEqDiff, Nat.reduceAdd, Nat.reduceMul, Nat.reduceSub, reduceIte, not_true_eq_false, not_false_eq_true, true_or, or_true, if_true, if_false, and_self, and_true, true_and, and_false, false_and, or_self, or_false, false_or, decide_true, decide_false, Bool.false_eq_true, Bool.true_eq_false, bI_t, bI_f, oS_1, ord, owA0, owF0, owF1, owA1, owF2, owA2, owF3, owA3, ywo, gfs11, pfs11, yrd, ywr, q173_39, q173_40, q173_43, q173_44, q173_45, q173_48, q173_51, q173_52, q173_55, q173_58, q173_61, q173_62, q173_63, q173_66, q173_69, q173_70, q173_73, q173_74, q173_76, q173_77, q173_80, q173_81, q173_84, q173_85, q173_88, q173_90, h144, he, hiN, dec_S, Nat.reduceAdd]
theorem q_fore (h : Rl c J S Hy B V Y) (hb : okb Y) (hc : c < 2 ^ 31) (x y : Int32) : ∃ r Vt' Z, z_cl 101 [.ref n, .int x, .int y] (gM M n V Vt U H T Hs) = some (some (.int r), gM M n V Vt' U H T Hs) ∧ z_cl 173 [.ref o, .int x, .int y] (yS M' o Y w) = some (some (.int r), yS M' o Z w) ∧ Rl c J S Hy B V Z ∧ kX Y Z := by
  have h51 := g51 M n V Vt U H T Hs h x
  have h120 := m120 M' o w h x
  have h74 := m74 y (nI 1) (nI 99) (gM M n V Vt U H T Hs)
  have h110 := m110 y (nI 1) (nI 99) (yS M' o Y w)
  cases hh : here V x with
  | false =>
    rw [hh] at h51 h120
    refine ⟨-(nI 2), Vt, Y, ?_, ?_, h, kX.rf Y⟩
    · rw [e101]
      simp (disch := first | omega | (simp only [sgets, reduceIte, Nat.reduceEqDiff]; done) | omega) only [cS_1, crd, z_pv_some, z_wv_some, z_cv_v, z_cv_n, cwr, sgets, rc_O, ia_n, fa_n, is_n, fs_n, ↓mI_eq, lits, nI_add, nLe, nLt, nE, mI_ne, mI_ne', mI_lt, mI_le, mI_nlt, mI_nle, ne_eq, mI_addC, pk_sub, pk_mul, pk_div, Nat.reduceEqDiff, Nat.reduceAdd, Nat.reduceMul, Nat.reduceSub, reduceIte, not_true_eq_false, not_false_eq_true, true_or, or_true, if_true, if_false, and_self, and_true, true_and, and_false, false_and, or_self, or_false, false_or, decide_true, decide_false, Bool.false_eq_true, Bool.true_eq_false, bI_t, bI_f, grd, gM_1, gfs10, gfs0, gfs3, gfs5, gfs6, gfs9, gfs2, gfs7, gfs8, gfs1, q101_0, q101_1, q101_4, q101_7, q101_8, q101_11, q101_14, q101_16, q101_17, q101_18, q101_19, q101_21, q101_24, q101_27, q101_29, q101_30, q101_31, q101_34, q101_35, q101_38, q101_41, q101_42, h51]
    · rw [e173]
      simp (disch := first | omega | (simp only [sgets, reduceIte, Nat.reduceEqDiff, dec_S, Nat.reduceAdd]; done) | omega) only [cS_1, crd, z_pv_some, z_wv_some, z_cv_v, z_cv_n, cwr, sgets, rc_O, ia_n, fa_n, is_n, fs_n, ↓mI_eq, lits, nI_add, nLe, nLt, nE, mI_ne, mI_ne', mI_lt, mI_le, mI_nlt, mI_nle, ne_eq, mI_addC, pk_sub, pk_mul, pk_div, Nat.reduceEqDiff, Nat.reduceAdd, Nat.reduceMul, Nat.reduceSub, reduceIte, not_true_eq_false, not_false_eq_true, true_or, or_true, if_true, if_false, and_self, and_true, true_and, and_false, false_and, or_self, or_false, false_or, decide_true, decide_false, Bool.false_eq_true, Bool.true_eq_false, bI_t, bI_f, oS_1, ord, owA0, owF0, owF1, owA1, owF2, owA2, owF3, owA3, ywo, gfs11, pfs11, yrd, ywr, q173_0, q173_1, q173_2, q173_5, q173_8, q173_10, q173_11, q173_12, q173_13, q173_15, q173_18, q173_21, q173_23, q173_24, q173_25, q173_26, q173_29, q173_30, q173_33, q173_36, q173_37, h120, dec_S, Nat.reduceAdd]
  | true =>
    rw [hh] at h51 h120
    obtain ⟨p, hp, rfl, hne⟩ := here_k (Rl_J h).1 (Rl_J h).2 hh
    have hJ := (Rl_J h).1
    by_cases hy : nI 1 ≤ y ∧ y ≤ nI 99
    · rw [show decide (nI 1 ≤ y ∧ y ≤ nI 99) = true by simp [hy]] at h110 h74
      obtain ⟨N, hn1, hn2, rfl⟩ := in_nI (by omega) (by omega) hy
      obtain ⟨f, hf⟩ := h.2.1
      have h1 : z_cl 1 [.ref (n + 33), .ref (n + 1)] (gM M n V Vt U H T Hs) = some (none, gM M n V V U H T Hs) := by
        rw [gM_y, gM_y]
        exact m1 _ (n + 33) (n + 1) (by omega) Vt V f hf
      have h112 := m112y M' o Y w 0 6 (by omega) (by omega) (by omega) (by omega)
      obtain ⟨r, W', Z, a1, a2, a3⟩ := fr_lp M n V U H T Hs M' o w (J := J) (S := S) (Hy := Hy) (B := B) (p := p) (N := N) (by omega) (by omega) hc hb N 0 V V (cpY Y 0 6) (by omega) h.1 (rp_of rfl rfl (fun _ _ => rfl) rfl) (Rl_kV (kV_cp Y 0 6) h) (kY.rf _)
      refine ⟨r, W', reY Z Y, ?_, ?_, Rl_re h, kX_re a3⟩
      · refine Eq.trans ?_ a1
        rw [e101]
        have h0 := tr0 M n V Vt U H T Hs
        simp (disch := first | omega | (simp only [sgets, reduceIte, Nat.reduceEqDiff]; done) | omega) only [cS_1, crd, z_pv_some, z_wv_some, z_cv_v, z_cv_n, cwr, sgets, rc_O, ia_n, fa_n, is_n, fs_n, ↓mI_eq, lits, nI_add, nLe, nLt, nE, mI_ne, mI_ne', mI_lt, mI_le, mI_nlt, mI_nle, ne_eq, mI_addC, pk_sub, pk_mul, pk_div, Nat.reduceEqDiff, Nat.reduceAdd, Nat.reduceMul, Nat.reduceSub, reduceIte, not_true_eq_false, not_false_eq_true, true_or, or_true, if_true, if_false, and_self, and_true, true_and, and_false, false_and, or_self, or_false, false_or, decide_true, decide_false, Bool.false_eq_true, Bool.true_eq_false, bI_t, bI_f, grd, gM_1, gfs10, gfs0, gfs3, gfs5, gfs6, gfs9, gfs2, gfs7, gfs8, gfs1, q101_0, q101_1, q101_4, q101_7, q101_8, q101_11, q101_14, q101_16, q101_17, q101_18, q101_19, q101_21, q101_24, q101_27, q101_29, q101_30, q101_31, q101_34, q101_35, q101_38, q101_41, q101_42, h51, h74, h1, h0]
      · refine Eq.trans ?_ a2
        rw [e173]
        simp (disch := first | omega | (simp only [sgets, reduceIte, Nat.reduceEqDiff, dec_S, Nat.reduceAdd]; done) | omega) only [cS_1, crd, z_pv_some, z_wv_some, z_cv_v, z_cv_n, cwr, sgets, rc_O, ia_n, fa_n, is_n, fs_n, ↓mI_eq, lits, nI_add, nLe, nLt, nE, mI_ne, mI_ne', mI_lt, mI_le, mI_nlt, mI_nle, ne_eq, mI_addC, pk_sub, pk_mul, pk_div, Nat.reduceEqDiff, Nat.reduceAdd, Nat.reduceMul, Nat.reduceSub, reduceIte, not_true_eq_false, not_false_eq_true, true_or, or_true, if_true, if_false, and_self, and_true, true_and, and_false, false_and, or_self, or_false, false_or, decide_true, decide_false, Bool.false_eq_true, Bool.true_eq_false, bI_t, bI_f, oS_1, ord, owA0, owF0, owF1, owA1, owF2, owA2, owF3, owA3, ywo, gfs11, pfs11, yrd, ywr, q173_0, q173_1, q173_2, q173_5, q173_8, q173_10, q173_11, q173_12, q173_13, q173_15, q173_18, q173_21, q173_23, q173_24, q173_25, q173_26, q173_29, q173_30, q173_33, q173_36, q173_37, h120, h110, h112, dec_S, Nat.reduceAdd]
    · rw [show decide (nI 1 ≤ y ∧ y ≤ nI 99) = false by simp [hy]] at h110 h74
      refine ⟨-(nI 3), Vt, Y, ?_, ?_, h, kX.rf Y⟩
      · rw [e101]
        simp (disch := first | omega | (simp only [sgets, reduceIte, Nat.reduceEqDiff]; done) | omega) only [cS_1, crd, z_pv_some, z_wv_some, z_cv_v, z_cv_n, cwr, sgets, rc_O, ia_n, fa_n, is_n, fs_n, ↓mI_eq, lits, nI_add, nLe, nLt, nE, mI_ne, mI_ne', mI_lt, mI_le, mI_nlt, mI_nle, ne_eq, mI_addC, pk_sub, pk_mul, pk_div, Nat.reduceEqDiff, Nat.reduceAdd, Nat.reduceMul, Nat.reduceSub, reduceIte, not_true_eq_false, not_false_eq_true, true_or, or_true, if_true, if_false, and_self, and_true, true_and, and_false, false_and, or_self, or_false, false_or, decide_true, decide_false, Bool.false_eq_true, Bool.true_eq_false, bI_t, bI_f, grd, gM_1, gfs10, gfs0, gfs3, gfs5, gfs6, gfs9, gfs2, gfs7, gfs8, gfs1, q101_0, q101_1, q101_4, q101_7, q101_8, q101_11, q101_14, q101_16, q101_17, q101_18, q101_19, q101_21, q101_24, q101_27, q101_29, q101_30, q101_31, q101_34, q101_35, q101_38, q101_41, q101_42, h51, h74]
      · rw [e173]
        simp (disch := first | omega | (simp only [sgets, reduceIte, Nat.reduceEqDiff, dec_S, Nat.reduceAdd]; done) | omega) only [cS_1, crd, z_pv_some, z_wv_some, z_cv_v, z_cv_n, cwr, sgets, rc_O, ia_n, fa_n, is_n, fs_n, ↓mI_eq, lits, nI_add, nLe, nLt, nE, mI_ne, mI_ne', mI_lt, mI_le, mI_nlt, mI_nle, ne_eq, mI_addC, pk_sub, pk_mul, pk_div, Nat.reduceEqDiff, Nat.reduceAdd, Nat.reduceMul, Nat.reduceSub, reduceIte, not_true_eq_false, not_false_eq_true, true_or, or_true, if_true, if_false, and_self, and_true, true_and, and_false, false_and, or_self, or_false, false_or, decide_true, decide_false, Bool.false_eq_true, Bool.true_eq_false, bI_t, bI_f, oS_1, ord, owA0, owF0, owF1, owA1, owF2, owA2, owF3, owA3, ywo, gfs11, pfs11, yrd, ywr, q173_0, q173_1, q173_2, q173_5, q173_8, q173_10, q173_11, q173_12, q173_13, q173_15, q173_18, q173_21, q173_23, q173_24, q173_25, q173_26, q173_29, q173_30, q173_33, q173_36, q173_37, h120, h110, dec_S, Nat.reduceAdd]
end
