/-! questions on both sides: the rest but for foretell and digest -/
theorem nn_200 {x : UInt32} (h : nn x) : x.toNat < 200 * 2 ^ 23 := by have := nn_N h; omega
theorem sb_200 {x : UInt32} (h : x ≤ sb 20) : x.toNat < 200 * 2 ^ 23 := by
  have h1 := UInt32.le_iff_toNat_le.mp h
  have h2 : (sb 20).toNat < 200 * 2 ^ 23 := by decide +kernel
  omega
section
variable (M : z_M) (n : Nat) (V Vt U H T : z_V) (Hs : Nat → z_V) (M' : z_M) (o : Nat) (w : Int64) {c J S Hy B : Nat} {Y : z_V}
theorem g51 (h : Rl c J S Hy B V Y) (x : Int32) : z_cl 51 [.ref (n + 1 + 6), .int x] (gM M n V Vt U H T Hs) = some (some (.int (bI (here V x))), gM M n V Vt U H T Hs) := m51 _ (n + 1) V J (Rl_J h).1 (Rl_J h).2 x
theorem q_prop (h : Rl c J S Hy B V Y) (hd : hdOk V) (x y : Int32) : qE M n V Vt U H T Hs M' o w 92 163 [.int x, .int y] Y := by
  have h51 := g51 M n V Vt U H T Hs h x
  have h120 := m120 M' o w h x
  have h110 := m110 y (nI 0) (nI 8) (yS M' o Y w)
  cases hh : here V x with
  | false =>
    rw [hh] at h51 h120
    refine ⟨-(nI 2), ?_, ?_⟩
    · rw [e92]
      simp (disch := first | omega | (simp only [sgets, reduceIte, Nat.reduceEqDiff]; done) | omega) only [cS_1, crd, z_pv_some, z_wv_some, z_cv_v, z_cv_n, cwr, sgets, rc_O, ia_n, fa_n, is_n, fs_n, ↓mI_eq, lits, nI_add, nLe, nLt, nE, mI_ne, mI_ne', mI_lt, mI_le, mI_nlt, mI_nle, ne_eq, mI_addC, pk_sub, pk_mul, pk_div, Nat.reduceEqDiff, Nat.reduceAdd, Nat.reduceMul, Nat.reduceSub, reduceIte, not_true_eq_false, not_false_eq_true, true_or, or_true, if_true, if_false, and_self, and_true, true_and, and_false, false_and, or_self, or_false, false_or, decide_true, decide_false, Bool.false_eq_true, Bool.true_eq_false, bI_t, bI_f, grd, gM_1, gfs10, gfs0, gfs3, gfs5, gfs6, gfs9, gfs2, gfs7, gfs8, gfs1, q92_0, q92_1, q92_4, q92_7, q92_8, q92_9, q92_10, q92_13, q92_16, q92_18, q92_19, h51]
    · rw [e163]
      simp (disch := first | omega | (simp only [sgets, reduceIte, Nat.reduceEqDiff, dec_S, Nat.reduceAdd]; done) | omega) only [cS_1, crd, z_pv_some, z_wv_some, z_cv_v, z_cv_n, cwr, sgets, rc_O, ia_n, fa_n, is_n, fs_n, ↓mI_eq, lits, nI_add, nLe, nLt, nE, mI_ne, mI_ne', mI_lt, mI_le, mI_nlt, mI_nle, ne_eq, mI_addC, pk_sub, pk_mul, pk_div, Nat.reduceEqDiff, Nat.reduceAdd, Nat.reduceMul, Nat.reduceSub, reduceIte, not_true_eq_false, not_false_eq_true, true_or, or_true, if_true, if_false, and_self, and_true, true_and, and_false, false_and, or_self, or_false, false_or, decide_true, decide_false, Bool.false_eq_true, Bool.true_eq_false, bI_t, bI_f, oS_1, ord, owA0, owF0, owF1, owA1, owF2, owA2, owF3, owA3, ywo, gfs11, pfs11, yrd, ywr, b163, h120, dec_S, Nat.reduceAdd]
  | true =>
    rw [hh] at h51 h120
    have hJ := (Rl_J h).1
    obtain ⟨p, hp, rfl, hne⟩ := here_k hJ (Rl_J h).2 hh
    by_cases hr : y.toInt < 0 ∨ (8 : Int) < y.toInt
    · have hc : decide (nI 0 ≤ y ∧ y ≤ nI 8) = false := by
        rw [decide_eq_false_iff_not]
        intro q
        obtain ⟨k, _, hk, rfl⟩ := in_nI (by omega) (by omega) q
        rw [nI_toInt (by omega)] at hr
        omega
      rw [hc] at h110
      refine ⟨-(nI 3), ?_, ?_⟩
      · have p0 : z_cl 92 [.ref n, .int (nI p), .int y] (gM M n V Vt U H T Hs) = z_ex 92 (gM M n V Vt U H T Hs).1 20 [some (.ref n), some (.int (nI p)), some (.int y), some (.ref (n + 1 + 6))] [.int y] (gM M n V Vt U H T Hs) := by
          rw [e92]
          simp (disch := first | omega | (simp only [sgets, reduceIte, Nat.reduceEqDiff]; done) | omega) only [cS_1, crd, z_pv_some, z_wv_some, z_cv_v, z_cv_n, cwr, sgets, rc_O, ia_n, fa_n, is_n, fs_n, ↓mI_eq, lits, nI_add, nLe, nLt, nE, mI_ne, mI_ne', mI_lt, mI_le, mI_nlt, mI_nle, ne_eq, mI_addC, pk_sub, pk_mul, pk_div, Nat.reduceEqDiff, Nat.reduceAdd, Nat.reduceMul, Nat.reduceSub, reduceIte, not_true_eq_false, not_false_eq_true, true_or, or_true, if_true, if_false, and_self, and_true, true_and, and_false, false_and, or_self, or_false, false_or, decide_true, decide_false, Bool.false_eq_true, Bool.true_eq_false, bI_t, bI_f, grd, gM_1, gfs10, gfs0, gfs3, gfs5, gfs6, gfs9, gfs2, gfs7, gfs8, gfs1, q92_0, q92_1, q92_4, q92_7, q92_8, q92_9, q92_10, q92_13, q92_16, q92_18, q92_19, h51]
        rw [p0]
        refine (q92_20_d _ _ _ _ _ _ _ _ hr).trans ?_
        simp (disch := first | omega | (simp only [sgets, reduceIte, Nat.reduceEqDiff]; done) | omega) only [cS_1, crd, z_pv_some, z_wv_some, z_cv_v, z_cv_n, cwr, sgets, rc_O, ia_n, fa_n, is_n, fs_n, ↓mI_eq, lits, nI_add, nLe, nLt, nE, mI_ne, mI_ne', mI_lt, mI_le, mI_nlt, mI_nle, ne_eq, mI_addC, pk_sub, pk_mul, pk_div, Nat.reduceEqDiff, Nat.reduceAdd, Nat.reduceMul, Nat.reduceSub, reduceIte, not_true_eq_false, not_false_eq_true, true_or, or_true, if_true, if_false, and_self, and_true, true_and, and_false, false_and, or_self, or_false, false_or, decide_true, decide_false, Bool.false_eq_true, Bool.true_eq_false, bI_t, bI_f, grd, gM_1, gfs10, gfs0, gfs3, gfs5, gfs6, gfs9, gfs2, gfs7, gfs8, gfs1, q92_72, q92_73, q92_76, q92_77, q92_78, q92_79, q92_80, q92_83, q92_84, q92_85, q92_86, q92_87, q92_90, q92_91, q92_92, q92_93, q92_94, q92_97, q92_98, q92_99, q92_100, q92_101, q92_104, q92_105, q92_106, q92_107, q92_110, q92_111, q92_114, q92_115, q92_116, q92_117, q92_120, q92_121, q92_122, q92_123, q92_124, q92_127, q92_128, q92_129, q92_130, q92_131, q92_134, q92_137, q92_138, q92_141, q92_142, q92_143, q92_146, q92_147, q92_148, q92_151, q92_152, q92_154]
      · rw [e163]
        simp (disch := first | omega | (simp only [sgets, reduceIte, Nat.reduceEqDiff, dec_S, Nat.reduceAdd]; done) | omega) only [cS_1, crd, z_pv_some, z_wv_some, z_cv_v, z_cv_n, cwr, sgets, rc_O, ia_n, fa_n, is_n, fs_n, ↓mI_eq, lits, nI_add, nLe, nLt, nE, mI_ne, mI_ne', mI_lt, mI_le, mI_nlt, mI_nle, ne_eq, mI_addC, pk_sub, pk_mul, pk_div, Nat.reduceEqDiff, Nat.reduceAdd, Nat.reduceMul, Nat.reduceSub, reduceIte, not_true_eq_false, not_false_eq_true, true_or, or_true, if_true, if_false, and_self, and_true, true_and, and_false, false_and, or_self, or_false, false_or, decide_true, decide_false, Bool.false_eq_true, Bool.true_eq_false, bI_t, bI_f, oS_1, ord, owA0, owF0, owF1, owA1, owF2, owA2, owF3, owA3, ywo, gfs11, pfs11, yrd, ywr, b163, h120, h110, dec_S, Nat.reduceAdd]
    · obtain ⟨k, hk, rfl⟩ := rng_k (m := 8) (by omega) hr
      have hc : decide (nI 0 ≤ nI k ∧ nI k ≤ nI 8) = true := by
        rw [decide_eq_true_eq, nLe (by omega) (by omega), nLe (by omega) (by omega)]
        omega
      rw [hc] at h110
      obtain ⟨b, hb, eb⟩ := hd p (by omega)
      have c1 := c92 M n V Vt U H T Hs h.1 hp hh hk (bc := nI (sumB b 20)) (fun X => by rw [eb, m191 hb, bcN_eq hb])
      have c2 := y164 V M' o w h hp hh hk (bc := nI (sumB b 20)) (fun X => by rw [eb, m165 hb])
      refine ⟨_, c1, ?_⟩
      rw [e163]
      simp (disch := first | omega | (simp only [sgets, reduceIte, Nat.reduceEqDiff, dec_S, Nat.reduceAdd]; done) | omega) only [cS_1, crd, z_pv_some, z_wv_some, z_cv_v, z_cv_n, cwr, sgets, rc_O, ia_n, fa_n, is_n, fs_n, ↓mI_eq, lits, nI_add, nLe, nLt, nE, mI_ne, mI_ne', mI_lt, mI_le, mI_nlt, mI_nle, ne_eq, mI_addC, pk_sub, pk_mul, pk_div, Nat.reduceEqDiff, Nat.reduceAdd, Nat.reduceMul, Nat.reduceSub, reduceIte, not_true_eq_false, not_false_eq_true, true_or, or_true, if_true, if_false, and_self, and_true, true_and, and_false, false_and, or_self, or_false, false_or, decide_true, decide_false, Bool.false_eq_true, Bool.true_eq_false, bI_t, bI_f, oS_1, ord, owA0, owF0, owF1, owA1, owF2, owA2, owF3, owA3, ywo, gfs11, pfs11, yrd, ywr, b163, h120, h110, c2, dec_S, Nat.reduceAdd]
theorem q_loud (h : Rl c J S Hy B V Y) (x : Int32) : qE M n V Vt U H T Hs M' o w 93 166 [.int x] Y := by
  have h51 := g51 M n V Vt U H T Hs h x
  have h120 := m120 M' o w h x
  cases hh : here V x with
  | false =>
    rw [hh] at h51 h120
    refine ⟨-(nI 2), ?_, ?_⟩
    · rw [e93]
      simp (disch := first | omega | (simp only [sgets, reduceIte, Nat.reduceEqDiff]; done) | omega) only [cS_1, crd, z_pv_some, z_wv_some, z_cv_v, z_cv_n, cwr, sgets, rc_O, ia_n, fa_n, is_n, fs_n, ↓mI_eq, lits, nI_add, nLe, nLt, nE, mI_ne, mI_ne', mI_lt, mI_le, mI_nlt, mI_nle, ne_eq, mI_addC, pk_sub, pk_mul, pk_div, Nat.reduceEqDiff, Nat.reduceAdd, Nat.reduceMul, Nat.reduceSub, reduceIte, not_true_eq_false, not_false_eq_true, true_or, or_true, if_true, if_false, and_self, and_true, true_and, and_false, false_and, or_self, or_false, false_or, decide_true, decide_false, Bool.false_eq_true, Bool.true_eq_false, bI_t, bI_f, grd, gM_1, gfs10, gfs0, gfs3, gfs5, gfs6, gfs9, gfs2, gfs7, gfs8, gfs1, b93, h51]
    · rw [e166]
      simp (disch := first | omega | (simp only [sgets, reduceIte, Nat.reduceEqDiff, dec_S, Nat.reduceAdd]; done) | omega) only [cS_1, crd, z_pv_some, z_wv_some, z_cv_v, z_cv_n, cwr, sgets, rc_O, ia_n, fa_n, is_n, fs_n, ↓mI_eq, lits, nI_add, nLe, nLt, nE, mI_ne, mI_ne', mI_lt, mI_le, mI_nlt, mI_nle, ne_eq, mI_addC, pk_sub, pk_mul, pk_div, Nat.reduceEqDiff, Nat.reduceAdd, Nat.reduceMul, Nat.reduceSub, reduceIte, not_true_eq_false, not_false_eq_true, true_or, or_true, if_true, if_false, and_self, and_true, true_and, and_false, false_and, or_self, or_false, false_or, decide_true, decide_false, Bool.false_eq_true, Bool.true_eq_false, bI_t, bI_f, oS_1, ord, owA0, owF0, owF1, owA1, owF2, owA2, owF3, owA3, ywo, gfs11, pfs11, yrd, ywr, b166, h120, dec_S, Nat.reduceAdd]
  | true =>
    rw [hh] at h51 h120
    have hJ := (Rl_J h).1
    obtain ⟨p, hp, rfl, hne⟩ := here_k hJ (Rl_J h).2 hh
    have hl := nn_200 (h.1.2.2.2.2.2.2.2.1 p (by omega))
    have eF : Y.2.2.2 0 p = V.2.2.2 0 p := by rw [h.2.2.2.2.1.2.2.2.2.2.2.2.2.2.2.2.1]
    have c1 := fun X => m94 hl X
    have c2 := fun X => m189 (show (V.2.2.2 0 p).toNat < 2139095040 by omega) X
    refine ⟨nI (V.2.2.2 0 p).toNat, ?_, ?_⟩
    · rw [e93]
      simp (disch := first | omega | (simp only [sgets, reduceIte, Nat.reduceEqDiff]; done) | omega) only [cS_1, crd, z_pv_some, z_wv_some, z_cv_v, z_cv_n, cwr, sgets, rc_O, ia_n, fa_n, is_n, fs_n, ↓mI_eq, lits, nI_add, nLe, nLt, nE, mI_ne, mI_ne', mI_lt, mI_le, mI_nlt, mI_nle, ne_eq, mI_addC, pk_sub, pk_mul, pk_div, Nat.reduceEqDiff, Nat.reduceAdd, Nat.reduceMul, Nat.reduceSub, reduceIte, not_true_eq_false, not_false_eq_true, true_or, or_true, if_true, if_false, and_self, and_true, true_and, and_false, false_and, or_self, or_false, false_or, decide_true, decide_false, Bool.false_eq_true, Bool.true_eq_false, bI_t, bI_f, grd, gM_1, gfs10, gfs0, gfs3, gfs5, gfs6, gfs9, gfs2, gfs7, gfs8, gfs1, b93, h51, c1]
    · rw [e166]
      simp (disch := first | omega | (simp only [sgets, reduceIte, Nat.reduceEqDiff, eF, dec_S, Nat.reduceAdd]; done) | omega) only [cS_1, crd, z_pv_some, z_wv_some, z_cv_v, z_cv_n, cwr, sgets, rc_O, ia_n, fa_n, is_n, fs_n, ↓mI_eq, lits, nI_add, nLe, nLt, nE, mI_ne, mI_ne', mI_lt, mI_le, mI_nlt, mI_nle, ne_eq, mI_addC, pk_sub, pk_mul, pk_div, Nat.reduceEqDiff, Nat.reduceAdd, Nat.reduceMul, Nat.reduceSub, reduceIte, not_true_eq_false, not_false_eq_true, true_or, or_true, if_true, if_false, and_self, and_true, true_and, and_false, false_and, or_self, or_false, false_or, decide_true, decide_false, Bool.false_eq_true, Bool.true_eq_false, bI_t, bI_f, oS_1, ord, owA0, owF0, owF1, owA1, owF2, owA2, owF3, owA3, ywo, gfs11, pfs11, yrd, ywr, b166, h120, c2, eF, dec_S, Nat.reduceAdd]
theorem q_mixb (h : Rl c J S Hy B V Y) (x : Int32) : qE M n V Vt U H T Hs M' o w 95 167 [.int x] Y := by
  have h51 := g51 M n V Vt U H T Hs h x
  have h120 := m120 M' o w h x
  cases hh : here V x with
  | false =>
    rw [hh] at h51 h120
    refine ⟨-(nI 2), ?_, ?_⟩
    · rw [e95]
      simp (disch := first | omega | (simp only [sgets, reduceIte, Nat.reduceEqDiff]; done) | omega) only [cS_1, crd, z_pv_some, z_wv_some, z_cv_v, z_cv_n, cwr, sgets, rc_O, ia_n, fa_n, is_n, fs_n, ↓mI_eq, lits, nI_add, nLe, nLt, nE, mI_ne, mI_ne', mI_lt, mI_le, mI_nlt, mI_nle, ne_eq, mI_addC, pk_sub, pk_mul, pk_div, Nat.reduceEqDiff, Nat.reduceAdd, Nat.reduceMul, Nat.reduceSub, reduceIte, not_true_eq_false, not_false_eq_true, true_or, or_true, if_true, if_false, and_self, and_true, true_and, and_false, false_and, or_self, or_false, false_or, decide_true, decide_false, Bool.false_eq_true, Bool.true_eq_false, bI_t, bI_f, grd, gM_1, gfs10, gfs0, gfs3, gfs5, gfs6, gfs9, gfs2, gfs7, gfs8, gfs1, b95, h51]
    · rw [e167]
      simp (disch := first | omega | (simp only [sgets, reduceIte, Nat.reduceEqDiff, dec_S, Nat.reduceAdd]; done) | omega) only [cS_1, crd, z_pv_some, z_wv_some, z_cv_v, z_cv_n, cwr, sgets, rc_O, ia_n, fa_n, is_n, fs_n, ↓mI_eq, lits, nI_add, nLe, nLt, nE, mI_ne, mI_ne', mI_lt, mI_le, mI_nlt, mI_nle, ne_eq, mI_addC, pk_sub, pk_mul, pk_div, Nat.reduceEqDiff, Nat.reduceAdd, Nat.reduceMul, Nat.reduceSub, reduceIte, not_true_eq_false, not_false_eq_true, true_or, or_true, if_true, if_false, and_self, and_true, true_and, and_false, false_and, or_self, or_false, false_or, decide_true, decide_false, Bool.false_eq_true, Bool.true_eq_false, bI_t, bI_f, oS_1, ord, owA0, owF0, owF1, owA1, owF2, owA2, owF3, owA3, ywo, gfs11, pfs11, yrd, ywr, b167, h120, dec_S, Nat.reduceAdd]
  | true =>
    rw [hh] at h51 h120
    have hJ := (Rl_J h).1
    obtain ⟨p, hp, rfl, hne⟩ := here_k hJ (Rl_J h).2 hh
    have hl := sb_200 (h.1.2.2.2.2.2.2.2.2.2.2 p (by omega))
    have eF : Y.2.2.2 1 p = V.2.2.2 1 p := by rw [h.2.2.2.2.1.2.2.2.2.2.2.2.2.2.2.2.2]
    have c1 := fun X => m94 hl X
    have c2 := fun X => m189 (show (V.2.2.2 1 p).toNat < 2139095040 by omega) X
    refine ⟨nI (V.2.2.2 1 p).toNat, ?_, ?_⟩
    · rw [e95]
      simp (disch := first | omega | (simp only [sgets, reduceIte, Nat.reduceEqDiff]; done) | omega) only [cS_1, crd, z_pv_some, z_wv_some, z_cv_v, z_cv_n, cwr, sgets, rc_O, ia_n, fa_n, is_n, fs_n, ↓mI_eq, lits, nI_add, nLe, nLt, nE, mI_ne, mI_ne', mI_lt, mI_le, mI_nlt, mI_nle, ne_eq, mI_addC, pk_sub, pk_mul, pk_div, Nat.reduceEqDiff, Nat.reduceAdd, Nat.reduceMul, Nat.reduceSub, reduceIte, not_true_eq_false, not_false_eq_true, true_or, or_true, if_true, if_false, and_self, and_true, true_and, and_false, false_and, or_self, or_false, false_or, decide_true, decide_false, Bool.false_eq_true, Bool.true_eq_false, bI_t, bI_f, grd, gM_1, gfs10, gfs0, gfs3, gfs5, gfs6, gfs9, gfs2, gfs7, gfs8, gfs1, b95, h51, c1]
    · rw [e167]
      simp (disch := first | omega | (simp only [sgets, reduceIte, Nat.reduceEqDiff, eF, dec_S, Nat.reduceAdd]; done) | omega) only [cS_1, crd, z_pv_some, z_wv_some, z_cv_v, z_cv_n, cwr, sgets, rc_O, ia_n, fa_n, is_n, fs_n, ↓mI_eq, lits, nI_add, nLe, nLt, nE, mI_ne, mI_ne', mI_lt, mI_le, mI_nlt, mI_nle, ne_eq, mI_addC, pk_sub, pk_mul, pk_div, Nat.reduceEqDiff, Nat.reduceAdd, Nat.reduceMul, Nat.reduceSub, reduceIte, not_true_eq_false, not_false_eq_true, true_or, or_true, if_true, if_false, and_self, and_true, true_and, and_false, false_and, or_self, or_false, false_or, decide_true, decide_false, Bool.false_eq_true, Bool.true_eq_false, bI_t, bI_f, oS_1, ord, owA0, owF0, owF1, owA1, owF2, owA2, owF3, owA3, ywo, gfs11, pfs11, yrd, ywr, b167, h120, c2, eF, dec_S, Nat.reduceAdd]
theorem q_mix (h : Rl c J S Hy B V Y) (x : Int32) : qE M n V Vt U H T Hs M' o w 96 168 [.int x] Y := by
  have h51 := g51 M n V Vt U H T Hs h x
  have h120 := m120 M' o w h x
  cases hh : here V x with
  | false =>
    rw [hh] at h51 h120
    refine ⟨-(nI 2), ?_, ?_⟩
    · rw [e96]
      simp (disch := first | omega | (simp only [sgets, reduceIte, Nat.reduceEqDiff]; done) | omega) only [cS_1, crd, z_pv_some, z_wv_some, z_cv_v, z_cv_n, cwr, sgets, rc_O, ia_n, fa_n, is_n, fs_n, ↓mI_eq, lits, nI_add, nLe, nLt, nE, mI_ne, mI_ne', mI_lt, mI_le, mI_nlt, mI_nle, ne_eq, mI_addC, pk_sub, pk_mul, pk_div, Nat.reduceEqDiff, Nat.reduceAdd, Nat.reduceMul, Nat.reduceSub, reduceIte, not_true_eq_false, not_false_eq_true, true_or, or_true, if_true, if_false, and_self, and_true, true_and, and_false, false_and, or_self, or_false, false_or, decide_true, decide_false, Bool.false_eq_true, Bool.true_eq_false, bI_t, bI_f, grd, gM_1, gfs10, gfs0, gfs3, gfs5, gfs6, gfs9, gfs2, gfs7, gfs8, gfs1, b96, h51]
    · rw [e168]
      simp (disch := first | omega | (simp only [sgets, reduceIte, Nat.reduceEqDiff, dec_S, Nat.reduceAdd]; done) | omega) only [cS_1, crd, z_pv_some, z_wv_some, z_cv_v, z_cv_n, cwr, sgets, rc_O, ia_n, fa_n, is_n, fs_n, ↓mI_eq, lits, nI_add, nLe, nLt, nE, mI_ne, mI_ne', mI_lt, mI_le, mI_nlt, mI_nle, ne_eq, mI_addC, pk_sub, pk_mul, pk_div, Nat.reduceEqDiff, Nat.reduceAdd, Nat.reduceMul, Nat.reduceSub, reduceIte, not_true_eq_false, not_false_eq_true, true_or, or_true, if_true, if_false, and_self, and_true, true_and, and_false, false_and, or_self, or_false, false_or, decide_true, decide_false, Bool.false_eq_true, Bool.true_eq_false, bI_t, bI_f, oS_1, ord, owA0, owF0, owF1, owA1, owF2, owA2, owF3, owA3, ywo, gfs11, pfs11, yrd, ywr, b168, h120, dec_S, Nat.reduceAdd]
  | true =>
    rw [hh] at h51 h120
    have hJ := (Rl_J h).1
    obtain ⟨p, hp, rfl, hne⟩ := here_k hJ (Rl_J h).2 hh
    have hl := sb_200 (h.1.2.2.2.2.2.2.2.2.2.2 p (by omega))
    have eF : Y.2.2.2 1 p = V.2.2.2 1 p := by rw [h.2.2.2.2.1.2.2.2.2.2.2.2.2.2.2.2.2]
    have hn : z_num (FP.fmul (V.2.2.2 1 p) 1090519040) = true := num_out (FP.Core.fmul_out (lo_F (by omega)) (lo_F (by decide)))
    refine ⟨FP.f2i (FP.fmul (V.2.2.2 1 p) 1090519040), ?_, ?_⟩
    · rw [e96]
      simp (disch := first | omega | (simp only [sgets, reduceIte, Nat.reduceEqDiff]; done) | omega) only [cS_1, crd, z_pv_some, z_wv_some, z_cv_v, z_cv_n, cwr, sgets, rc_O, ia_n, fa_n, is_n, fs_n, ↓mI_eq, lits, nI_add, nLe, nLt, nE, mI_ne, mI_ne', mI_lt, mI_le, mI_nlt, mI_nle, ne_eq, mI_addC, pk_sub, pk_mul, pk_div, Nat.reduceEqDiff, Nat.reduceAdd, Nat.reduceMul, Nat.reduceSub, reduceIte, not_true_eq_false, not_false_eq_true, true_or, or_true, if_true, if_false, and_self, and_true, true_and, and_false, false_and, or_self, or_false, false_or, decide_true, decide_false, Bool.false_eq_true, Bool.true_eq_false, bI_t, bI_f, grd, gM_1, gfs10, gfs0, gfs3, gfs5, gfs6, gfs9, gfs2, gfs7, gfs8, gfs1, b96, h51, hn]
    · rw [e168]
      simp (disch := first | omega | (simp only [sgets, reduceIte, Nat.reduceEqDiff, eF, dec_S, Nat.reduceAdd]; done) | omega) only [cS_1, crd, z_pv_some, z_wv_some, z_cv_v, z_cv_n, cwr, sgets, rc_O, ia_n, fa_n, is_n, fs_n, ↓mI_eq, lits, nI_add, nLe, nLt, nE, mI_ne, mI_ne', mI_lt, mI_le, mI_nlt, mI_nle, ne_eq, mI_addC, pk_sub, pk_mul, pk_div, Nat.reduceEqDiff, Nat.reduceAdd, Nat.reduceMul, Nat.reduceSub, reduceIte, not_true_eq_false, not_false_eq_true, true_or, or_true, if_true, if_false, and_self, and_true, true_and, and_false, false_and, or_self, or_false, false_or, decide_true, decide_false, Bool.false_eq_true, Bool.true_eq_false, bI_t, bI_f, oS_1, ord, owA0, owF0, owF1, owA1, owF2, owA2, owF3, owA3, ywo, gfs11, pfs11, yrd, ywr, b168, h120, hn, eF, dec_S, Nat.reduceAdd]
theorem q_hears (h : Rl c J S Hy B V Y) (x y : Int32) : qE M n V Vt U H T Hs M' o w 97 169 [.int x, .int y] Y := by
  have h51 := g51 M n V Vt U H T Hs h x
  have h120 := m120 M' o w h x
  have e12 := Rl_12 h
  obtain ⟨hJ, h9⟩ := Rl_J h
  cases hh : here V x with
  | false =>
    rw [hh] at h51 h120
    refine ⟨-(nI 2), ?_, ?_⟩
    · rw [e97]
      simp (disch := first | omega | (simp only [sgets, reduceIte, Nat.reduceEqDiff]; done) | omega) only [cS_1, crd, z_pv_some, z_wv_some, z_cv_v, z_cv_n, cwr, sgets, rc_O, ia_n, fa_n, is_n, fs_n, ↓mI_eq, lits, nI_add, nLe, nLt, nE, mI_ne, mI_ne', mI_lt, mI_le, mI_nlt, mI_nle, ne_eq, mI_addC, pk_sub, pk_mul, pk_div, Nat.reduceEqDiff, Nat.reduceAdd, Nat.reduceMul, Nat.reduceSub, reduceIte, not_true_eq_false, not_false_eq_true, true_or, or_true, if_true, if_false, and_self, and_true, true_and, and_false, false_and, or_self, or_false, false_or, decide_true, decide_false, Bool.false_eq_true, Bool.true_eq_false, bI_t, bI_f, grd, gM_1, gfs10, gfs0, gfs3, gfs5, gfs6, gfs9, gfs2, gfs7, gfs8, gfs1, b97, h51]
    · rw [e169]
      simp (disch := first | omega | (simp only [sgets, reduceIte, Nat.reduceEqDiff, dec_S, Nat.reduceAdd]; done) | omega) only [cS_1, crd, z_pv_some, z_wv_some, z_cv_v, z_cv_n, cwr, sgets, rc_O, ia_n, fa_n, is_n, fs_n, ↓mI_eq, lits, nI_add, nLe, nLt, nE, mI_ne, mI_ne', mI_lt, mI_le, mI_nlt, mI_nle, ne_eq, mI_addC, pk_sub, pk_mul, pk_div, Nat.reduceEqDiff, Nat.reduceAdd, Nat.reduceMul, Nat.reduceSub, reduceIte, not_true_eq_false, not_false_eq_true, true_or, or_true, if_true, if_false, and_self, and_true, true_and, and_false, false_and, or_self, or_false, false_or, decide_true, decide_false, Bool.false_eq_true, Bool.true_eq_false, bI_t, bI_f, oS_1, ord, owA0, owF0, owF1, owA1, owF2, owA2, owF3, owA3, ywo, gfs11, pfs11, yrd, ywr, b169, h120, dec_S, Nat.reduceAdd]
  | true =>
    rw [hh] at h51 h120
    obtain ⟨p, hp, rfl, hne⟩ := here_k hJ h9 hh
    have h110 := m110 y (nI 0) (nI (J - 1)) (yS M' o Y w)
    by_cases hy : 0 ≤ y ∧ y < nI J
    · obtain ⟨k, hk, rfl⟩ := has_k (by omega) hy
      have hc : decide (nI 0 ≤ nI k ∧ nI k ≤ nI (J - 1)) = true := by
        rw [decide_eq_true_eq, nLe (by omega) (by omega), nLe (by omega) (by omega)]
        omega
      rw [hc] at h110
      have g12 := m116 M' o Y w p 12 (by omega) (by omega)
      simp only [Nat.reduceAdd] at g12
      have i16 : Y.2.2.1 16 p = V.2.2.1 10 p := by rw [h.2.2.2.2.1.2.2.2.2.2.2.2.1]
      refine ⟨(V.2.2.1 10 p >>> (nI k &&& nI 31)) &&& nI 1, ?_, ?_⟩
      · rw [e97]
        simp (disch := first | omega | (simp only [sgets, reduceIte, Nat.reduceEqDiff, h9, hk]; done) | omega) only [cS_1, crd, z_pv_some, z_wv_some, z_cv_v, z_cv_n, cwr, sgets, rc_O, ia_n, fa_n, is_n, fs_n, ↓mI_eq, lits, nI_add, nLe, nLt, nE, mI_ne, mI_ne', mI_lt, mI_le, mI_nlt, mI_nle, ne_eq, mI_addC, pk_sub, pk_mul, pk_div, Nat.reduceEqDiff, Nat.reduceAdd, Nat.reduceMul, Nat.reduceSub, reduceIte, not_true_eq_false, not_false_eq_true, true_or, or_true, if_true, if_false, and_self, and_true, true_and, and_false, false_and, or_self, or_false, false_or, decide_true, decide_false, Bool.false_eq_true, Bool.true_eq_false, bI_t, bI_f, grd, gM_1, gfs10, gfs0, gfs3, gfs5, gfs6, gfs9, gfs2, gfs7, gfs8, gfs1, b97, h51, Nat.not_lt_zero, h9, hk]
      · rw [e169]
        simp (disch := first | omega | (simp only [sgets, reduceIte, Nat.reduceEqDiff, e12, i16, dec_S, Nat.reduceAdd]; done) | omega) only [cS_1, crd, z_pv_some, z_wv_some, z_cv_v, z_cv_n, cwr, sgets, rc_O, ia_n, fa_n, is_n, fs_n, ↓mI_eq, lits, nI_add, nLe, nLt, nE, mI_ne, mI_ne', mI_lt, mI_le, mI_nlt, mI_nle, ne_eq, mI_addC, pk_sub, pk_mul, pk_div, Nat.reduceEqDiff, Nat.reduceAdd, Nat.reduceMul, Nat.reduceSub, reduceIte, not_true_eq_false, not_false_eq_true, true_or, or_true, if_true, if_false, and_self, and_true, true_and, and_false, false_and, or_self, or_false, false_or, decide_true, decide_false, Bool.false_eq_true, Bool.true_eq_false, bI_t, bI_f, oS_1, ord, owA0, owF0, owF1, owA1, owF2, owA2, owF3, owA3, ywo, gfs11, pfs11, yrd, ywr, b169, h120, h110, g12, e12, i16, dec_S, Nat.reduceAdd]
    · have hc : decide (nI 0 ≤ y ∧ y ≤ nI (J - 1)) = false := by
        rw [decide_eq_false_iff_not]
        intro q
        obtain ⟨k, _, hk, rfl⟩ := in_nI (by omega) (by omega) q
        exact hy ⟨q.1, by rw [nLt (by omega) (by omega)]; omega⟩
      rw [hc] at h110
      refine ⟨-(nI 2), ?_, ?_⟩
      · rw [e97]
        by_cases c1 : y < nI 0
        · simp (disch := first | omega | (simp only [sgets, reduceIte, Nat.reduceEqDiff, c1]; done) | omega) only [cS_1, crd, z_pv_some, z_wv_some, z_cv_v, z_cv_n, cwr, sgets, rc_O, ia_n, fa_n, is_n, fs_n, ↓mI_eq, lits, nI_add, nLe, nLt, nE, mI_ne, mI_ne', mI_lt, mI_le, mI_nlt, mI_nle, ne_eq, mI_addC, pk_sub, pk_mul, pk_div, Nat.reduceEqDiff, Nat.reduceAdd, Nat.reduceMul, Nat.reduceSub, reduceIte, not_true_eq_false, not_false_eq_true, true_or, or_true, if_true, if_false, and_self, and_true, true_and, and_false, false_and, or_self, or_false, false_or, decide_true, decide_false, Bool.false_eq_true, Bool.true_eq_false, bI_t, bI_f, grd, gM_1, gfs10, gfs0, gfs3, gfs5, gfs6, gfs9, gfs2, gfs7, gfs8, gfs1, b97, h51, c1]
        · have c2 : ¬ y < nI J := fun q => hy ⟨Int32.not_lt.mp c1, q⟩
          simp (disch := first | omega | (simp only [sgets, reduceIte, Nat.reduceEqDiff, c1, h9, c2]; done) | omega) only [cS_1, crd, z_pv_some, z_wv_some, z_cv_v, z_cv_n, cwr, sgets, rc_O, ia_n, fa_n, is_n, fs_n, ↓mI_eq, lits, nI_add, nLe, nLt, nE, mI_ne, mI_ne', mI_lt, mI_le, mI_nlt, mI_nle, ne_eq, mI_addC, pk_sub, pk_mul, pk_div, Nat.reduceEqDiff, Nat.reduceAdd, Nat.reduceMul, Nat.reduceSub, reduceIte, not_true_eq_false, not_false_eq_true, true_or, or_true, if_true, if_false, and_self, and_true, true_and, and_false, false_and, or_self, or_false, false_or, decide_true, decide_false, Bool.false_eq_true, Bool.true_eq_false, bI_t, bI_f, grd, gM_1, gfs10, gfs0, gfs3, gfs5, gfs6, gfs9, gfs2, gfs7, gfs8, gfs1, b97, h51, c1, h9, c2]
      · rw [e169]
        simp (disch := first | omega | (simp only [sgets, reduceIte, Nat.reduceEqDiff, e12, dec_S, Nat.reduceAdd]; done) | omega) only [cS_1, crd, z_pv_some, z_wv_some, z_cv_v, z_cv_n, cwr, sgets, rc_O, ia_n, fa_n, is_n, fs_n, ↓mI_eq, lits, nI_add, nLe, nLt, nE, mI_ne, mI_ne', mI_lt, mI_le, mI_nlt, mI_nle, ne_eq, mI_addC, pk_sub, pk_mul, pk_div, Nat.reduceEqDiff, Nat.reduceAdd, Nat.reduceMul, Nat.reduceSub, reduceIte, not_true_eq_false, not_false_eq_true, true_or, or_true, if_true, if_false, and_self, and_true, true_and, and_false, false_and, or_self, or_false, false_or, decide_true, decide_false, Bool.false_eq_true, Bool.true_eq_false, bI_t, bI_f, oS_1, ord, owA0, owF0, owF1, owA1, owF2, owA2, owF3, owA3, ywo, gfs11, pfs11, yrd, ywr, b169, h120, h110, e12, dec_S, Nat.reduceAdd]
theorem q_wait (h : Rl c J S Hy B V Y) (hc : c < 2 ^ 31) (x : Int32) : qE M n V Vt U H T Hs M' o w 100 172 [.int x] Y := by
  obtain ⟨w1, w2, w3⟩ := okW_nV h.1.2.2.2.2.2.1
  have h128 := m128 M' o w h
  rw [w2] at h128
  by_cases hy : 0 ≤ x ∧ x < nI (nV V 11)
  · obtain ⟨k, hk, rfl⟩ := has_k (by omega) hy
    have h110 := m110 (nI k) (nI 0) (nI (nV V 11 - 1)) (yS M' o Y w)
    have hcd : decide (nI 0 ≤ nI k ∧ nI k ≤ nI (nV V 11 - 1)) = true := by
      rw [decide_eq_true_eq, nLe (by omega) (by omega), nLe (by omega) (by omega)]
      omega
    rw [hcd] at h110
    have h136 := m136 M' o w h hc k hk
    have hk2 : ¬ nV V 11 ≤ k := by omega
    refine ⟨V.2.2.1 11 k, ?_, ?_⟩
    · rw [e100]
      simp (disch := first | omega | (simp only [sgets, reduceIte, Nat.reduceEqDiff, w2, hk2]; done) | omega) only [cS_1, crd, z_pv_some, z_wv_some, z_cv_v, z_cv_n, cwr, sgets, rc_O, ia_n, fa_n, is_n, fs_n, ↓mI_eq, lits, nI_add, nLe, nLt, nE, mI_ne, mI_ne', mI_lt, mI_le, mI_nlt, mI_nle, ne_eq, mI_addC, pk_sub, pk_mul, pk_div, Nat.reduceEqDiff, Nat.reduceAdd, Nat.reduceMul, Nat.reduceSub, reduceIte, not_true_eq_false, not_false_eq_true, true_or, or_true, if_true, if_false, and_self, and_true, true_and, and_false, false_and, or_self, or_false, false_or, decide_true, decide_false, Bool.false_eq_true, Bool.true_eq_false, bI_t, bI_f, grd, gM_1, gfs10, gfs0, gfs3, gfs5, gfs6, gfs9, gfs2, gfs7, gfs8, gfs1, b100, Nat.not_lt_zero, w2, hk2]
    · rw [e172]
      simp (disch := first | omega | (simp only [sgets, reduceIte, Nat.reduceEqDiff, dec_S, Nat.reduceAdd]; done) | omega) only [cS_1, crd, z_pv_some, z_wv_some, z_cv_v, z_cv_n, cwr, sgets, rc_O, ia_n, fa_n, is_n, fs_n, ↓mI_eq, lits, nI_add, nLe, nLt, nE, mI_ne, mI_ne', mI_lt, mI_le, mI_nlt, mI_nle, ne_eq, mI_addC, pk_sub, pk_mul, pk_div, Nat.reduceEqDiff, Nat.reduceAdd, Nat.reduceMul, Nat.reduceSub, reduceIte, not_true_eq_false, not_false_eq_true, true_or, or_true, if_true, if_false, and_self, and_true, true_and, and_false, false_and, or_self, or_false, false_or, decide_true, decide_false, Bool.false_eq_true, Bool.true_eq_false, bI_t, bI_f, oS_1, ord, owA0, owF0, owF1, owA1, owF2, owA2, owF3, owA3, ywo, gfs11, pfs11, yrd, ywr, b172, h128, h110, h136, dec_S, Nat.reduceAdd]
  · refine ⟨-(nI 2), ?_, ?_⟩
    · rw [e100]
      by_cases c1 : x < nI 0
      · simp (disch := first | omega | (simp only [sgets, reduceIte, Nat.reduceEqDiff, c1]; done) | omega) only [cS_1, crd, z_pv_some, z_wv_some, z_cv_v, z_cv_n, cwr, sgets, rc_O, ia_n, fa_n, is_n, fs_n, ↓mI_eq, lits, nI_add, nLe, nLt, nE, mI_ne, mI_ne', mI_lt, mI_le, mI_nlt, mI_nle, ne_eq, mI_addC, pk_sub, pk_mul, pk_div, Nat.reduceEqDiff, Nat.reduceAdd, Nat.reduceMul, Nat.reduceSub, reduceIte, not_true_eq_false, not_false_eq_true, true_or, or_true, if_true, if_false, and_self, and_true, true_and, and_false, false_and, or_self, or_false, false_or, decide_true, decide_false, Bool.false_eq_true, Bool.true_eq_false, bI_t, bI_f, grd, gM_1, gfs10, gfs0, gfs3, gfs5, gfs6, gfs9, gfs2, gfs7, gfs8, gfs1, b100, c1]
      · have c2 : nI (nV V 11) ≤ x := Int32.not_lt.mp (fun q => hy ⟨Int32.not_lt.mp c1, q⟩)
        simp (disch := first | omega | (simp only [sgets, reduceIte, Nat.reduceEqDiff, c1, w2, c2]; done) | omega) only [cS_1, crd, z_pv_some, z_wv_some, z_cv_v, z_cv_n, cwr, sgets, rc_O, ia_n, fa_n, is_n, fs_n, ↓mI_eq, lits, nI_add, nLe, nLt, nE, mI_ne, mI_ne', mI_lt, mI_le, mI_nlt, mI_nle, ne_eq, mI_addC, pk_sub, pk_mul, pk_div, Nat.reduceEqDiff, Nat.reduceAdd, Nat.reduceMul, Nat.reduceSub, reduceIte, not_true_eq_false, not_false_eq_true, true_or, or_true, if_true, if_false, and_self, and_true, true_and, and_false, false_and, or_self, or_false, false_or, decide_true, decide_false, Bool.false_eq_true, Bool.true_eq_false, bI_t, bI_f, grd, gM_1, gfs10, gfs0, gfs3, gfs5, gfs6, gfs9, gfs2, gfs7, gfs8, gfs1, b100, c1, w2, c2]
    · rw [e172]
      by_cases hW0 : nV V 11 = 0
      · rw [hW0] at h128 hy
        have h110 := m110 x (nI 0) (nI 0 - nI 1) (yS M' o Y w)
        have hcd : decide (nI 0 ≤ x ∧ x ≤ nI 0 - nI 1) = false := by
          rw [decide_eq_false_iff_not]
          intro h3
          exact absurd (Int32.le_trans h3.1 h3.2) (by decide)
        rw [hcd] at h110
        simp (disch := first | omega | (simp only [sgets, reduceIte, Nat.reduceEqDiff, dec_S, Nat.reduceAdd]; done) | omega) only [cS_1, crd, z_pv_some, z_wv_some, z_cv_v, z_cv_n, cwr, sgets, rc_O, ia_n, fa_n, is_n, fs_n, ↓mI_eq, lits, nI_add, nLe, nLt, nE, mI_ne, mI_ne', mI_lt, mI_le, mI_nlt, mI_nle, ne_eq, mI_addC, pk_sub, pk_mul, pk_div, Nat.reduceEqDiff, Nat.reduceAdd, Nat.reduceMul, Nat.reduceSub, reduceIte, not_true_eq_false, not_false_eq_true, true_or, or_true, if_true, if_false, and_self, and_true, true_and, and_false, false_and, or_self, or_false, false_or, decide_true, decide_false, Bool.false_eq_true, Bool.true_eq_false, bI_t, bI_f, oS_1, ord, owA0, owF0, owF1, owA1, owF2, owA2, owF3, owA3, ywo, gfs11, pfs11, yrd, ywr, b172, h128, h110, dec_S, Nat.reduceAdd]
      · have h110 := m110 x (nI 0) (nI (nV V 11 - 1)) (yS M' o Y w)
        have hcd : decide (nI 0 ≤ x ∧ x ≤ nI (nV V 11 - 1)) = false := by
          rw [decide_eq_false_iff_not]
          intro q
          obtain ⟨k, _, hk, rfl⟩ := in_nI (by omega) (by omega) q
          exact hy ⟨q.1, by rw [nLt (by omega) (by omega)]; omega⟩
        rw [hcd] at h110
        simp (disch := first | omega | (simp only [sgets, reduceIte, Nat.reduceEqDiff, dec_S, Nat.reduceAdd]; done) | omega) only [cS_1, crd, z_pv_some, z_wv_some, z_cv_v, z_cv_n, cwr, sgets, rc_O, ia_n, fa_n, is_n, fs_n, ↓mI_eq, lits, nI_add, nLe, nLt, nE, mI_ne, mI_ne', mI_lt, mI_le, mI_nlt, mI_nle, ne_eq, mI_addC, pk_sub, pk_mul, pk_div, Nat.reduceEqDiff, Nat.reduceAdd, Nat.reduceMul, Nat.reduceSub, reduceIte, not_true_eq_false, not_false_eq_true, true_or, or_true, if_true, if_false, and_self, and_true, true_and, and_false, false_and, or_self, or_false, false_or, decide_true, decide_false, Bool.false_eq_true, Bool.true_eq_false, bI_t, bI_f, oS_1, ord, owA0, owF0, owF1, owA1, owF2, owA2, owF3, owA3, ywo, gfs11, pfs11, yrd, ywr, b172, h128, h110, dec_S, Nat.reduceAdd]
theorem c102 {N K : Nat} (hN : N < 30) (hK : K ≤ 30) (a1 : V.1 13 = nI N) (a2 : V.1 12 = nI K) {i k : Nat} (hi : i < K) (hk : k ≤ 2) : z_cl 102 [.ref n, .int (nI i), .int (nI k)] (gM M n V Vt U H T Hs) = some (some (.int (V.2.2.1 (19 + k) ((N + 29 - i) % 30))), gM M n V Vt U H T Hs) := by
  have h18 : z_cl 18 [.ref (n + 1 + 28), .int (nI i)] (gM M n V Vt U H T Hs) = some (some (.int (nI ((N + 29 - i) % 30))), gM M n V Vt U H T Hs) := m18 _ (n + 1) V N i hN a1 (by omega)
  have hi2 : ¬ K ≤ i := by omega
  have hlt : (N + 29 - i) % 30 < 30 := Nat.mod_lt _ (by omega)
  have p0 : z_cl 102 [.ref n, .int (nI i), .int (nI k)] (gM M n V Vt U H T Hs) = z_ex 102 (gM M n V Vt U H T Hs).1 31 [some (.ref n), some (.int (nI i)), some (.int (nI k)), some (.ref (n + 1 + 28)), some (.int (nI ((N + 29 - i) % 30)))] [.int (nI k)] (gM M n V Vt U H T Hs) := by
    rw [e102]
    simp (disch := first | omega | (simp only [sgets, reduceIte, Nat.reduceEqDiff, a2, hi]; done) | omega) only [cS_1, crd, z_pv_some, z_wv_some, z_cv_v, z_cv_n, cwr, sgets, rc_O, ia_n, fa_n, is_n, fs_n, ↓mI_eq, lits, nI_add, nLe, nLt, nE, mI_ne, mI_ne', mI_lt, mI_le, mI_nlt, mI_nle, ne_eq, mI_addC, pk_sub, pk_mul, pk_div, Nat.reduceEqDiff, Nat.reduceAdd, Nat.reduceMul, Nat.reduceSub, reduceIte, not_true_eq_false, not_false_eq_true, true_or, or_true, if_true, if_false, and_self, and_true, true_and, and_false, false_and, or_self, or_false, false_or, decide_true, decide_false, Bool.false_eq_true, Bool.true_eq_false, bI_t, bI_f, grd, gM_1, gfs10, gfs0, gfs3, gfs5, gfs6, gfs9, gfs2, gfs7, gfs8, gfs1, q102_0, q102_1, q102_4, q102_7, q102_8, q102_9, q102_12, q102_13, q102_14, q102_17, q102_20, q102_22, q102_23, q102_24, q102_25, q102_28, q102_30, h18, Nat.not_lt_zero, a2, hi]
  rw [p0]
  generalize (N + 29 - i) % 30 = r at hlt
  rcases (show k = 0 ∨ k = 1 ∨ k = 2 by omega) with rfl | rfl | rfl
  · refine (q102_31_0 _ _ _ _ _ _ _ _).trans ?_
    simp (disch := first | omega | (simp only [sgets, reduceIte, Nat.reduceEqDiff]; done) | omega) only [cS_1, crd, z_pv_some, z_wv_some, z_cv_v, z_cv_n, cwr, sgets, rc_O, ia_n, fa_n, is_n, fs_n, ↓mI_eq, lits, nI_add, nLe, nLt, nE, mI_ne, mI_ne', mI_lt, mI_le, mI_nlt, mI_nle, ne_eq, mI_addC, pk_sub, pk_mul, pk_div, Nat.reduceEqDiff, Nat.reduceAdd, Nat.reduceMul, Nat.reduceSub, reduceIte, not_true_eq_false, not_false_eq_true, true_or, or_true, if_true, if_false, and_self, and_true, true_and, and_false, false_and, or_self, or_false, false_or, decide_true, decide_false, Bool.false_eq_true, Bool.true_eq_false, bI_t, bI_f, grd, gM_1, gfs10, gfs0, gfs3, gfs5, gfs6, gfs9, gfs2, gfs7, gfs8, gfs1, q102_56, q102_57, q102_60, q102_62, q102_63, q102_64, q102_65, q102_68, q102_70, q102_71, q102_72, q102_73, q102_76, q102_78, q102_79, q102_80, q102_82]
  · refine (q102_31_1 _ _ _ _ _ _ _ _).trans ?_
    simp (disch := first | omega | (simp only [sgets, reduceIte, Nat.reduceEqDiff]; done) | omega) only [cS_1, crd, z_pv_some, z_wv_some, z_cv_v, z_cv_n, cwr, sgets, rc_O, ia_n, fa_n, is_n, fs_n, ↓mI_eq, lits, nI_add, nLe, nLt, nE, mI_ne, mI_ne', mI_lt, mI_le, mI_nlt, mI_nle, ne_eq, mI_addC, pk_sub, pk_mul, pk_div, Nat.reduceEqDiff, Nat.reduceAdd, Nat.reduceMul, Nat.reduceSub, reduceIte, not_true_eq_false, not_false_eq_true, true_or, or_true, if_true, if_false, and_self, and_true, true_and, and_false, false_and, or_self, or_false, false_or, decide_true, decide_false, Bool.false_eq_true, Bool.true_eq_false, bI_t, bI_f, grd, gM_1, gfs10, gfs0, gfs3, gfs5, gfs6, gfs9, gfs2, gfs7, gfs8, gfs1, q102_56, q102_57, q102_60, q102_62, q102_63, q102_64, q102_65, q102_68, q102_70, q102_71, q102_72, q102_73, q102_76, q102_78, q102_79, q102_80, q102_82]
  · refine (q102_31_2 _ _ _ _ _ _ _ _).trans ?_
    simp (disch := first | omega | (simp only [sgets, reduceIte, Nat.reduceEqDiff]; done) | omega) only [cS_1, crd, z_pv_some, z_wv_some, z_cv_v, z_cv_n, cwr, sgets, rc_O, ia_n, fa_n, is_n, fs_n, ↓mI_eq, lits, nI_add, nLe, nLt, nE, mI_ne, mI_ne', mI_lt, mI_le, mI_nlt, mI_nle, ne_eq, mI_addC, pk_sub, pk_mul, pk_div, Nat.reduceEqDiff, Nat.reduceAdd, Nat.reduceMul, Nat.reduceSub, reduceIte, not_true_eq_false, not_false_eq_true, true_or, or_true, if_true, if_false, and_self, and_true, true_and, and_false, false_and, or_self, or_false, false_or, decide_true, decide_false, Bool.false_eq_true, Bool.true_eq_false, bI_t, bI_f, grd, gM_1, gfs10, gfs0, gfs3, gfs5, gfs6, gfs9, gfs2, gfs7, gfs8, gfs1, q102_56, q102_57, q102_60, q102_62, q102_63, q102_64, q102_65, q102_68, q102_70, q102_71, q102_72, q102_73, q102_76, q102_78, q102_79, q102_80, q102_82]
theorem q_event (h : Rl c J S Hy B V Y) (x y : Int32) : qE M n V Vt U H T Hs M' o w 102 174 [.int x, .int y] Y := by
  obtain ⟨N, K, hN, hK, a1, a2, a3, a4⟩ := h.2.2.2.2.2.2.2.1
  by_cases hx : 0 ≤ x ∧ x < nI K
  · obtain ⟨i, hi, rfl⟩ := has_k (by omega) hx
    have h110 := m110 (nI i) (nI 0) (nI (K - 1)) (yS M' o Y w)
    have hcd : decide (nI 0 ≤ nI i ∧ nI i ≤ nI (K - 1)) = true := by
      rw [decide_eq_true_eq, nLe (by omega) (by omega), nLe (by omega) (by omega)]
      omega
    rw [hcd] at h110
    have h110y := m110 y (nI 0) (nI 2) (yS M' o Y w)
    by_cases hr : y.toInt < 0 ∨ (2 : Int) < y.toInt
    · have hc : decide (nI 0 ≤ y ∧ y ≤ nI 2) = false := by
        rw [decide_eq_false_iff_not]
        intro q
        obtain ⟨k, _, hk, rfl⟩ := in_nI (by omega) (by omega) q
        rw [nI_toInt (by omega)] at hr
        omega
      rw [hc] at h110y
      have h18 : z_cl 18 [.ref (n + 1 + 28), .int (nI i)] (gM M n V Vt U H T Hs) = some (some (.int (nI ((N + 29 - i) % 30))), gM M n V Vt U H T Hs) := m18 _ (n + 1) V N i hN a1 (by omega)
      refine ⟨-(nI 3), ?_, ?_⟩
      · have p0 : z_cl 102 [.ref n, .int (nI i), .int y] (gM M n V Vt U H T Hs) = z_ex 102 (gM M n V Vt U H T Hs).1 31 [some (.ref n), some (.int (nI i)), some (.int y), some (.ref (n + 1 + 28)), some (.int (nI ((N + 29 - i) % 30)))] [.int y] (gM M n V Vt U H T Hs) := by
          rw [e102]
          simp (disch := first | omega | (simp only [sgets, reduceIte, Nat.reduceEqDiff, a2, hi]; done) | omega) only [cS_1, crd, z_pv_some, z_wv_some, z_cv_v, z_cv_n, cwr, sgets, rc_O, ia_n, fa_n, is_n, fs_n, ↓mI_eq, lits, nI_add, nLe, nLt, nE, mI_ne, mI_ne', mI_lt, mI_le, mI_nlt, mI_nle, ne_eq, mI_addC, pk_sub, pk_mul, pk_div, Nat.reduceEqDiff, Nat.reduceAdd, Nat.reduceMul, Nat.reduceSub, reduceIte, not_true_eq_false, not_false_eq_true, true_or, or_true, if_true, if_false, and_self, and_true, true_and, and_false, false_and, or_self, or_false, false_or, decide_true, decide_false, Bool.false_eq_true, Bool.true_eq_false, bI_t, bI_f, grd, gM_1, gfs10, gfs0, gfs3, gfs5, gfs6, gfs9, gfs2, gfs7, gfs8, gfs1, q102_0, q102_1, q102_4, q102_7, q102_8, q102_9, q102_12, q102_13, q102_14, q102_17, q102_20, q102_22, q102_23, q102_24, q102_25, q102_28, q102_30, h18, Nat.not_lt_zero, a2, hi]
        rw [p0]
        refine (q102_31_d _ _ _ _ _ _ _ _ _ hr).trans ?_
        simp (disch := first | omega | (simp only [sgets, reduceIte, Nat.reduceEqDiff]; done) | omega) only [cS_1, crd, z_pv_some, z_wv_some, z_cv_v, z_cv_n, cwr, sgets, rc_O, ia_n, fa_n, is_n, fs_n, ↓mI_eq, lits, nI_add, nLe, nLt, nE, mI_ne, mI_ne', mI_lt, mI_le, mI_nlt, mI_nle, ne_eq, mI_addC, pk_sub, pk_mul, pk_div, Nat.reduceEqDiff, Nat.reduceAdd, Nat.reduceMul, Nat.reduceSub, reduceIte, not_true_eq_false, not_false_eq_true, true_or, or_true, if_true, if_false, and_self, and_true, true_and, and_false, false_and, or_self, or_false, false_or, decide_true, decide_false, Bool.false_eq_true, Bool.true_eq_false, bI_t, bI_f, grd, gM_1, gfs10, gfs0, gfs3, gfs5, gfs6, gfs9, gfs2, gfs7, gfs8, gfs1, q102_56, q102_57, q102_60, q102_62, q102_63, q102_64, q102_65, q102_68, q102_70, q102_71, q102_72, q102_73, q102_76, q102_78, q102_79, q102_80, q102_82]
      · rw [e174]
        simp (disch := first | omega | (simp only [sgets, reduceIte, Nat.reduceEqDiff, a3, dec_S, Nat.reduceAdd]; done) | omega) only [cS_1, crd, z_pv_some, z_wv_some, z_cv_v, z_cv_n, cwr, sgets, rc_O, ia_n, fa_n, is_n, fs_n, ↓mI_eq, lits, nI_add, nLe, nLt, nE, mI_ne, mI_ne', mI_lt, mI_le, mI_nlt, mI_nle, ne_eq, mI_addC, pk_sub, pk_mul, pk_div, Nat.reduceEqDiff, Nat.reduceAdd, Nat.reduceMul, Nat.reduceSub, reduceIte, not_true_eq_false, not_false_eq_true, true_or, or_true, if_true, if_false, and_self, and_true, true_and, and_false, false_and, or_self, or_false, false_or, decide_true, decide_false, Bool.false_eq_true, Bool.true_eq_false, bI_t, bI_f, oS_1, ord, owA0, owF0, owF1, owA1, owF2, owA2, owF3, owA3, ywo, gfs11, pfs11, yrd, ywr, b174, h110, h110y, a3, dec_S, Nat.reduceAdd]
    · obtain ⟨k, hk, rfl⟩ := rng_k (m := 2) (by omega) hr
      have hc : decide (nI 0 ≤ nI k ∧ nI k ≤ nI 2) = true := by
        rw [decide_eq_true_eq, nLe (by omega) (by omega), nLe (by omega) (by omega)]
        omega
      rw [hc] at h110y
      refine ⟨_, c102 M n V Vt U H T Hs hN hK a1 a2 hi hk, ?_⟩
      have hrow : Y.2.2.1 (17 + k) (K - 1 - i) = V.2.2.1 (19 + k) ((N + 29 - i) % 30) := by
        obtain ⟨f1, f2, f3⟩ := a4 (K - 1 - i) (by omega)
        rw [show N + 30 - K + (K - 1 - i) = N + 29 - i by omega] at f1 f2 f3
        rcases (show k = 0 ∨ k = 1 ∨ k = 2 by omega) with rfl | rfl | rfl
        · exact f1
        · exact f2
        · exact f3
      have hi2 : i ≤ K - 1 := by omega
      have h1K : 1 ≤ K := by omega
      rw [e174]
      simp (disch := first | omega | (simp only [sgets, reduceIte, Nat.reduceEqDiff, a3, hrow, hi2, h1K, dec_S, Nat.reduceAdd]; done) | omega) only [cS_1, crd, z_pv_some, z_wv_some, z_cv_v, z_cv_n, cwr, sgets, rc_O, ia_n, fa_n, is_n, fs_n, ↓mI_eq, lits, nI_add, nLe, nLt, nE, mI_ne, mI_ne', mI_lt, mI_le, mI_nlt, mI_nle, ne_eq, mI_addC, pk_sub, pk_mul, pk_div, Nat.reduceEqDiff, Nat.reduceAdd, Nat.reduceMul, Nat.reduceSub, reduceIte, not_true_eq_false, not_false_eq_true, true_or, or_true, if_true, if_false, and_self, and_true, true_and, and_false, false_and, or_self, or_false, false_or, decide_true, decide_false, Bool.false_eq_true, Bool.true_eq_false, bI_t, bI_f, oS_1, ord, owA0, owF0, owF1, owA1, owF2, owA2, owF3, owA3, ywo, gfs11, pfs11, yrd, ywr, b174, h110, h110y, a3, hrow, hi2, h1K, dec_S, Nat.reduceAdd]
  · refine ⟨-(nI 2), ?_, ?_⟩
    · rw [e102]
      by_cases c1 : x < nI 0
      · simp (disch := first | omega | (simp only [sgets, reduceIte, Nat.reduceEqDiff, c1]; done) | omega) only [cS_1, crd, z_pv_some, z_wv_some, z_cv_v, z_cv_n, cwr, sgets, rc_O, ia_n, fa_n, is_n, fs_n, ↓mI_eq, lits, nI_add, nLe, nLt, nE, mI_ne, mI_ne', mI_lt, mI_le, mI_nlt, mI_nle, ne_eq, mI_addC, pk_sub, pk_mul, pk_div, Nat.reduceEqDiff, Nat.reduceAdd, Nat.reduceMul, Nat.reduceSub, reduceIte, not_true_eq_false, not_false_eq_true, true_or, or_true, if_true, if_false, and_self, and_true, true_and, and_false, false_and, or_self, or_false, false_or, decide_true, decide_false, Bool.false_eq_true, Bool.true_eq_false, bI_t, bI_f, grd, gM_1, gfs10, gfs0, gfs3, gfs5, gfs6, gfs9, gfs2, gfs7, gfs8, gfs1, q102_0, q102_1, q102_4, q102_7, q102_8, q102_9, q102_12, q102_13, q102_14, q102_17, q102_20, q102_22, q102_23, q102_24, q102_25, q102_28, q102_30, c1]
      · have c2 : ¬ x < nI K := fun q => hx ⟨Int32.not_lt.mp c1, q⟩
        simp (disch := first | omega | (simp only [sgets, reduceIte, Nat.reduceEqDiff, c1, a2, c2]; done) | omega) only [cS_1, crd, z_pv_some, z_wv_some, z_cv_v, z_cv_n, cwr, sgets, rc_O, ia_n, fa_n, is_n, fs_n, ↓mI_eq, lits, nI_add, nLe, nLt, nE, mI_ne, mI_ne', mI_lt, mI_le, mI_nlt, mI_nle, ne_eq, mI_addC, pk_sub, pk_mul, pk_div, Nat.reduceEqDiff, Nat.reduceAdd, Nat.reduceMul, Nat.reduceSub, reduceIte, not_true_eq_false, not_false_eq_true, true_or, or_true, if_true, if_false, and_self, and_true, true_and, and_false, false_and, or_self, or_false, false_or, decide_true, decide_false, Bool.false_eq_true, Bool.true_eq_false, bI_t, bI_f, grd, gM_1, gfs10, gfs0, gfs3, gfs5, gfs6, gfs9, gfs2, gfs7, gfs8, gfs1, q102_0, q102_1, q102_4, q102_7, q102_8, q102_9, q102_12, q102_13, q102_14, q102_17, q102_20, q102_22, q102_23, q102_24, q102_25, q102_28, q102_30, c1, a2, c2]
    · rw [e174]
      by_cases hK0 : K = 0
      · subst hK0
        have h110 := m110 x (nI 0) (nI 0 - nI 1) (yS M' o Y w)
        have hcd : decide (nI 0 ≤ x ∧ x ≤ nI 0 - nI 1) = false := by
          rw [decide_eq_false_iff_not]
          intro h3
          exact absurd (Int32.le_trans h3.1 h3.2) (by decide)
        rw [hcd] at h110
        simp (disch := first | omega | (simp only [sgets, reduceIte, Nat.reduceEqDiff, a3, dec_S, Nat.reduceAdd]; done) | omega) only [cS_1, crd, z_pv_some, z_wv_some, z_cv_v, z_cv_n, cwr, sgets, rc_O, ia_n, fa_n, is_n, fs_n, ↓mI_eq, lits, nI_add, nLe, nLt, nE, mI_ne, mI_ne', mI_lt, mI_le, mI_nlt, mI_nle, ne_eq, mI_addC, pk_sub, pk_mul, pk_div, Nat.reduceEqDiff, Nat.reduceAdd, Nat.reduceMul, Nat.reduceSub, reduceIte, not_true_eq_false, not_false_eq_true, true_or, or_true, if_true, if_false, and_self, and_true, true_and, and_false, false_and, or_self, or_false, false_or, decide_true, decide_false, Bool.false_eq_true, Bool.true_eq_false, bI_t, bI_f, oS_1, ord, owA0, owF0, owF1, owA1, owF2, owA2, owF3, owA3, ywo, gfs11, pfs11, yrd, ywr, b174, h110, a3, dec_S, Nat.reduceAdd]
      · have h110 := m110 x (nI 0) (nI (K - 1)) (yS M' o Y w)
        have hcd : decide (nI 0 ≤ x ∧ x ≤ nI (K - 1)) = false := by
          rw [decide_eq_false_iff_not]
          intro q
          obtain ⟨k, _, hk, rfl⟩ := in_nI (by omega) (by omega) q
          exact hx ⟨q.1, by rw [nLt (by omega) (by omega)]; omega⟩
        rw [hcd] at h110
        simp (disch := first | omega | (simp only [sgets, reduceIte, Nat.reduceEqDiff, a3, dec_S, Nat.reduceAdd]; done) | omega) only [cS_1, crd, z_pv_some, z_wv_some, z_cv_v, z_cv_n, cwr, sgets, rc_O, ia_n, fa_n, is_n, fs_n, ↓mI_eq, lits, nI_add, nLe, nLt, nE, mI_ne, mI_ne', mI_lt, mI_le, mI_nlt, mI_nle, ne_eq, mI_addC, pk_sub, pk_mul, pk_div, Nat.reduceEqDiff, Nat.reduceAdd, Nat.reduceMul, Nat.reduceSub, reduceIte, not_true_eq_false, not_false_eq_true, true_or, or_true, if_true, if_false, and_self, and_true, true_and, and_false, false_and, or_self, or_false, false_or, decide_true, decide_false, Bool.false_eq_true, Bool.true_eq_false, bI_t, bI_f, oS_1, ord, owA0, owF0, owF1, owA1, owF2, owA2, owF3, owA3, ywo, gfs11, pfs11, yrd, ywr, b174, h110, a3, dec_S, Nat.reduceAdd]
theorem dist_j (h : Rl c J S Hy B V Y) (x1 x2 y1 y2 : Option Value) : ∀ (d a b i : Nat), a ≤ d → b ≤ d → i + d ≤ 7 → a < B → b < B → ∃ k, z_ex 70 M.1 8 [some (.ref (n + 1 + 2)), x1, x2, some (.int (nI a)), some (.int (nI b)), some (.int (nI i))] [] (gM M n V Vt U H T Hs) = some (some (.int (nI k)), gM M n V Vt U H T Hs) ∧ z_ex 171 M'.1 37 [some (.ref o), y1, y2, some (.int (nI a)), some (.int (nI b)), some (.int (nI i))] [] (yS M' o Y w) = some (some (.int (nI k)), yS M' o Y w) := by
  have hB := (Rl_11 h).1
  have hG := h.2.2.2.2.2.2.2.2.2
  have e0 : Y.2.2.1 0 = V.2.2.1 0 := h.2.2.2.2.1.2.2.2.2.2.2.2.2.1
  intro d
  induction d with
  | zero =>
    intro a b i ha hb hi haB hbB
    have ea : a = 0 := by omega
    have eb : b = 0 := by omega
    subst ea
    subst eb
    refine ⟨i, ?_, ?_⟩
    · rw [q70_8]
      simp (disch := first | omega | (simp only [sgets, reduceIte, Nat.reduceEqDiff]; done) | omega) only [cS_1, crd, z_pv_some, z_wv_some, z_cv_v, z_cv_n, cwr, sgets, rc_O, ia_n, fa_n, is_n, fs_n, ↓mI_eq, lits, nI_add, nLe, nLt, nE, mI_ne, mI_ne', mI_lt, mI_le, mI_nlt, mI_nle, ne_eq, mI_addC, pk_sub, pk_mul, pk_div, Nat.reduceEqDiff, Nat.reduceAdd, Nat.reduceMul, Nat.reduceSub, reduceIte, not_true_eq_false, not_false_eq_true, true_or, or_true, if_true, if_false, and_self, and_true, true_and, and_false, false_and, or_self, or_false, false_or, decide_true, decide_false, Bool.false_eq_true, Bool.true_eq_false, bI_t, bI_f, grd, gM_1, gfs10, gfs0, gfs3, gfs5, gfs6, gfs9, gfs2, gfs7, gfs8, gfs1, q70_9, q70_11, q70_14, q70_16, q70_18, q70_21, q70_22, q70_24, q70_27, q70_28, q70_31, q70_32, q70_33, q70_34, q70_37, q70_38, q70_41, q70_43, q70_44, q70_46, q70_49, q70_52, q70_54]
    · rw [q171_37]
      simp (disch := first | omega | (simp only [sgets, reduceIte, Nat.reduceEqDiff, dec_S, Nat.reduceAdd]; done) | omega) only [cS_1, crd, z_pv_some, z_wv_some, z_cv_v, z_cv_n, cwr, sgets, rc_O, ia_n, fa_n, is_n, fs_n, ↓mI_eq, lits, nI_add, nLe, nLt, nE, mI_ne, mI_ne', mI_lt, mI_le, mI_nlt, mI_nle, ne_eq, mI_addC, pk_sub, pk_mul, pk_div, Nat.reduceEqDiff, Nat.reduceAdd, Nat.reduceMul, Nat.reduceSub, reduceIte, not_true_eq_false, not_false_eq_true, true_or, or_true, if_true, if_false, and_self, and_true, true_and, and_false, false_and, or_self, or_false, false_or, decide_true, decide_false, Bool.false_eq_true, Bool.true_eq_false, bI_t, bI_f, oS_1, ord, owA0, owF0, owF1, owA1, owF2, owA2, owF3, owA3, ywo, gfs11, pfs11, yrd, ywr, q171_38, q171_40, q171_43, q171_44, q171_46, q171_49, q171_50, q171_51, q171_52, q171_55, q171_56, q171_59, q171_60, q171_62, q171_63, q171_66, q171_68, q171_71, q171_74, q171_76, dec_S, Nat.reduceAdd]
  | succ d ih =>
    intro a b i ha hb hi haB hbB
    by_cases hab : a = b
    · subst hab
      refine ⟨i, ?_, ?_⟩
      · rw [q70_8]
        simp (disch := first | omega | (simp only [sgets, reduceIte, Nat.reduceEqDiff]; done) | omega) only [cS_1, crd, z_pv_some, z_wv_some, z_cv_v, z_cv_n, cwr, sgets, rc_O, ia_n, fa_n, is_n, fs_n, ↓mI_eq, lits, nI_add, nLe, nLt, nE, mI_ne, mI_ne', mI_lt, mI_le, mI_nlt, mI_nle, ne_eq, mI_addC, pk_sub, pk_mul, pk_div, Nat.reduceEqDiff, Nat.reduceAdd, Nat.reduceMul, Nat.reduceSub, reduceIte, not_true_eq_false, not_false_eq_true, true_or, or_true, if_true, if_false, and_self, and_true, true_and, and_false, false_and, or_self, or_false, false_or, decide_true, decide_false, Bool.false_eq_true, Bool.true_eq_false, bI_t, bI_f, grd, gM_1, gfs10, gfs0, gfs3, gfs5, gfs6, gfs9, gfs2, gfs7, gfs8, gfs1, q70_9, q70_11, q70_14, q70_16, q70_18, q70_21, q70_22, q70_24, q70_27, q70_28, q70_31, q70_32, q70_33, q70_34, q70_37, q70_38, q70_41, q70_43, q70_44, q70_46, q70_49, q70_52, q70_54]
      · rw [q171_37]
        simp (disch := first | omega | (simp only [sgets, reduceIte, Nat.reduceEqDiff, dec_S, Nat.reduceAdd]; done) | omega) only [cS_1, crd, z_pv_some, z_wv_some, z_cv_v, z_cv_n, cwr, sgets, rc_O, ia_n, fa_n, is_n, fs_n, ↓mI_eq, lits, nI_add, nLe, nLt, nE, mI_ne, mI_ne', mI_lt, mI_le, mI_nlt, mI_nle, ne_eq, mI_addC, pk_sub, pk_mul, pk_div, Nat.reduceEqDiff, Nat.reduceAdd, Nat.reduceMul, Nat.reduceSub, reduceIte, not_true_eq_false, not_false_eq_true, true_or, or_true, if_true, if_false, and_self, and_true, true_and, and_false, false_and, or_self, or_false, false_or, decide_true, decide_false, Bool.false_eq_true, Bool.true_eq_false, bI_t, bI_f, oS_1, ord, owA0, owF0, owF1, owA1, owF2, owA2, owF3, owA3, ywo, gfs11, pfs11, yrd, ywr, q171_38, q171_40, q171_43, q171_44, q171_46, q171_49, q171_50, q171_51, q171_52, q171_55, q171_56, q171_59, q171_60, q171_62, q171_63, q171_66, q171_68, q171_71, q171_74, q171_76, dec_S, Nat.reduceAdd]
    · have hi8 : ¬ 8 ≤ i := by omega
      by_cases hgt : a ≤ b
      · obtain ⟨p, hp, ep⟩ := hG.2.2.2.2 b (by omega) hbB
        have g := m117 M' o Y w b 0 (by omega) (by omega)
        rw [e0, ep] at g
        obtain ⟨k, k1, k2⟩ := ih a p (i + 1) (by omega) (by omega) (by omega) haB (by omega)
        refine ⟨k, Eq.trans ?_ k1, Eq.trans ?_ k2⟩
        · rw [q70_8]
          simp (disch := first | omega | (simp only [sgets, reduceIte, Nat.reduceEqDiff, hab, hi8, hgt, ep]; done) | omega) only [cS_1, crd, z_pv_some, z_wv_some, z_cv_v, z_cv_n, cwr, sgets, rc_O, ia_n, fa_n, is_n, fs_n, ↓mI_eq, lits, nI_add, nLe, nLt, nE, mI_ne, mI_ne', mI_lt, mI_le, mI_nlt, mI_nle, ne_eq, mI_addC, pk_sub, pk_mul, pk_div, Nat.reduceEqDiff, Nat.reduceAdd, Nat.reduceMul, Nat.reduceSub, reduceIte, not_true_eq_false, not_false_eq_true, true_or, or_true, if_true, if_false, and_self, and_true, true_and, and_false, false_and, or_self, or_false, false_or, decide_true, decide_false, Bool.false_eq_true, Bool.true_eq_false, bI_t, bI_f, grd, gM_1, gfs10, gfs0, gfs3, gfs5, gfs6, gfs9, gfs2, gfs7, gfs8, gfs1, q70_9, q70_11, q70_14, q70_16, q70_18, q70_21, q70_22, q70_24, q70_27, q70_28, q70_31, q70_32, q70_33, q70_34, q70_37, q70_38, q70_41, q70_43, q70_44, q70_46, q70_49, hab, hi8, hgt, ep]
        · rw [q171_37]
          simp (disch := first | omega | (simp only [sgets, reduceIte, Nat.reduceEqDiff, hab, hgt, dec_S, Nat.reduceAdd]; done) | omega) only [cS_1, crd, z_pv_some, z_wv_some, z_cv_v, z_cv_n, cwr, sgets, rc_O, ia_n, fa_n, is_n, fs_n, ↓mI_eq, lits, nI_add, nLe, nLt, nE, mI_ne, mI_ne', mI_lt, mI_le, mI_nlt, mI_nle, ne_eq, mI_addC, pk_sub, pk_mul, pk_div, Nat.reduceEqDiff, Nat.reduceAdd, Nat.reduceMul, Nat.reduceSub, reduceIte, not_true_eq_false, not_false_eq_true, true_or, or_true, if_true, if_false, and_self, and_true, true_and, and_false, false_and, or_self, or_false, false_or, decide_true, decide_false, Bool.false_eq_true, Bool.true_eq_false, bI_t, bI_f, oS_1, ord, owA0, owF0, owF1, owA1, owF2, owA2, owF3, owA3, ywo, gfs11, pfs11, yrd, ywr, q171_38, q171_40, q171_43, q171_44, q171_46, q171_49, q171_50, q171_51, q171_52, q171_55, q171_56, q171_59, q171_60, q171_62, q171_63, q171_66, q171_68, q171_71, g, hab, hgt, dec_S, Nat.reduceAdd]
      · obtain ⟨p, hp, ep⟩ := hG.2.2.2.2 a (by omega) haB
        have g := m117 M' o Y w a 0 (by omega) (by omega)
        rw [e0, ep] at g
        obtain ⟨k, k1, k2⟩ := ih p b (i + 1) (by omega) (by omega) (by omega) (by omega) hbB
        refine ⟨k, Eq.trans ?_ k1, Eq.trans ?_ k2⟩
        · rw [q70_8]
          simp (disch := first | omega | (simp only [sgets, reduceIte, Nat.reduceEqDiff, hab, hi8, hgt, ep]; done) | omega) only [cS_1, crd, z_pv_some, z_wv_some, z_cv_v, z_cv_n, cwr, sgets, rc_O, ia_n, fa_n, is_n, fs_n, ↓mI_eq, lits, nI_add, nLe, nLt, nE, mI_ne, mI_ne', mI_lt, mI_le, mI_nlt, mI_nle, ne_eq, mI_addC, pk_sub, pk_mul, pk_div, Nat.reduceEqDiff, Nat.reduceAdd, Nat.reduceMul, Nat.reduceSub, reduceIte, not_true_eq_false, not_false_eq_true, true_or, or_true, if_true, if_false, and_self, and_true, true_and, and_false, false_and, or_self, or_false, false_or, decide_true, decide_false, Bool.false_eq_true, Bool.true_eq_false, bI_t, bI_f, grd, gM_1, gfs10, gfs0, gfs3, gfs5, gfs6, gfs9, gfs2, gfs7, gfs8, gfs1, q70_9, q70_11, q70_14, q70_16, q70_18, q70_21, q70_22, q70_24, q70_27, q70_28, q70_31, q70_32, q70_33, q70_34, q70_37, q70_38, q70_41, q70_43, q70_44, q70_46, q70_49, hab, hi8, hgt, ep]
        · rw [q171_37]
          simp (disch := first | omega | (simp only [sgets, reduceIte, Nat.reduceEqDiff, hab, hgt, dec_S, Nat.reduceAdd]; done) | omega) only [cS_1, crd, z_pv_some, z_wv_some, z_cv_v, z_cv_n, cwr, sgets, rc_O, ia_n, fa_n, is_n, fs_n, ↓mI_eq, lits, nI_add, nLe, nLt, nE, mI_ne, mI_ne', mI_lt, mI_le, mI_nlt, mI_nle, ne_eq, mI_addC, pk_sub, pk_mul, pk_div, Nat.reduceEqDiff, Nat.reduceAdd, Nat.reduceMul, Nat.reduceSub, reduceIte, not_true_eq_false, not_false_eq_true, true_or, or_true, if_true, if_false, and_self, and_true, true_and, and_false, false_and, or_self, or_false, false_or, decide_true, decide_false, Bool.false_eq_true, Bool.true_eq_false, bI_t, bI_f, oS_1, ord, owA0, owF0, owF1, owA1, owF2, owA2, owF3, owA3, ywo, gfs11, pfs11, yrd, ywr, q171_38, q171_40, q171_43, q171_44, q171_46, q171_49, q171_50, q171_51, q171_52, q171_55, q171_56, q171_59, q171_60, q171_62, q171_63, q171_66, q171_68, q171_71, g, hab, hgt, dec_S, Nat.reduceAdd]
theorem q_dist (h : Rl c J S Hy B V Y) (x y : Int32) : qE M n V Vt U H T Hs M' o w 99 171 [.int x, .int y] Y := by
  have h51 := g51 M n V Vt U H T Hs h x
  have h120 := m120 M' o w h x
  have h51y := g51 M n V Vt U H T Hs h y
  have h120y := m120 M' o w h y
  obtain ⟨hJ, h9⟩ := Rl_J h
  have hB := (Rl_11 h).1
  cases hh : here V x with
  | false =>
    rw [hh] at h51 h120
    refine ⟨-(nI 2), ?_, ?_⟩
    · rw [e99]
      simp (disch := first | omega | (simp only [sgets, reduceIte, Nat.reduceEqDiff]; done) | omega) only [cS_1, crd, z_pv_some, z_wv_some, z_cv_v, z_cv_n, cwr, sgets, rc_O, ia_n, fa_n, is_n, fs_n, ↓mI_eq, lits, nI_add, nLe, nLt, nE, mI_ne, mI_ne', mI_lt, mI_le, mI_nlt, mI_nle, ne_eq, mI_addC, pk_sub, pk_mul, pk_div, Nat.reduceEqDiff, Nat.reduceAdd, Nat.reduceMul, Nat.reduceSub, reduceIte, not_true_eq_false, not_false_eq_true, true_or, or_true, if_true, if_false, and_self, and_true, true_and, and_false, false_and, or_self, or_false, false_or, decide_true, decide_false, Bool.false_eq_true, Bool.true_eq_false, bI_t, bI_f, grd, gM_1, gfs10, gfs0, gfs3, gfs5, gfs6, gfs9, gfs2, gfs7, gfs8, gfs1, b99, h51]
    · rw [e171]
      simp (disch := first | omega | (simp only [sgets, reduceIte, Nat.reduceEqDiff, dec_S, Nat.reduceAdd]; done) | omega) only [cS_1, crd, z_pv_some, z_wv_some, z_cv_v, z_cv_n, cwr, sgets, rc_O, ia_n, fa_n, is_n, fs_n, ↓mI_eq, lits, nI_add, nLe, nLt, nE, mI_ne, mI_ne', mI_lt, mI_le, mI_nlt, mI_nle, ne_eq, mI_addC, pk_sub, pk_mul, pk_div, Nat.reduceEqDiff, Nat.reduceAdd, Nat.reduceMul, Nat.reduceSub, reduceIte, not_true_eq_false, not_false_eq_true, true_or, or_true, if_true, if_false, and_self, and_true, true_and, and_false, false_and, or_self, or_false, false_or, decide_true, decide_false, Bool.false_eq_true, Bool.true_eq_false, bI_t, bI_f, oS_1, ord, owA0, owF0, owF1, owA1, owF2, owA2, owF3, owA3, ywo, gfs11, pfs11, yrd, ywr, q171_0, q171_1, q171_2, q171_5, q171_8, q171_9, q171_10, q171_13, q171_16, q171_18, q171_19, q171_20, q171_21, q171_22, q171_25, q171_26, q171_27, q171_28, q171_29, q171_32, q171_34, q171_35, h120, dec_S, Nat.reduceAdd]
  | true =>
    rw [hh] at h51 h120
    cases hhy : here V y with
    | false =>
      rw [hhy] at h51y h120y
      refine ⟨-(nI 2), ?_, ?_⟩
      · rw [e99]
        simp (disch := first | omega | (simp only [sgets, reduceIte, Nat.reduceEqDiff]; done) | omega) only [cS_1, crd, z_pv_some, z_wv_some, z_cv_v, z_cv_n, cwr, sgets, rc_O, ia_n, fa_n, is_n, fs_n, ↓mI_eq, lits, nI_add, nLe, nLt, nE, mI_ne, mI_ne', mI_lt, mI_le, mI_nlt, mI_nle, ne_eq, mI_addC, pk_sub, pk_mul, pk_div, Nat.reduceEqDiff, Nat.reduceAdd, Nat.reduceMul, Nat.reduceSub, reduceIte, not_true_eq_false, not_false_eq_true, true_or, or_true, if_true, if_false, and_self, and_true, true_and, and_false, false_and, or_self, or_false, false_or, decide_true, decide_false, Bool.false_eq_true, Bool.true_eq_false, bI_t, bI_f, grd, gM_1, gfs10, gfs0, gfs3, gfs5, gfs6, gfs9, gfs2, gfs7, gfs8, gfs1, b99, h51, h51y]
      · rw [e171]
        simp (disch := first | omega | (simp only [sgets, reduceIte, Nat.reduceEqDiff, dec_S, Nat.reduceAdd]; done) | omega) only [cS_1, crd, z_pv_some, z_wv_some, z_cv_v, z_cv_n, cwr, sgets, rc_O, ia_n, fa_n, is_n, fs_n, ↓mI_eq, lits, nI_add, nLe, nLt, nE, mI_ne, mI_ne', mI_lt, mI_le, mI_nlt, mI_nle, ne_eq, mI_addC, pk_sub, pk_mul, pk_div, Nat.reduceEqDiff, Nat.reduceAdd, Nat.reduceMul, Nat.reduceSub, reduceIte, not_true_eq_false, not_false_eq_true, true_or, or_true, if_true, if_false, and_self, and_true, true_and, and_false, false_and, or_self, or_false, false_or, decide_true, decide_false, Bool.false_eq_true, Bool.true_eq_false, bI_t, bI_f, oS_1, ord, owA0, owF0, owF1, owA1, owF2, owA2, owF3, owA3, ywo, gfs11, pfs11, yrd, ywr, q171_0, q171_1, q171_2, q171_5, q171_8, q171_9, q171_10, q171_13, q171_16, q171_18, q171_19, q171_20, q171_21, q171_22, q171_25, q171_26, q171_27, q171_28, q171_29, q171_32, q171_34, q171_35, h120, h120y, dec_S, Nat.reduceAdd]
    | true =>
      rw [hhy] at h51y h120y
      obtain ⟨p, hp, rfl, hne⟩ := here_k hJ h9 hh
      obtain ⟨q, hq, rfl, hne2⟩ := here_k hJ h9 hhy
      obtain ⟨-, f2, -, a, ha, f4⟩ := h.2.2.2.2.2.1.2.1 p hp hne
      obtain ⟨-, g2, -, b, hb, g4⟩ := h.2.2.2.2.2.1.2.1 q hq hne2
      have i1 := m116 M' o Y w p 2 (by omega) (by omega)
      have i2 := m116 M' o Y w q 2 (by omega) (by omega)
      simp only [Nat.reduceAdd] at i1 i2
      rw [f2, f4] at i1
      rw [g2, g4] at i2
      obtain ⟨k, k1, k2⟩ := dist_j M n V Vt U H T Hs M' o w h (some (.int (nI a))) (some (.int (nI b))) (some (.int (nI p))) (some (.int (nI q))) 7 a b 0 (by omega) (by omega) (by omega) ha hb
      have c70 : z_cl 70 [.ref (n + 1 + 2), .int (nI a), .int (nI b)] (gM M n V Vt U H T Hs) = some (some (.int (nI k)), gM M n V Vt U H T Hs) := by
        rw [e70]
        refine Eq.trans ?_ k1
        simp (disch := first | omega | (simp only [sgets, reduceIte, Nat.reduceEqDiff]; done) | omega) only [cS_1, crd, z_pv_some, z_wv_some, z_cv_v, z_cv_n, cwr, sgets, rc_O, ia_n, fa_n, is_n, fs_n, ↓mI_eq, lits, nI_add, nLe, nLt, nE, mI_ne, mI_ne', mI_lt, mI_le, mI_nlt, mI_nle, ne_eq, mI_addC, pk_sub, pk_mul, pk_div, Nat.reduceEqDiff, Nat.reduceAdd, Nat.reduceMul, Nat.reduceSub, reduceIte, not_true_eq_false, not_false_eq_true, true_or, or_true, if_true, if_false, and_self, and_true, true_and, and_false, false_and, or_self, or_false, false_or, decide_true, decide_false, Bool.false_eq_true, Bool.true_eq_false, bI_t, bI_f, grd, gM_1, gfs10, gfs0, gfs3, gfs5, gfs6, gfs9, gfs2, gfs7, gfs8, gfs1, q70_0, q70_1, q70_2, q70_3, q70_5, q70_6]
      refine ⟨nI k, ?_, ?_⟩
      · rw [e99]
        simp (disch := first | omega | (simp only [sgets, reduceIte, Nat.reduceEqDiff, f4, g4]; done) | omega) only [cS_1, crd, z_pv_some, z_wv_some, z_cv_v, z_cv_n, cwr, sgets, rc_O, ia_n, fa_n, is_n, fs_n, ↓mI_eq, lits, nI_add, nLe, nLt, nE, mI_ne, mI_ne', mI_lt, mI_le, mI_nlt, mI_nle, ne_eq, mI_addC, pk_sub, pk_mul, pk_div, Nat.reduceEqDiff, Nat.reduceAdd, Nat.reduceMul, Nat.reduceSub, reduceIte, not_true_eq_false, not_false_eq_true, true_or, or_true, if_true, if_false, and_self, and_true, true_and, and_false, false_and, or_self, or_false, false_or, decide_true, decide_false, Bool.false_eq_true, Bool.true_eq_false, bI_t, bI_f, grd, gM_1, gfs10, gfs0, gfs3, gfs5, gfs6, gfs9, gfs2, gfs7, gfs8, gfs1, b99, h51, h51y, c70, f4, g4]
      · rw [e171]
        refine Eq.trans ?_ k2
        simp (disch := first | omega | (simp only [sgets, reduceIte, Nat.reduceEqDiff, dec_S, Nat.reduceAdd]; done) | omega) only [cS_1, crd, z_pv_some, z_wv_some, z_cv_v, z_cv_n, cwr, sgets, rc_O, ia_n, fa_n, is_n, fs_n, ↓mI_eq, lits, nI_add, nLe, nLt, nE, mI_ne, mI_ne', mI_lt, mI_le, mI_nlt, mI_nle, ne_eq, mI_addC, pk_sub, pk_mul, pk_div, Nat.reduceEqDiff, Nat.reduceAdd, Nat.reduceMul, Nat.reduceSub, reduceIte, not_true_eq_false, not_false_eq_true, true_or, or_true, if_true, if_false, and_self, and_true, true_and, and_false, false_and, or_self, or_false, false_or, decide_true, decide_false, Bool.false_eq_true, Bool.true_eq_false, bI_t, bI_f, oS_1, ord, owA0, owF0, owF1, owA1, owF2, owA2, owF3, owA3, ywo, gfs11, pfs11, yrd, ywr, q171_0, q171_1, q171_2, q171_5, q171_8, q171_9, q171_10, q171_13, q171_16, q171_18, q171_19, q171_20, q171_21, q171_22, q171_25, q171_26, q171_27, q171_28, q171_29, q171_32, q171_34, q171_35, h120, h120y, i1, i2, dec_S, Nat.reduceAdd]
end
