/-! the model's digest; stream -/
section
variable (M : z_M) (n : Nat) (V Vt U H T : z_V) (Hs : Nat → z_V) (M' : z_M) (o : Nat) (w : Int64) {c J S Hy B : Nat} {Y : z_V}
theorem y175 (h : Rl c J S Hy B V Y) (hd : hdOk V) {N K : Nat} (hN : N < 30) (hK : K ≤ 30) (a3 : Y.1 10 = nI K) (a4 : ∀ i, i < K → Y.2.2.1 17 i = V.2.2.1 19 ((N + 30 - K + i) % 30) ∧ Y.2.2.1 18 i = V.2.2.1 20 ((N + 30 - K + i) % 30) ∧ Y.2.2.1 19 i = V.2.2.1 21 ((N + 30 - K + i) % 30)) : z_cl 175 [.ref o] (yS M' o Y w) = some (some (.long (dgA V J B N K)), yS M' o Y (dgA V J B N K)) := by
  obtain ⟨hJ, h9⟩ := Rl_J h
  have e12 := Rl_12 h
  obtain ⟨hB, e11⟩ := Rl_11 h
  have l1 := it_run (fun k (a : Int64) => z_ex 175 M'.1 9 [some (.ref o), some (.int (nI k)), none, none, none] [] (yS M' o Y a)) (fun k h => nt h (cntA V k)) 7 17 (by
    intro k a hk
    have hk2 : ¬ 7 ≤ k := by omega
    have ck := y162 V M' o a h (show k ≤ 6 by omega)
    have c176 := m176 M' o Y a (cntA V k).toInt64
    rw [q175_9]
    unfold nt
    simp (disch := first | omega | (simp only [sgets, reduceIte, Nat.reduceEqDiff, hk2, dec_S, Nat.reduceAdd]; done) | omega) only [cS_1, crd, z_pv_some, z_wv_some, z_cv_v, z_cv_n, cwr, sgets, rc_O, ia_n, fa_n, is_n, fs_n, ↓mI_eq, lits, nI_add, nLe, nLt, nE, mI_ne, mI_ne', mI_lt, mI_le, mI_nlt, mI_nle, ne_eq, mI_addC, pk_sub, pk_mul, pk_div, Nat.reduceEqDiff, Nat.reduceAdd, Nat.reduceMul, Nat.reduceSub, reduceIte, not_true_eq_false, not_false_eq_true, true_or, or_true, if_true, if_false, and_self, and_true, true_and, and_false, false_and, or_self, or_false, false_or, decide_true, decide_false, Bool.false_eq_true, Bool.true_eq_false, bI_t, bI_f, oS_1, ord, owA0, owF0, owF1, owA1, owF2, owA2, owF3, owA3, ywo, gfs11, pfs11, yrd, ywr, q175_10, q175_12, q175_15, q175_16, q175_17, q175_18, q175_21, q175_22, q175_25, q175_28, ck, c176, hk2, dec_S, Nat.reduceAdd])
  obtain ⟨⟨j2, l2⟩, -⟩ := lp_ex (fun p (a : Int64) (j : Option Value) => z_ex 175 M'.1 33 [some (.ref o), some (.int (nI p)), j, none, none] [] (yS M' o Y a)) (dgP V) (fun _ _ => True) J (by
    intro p a j hp _
    have hp2 : ¬ J ≤ p := by omega
    have i0 := fun a => m116 M' o Y a p 0 (by omega) (by omega)
    simp only [Nat.reduceAdd] at i0
    unfold dgP
    cases hh : here V (nI p) with
    | false =>
      have hm : V.2.2.1 3 p = mI := by
        by_cases hm : V.2.2.1 3 p = mI
        · exact hm
        · exfalso
          have : here V (nI p) = true := by
            unfold here
            rw [decide_eq_true_eq, h9, nI_clamp (by omega)]
            exact ⟨by show nI 0 ≤ nI p; rw [nLe (by omega) (by omega)]; omega, by rw [nLt (by omega) (by omega)]; exact hp, hm⟩
          rw [hh] at this
          cases this
      have f1 := (h.2.2.2.2.2.1.1 p hp hm).1
      rw [if_neg (by decide)]
      refine ⟨some (.int (nI 0)), ?_⟩
      rw [q175_33]
      simp (disch := first | omega | (simp only [sgets, reduceIte, Nat.reduceEqDiff, e12, hp2, f1, dec_S, Nat.reduceAdd]; done) | omega) only [cS_1, crd, z_pv_some, z_wv_some, z_cv_v, z_cv_n, cwr, sgets, rc_O, ia_n, fa_n, is_n, fs_n, ↓mI_eq, lits, nI_add, nLe, nLt, nE, mI_ne, mI_ne', mI_lt, mI_le, mI_nlt, mI_nle, ne_eq, mI_addC, pk_sub, pk_mul, pk_div, Nat.reduceEqDiff, Nat.reduceAdd, Nat.reduceMul, Nat.reduceSub, reduceIte, not_true_eq_false, not_false_eq_true, true_or, or_true, if_true, if_false, and_self, and_true, true_and, and_false, false_and, or_self, or_false, false_or, decide_true, decide_false, Bool.false_eq_true, Bool.true_eq_false, bI_t, bI_f, oS_1, ord, owA0, owF0, owF1, owA1, owF2, owA2, owF3, owA3, ywo, gfs11, pfs11, yrd, ywr, q175_34, q175_35, q175_38, q175_40, q175_41, q175_44, q175_45, q175_46, q175_47, q175_49, q175_52, q175_53, q175_54, q175_55, q175_58, q175_59, q175_79, q175_80, q175_81, q175_82, q175_85, q175_86, q175_109, q175_112, i0, Nat.reduceLeDiff, e12, hp2, f1, dec_S, Nat.reduceAdd]
    | true =>
      obtain ⟨p', hp', ep, hne⟩ := here_k hJ h9 hh
      rw [nE (by omega) (by omega)] at ep
      subst ep
      have f1 := (h.2.2.2.2.2.1.2.1 p hp hne).1
      rw [if_pos rfl]
      have cc := fun a => c93 M' 0 V V V V V (fun _ => V) M' o a h hp hh
      have lin := it_run (fun k (a : Int64) => z_ex 175 M'.1 46 [some (.ref o), some (.int (nI p)), some (.int (nI k)), none, none] [] (yS M' o Y a)) (fun k h => nt h (prpA V p k (bcV V p))) 9 a (by
        intro k a hk
        have hk2 : ¬ 9 ≤ k := by omega
        have ck := y164 V M' o a h hp hh (show k ≤ 8 by omega) (bc_ok V hd (show p < 20 by omega)).2
        have c176 := m176 M' o Y a (prpA V p k (bcV V p)).toInt64
        have i0a := i0 a
        rw [q175_46]
        unfold nt
        simp (disch := first | omega | (simp only [sgets, reduceIte, Nat.reduceEqDiff, hk2, f1, dec_S, Nat.reduceAdd]; done) | omega) only [cS_1, crd, z_pv_some, z_wv_some, z_cv_v, z_cv_n, cwr, sgets, rc_O, ia_n, fa_n, is_n, fs_n, ↓mI_eq, lits, nI_add, nLe, nLt, nE, mI_ne, mI_ne', mI_lt, mI_le, mI_nlt, mI_nle, ne_eq, mI_addC, pk_sub, pk_mul, pk_div, Nat.reduceEqDiff, Nat.reduceAdd, Nat.reduceMul, Nat.reduceSub, reduceIte, not_true_eq_false, not_false_eq_true, true_or, or_true, if_true, if_false, and_self, and_true, true_and, and_false, false_and, or_self, or_false, false_or, decide_true, decide_false, Bool.false_eq_true, Bool.true_eq_false, bI_t, bI_f, oS_1, ord, owA0, owF0, owF1, owA1, owF2, owA2, owF3, owA3, ywo, gfs11, pfs11, yrd, ywr, q175_47, q175_49, q175_52, q175_53, q175_54, q175_55, q175_58, q175_59, q175_62, q175_63, q175_64, q175_65, q175_66, q175_69, q175_70, q175_73, q175_76, ck, c176, i0a, hk2, f1, dec_S, Nat.reduceAdd])
      have ed : it (fun k h => nt h (prpA V p k (bcV V p))) 9 a = dgP1 V p a := rfl
      rw [ed] at lin
      generalize dgP1 V p a = a2 at lin
      have i0b := i0 a2
      have x1 := (cc a2).2.2.1
      have c1 := m176 M' o Y a2 (nI (V.2.2.2 0 p).toNat).toInt64
      have x2 := (cc (31 * a2 + (nI (V.2.2.2 0 p).toNat).toInt64)).2.2.2
      have c2 := m176 M' o Y (31 * a2 + (nI (V.2.2.2 0 p).toNat).toInt64) (nI (V.2.2.2 1 p).toNat).toInt64
      refine ⟨some (.int (nI 9)), ?_⟩
      rw [q175_33]
      refine Eq.trans ?_ (lin.trans ?_)
      · simp (disch := first | omega | (simp only [sgets, reduceIte, Nat.reduceEqDiff, e12, hp2, dec_S, Nat.reduceAdd]; done) | omega) only [cS_1, crd, z_pv_some, z_wv_some, z_cv_v, z_cv_n, cwr, sgets, rc_O, ia_n, fa_n, is_n, fs_n, ↓mI_eq, lits, nI_add, nLe, nLt, nE, mI_ne, mI_ne', mI_lt, mI_le, mI_nlt, mI_nle, ne_eq, mI_addC, pk_sub, pk_mul, pk_div, Nat.reduceEqDiff, Nat.reduceAdd, Nat.reduceMul, Nat.reduceSub, reduceIte, not_true_eq_false, not_false_eq_true, true_or, or_true, if_true, if_false, and_self, and_true, true_and, and_false, false_and, or_self, or_false, false_or, decide_true, decide_false, Bool.false_eq_true, Bool.true_eq_false, bI_t, bI_f, oS_1, ord, owA0, owF0, owF1, owA1, owF2, owA2, owF3, owA3, ywo, gfs11, pfs11, yrd, ywr, q175_34, q175_35, q175_38, q175_40, q175_41, q175_44, q175_45, e12, hp2, dec_S, Nat.reduceAdd]
      · rw [q175_46]
        unfold nt
        simp (disch := first | omega | (simp only [sgets, reduceIte, Nat.reduceEqDiff, f1, dec_S, Nat.reduceAdd]; done) | omega) only [cS_1, crd, z_pv_some, z_wv_some, z_cv_v, z_cv_n, cwr, sgets, rc_O, ia_n, fa_n, is_n, fs_n, ↓mI_eq, lits, nI_add, nLe, nLt, nE, mI_ne, mI_ne', mI_lt, mI_le, mI_nlt, mI_nle, ne_eq, mI_addC, pk_sub, pk_mul, pk_div, Nat.reduceEqDiff, Nat.reduceAdd, Nat.reduceMul, Nat.reduceSub, reduceIte, not_true_eq_false, not_false_eq_true, true_or, or_true, if_true, if_false, and_self, and_true, true_and, and_false, false_and, or_self, or_false, false_or, decide_true, decide_false, Bool.false_eq_true, Bool.true_eq_false, bI_t, bI_f, oS_1, ord, owA0, owF0, owF1, owA1, owF2, owA2, owF3, owA3, ywo, gfs11, pfs11, yrd, ywr, q175_47, q175_49, q175_79, q175_80, q175_81, q175_82, q175_85, q175_86, q175_89, q175_90, q175_91, q175_92, q175_95, q175_96, q175_99, q175_100, q175_101, q175_102, q175_105, q175_106, q175_109, q175_112, i0b, x1, c1, x2, c2, Nat.le_refl, f1, dec_S, Nat.reduceAdd]) (fun _ _ _ _ => trivial) (dgC V 17) none trivial
  obtain ⟨⟨⟨k2, k3, k4⟩, l3⟩, -⟩ := lp_ex (fun y (a : Int64) (j : Option Value × Option Value × Option Value) => z_ex 175 M'.1 117 [some (.ref o), some (.int (nI y)), j.1, j.2.1, j.2.2] [] (yS M' o Y a)) (fun y h => it (dgS V y) B h) (fun _ _ => True) B (by
    rintro y a ⟨j2, j3, j4⟩ hy _
    have hy2 : ¬ B ≤ y := by omega
    obtain ⟨⟨⟨j3', j4'⟩, lin⟩, -⟩ := lp_ex (fun x (a : Int64) (j : Option Value × Option Value) => z_ex 175 M'.1 130 [some (.ref o), some (.int (nI y)), some (.int (nI x)), j.1, j.2] [] (yS M' o Y a)) (dgS V y) (fun _ _ => True) B (by
      rintro x a ⟨j3, j4⟩ hx _
      have hx2 : ¬ B ≤ x := by omega
      obtain ⟨g1, g2⟩ := h.2.2.2.2.2.2.2.2.2.1 y x hy hx
      unfold dgS
      rcases way_lt V (show y < 8 by omega) (show x < 8 by omega) with hw | ⟨v, hv, hw⟩
      · have e20 := g1 hw
        rw [if_pos hw]
        refine ⟨(some (.int (nI (395 + 9 * (8 * y + x)))), some (.int (nI 0))), ?_⟩
        rw [q175_130]
        simp (disch := first | omega | (simp only [sgets, reduceIte, Nat.reduceEqDiff, e11, hx2, e20, dec_S, Nat.reduceAdd]; done) | omega) only [cS_1, crd, z_pv_some, z_wv_some, z_cv_v, z_cv_n, cwr, sgets, rc_O, ia_n, fa_n, is_n, fs_n, ↓mI_eq, lits, nI_add, nLe, nLt, nE, mI_ne, mI_ne', mI_lt, mI_le, mI_nlt, mI_nle, ne_eq, mI_addC, pk_sub, pk_mul, pk_div, Nat.reduceEqDiff, Nat.reduceAdd, Nat.reduceMul, Nat.reduceSub, reduceIte, not_true_eq_false, not_false_eq_true, true_or, or_true, if_true, if_false, and_self, and_true, true_and, and_false, false_and, or_self, or_false, false_or, decide_true, decide_false, Bool.false_eq_true, Bool.true_eq_false, bI_t, bI_f, oS_1, ord, owA0, owF0, owF1, owA1, owF2, owA2, owF3, owA3, ywo, gfs11, pfs11, yrd, ywr, q175_131, q175_132, q175_135, q175_137, q175_138, q175_141, q175_144, q175_146, q175_148, q175_149, q175_150, q175_151, q175_152, q175_153, q175_154, q175_155, q175_156, q175_158, q175_160, q175_161, q175_164, q175_165, q175_166, q175_193, q175_196, Nat.le_refl, e11, hx2, e20, dec_S, Nat.reduceAdd]
      · obtain ⟨e20, hk⟩ := g2 v hw hv
        obtain ⟨m, hm, hz, hs⟩ := h.1.2.2.2.2.2.2.2.2.1 v hv
        rw [hz] at e20 hk
        rw [nI_clamp (by omega)] at hk
        rw [hw, if_neg (by rw [mI_ne (by omega)]; exact not_false), nI_clamp (by omega), hz, nI_clamp (by omega)]
        have lk := it_run (fun k (a : Int64) => z_ex 175 M'.1 158 [some (.ref o), some (.int (nI y)), some (.int (nI x)), some (.int (nI (395 + 9 * (8 * y + x)))), some (.int (nI k))] [] (yS M' o Y a)) (fun k h => nt h (V.2.2.1 17 (v * 4 + k))) m a (by
          intro k a hkm
          have hk2 : ¬ m ≤ k := by omega
          obtain ⟨t1, -, -⟩ := hk k hkm
          have c176 := m176 M' o Y a (V.2.2.1 17 (v * 4 + k)).toInt64
          rw [q175_158]
          unfold nt
          simp (disch := first | omega | (simp only [sgets, reduceIte, Nat.reduceEqDiff, e20, hk2, t1, dec_S, Nat.reduceAdd]; done) | omega) only [cS_1, crd, z_pv_some, z_wv_some, z_cv_v, z_cv_n, cwr, sgets, rc_O, ia_n, fa_n, is_n, fs_n, ↓mI_eq, lits, nI_add, nLe, nLt, nE, mI_ne, mI_ne', mI_lt, mI_le, mI_nlt, mI_nle, ne_eq, mI_addC, pk_sub, pk_mul, pk_div, Nat.reduceEqDiff, Nat.reduceAdd, Nat.reduceMul, Nat.reduceSub, reduceIte, not_true_eq_false, not_false_eq_true, true_or, or_true, if_true, if_false, and_self, and_true, true_and, and_false, false_and, or_self, or_false, false_or, decide_true, decide_false, Bool.false_eq_true, Bool.true_eq_false, bI_t, bI_f, oS_1, ord, owA0, owF0, owF1, owA1, owF2, owA2, owF3, owA3, ywo, gfs11, pfs11, yrd, ywr, q175_160, q175_161, q175_164, q175_165, q175_166, q175_169, q175_170, q175_171, q175_174, q175_175, q175_176, q175_177, q175_178, q175_180, q175_181, q175_182, q175_183, q175_184, q175_187, q175_190, c176, e20, hk2, t1, dec_S, Nat.reduceAdd])
        refine ⟨(some (.int (nI (395 + 9 * (8 * y + x)))), some (.int (nI m))), ?_⟩
        rw [q175_130]
        refine Eq.trans ?_ (lk.trans ?_)
        · simp (disch := first | omega | (simp only [sgets, reduceIte, Nat.reduceEqDiff, e11, hx2, dec_S, Nat.reduceAdd]; done) | omega) only [cS_1, crd, z_pv_some, z_wv_some, z_cv_v, z_cv_n, cwr, sgets, rc_O, ia_n, fa_n, is_n, fs_n, ↓mI_eq, lits, nI_add, nLe, nLt, nE, mI_ne, mI_ne', mI_lt, mI_le, mI_nlt, mI_nle, ne_eq, mI_addC, pk_sub, pk_mul, pk_div, Nat.reduceEqDiff, Nat.reduceAdd, Nat.reduceMul, Nat.reduceSub, reduceIte, not_true_eq_false, not_false_eq_true, true_or, or_true, if_true, if_false, and_self, and_true, true_and, and_false, false_and, or_self, or_false, false_or, decide_true, decide_false, Bool.false_eq_true, Bool.true_eq_false, bI_t, bI_f, oS_1, ord, owA0, owF0, owF1, owA1, owF2, owA2, owF3, owA3, ywo, gfs11, pfs11, yrd, ywr, q175_131, q175_132, q175_135, q175_137, q175_138, q175_141, q175_144, q175_146, q175_148, q175_149, q175_150, q175_151, q175_152, q175_153, q175_154, q175_155, q175_156, e11, hx2, dec_S, Nat.reduceAdd]
        · rw [q175_158]
          simp (disch := first | omega | (simp only [sgets, reduceIte, Nat.reduceEqDiff, e20, dec_S, Nat.reduceAdd]; done) | omega) only [cS_1, crd, z_pv_some, z_wv_some, z_cv_v, z_cv_n, cwr, sgets, rc_O, ia_n, fa_n, is_n, fs_n, ↓mI_eq, lits, nI_add, nLe, nLt, nE, mI_ne, mI_ne', mI_lt, mI_le, mI_nlt, mI_nle, ne_eq, mI_addC, pk_sub, pk_mul, pk_div, Nat.reduceEqDiff, Nat.reduceAdd, Nat.reduceMul, Nat.reduceSub, reduceIte, not_true_eq_false, not_false_eq_true, true_or, or_true, if_true, if_false, and_self, and_true, true_and, and_false, false_and, or_self, or_false, false_or, decide_true, decide_false, Bool.false_eq_true, Bool.true_eq_false, bI_t, bI_f, oS_1, ord, owA0, owF0, owF1, owA1, owF2, owA2, owF3, owA3, ywo, gfs11, pfs11, yrd, ywr, q175_160, q175_161, q175_164, q175_165, q175_166, q175_193, q175_196, Nat.le_refl, e20, dec_S, Nat.reduceAdd]) (fun _ _ _ _ => trivial) a (j3, j4) trivial
    refine ⟨(some (.int (nI B)), j3', j4'), ?_⟩
    rw [q175_117]
    refine Eq.trans ?_ (lin.trans ?_)
    · simp (disch := first | omega | (simp only [sgets, reduceIte, Nat.reduceEqDiff, e11, hy2, dec_S, Nat.reduceAdd]; done) | omega) only [cS_1, crd, z_pv_some, z_wv_some, z_cv_v, z_cv_n, cwr, sgets, rc_O, ia_n, fa_n, is_n, fs_n, ↓mI_eq, lits, nI_add, nLe, nLt, nE, mI_ne, mI_ne', mI_lt, mI_le, mI_nlt, mI_nle, ne_eq, mI_addC, pk_sub, pk_mul, pk_div, Nat.reduceEqDiff, Nat.reduceAdd, Nat.reduceMul, Nat.reduceSub, reduceIte, not_true_eq_false, not_false_eq_true, true_or, or_true, if_true, if_false, and_self, and_true, true_and, and_false, false_and, or_self, or_false, false_or, decide_true, decide_false, Bool.false_eq_true, Bool.true_eq_false, bI_t, bI_f, oS_1, ord, owA0, owF0, owF1, owA1, owF2, owA2, owF3, owA3, ywo, gfs11, pfs11, yrd, ywr, q175_118, q175_119, q175_122, q175_124, q175_125, q175_128, q175_129, e11, hy2, dec_S, Nat.reduceAdd]
    · rw [q175_130]
      simp (disch := first | omega | (simp only [sgets, reduceIte, Nat.reduceEqDiff, e11, dec_S, Nat.reduceAdd]; done) | omega) only [cS_1, crd, z_pv_some, z_wv_some, z_cv_v, z_cv_n, cwr, sgets, rc_O, ia_n, fa_n, is_n, fs_n, ↓mI_eq, lits, nI_add, nLe, nLt, nE, mI_ne, mI_ne', mI_lt, mI_le, mI_nlt, mI_nle, ne_eq, mI_addC, pk_sub, pk_mul, pk_div, Nat.reduceEqDiff, Nat.reduceAdd, Nat.reduceMul, Nat.reduceSub, reduceIte, not_true_eq_false, not_false_eq_true, true_or, or_true, if_true, if_false, and_self, and_true, true_and, and_false, false_and, or_self, or_false, false_or, decide_true, decide_false, Bool.false_eq_true, Bool.true_eq_false, bI_t, bI_f, oS_1, ord, owA0, owF0, owF1, owA1, owF2, owA2, owF3, owA3, ywo, gfs11, pfs11, yrd, ywr, q175_131, q175_132, q175_135, q175_137, q175_138, q175_199, q175_202, Nat.le_refl, e11, dec_S, Nat.reduceAdd]) (fun _ _ _ _ => trivial) (it (dgP V) J (dgC V 17)) (j2, none, none) trivial
  have l4 := it_run (fun j (a : Int64) => z_ex 175 M'.1 207 [some (.ref o), some (.int (nI (3 * j))), k2, k3, k4] [] (yS M' o Y a)) (dgE V N K) K (it (fun y h => it (dgS V y) B h) B (it (dgP V) J (dgC V 17))) (by
    intro j a hj
    obtain ⟨t1, t2, t3⟩ := a4 j hj
    have s1 : ∀ (k : Nat) (x : Int32) (a : Int64), ¬ 3 * K ≤ k → k < 90 → enc Y (305 + k) = x → z_ex 175 M'.1 207 [some (.ref o), some (.int (nI k)), k2, k3, k4] [] (yS M' o Y a) = z_ex 175 M'.1 207 [some (.ref o), some (.int (nI (k + 1))), k2, k3, k4] [] (yS M' o Y (nt a x)) := by
      intro k x a hk hk9 hx
      have c176 := m176 M' o Y a x.toInt64
      rw [q175_207]
      unfold nt
      simp (disch := first | omega | (simp only [sgets, reduceIte, Nat.reduceEqDiff, a3, hk, dec_S, Nat.reduceAdd]; done) | omega) only [cS_1, crd, z_pv_some, z_wv_some, z_cv_v, z_cv_n, cwr, sgets, rc_O, ia_n, fa_n, is_n, fs_n, ↓mI_eq, lits, nI_add, nLe, nLt, nE, mI_ne, mI_ne', mI_lt, mI_le, mI_nlt, mI_nle, ne_eq, mI_addC, pk_sub, pk_mul, pk_div, Nat.reduceEqDiff, Nat.reduceAdd, Nat.reduceMul, Nat.reduceSub, reduceIte, not_true_eq_false, not_false_eq_true, true_or, or_true, if_true, if_false, and_self, and_true, true_and, and_false, false_and, or_self, or_false, false_or, decide_true, decide_false, Bool.false_eq_true, Bool.true_eq_false, bI_t, bI_f, oS_1, ord, owA0, owF0, owF1, owA1, owF2, owA2, owF3, owA3, ywo, gfs11, pfs11, yrd, ywr, q175_208, q175_209, q175_210, q175_213, q175_215, q175_216, q175_217, q175_220, q175_221, q175_222, q175_225, q175_228, q175_229, q175_230, q175_231, q175_232, q175_235, q175_238, hx, c176, a3, hk, dec_S, Nat.reduceAdd]
    have q1 := s1 (3 * j) _ a (by omega) (by omega) ((enc_e0 (by omega)).trans t1)
    have q2 := s1 (3 * j + 1) _ (nt a (V.2.2.1 19 ((N + 30 - K + j) % 30))) (by omega) (by omega) ((enc_e (j := 1) (by omega) (by omega)).trans t2)
    have q3 := s1 (3 * j + 1 + 1) _ (nt (nt a (V.2.2.1 19 ((N + 30 - K + j) % 30))) (V.2.2.1 20 ((N + 30 - K + j) % 30))) (by omega) (by omega) ((enc_e (j := 2) (by omega) (by omega)).trans t3)
    exact q1.trans (q2.trans q3))
  rw [e175]
  refine Eq.trans ?_ (l1.trans (Eq.trans ?_ (l2.trans (Eq.trans ?_ (l3.trans (Eq.trans ?_ (l4.trans ?_)))))))
  · simp (disch := first | omega | (simp only [sgets, reduceIte, Nat.reduceEqDiff, dec_S, Nat.reduceAdd]; done) | omega) only [cS_1, crd, z_pv_some, z_wv_some, z_cv_v, z_cv_n, cwr, sgets, rc_O, ia_n, fa_n, is_n, fs_n, ↓mI_eq, lits, nI_add, nLe, nLt, nE, mI_ne, mI_ne', mI_lt, mI_le, mI_nlt, mI_nle, ne_eq, mI_addC, pk_sub, pk_mul, pk_div, Nat.reduceEqDiff, Nat.reduceAdd, Nat.reduceMul, Nat.reduceSub, reduceIte, not_true_eq_false, not_false_eq_true, true_or, or_true, if_true, if_false, and_self, and_true, true_and, and_false, false_and, or_self, or_false, false_or, decide_true, decide_false, Bool.false_eq_true, Bool.true_eq_false, bI_t, bI_f, oS_1, ord, owA0, owF0, owF1, owA1, owF2, owA2, owF3, owA3, ywo, gfs11, pfs11, yrd, ywr, q175_0, q175_1, q175_4, q175_7, q175_8, dec_S, Nat.reduceAdd]
  · rw [q175_9]
    have ed : it (fun k h => nt h (cntA V k)) 7 17 = dgC V 17 := rfl
    rw [ed]
    simp (disch := first | omega | (simp only [sgets, reduceIte, Nat.reduceEqDiff, dec_S, Nat.reduceAdd]; done) | omega) only [cS_1, crd, z_pv_some, z_wv_some, z_cv_v, z_cv_n, cwr, sgets, rc_O, ia_n, fa_n, is_n, fs_n, ↓mI_eq, lits, nI_add, nLe, nLt, nE, mI_ne, mI_ne', mI_lt, mI_le, mI_nlt, mI_nle, ne_eq, mI_addC, pk_sub, pk_mul, pk_div, Nat.reduceEqDiff, Nat.reduceAdd, Nat.reduceMul, Nat.reduceSub, reduceIte, not_true_eq_false, not_false_eq_true, true_or, or_true, if_true, if_false, and_self, and_true, true_and, and_false, false_and, or_self, or_false, false_or, decide_true, decide_false, Bool.false_eq_true, Bool.true_eq_false, bI_t, bI_f, oS_1, ord, owA0, owF0, owF1, owA1, owF2, owA2, owF3, owA3, ywo, gfs11, pfs11, yrd, ywr, q175_10, q175_12, q175_31, q175_32, Nat.le_refl, dec_S, Nat.reduceAdd]
  · rw [q175_33]
    simp (disch := first | omega | (simp only [sgets, reduceIte, Nat.reduceEqDiff, e12, dec_S, Nat.reduceAdd]; done) | omega) only [cS_1, crd, z_pv_some, z_wv_some, z_cv_v, z_cv_n, cwr, sgets, rc_O, ia_n, fa_n, is_n, fs_n, ↓mI_eq, lits, nI_add, nLe, nLt, nE, mI_ne, mI_ne', mI_lt, mI_le, mI_nlt, mI_nle, ne_eq, mI_addC, pk_sub, pk_mul, pk_div, Nat.reduceEqDiff, Nat.reduceAdd, Nat.reduceMul, Nat.reduceSub, reduceIte, not_true_eq_false, not_false_eq_true, true_or, or_true, if_true, if_false, and_self, and_true, true_and, and_false, false_and, or_self, or_false, false_or, decide_true, decide_false, Bool.false_eq_true, Bool.true_eq_false, bI_t, bI_f, oS_1, ord, owA0, owF0, owF1, owA1, owF2, owA2, owF3, owA3, ywo, gfs11, pfs11, yrd, ywr, q175_34, q175_35, q175_38, q175_40, q175_41, q175_115, q175_116, Nat.le_refl, e12, dec_S, Nat.reduceAdd]
  · rw [q175_117]
    simp (disch := first | omega | (simp only [sgets, reduceIte, Nat.reduceEqDiff, e11, dec_S, Nat.reduceAdd]; done) | omega) only [cS_1, crd, z_pv_some, z_wv_some, z_cv_v, z_cv_n, cwr, sgets, rc_O, ia_n, fa_n, is_n, fs_n, ↓mI_eq, lits, nI_add, nLe, nLt, nE, mI_ne, mI_ne', mI_lt, mI_le, mI_nlt, mI_nle, ne_eq, mI_addC, pk_sub, pk_mul, pk_div, Nat.reduceEqDiff, Nat.reduceAdd, Nat.reduceMul, Nat.reduceSub, reduceIte, not_true_eq_false, not_false_eq_true, true_or, or_true, if_true, if_false, and_self, and_true, true_and, and_false, false_and, or_self, or_false, false_or, decide_true, decide_false, Bool.false_eq_true, Bool.true_eq_false, bI_t, bI_f, oS_1, ord, owA0, owF0, owF1, owA1, owF2, owA2, owF3, owA3, ywo, gfs11, pfs11, yrd, ywr, q175_118, q175_119, q175_122, q175_124, q175_125, q175_205, q175_206, Nat.le_refl, e11, dec_S, Nat.reduceAdd]
  · rw [q175_207]
    simp (disch := first | omega | (simp only [sgets, reduceIte, Nat.reduceEqDiff, a3, dec_S, Nat.reduceAdd]; done) | omega) only [cS_1, crd, z_pv_some, z_wv_some, z_cv_v, z_cv_n, cwr, sgets, rc_O, ia_n, fa_n, is_n, fs_n, ↓mI_eq, lits, nI_add, nLe, nLt, nE, mI_ne, mI_ne', mI_lt, mI_le, mI_nlt, mI_nle, ne_eq, mI_addC, pk_sub, pk_mul, pk_div, Nat.reduceEqDiff, Nat.reduceAdd, Nat.reduceMul, Nat.reduceSub, reduceIte, not_true_eq_false, not_false_eq_true, true_or, or_true, if_true, if_false, and_self, and_true, true_and, and_false, false_and, or_self, or_false, false_or, decide_true, decide_false, Bool.false_eq_true, Bool.true_eq_false, bI_t, bI_f, oS_1, ord, owA0, owF0, owF1, owA1, owF2, owA2, owF3, owA3, ywo, gfs11, pfs11, yrd, ywr, q175_208, q175_209, q175_210, q175_213, q175_215, q175_216, q175_217, q175_241, q175_242, q175_245, Nat.le_refl, a3, dec_S, Nat.reduceAdd]
    rfl
/-- both digests alike -/
theorem q_dig (h : Rl c J S Hy B V Y) (hd : hdOk V) : ∃ r, z_cl 103 [.ref n] (gM M n V Vt U H T Hs) = some (some (.long r), gM M n V Vt U H T Hs) ∧ z_cl 175 [.ref o] (yS M' o Y w) = some (some (.long r), yS M' o Y r) := by
  obtain ⟨N, K, hN, hK, a1, a2, a3, a4⟩ := h.2.2.2.2.2.2.2.1
  exact ⟨_, c103 M n V Vt U H T Hs h hd hN hK a1 a2, y175 V M' o w h hd hN hK a3 a4⟩
theorem q_strm (h : Rl c J S Hy B V Y) (x y z v : Int32) : qE M n V Vt U H T Hs M' o w 98 170 [.int x, .int y, .int z, .int v] Y := by
  have hB := h.1.2.2.2.1
  have h65 : ∀ x, z_cl 65 [.ref (n + 1 + 2), .int x] (gM M n V Vt U H T Hs) = some (some (.int (bI (hasB V x))), gM M n V Vt U H T Hs) := fun x => m65 _ (n + 1) V x
  have h65x := h65 x
  have h65y := h65 y
  have h109x := m109 M' o w h x
  have h109y := m109 M' o w h y
  have h74 := m74 v (nI 0) (nI 2) (gM M n V Vt U H T Hs)
  have h110 := m110 v (nI 0) (nI 2) (yS M' o Y w)
  cases hx : hasB V x with
  | false =>
    rw [hx] at h65x h109x
    refine ⟨-(nI 2), ?_, ?_⟩
    · rw [e98]
      simp (disch := first | omega | (simp only [sgets, reduceIte, Nat.reduceEqDiff]; done) | omega) only [cS_1, crd, z_pv_some, z_wv_some, z_cv_v, z_cv_n, cwr, sgets, rc_O, ia_n, fa_n, is_n, fs_n, ↓mI_eq, lits, nI_add, nLe, nLt, nE, mI_ne, mI_ne', mI_lt, mI_le, mI_nlt, mI_nle, ne_eq, mI_addC, pk_sub, pk_mul, pk_div, Nat.reduceEqDiff, Nat.reduceAdd, Nat.reduceMul, Nat.reduceSub, reduceIte, not_true_eq_false, not_false_eq_true, true_or, or_true, if_true, if_false, and_self, and_true, true_and, and_false, false_and, or_self, or_false, false_or, decide_true, decide_false, Bool.false_eq_true, Bool.true_eq_false, bI_t, bI_f, grd, gM_1, gfs10, gfs0, gfs3, gfs5, gfs6, gfs9, gfs2, gfs7, gfs8, gfs1, q98_0, q98_1, q98_4, q98_7, q98_8, q98_11, q98_14, q98_15, q98_18, q98_21, q98_22, q98_25, q98_28, q98_30, q98_31, q98_32, q98_35, q98_37, q98_38, q98_39, q98_42, q98_45, q98_47, q98_48, q98_49, q98_52, q98_55, q98_56, q98_57, q98_60, h65x]
    · rw [e170]
      simp (disch := first | omega | (simp only [sgets, reduceIte, Nat.reduceEqDiff, dec_S, Nat.reduceAdd]; done) | omega) only [cS_1, crd, z_pv_some, z_wv_some, z_cv_v, z_cv_n, cwr, sgets, rc_O, ia_n, fa_n, is_n, fs_n, ↓mI_eq, lits, nI_add, nLe, nLt, nE, mI_ne, mI_ne', mI_lt, mI_le, mI_nlt, mI_nle, ne_eq, mI_addC, pk_sub, pk_mul, pk_div, Nat.reduceEqDiff, Nat.reduceAdd, Nat.reduceMul, Nat.reduceSub, reduceIte, not_true_eq_false, not_false_eq_true, true_or, or_true, if_true, if_false, and_self, and_true, true_and, and_false, false_and, or_self, or_false, false_or, decide_true, decide_false, Bool.false_eq_true, Bool.true_eq_false, bI_t, bI_f, oS_1, ord, owA0, owF0, owF1, owA1, owF2, owA2, owF3, owA3, ywo, gfs11, pfs11, yrd, ywr, q170_0, q170_1, q170_2, q170_5, q170_8, q170_9, q170_10, q170_13, q170_16, q170_18, q170_19, q170_20, q170_23, q170_25, q170_26, q170_27, q170_30, q170_33, q170_35, q170_36, q170_37, q170_38, q170_39, q170_42, q170_45, q170_47, q170_48, q170_50, q170_51, q170_52, q170_53, q170_54, h109x, dec_S, Nat.reduceAdd]
  | true =>
    rw [hx] at h65x h109x
    cases hy : hasB V y with
    | false =>
      rw [hy] at h65y h109y
      refine ⟨-(nI 2), ?_, ?_⟩
      · rw [e98]
        simp (disch := first | omega | (simp only [sgets, reduceIte, Nat.reduceEqDiff]; done) | omega) only [cS_1, crd, z_pv_some, z_wv_some, z_cv_v, z_cv_n, cwr, sgets, rc_O, ia_n, fa_n, is_n, fs_n, ↓mI_eq, lits, nI_add, nLe, nLt, nE, mI_ne, mI_ne', mI_lt, mI_le, mI_nlt, mI_nle, ne_eq, mI_addC, pk_sub, pk_mul, pk_div, Nat.reduceEqDiff, Nat.reduceAdd, Nat.reduceMul, Nat.reduceSub, reduceIte, not_true_eq_false, not_false_eq_true, true_or, or_true, if_true, if_false, and_self, and_true, true_and, and_false, false_and, or_self, or_false, false_or, decide_true, decide_false, Bool.false_eq_true, Bool.true_eq_false, bI_t, bI_f, grd, gM_1, gfs10, gfs0, gfs3, gfs5, gfs6, gfs9, gfs2, gfs7, gfs8, gfs1, q98_0, q98_1, q98_4, q98_7, q98_8, q98_11, q98_14, q98_15, q98_18, q98_21, q98_22, q98_25, q98_28, q98_30, q98_31, q98_32, q98_35, q98_37, q98_38, q98_39, q98_42, q98_45, q98_47, q98_48, q98_49, q98_52, q98_55, q98_56, q98_57, q98_60, h65x, h65y]
      · rw [e170]
        simp (disch := first | omega | (simp only [sgets, reduceIte, Nat.reduceEqDiff, dec_S, Nat.reduceAdd]; done) | omega) only [cS_1, crd, z_pv_some, z_wv_some, z_cv_v, z_cv_n, cwr, sgets, rc_O, ia_n, fa_n, is_n, fs_n, ↓mI_eq, lits, nI_add, nLe, nLt, nE, mI_ne, mI_ne', mI_lt, mI_le, mI_nlt, mI_nle, ne_eq, mI_addC, pk_sub, pk_mul, pk_div, Nat.reduceEqDiff, Nat.reduceAdd, Nat.reduceMul, Nat.reduceSub, reduceIte, not_true_eq_false, not_false_eq_true, true_or, or_true, if_true, if_false, and_self, and_true, true_and, and_false, false_and, or_self, or_false, false_or, decide_true, decide_false, Bool.false_eq_true, Bool.true_eq_false, bI_t, bI_f, oS_1, ord, owA0, owF0, owF1, owA1, owF2, owA2, owF3, owA3, ywo, gfs11, pfs11, yrd, ywr, q170_0, q170_1, q170_2, q170_5, q170_8, q170_9, q170_10, q170_13, q170_16, q170_18, q170_19, q170_20, q170_23, q170_25, q170_26, q170_27, q170_30, q170_33, q170_35, q170_36, q170_37, q170_38, q170_39, q170_42, q170_45, q170_47, q170_48, q170_50, q170_51, q170_52, q170_53, q170_54, h109x, h109y, dec_S, Nat.reduceAdd]
    | true =>
      rw [hy] at h65y h109y
      obtain ⟨a, ha, rfl⟩ := has_b hB.1 hB.2 hx
      obtain ⟨b, hb, rfl⟩ := has_b hB.1 hB.2 hy
      by_cases hz : z < nI 0
      · refine ⟨-(nI 3), ?_, ?_⟩
        · rw [e98]
          simp (disch := first | omega | (simp only [sgets, reduceIte, Nat.reduceEqDiff, hz]; done) | omega) only [cS_1, crd, z_pv_some, z_wv_some, z_cv_v, z_cv_n, cwr, sgets, rc_O, ia_n, fa_n, is_n, fs_n, ↓mI_eq, lits, nI_add, nLe, nLt, nE, mI_ne, mI_ne', mI_lt, mI_le, mI_nlt, mI_nle, ne_eq, mI_addC, pk_sub, pk_mul, pk_div, Nat.reduceEqDiff, Nat.reduceAdd, Nat.reduceMul, Nat.reduceSub, reduceIte, not_true_eq_false, not_false_eq_true, true_or, or_true, if_true, if_false, and_self, and_true, true_and, and_false, false_and, or_self, or_false, false_or, decide_true, decide_false, Bool.false_eq_true, Bool.true_eq_false, bI_t, bI_f, grd, gM_1, gfs10, gfs0, gfs3, gfs5, gfs6, gfs9, gfs2, gfs7, gfs8, gfs1, q98_0, q98_1, q98_4, q98_7, q98_8, q98_11, q98_14, q98_15, q98_18, q98_21, q98_22, q98_25, q98_28, q98_30, q98_31, q98_32, q98_35, q98_37, q98_38, q98_39, q98_42, q98_45, q98_47, q98_48, q98_49, q98_52, q98_55, q98_56, q98_57, q98_60, h65x, h65y, hz]
        · rw [e170]
          simp (disch := first | omega | (simp only [sgets, reduceIte, Nat.reduceEqDiff, hz, dec_S, Nat.reduceAdd]; done) | omega) only [cS_1, crd, z_pv_some, z_wv_some, z_cv_v, z_cv_n, cwr, sgets, rc_O, ia_n, fa_n, is_n, fs_n, ↓mI_eq, lits, nI_add, nLe, nLt, nE, mI_ne, mI_ne', mI_lt, mI_le, mI_nlt, mI_nle, ne_eq, mI_addC, pk_sub, pk_mul, pk_div, Nat.reduceEqDiff, Nat.reduceAdd, Nat.reduceMul, Nat.reduceSub, reduceIte, not_true_eq_false, not_false_eq_true, true_or, or_true, if_true, if_false, and_self, and_true, true_and, and_false, false_and, or_self, or_false, false_or, decide_true, decide_false, Bool.false_eq_true, Bool.true_eq_false, bI_t, bI_f, oS_1, ord, owA0, owF0, owF1, owA1, owF2, owA2, owF3, owA3, ywo, gfs11, pfs11, yrd, ywr, q170_0, q170_1, q170_2, q170_5, q170_8, q170_9, q170_10, q170_13, q170_16, q170_18, q170_19, q170_20, q170_23, q170_25, q170_26, q170_27, q170_30, q170_33, q170_35, q170_36, q170_37, q170_38, q170_39, q170_42, q170_45, q170_47, q170_48, q170_50, q170_51, q170_52, q170_53, q170_54, h109x, h109y, hz, dec_S, Nat.reduceAdd]
      · by_cases hv : nI 0 ≤ v ∧ v ≤ nI 2
        · rw [show decide (nI 0 ≤ v ∧ v ≤ nI 2) = true by simp [hv]] at h74 h110
          obtain ⟨k, _, hk, rfl⟩ := in_nI (by omega) (by omega) hv
          obtain ⟨i, hi, rfl⟩ := nI_of hz
          have hz' : ¬ i < 0 := by omega
          have h68 : z_cl 68 [.ref (n + 1 + 2), .int (nI a), .int (nI b)] (gM M n V Vt U H T Hs) = some (some (.int (way V a b)), gM M n V Vt U H T Hs) := m68 _ (n + 1) V a b (by omega) (by omega)
          have g150 : z_cl 150 [.ref o, .int (nI a), .int (nI b)] (yS M' o Y w) = some (some (.int (bI (decide (¬ way V a b = mI)))), yS M' o Y w) := by
            have hGr := h.2.2.2.2.2.2.2.2.2
            have i1 := m117 M' o Y w a 0 (by omega) (by omega)
            have i2 := m117 M' o Y w b 0 (by omega) (by omega)
            have e0 : Y.2.2.1 0 = V.2.2.1 0 := h.2.2.2.2.1.2.2.2.2.2.2.2.2.1
            rw [e0] at i1 i2
            rw [e150]
            unfold way
            by_cases c0 : a = b
            · subst c0
              have c1 : ¬ V.2.2.1 0 a = nI a := fun e => absurd (par_lt hGr hB.1 ha (by omega) e) (by omega)
              rw [if_neg c1, if_neg c1, show decide (¬ mI = mI) = false by simp]
              simp (disch := first | omega | (simp only [sgets, reduceIte, Nat.reduceEqDiff, dec_S, Nat.reduceAdd]; done) | omega) only [cS_1, crd, z_pv_some, z_wv_some, z_cv_v, z_cv_n, cwr, sgets, rc_O, ia_n, fa_n, is_n, fs_n, ↓mI_eq, lits, nI_add, nLe, nLt, nE, mI_ne, mI_ne', mI_lt, mI_le, mI_nlt, mI_nle, ne_eq, mI_addC, pk_sub, pk_mul, pk_div, Nat.reduceEqDiff, Nat.reduceAdd, Nat.reduceMul, Nat.reduceSub, reduceIte, not_true_eq_false, not_false_eq_true, true_or, or_true, if_true, if_false, and_self, and_true, true_and, and_false, false_and, or_self, or_false, false_or, decide_true, decide_false, Bool.false_eq_true, Bool.true_eq_false, bI_t, bI_f, oS_1, ord, owA0, owF0, owF1, owA1, owF2, owA2, owF3, owA3, ywo, gfs11, pfs11, yrd, ywr, b150, dec_S, Nat.reduceAdd]
            · by_cases c1 : V.2.2.1 0 a = nI b
              · rw [if_pos c1, show decide (¬ nI a = mI) = true by simp [mI_ne (show a < 2 ^ 31 by omega)]]
                simp (disch := first | omega | (simp only [sgets, reduceIte, Nat.reduceEqDiff, c0, c1, dec_S, Nat.reduceAdd]; done) | omega) only [cS_1, crd, z_pv_some, z_wv_some, z_cv_v, z_cv_n, cwr, sgets, rc_O, ia_n, fa_n, is_n, fs_n, ↓mI_eq, lits, nI_add, nLe, nLt, nE, mI_ne, mI_ne', mI_lt, mI_le, mI_nlt, mI_nle, ne_eq, mI_addC, pk_sub, pk_mul, pk_div, Nat.reduceEqDiff, Nat.reduceAdd, Nat.reduceMul, Nat.reduceSub, reduceIte, not_true_eq_false, not_false_eq_true, true_or, or_true, if_true, if_false, and_self, and_true, true_and, and_false, false_and, or_self, or_false, false_or, decide_true, decide_false, Bool.false_eq_true, Bool.true_eq_false, bI_t, bI_f, oS_1, ord, owA0, owF0, owF1, owA1, owF2, owA2, owF3, owA3, ywo, gfs11, pfs11, yrd, ywr, b150, i1, i2, c0, c1, dec_S, Nat.reduceAdd]
              · rw [if_neg c1]
                by_cases c2 : V.2.2.1 0 b = nI a
                · rw [if_pos c2, show decide (¬ nI (8 + b) = mI) = true by simp [mI_ne (show 8 + b < 2 ^ 31 by omega)]]
                  simp (disch := first | omega | (simp only [sgets, reduceIte, Nat.reduceEqDiff, c0, c1, c2, dec_S, Nat.reduceAdd]; done) | omega) only [cS_1, crd, z_pv_some, z_wv_some, z_cv_v, z_cv_n, cwr, sgets, rc_O, ia_n, fa_n, is_n, fs_n, ↓mI_eq, lits, nI_add, nLe, nLt, nE, mI_ne, mI_ne', mI_lt, mI_le, mI_nlt, mI_nle, ne_eq, mI_addC, pk_sub, pk_mul, pk_div, Nat.reduceEqDiff, Nat.reduceAdd, Nat.reduceMul, Nat.reduceSub, reduceIte, not_true_eq_false, not_false_eq_true, true_or, or_true, if_true, if_false, and_self, and_true, true_and, and_false, false_and, or_self, or_false, false_or, decide_true, decide_false, Bool.false_eq_true, Bool.true_eq_false, bI_t, bI_f, oS_1, ord, owA0, owF0, owF1, owA1, owF2, owA2, owF3, owA3, ywo, gfs11, pfs11, yrd, ywr, b150, i1, i2, c0, c1, c2, dec_S, Nat.reduceAdd]
                · rw [if_neg c2, show decide (¬ mI = mI) = false by simp]
                  simp (disch := first | omega | (simp only [sgets, reduceIte, Nat.reduceEqDiff, c0, c1, c2, dec_S, Nat.reduceAdd]; done) | omega) only [cS_1, crd, z_pv_some, z_wv_some, z_cv_v, z_cv_n, cwr, sgets, rc_O, ia_n, fa_n, is_n, fs_n, ↓mI_eq, lits, nI_add, nLe, nLt, nE, mI_ne, mI_ne', mI_lt, mI_le, mI_nlt, mI_nle, ne_eq, mI_addC, pk_sub, pk_mul, pk_div, Nat.reduceEqDiff, Nat.reduceAdd, Nat.reduceMul, Nat.reduceSub, reduceIte, not_true_eq_false, not_false_eq_true, true_or, or_true, if_true, if_false, and_self, and_true, true_and, and_false, false_and, or_self, or_false, false_or, decide_true, decide_false, Bool.false_eq_true, Bool.true_eq_false, bI_t, bI_f, oS_1, ord, owA0, owF0, owF1, owA1, owF2, owA2, owF3, owA3, ywo, gfs11, pfs11, yrd, ywr, b150, i1, i2, c0, c1, c2, dec_S, Nat.reduceAdd]
          obtain ⟨g1, g2⟩ := h.2.2.2.2.2.2.2.2.2.1 a b ha hb
          rcases way_lt V (show a < 8 by omega) (show b < 8 by omega) with hw | ⟨u, hu, hw⟩
          · rw [show decide (¬ way V a b = mI) = false by simp [hw]] at g150
            rw [hw] at h68
            refine ⟨-(nI 4), ?_, ?_⟩
            · rw [e98]
              simp (disch := first | omega | (simp only [sgets, reduceIte, Nat.reduceEqDiff]; done) | omega) only [cS_1, crd, z_pv_some, z_wv_some, z_cv_v, z_cv_n, cwr, sgets, rc_O, ia_n, fa_n, is_n, fs_n, ↓mI_eq, lits, nI_add, nLe, nLt, nE, mI_ne, mI_ne', mI_lt, mI_le, mI_nlt, mI_nle, ne_eq, mI_addC, pk_sub, pk_mul, pk_div, Nat.reduceEqDiff, Nat.reduceAdd, Nat.reduceMul, Nat.reduceSub, reduceIte, not_true_eq_false, not_false_eq_true, true_or, or_true, if_true, if_false, and_self, and_true, true_and, and_false, false_and, or_self, or_false, false_or, decide_true, decide_false, Bool.false_eq_true, Bool.true_eq_false, bI_t, bI_f, grd, gM_1, gfs10, gfs0, gfs3, gfs5, gfs6, gfs9, gfs2, gfs7, gfs8, gfs1, q98_0, q98_1, q98_4, q98_7, q98_8, q98_11, q98_14, q98_15, q98_18, q98_21, q98_22, q98_25, q98_28, q98_30, q98_31, q98_32, q98_35, q98_37, q98_38, q98_39, q98_42, q98_45, q98_47, q98_48, q98_49, q98_52, q98_55, q98_56, q98_57, q98_60, q98_62, q98_64, q98_65, q98_68, q98_70, h65x, h65y, h74, h68, Nat.not_lt_zero]
            · rw [e170]
              simp (disch := first | omega | (simp only [sgets, reduceIte, Nat.reduceEqDiff, dec_S, Nat.reduceAdd]; done) | omega) only [cS_1, crd, z_pv_some, z_wv_some, z_cv_v, z_cv_n, cwr, sgets, rc_O, ia_n, fa_n, is_n, fs_n, ↓mI_eq, lits, nI_add, nLe, nLt, nE, mI_ne, mI_ne', mI_lt, mI_le, mI_nlt, mI_nle, ne_eq, mI_addC, pk_sub, pk_mul, pk_div, Nat.reduceEqDiff, Nat.reduceAdd, Nat.reduceMul, Nat.reduceSub, reduceIte, not_true_eq_false, not_false_eq_true, true_or, or_true, if_true, if_false, and_self, and_true, true_and, and_false, false_and, or_self, or_false, false_or, decide_true, decide_false, Bool.false_eq_true, Bool.true_eq_false, bI_t, bI_f, oS_1, ord, owA0, owF0, owF1, owA1, owF2, owA2, owF3, owA3, ywo, gfs11, pfs11, yrd, ywr, q170_0, q170_1, q170_2, q170_5, q170_8, q170_9, q170_10, q170_13, q170_16, q170_18, q170_19, q170_20, q170_23, q170_25, q170_26, q170_27, q170_30, q170_33, q170_35, q170_36, q170_37, q170_38, q170_39, q170_42, q170_45, q170_47, q170_48, q170_50, q170_51, q170_52, q170_53, q170_54, h109x, h109y, h110, g150, Nat.not_lt_zero, dec_S, Nat.reduceAdd]
          · rw [show decide (¬ way V a b = mI) = true by rw [hw]; simp [mI_ne (show u < 2 ^ 31 by omega)]] at g150
            rw [hw] at h68
            obtain ⟨e20, hkk⟩ := g2 u hw hu
            obtain ⟨m, hm, hzm, hs⟩ := h.1.2.2.2.2.2.2.2.2.1 u hu
            rw [hzm] at e20 hkk
            rw [nI_clamp (by omega)] at hkk
            by_cases him : i < m
            · obtain ⟨t1, t2, t3⟩ := hkk i him
              obtain ⟨n1, -⟩ := hs i him
              have b1 := fun X => m94 (nn_200 n1) X
              have hlt : (V.2.2.2 2 (u * 4 + i)).toNat < 2139095040 := by have := nn_200 n1; omega
              have b2 := fun X => m189 hlt X
              have p0 : z_cl 98 [.ref n, .int (nI a), .int (nI b), .int (nI i), .int (nI k)] (gM M n V Vt U H T Hs) = z_ex 98 (gM M n V Vt U H T Hs).1 100 [some (.ref n), some (.int (nI a)), some (.int (nI b)), some (.int (nI i)), some (.int (nI k)), some (.int (nI u)), some (.int (nI (u * 4 + i)))] [.int (nI k)] (gM M n V Vt U H T Hs) := by
                rw [e98]
                simp (disch := first | omega | (simp only [sgets, reduceIte, Nat.reduceEqDiff, hzm, him]; done) | omega) only [cS_1, crd, z_pv_some, z_wv_some, z_cv_v, z_cv_n, cwr, sgets, rc_O, ia_n, fa_n, is_n, fs_n, ↓mI_eq, lits, nI_add, nLe, nLt, nE, mI_ne, mI_ne', mI_lt, mI_le, mI_nlt, mI_nle, ne_eq, mI_addC, pk_sub, pk_mul, pk_div, Nat.reduceEqDiff, Nat.reduceAdd, Nat.reduceMul, Nat.reduceSub, reduceIte, not_true_eq_false, not_false_eq_true, true_or, or_true, if_true, if_false, and_self, and_true, true_and, and_false, false_and, or_self, or_false, false_or, decide_true, decide_false, Bool.false_eq_true, Bool.true_eq_false, bI_t, bI_f, grd, gM_1, gfs10, gfs0, gfs3, gfs5, gfs6, gfs9, gfs2, gfs7, gfs8, gfs1, q98_0, q98_1, q98_4, q98_7, q98_8, q98_11, q98_14, q98_15, q98_18, q98_21, q98_22, q98_25, q98_28, q98_30, q98_31, q98_32, q98_35, q98_37, q98_38, q98_39, q98_42, q98_45, q98_47, q98_48, q98_49, q98_52, q98_55, q98_56, q98_57, q98_60, q98_62, q98_64, q98_65, q98_68, q98_70, q98_71, q98_72, q98_73, q98_76, q98_79, q98_82, q98_84, q98_85, q98_88, q98_89, q98_90, q98_92, q98_93, q98_94, q98_95, q98_96, q98_98, h65x, h65y, h74, h68, Nat.not_lt_zero, hzm, him]
              rcases (show k = 0 ∨ k = 1 ∨ k = 2 by omega) with rfl | rfl | rfl
              · refine ⟨V.2.2.1 17 (u * 4 + i), ?_, ?_⟩
                · rw [p0]
                  refine (q98_100_0 _ _ _ _ _ _ _ _ _ _).trans ?_
                  simp (disch := first | omega | (simp only [sgets, reduceIte, Nat.reduceEqDiff]; done) | omega) only [cS_1, crd, z_pv_some, z_wv_some, z_cv_v, z_cv_n, cwr, sgets, rc_O, ia_n, fa_n, is_n, fs_n, ↓mI_eq, lits, nI_add, nLe, nLt, nE, mI_ne, mI_ne', mI_lt, mI_le, mI_nlt, mI_nle, ne_eq, mI_addC, pk_sub, pk_mul, pk_div, Nat.reduceEqDiff, Nat.reduceAdd, Nat.reduceMul, Nat.reduceSub, reduceIte, not_true_eq_false, not_false_eq_true, true_or, or_true, if_true, if_false, and_self, and_true, true_and, and_false, false_and, or_self, or_false, false_or, decide_true, decide_false, Bool.false_eq_true, Bool.true_eq_false, bI_t, bI_f, grd, gM_1, gfs10, gfs0, gfs3, gfs5, gfs6, gfs9, gfs2, gfs7, gfs8, gfs1, q98_128, q98_129, q98_132, q98_135, q98_138, q98_140, q98_141, q98_142, q98_143, q98_146, q98_149, q98_152, q98_154, q98_155, q98_156, q98_157, q98_160, q98_163, q98_166, q98_168, q98_169, q98_172]
                · rw [e170]
                  simp (disch := first | omega | (simp only [sgets, reduceIte, Nat.reduceEqDiff, e20, him, t1, dec_S, Nat.reduceAdd]; done) | omega) only [cS_1, crd, z_pv_some, z_wv_some, z_cv_v, z_cv_n, cwr, sgets, rc_O, ia_n, fa_n, is_n, fs_n, ↓mI_eq, lits, nI_add, nLe, nLt, nE, mI_ne, mI_ne', mI_lt, mI_le, mI_nlt, mI_nle, ne_eq, mI_addC, pk_sub, pk_mul, pk_div, Nat.reduceEqDiff, Nat.reduceAdd, Nat.reduceMul, Nat.reduceSub, reduceIte, not_true_eq_false, not_false_eq_true, true_or, or_true, if_true, if_false, and_self, and_true, true_and, and_false, false_and, or_self, or_false, false_or, decide_true, decide_false, Bool.false_eq_true, Bool.true_eq_false, bI_t, bI_f, oS_1, ord, owA0, owF0, owF1, owA1, owF2, owA2, owF3, owA3, ywo, gfs11, pfs11, yrd, ywr, b170, h109x, h109y, h110, g150, Nat.not_lt_zero, Nat.add_zero, Nat.reduceLeDiff, e20, him, t1, dec_S, Nat.reduceAdd]
              · refine ⟨V.2.2.1 18 (u * 4 + i), ?_, ?_⟩
                · rw [p0]
                  refine (q98_100_1 _ _ _ _ _ _ _ _ _ _).trans ?_
                  simp (disch := first | omega | (simp only [sgets, reduceIte, Nat.reduceEqDiff]; done) | omega) only [cS_1, crd, z_pv_some, z_wv_some, z_cv_v, z_cv_n, cwr, sgets, rc_O, ia_n, fa_n, is_n, fs_n, ↓mI_eq, lits, nI_add, nLe, nLt, nE, mI_ne, mI_ne', mI_lt, mI_le, mI_nlt, mI_nle, ne_eq, mI_addC, pk_sub, pk_mul, pk_div, Nat.reduceEqDiff, Nat.reduceAdd, Nat.reduceMul, Nat.reduceSub, reduceIte, not_true_eq_false, not_false_eq_true, true_or, or_true, if_true, if_false, and_self, and_true, true_and, and_false, false_and, or_self, or_false, false_or, decide_true, decide_false, Bool.false_eq_true, Bool.true_eq_false, bI_t, bI_f, grd, gM_1, gfs10, gfs0, gfs3, gfs5, gfs6, gfs9, gfs2, gfs7, gfs8, gfs1, q98_128, q98_129, q98_132, q98_135, q98_138, q98_140, q98_141, q98_142, q98_143, q98_146, q98_149, q98_152, q98_154, q98_155, q98_156, q98_157, q98_160, q98_163, q98_166, q98_168, q98_169, q98_172]
                · have hsw : 395 + 9 * (8 * a + b) + 1 + 2 * i + 1 = 395 + 9 * (8 * a + b) + 2 + 2 * i := by omega
                  rw [e170]
                  simp (disch := first | omega | (simp only [sgets, reduceIte, Nat.reduceEqDiff, e20, him, hsw, t2, dec_S, Nat.reduceAdd]; done) | omega) only [cS_1, crd, z_pv_some, z_wv_some, z_cv_v, z_cv_n, cwr, sgets, rc_O, ia_n, fa_n, is_n, fs_n, ↓mI_eq, lits, nI_add, nLe, nLt, nE, mI_ne, mI_ne', mI_lt, mI_le, mI_nlt, mI_nle, ne_eq, mI_addC, pk_sub, pk_mul, pk_div, Nat.reduceEqDiff, Nat.reduceAdd, Nat.reduceMul, Nat.reduceSub, reduceIte, not_true_eq_false, not_false_eq_true, true_or, or_true, if_true, if_false, and_self, and_true, true_and, and_false, false_and, or_self, or_false, false_or, decide_true, decide_false, Bool.false_eq_true, Bool.true_eq_false, bI_t, bI_f, oS_1, ord, owA0, owF0, owF1, owA1, owF2, owA2, owF3, owA3, ywo, gfs11, pfs11, yrd, ywr, b170, h109x, h109y, h110, g150, Nat.not_lt_zero, Nat.reduceLeDiff, e20, him, hsw, t2, dec_S, Nat.reduceAdd]
              · refine ⟨nI (V.2.2.2 2 (u * 4 + i)).toNat, ?_, ?_⟩
                · rw [p0]
                  refine (q98_100_d _ _ _ _ _ _ _ _ _ _ _ ⟨by rw [nI_toInt (by omega)]; omega, by rw [nI_toInt (by omega)]; omega⟩).trans ?_
                  simp (disch := first | omega | (simp only [sgets, reduceIte, Nat.reduceEqDiff]; done) | omega) only [cS_1, crd, z_pv_some, z_wv_some, z_cv_v, z_cv_n, cwr, sgets, rc_O, ia_n, fa_n, is_n, fs_n, ↓mI_eq, lits, nI_add, nLe, nLt, nE, mI_ne, mI_ne', mI_lt, mI_le, mI_nlt, mI_nle, ne_eq, mI_addC, pk_sub, pk_mul, pk_div, Nat.reduceEqDiff, Nat.reduceAdd, Nat.reduceMul, Nat.reduceSub, reduceIte, not_true_eq_false, not_false_eq_true, true_or, or_true, if_true, if_false, and_self, and_true, true_and, and_false, false_and, or_self, or_false, false_or, decide_true, decide_false, Bool.false_eq_true, Bool.true_eq_false, bI_t, bI_f, grd, gM_1, gfs10, gfs0, gfs3, gfs5, gfs6, gfs9, gfs2, gfs7, gfs8, gfs1, q98_128, q98_129, q98_132, q98_135, q98_138, q98_140, q98_141, q98_142, q98_143, q98_146, q98_149, q98_152, q98_154, q98_155, q98_156, q98_157, q98_160, q98_163, q98_166, q98_168, q98_169, q98_172, b1]
                · rw [e170]
                  simp (disch := first | omega | (simp only [sgets, reduceIte, Nat.reduceEqDiff, e20, him, t3, dec_S, Nat.reduceAdd]; done) | omega) only [cS_1, crd, z_pv_some, z_wv_some, z_cv_v, z_cv_n, cwr, sgets, rc_O, ia_n, fa_n, is_n, fs_n, ↓mI_eq, lits, nI_add, nLe, nLt, nE, mI_ne, mI_ne', mI_lt, mI_le, mI_nlt, mI_nle, ne_eq, mI_addC, pk_sub, pk_mul, pk_div, Nat.reduceEqDiff, Nat.reduceAdd, Nat.reduceMul, Nat.reduceSub, reduceIte, not_true_eq_false, not_false_eq_true, true_or, or_true, if_true, if_false, and_self, and_true, true_and, and_false, false_and, or_self, or_false, false_or, decide_true, decide_false, Bool.false_eq_true, Bool.true_eq_false, bI_t, bI_f, oS_1, ord, owA0, owF0, owF1, owA1, owF2, owA2, owF3, owA3, ywo, gfs11, pfs11, yrd, ywr, b170, h109x, h109y, h110, g150, b2, Nat.not_lt_zero, Nat.reduceLeDiff, e20, him, t3, dec_S, Nat.reduceAdd]
            · refine ⟨mI, ?_, ?_⟩
              · rw [e98]
                simp (disch := first | omega | (simp only [sgets, reduceIte, Nat.reduceEqDiff, hzm, him]; done) | omega) only [cS_1, crd, z_pv_some, z_wv_some, z_cv_v, z_cv_n, cwr, sgets, rc_O, ia_n, fa_n, is_n, fs_n, ↓mI_eq, lits, nI_add, nLe, nLt, nE, mI_ne, mI_ne', mI_lt, mI_le, mI_nlt, mI_nle, ne_eq, mI_addC, pk_sub, pk_mul, pk_div, Nat.reduceEqDiff, Nat.reduceAdd, Nat.reduceMul, Nat.reduceSub, reduceIte, not_true_eq_false, not_false_eq_true, true_or, or_true, if_true, if_false, and_self, and_true, true_and, and_false, false_and, or_self, or_false, false_or, decide_true, decide_false, Bool.false_eq_true, Bool.true_eq_false, bI_t, bI_f, grd, gM_1, gfs10, gfs0, gfs3, gfs5, gfs6, gfs9, gfs2, gfs7, gfs8, gfs1, q98_0, q98_1, q98_4, q98_7, q98_8, q98_11, q98_14, q98_15, q98_18, q98_21, q98_22, q98_25, q98_28, q98_30, q98_31, q98_32, q98_35, q98_37, q98_38, q98_39, q98_42, q98_45, q98_47, q98_48, q98_49, q98_52, q98_55, q98_56, q98_57, q98_60, q98_62, q98_64, q98_65, q98_68, q98_70, q98_71, q98_72, q98_73, q98_76, q98_79, q98_82, q98_84, q98_85, q98_88, q98_89, q98_90, q98_92, q98_93, q98_94, q98_95, q98_96, q98_98, h65x, h65y, h74, h68, Nat.not_lt_zero, hzm, him]
              · rw [e170]
                simp (disch := first | omega | (simp only [sgets, reduceIte, Nat.reduceEqDiff, e20, him, dec_S, Nat.reduceAdd]; done) | omega) only [cS_1, crd, z_pv_some, z_wv_some, z_cv_v, z_cv_n, cwr, sgets, rc_O, ia_n, fa_n, is_n, fs_n, ↓mI_eq, lits, nI_add, nLe, nLt, nE, mI_ne, mI_ne', mI_lt, mI_le, mI_nlt, mI_nle, ne_eq, mI_addC, pk_sub, pk_mul, pk_div, Nat.reduceEqDiff, Nat.reduceAdd, Nat.reduceMul, Nat.reduceSub, reduceIte, not_true_eq_false, not_false_eq_true, true_or, or_true, if_true, if_false, and_self, and_true, true_and, and_false, false_and, or_self, or_false, false_or, decide_true, decide_false, Bool.false_eq_true, Bool.true_eq_false, bI_t, bI_f, oS_1, ord, owA0, owF0, owF1, owA1, owF2, owA2, owF3, owA3, ywo, gfs11, pfs11, yrd, ywr, b170, h109x, h109y, h110, g150, Nat.not_lt_zero, e20, him, dec_S, Nat.reduceAdd]
        · rw [show decide (nI 0 ≤ v ∧ v ≤ nI 2) = false by simp [hv]] at h74 h110
          refine ⟨-(nI 3), ?_, ?_⟩
          · rw [e98]
            simp (disch := first | omega | (simp only [sgets, reduceIte, Nat.reduceEqDiff, hz]; done) | omega) only [cS_1, crd, z_pv_some, z_wv_some, z_cv_v, z_cv_n, cwr, sgets, rc_O, ia_n, fa_n, is_n, fs_n, ↓mI_eq, lits, nI_add, nLe, nLt, nE, mI_ne, mI_ne', mI_lt, mI_le, mI_nlt, mI_nle, ne_eq, mI_addC, pk_sub, pk_mul, pk_div, Nat.reduceEqDiff, Nat.reduceAdd, Nat.reduceMul, Nat.reduceSub, reduceIte, not_true_eq_false, not_false_eq_true, true_or, or_true, if_true, if_false, and_self, and_true, true_and, and_false, false_and, or_self, or_false, false_or, decide_true, decide_false, Bool.false_eq_true, Bool.true_eq_false, bI_t, bI_f, grd, gM_1, gfs10, gfs0, gfs3, gfs5, gfs6, gfs9, gfs2, gfs7, gfs8, gfs1, q98_0, q98_1, q98_4, q98_7, q98_8, q98_11, q98_14, q98_15, q98_18, q98_21, q98_22, q98_25, q98_28, q98_30, q98_31, q98_32, q98_35, q98_37, q98_38, q98_39, q98_42, q98_45, q98_47, q98_48, q98_49, q98_52, q98_55, q98_56, q98_57, q98_60, h65x, h65y, h74, hz]
          · rw [e170]
            simp (disch := first | omega | (simp only [sgets, reduceIte, Nat.reduceEqDiff, hz, dec_S, Nat.reduceAdd]; done) | omega) only [cS_1, crd, z_pv_some, z_wv_some, z_cv_v, z_cv_n, cwr, sgets, rc_O, ia_n, fa_n, is_n, fs_n, ↓mI_eq, lits, nI_add, nLe, nLt, nE, mI_ne, mI_ne', mI_lt, mI_le, mI_nlt, mI_nle, ne_eq, mI_addC, pk_sub, pk_mul, pk_div, Nat.reduceEqDiff, Nat.reduceAdd, Nat.reduceMul, Nat.reduceSub, reduceIte, not_true_eq_false, not_false_eq_true, true_or, or_true, if_true, if_false, and_self, and_true, true_and, and_false, false_and, or_self, or_false, false_or, decide_true, decide_false, Bool.false_eq_true, Bool.true_eq_false, bI_t, bI_f, oS_1, ord, owA0, owF0, owF1, owA1, owF2, owA2, owF3, owA3, ywo, gfs11, pfs11, yrd, ywr, q170_0, q170_1, q170_2, q170_5, q170_8, q170_9, q170_10, q170_13, q170_16, q170_18, q170_19, q170_20, q170_23, q170_25, q170_26, q170_27, q170_30, q170_33, q170_35, q170_36, q170_37, q170_38, q170_39, q170_42, q170_45, q170_47, q170_48, q170_50, q170_51, q170_52, q170_53, q170_54, h109x, h109y, h110, hz, dec_S, Nat.reduceAdd]
end
