/-! the model's tick: loudness -/
theorem lp_rel {σ τ ι ρ : Type} (E : Nat → τ → ι → ρ) (f : Nat → σ → σ) (P : Nat → σ → τ → Prop) (n : Nat) (hb : ∀ i s t j, i < n → P i s t → ∃ t' j', E i t j = E (i + 1) t' j' ∧ P (i + 1) (f i s) t') (s : σ) (t : τ) (j : ι) (h0 : P 0 s t) : ∃ t' j', E 0 t j = E n t' j' ∧ P n (it f n s) t' := by
  have key : ∀ k, k ≤ n → ∃ t' j', E 0 t j = E k t' j' ∧ P k (it f k s) t' := by
    intro k
    induction k with
    | zero => intro _; exact ⟨t, j, rfl, h0⟩
    | succ k ih =>
      intro hk
      obtain ⟨t1, j1, h1, h2⟩ := ih (by omega)
      obtain ⟨t2, j2, h3, h4⟩ := hb k _ t1 j1 (by omega) h2
      exact ⟨t2, j2, h1.trans h3, h4⟩
  exact key n (Nat.le_refl n)
theorem Rl_ld {c J S Hy B : Nat} {V Y : z_V} (h : Rl c J S Hy B V Y) (f : Nat → UInt32) (g : Nat → Int32) (hf : ∀ p, p < 20 → nn (f p)) : Rl c J S Hy B (sA (sF V 0 f) 7 g) (sA (sF Y 0 f) 9 g) := by
  obtain ⟨⟨q1, q2, q3, q4, q5, q6, q7, q8, q9, q10, q11⟩, hfl, hSB, r1, r2, r3, r4, r5, r6, r7⟩ := h
  exact ⟨⟨q1, q2, q3, q4, q5, q6, q7, hf, q9, q10, q11⟩, hfl, hSB, r1, ⟨r2.1, r2.2.1, r2.2.2.1, rfl, r2.2.2.2.2.1, r2.2.2.2.2.2.1, r2.2.2.2.2.2.2.1, r2.2.2.2.2.2.2.2.1, r2.2.2.2.2.2.2.2.2.1, r2.2.2.2.2.2.2.2.2.2.1, r2.2.2.2.2.2.2.2.2.2.2.1, rfl, r2.2.2.2.2.2.2.2.2.2.2.2.2⟩, r3, r4, r5, r6, r7⟩
theorem s133 (M : z_M) (o : Nat) (w : Int64) {c J S Hy B : Nat} {V Y : z_V} (h : Rl c J S Hy B V Y) (hb : okb Y) : ∃ Z, z_cl 133 [.ref o, .float V.2.1] (yS M o Y w) = some (none, yS M o Z w) ∧ Rl c J S Hy B (it (fun p W => updL W p) J V) Z ∧ kY Y Z := by
  obtain ⟨Z, ⟨ja, jb⟩, l1, l2, l3, l4⟩ := lp_rel (fun k (Y : z_V) (j : Option Value × Option Value) => z_ex 133 M.1 2 [some (.ref o), some (.float V.2.1), some (.int (nI k)), j.1, j.2] [] (yS M o Y w)) (fun p W => updL W p) (fun _ V' Y' => Rl c J S Hy B V' Y' ∧ kY Y Y' ∧ V'.2.1 = V.2.1) J (by
    rintro k V' Y' ⟨ja, jb⟩ hk ⟨hR, hK, hT⟩
    have e12 := Rl_12 hR
    have hJ := (Rl_J hR).1
    have hk2 : ¬ J ≤ k := by omega
    have hb' := kY_b hK hb
    have g0 := m116 M o Y' w k 0 (by omega) (by omega)
    have g3 := m116 M o Y' w k 3 (by omega) (by omega)
    have g4 := m116 M o Y' w k 4 (by omega) (by omega)
    have hR' := hR
    obtain ⟨hC, hfl, hSB, r1, r2, r3, r4, r5, r6, r7⟩ := hR'
    have hd := hC.2.2.2.2.2.2.2.1
    by_cases hp : V'.2.2.1 3 k = mI
    · have e4 := (r3.1 k hk hp).1
      have hu : updL V' k = V' := by unfold updL; rw [if_pos hp]
      refine ⟨Y', (ja, jb), ?_, ?_⟩
      · rw [q133_2]
        simp (disch := first | omega | (simp only [sgets, reduceIte, Nat.reduceEqDiff, e12, hk2, e4, dec_S, Nat.reduceAdd]; done) | omega) only [cS_1, crd, z_pv_some, z_wv_some, z_cv_v, z_cv_n, cwr, sgets, rc_O, ia_n, fa_n, is_n, fs_n, ↓mI_eq, lits, nI_add, nLe, nLt, nE, mI_ne, mI_ne', mI_lt, mI_le, mI_nlt, mI_nle, ne_eq, mI_addC, pk_sub, pk_mul, pk_div, Nat.reduceEqDiff, Nat.reduceAdd, Nat.reduceMul, Nat.reduceSub, reduceIte, not_true_eq_false, not_false_eq_true, true_or, or_true, if_true, if_false, and_self, and_true, true_and, and_false, false_and, or_self, or_false, false_or, decide_true, decide_false, Bool.false_eq_true, Bool.true_eq_false, bI_t, bI_f, oS_1, ord, owA0, owF0, owF1, owA1, owF2, owA2, owF3, owA3, ywo, gfs11, pfs11, yrd, ywr, q133_3, q133_4, q133_7, q133_9, q133_10, q133_13, q133_14, q133_15, q133_16, q133_19, q133_20, q133_23, q133_24, q133_25, q133_26, q133_29, q133_30, q133_33, q133_34, q133_35, q133_36, q133_39, q133_42, q133_43, q133_46, q133_47, q133_48, q133_49, q133_50, q133_53, q133_56, q133_57, q133_58, q133_61, q133_62, q133_63, q133_65, q133_66, q133_69, q133_70, q133_71, q133_73, q133_74, q133_77, q133_79, q133_80, q133_82, q133_83, q133_85, q133_86, q133_87, q133_90, q133_92, q133_93, q133_95, q133_96, q133_98, q133_99, q133_100, q133_101, q133_102, q133_103, q133_104, q133_105, q133_108, q133_109, q133_110, q133_111, q133_112, q133_115, q133_116, q133_117, q133_118, q133_121, q133_122, q133_123, q133_126, q133_127, q133_130, q133_133, g0, e12, hk2, e4, dec_S, Nat.reduceAdd]
      · show Rl c J S Hy B (updL V' k) Y' ∧ kY Y Y' ∧ (updL V' k).2.1 = V.2.1
        rw [hu]
        exact ⟨hR, hK, hT⟩
    · have e4 := (r3.2.1 k hk hp).1
      obtain ⟨q, hq, hlv⟩ := hC.2.2.2.2.2.2.1 k (by omega)
      have e8 : Y'.2.2.1 8 k = V'.2.2.1 6 k := by rw [r2.2.2.1]
      have e7 : Y'.2.2.1 7 k = nI q := by rw [r2.2.1]; exact hlv
      have eF : Y'.2.2.2 0 k = V'.2.2.2 0 k := by rw [r2.2.2.2.2.2.2.2.2.2.2.2.1]
      have e9 : Y'.2.2.1 9 k = V'.2.2.1 7 k := by rw [r2.2.2.2.1]
      have h132 := m132 M o Y' w hb' q hq
      have hpow : z_ex 133 M.1 23 [some (.ref o), some (.float V.2.1), some (.int (nI k)), ja, jb] [] (yS M o Y' w) = z_ex 133 M.1 56 [some (.ref o), some (.float V.2.1), some (.int (nI k)), ja, jb] [.float (pw V' k)] (yS M o Y' w) := by
        unfold pw
        rw [hlv, nI_clamp (by omega)]
        by_cases m1 : V'.2.2.1 6 k = nI 1
        · rw [if_pos (Or.inl m1)]
          simp (disch := first | omega | (simp only [sgets, reduceIte, Nat.reduceEqDiff, e8, m1, dec_S, Nat.reduceAdd]; done) | omega) only [cS_1, crd, z_pv_some, z_wv_some, z_cv_v, z_cv_n, cwr, sgets, rc_O, ia_n, fa_n, is_n, fs_n, ↓mI_eq, lits, nI_add, nLe, nLt, nE, mI_ne, mI_ne', mI_lt, mI_le, mI_nlt, mI_nle, ne_eq, mI_addC, pk_sub, pk_mul, pk_div, Nat.reduceEqDiff, Nat.reduceAdd, Nat.reduceMul, Nat.reduceSub, reduceIte, not_true_eq_false, not_false_eq_true, true_or, or_true, if_true, if_false, and_self, and_true, true_and, and_false, false_and, or_self, or_false, false_or, decide_true, decide_false, Bool.false_eq_true, Bool.true_eq_false, bI_t, bI_f, oS_1, ord, owA0, owF0, owF1, owA1, owF2, owA2, owF3, owA3, ywo, gfs11, pfs11, yrd, ywr, q133_23, q133_24, q133_25, q133_26, q133_29, q133_30, q133_33, q133_34, q133_35, q133_36, q133_39, q133_42, q133_43, q133_46, q133_47, q133_48, q133_49, q133_50, q133_53, g4, e8, m1, dec_S, Nat.reduceAdd]
        · by_cases m2 : q = 0
          · rw [if_pos (Or.inr (by rw [m2]))]
            simp (disch := first | omega | (simp only [sgets, reduceIte, Nat.reduceEqDiff, e8, m1, e7, m2, dec_S, Nat.reduceAdd]; done) | omega) only [cS_1, crd, z_pv_some, z_wv_some, z_cv_v, z_cv_n, cwr, sgets, rc_O, ia_n, fa_n, is_n, fs_n, ↓mI_eq, lits, nI_add, nLe, nLt, nE, mI_ne, mI_ne', mI_lt, mI_le, mI_nlt, mI_nle, ne_eq, mI_addC, pk_sub, pk_mul, pk_div, Nat.reduceEqDiff, Nat.reduceAdd, Nat.reduceMul, Nat.reduceSub, reduceIte, not_true_eq_false, not_false_eq_true, true_or, or_true, if_true, if_false, and_self, and_true, true_and, and_false, false_and, or_self, or_false, false_or, decide_true, decide_false, Bool.false_eq_true, Bool.true_eq_false, bI_t, bI_f, oS_1, ord, owA0, owF0, owF1, owA1, owF2, owA2, owF3, owA3, ywo, gfs11, pfs11, yrd, ywr, q133_23, q133_24, q133_25, q133_26, q133_29, q133_30, q133_33, q133_34, q133_35, q133_36, q133_39, q133_42, q133_43, q133_46, q133_47, q133_48, q133_49, q133_50, q133_53, g4, g3, e8, m1, e7, m2, dec_S, Nat.reduceAdd]
          · rw [if_neg (by rintro (a | a); exact m1 a; rw [nE (by omega) (by omega)] at a; exact m2 a)]
            simp (disch := first | omega | (simp only [sgets, reduceIte, Nat.reduceEqDiff, e8, m1, e7, m2, dec_S, Nat.reduceAdd]; done) | omega) only [cS_1, crd, z_pv_some, z_wv_some, z_cv_v, z_cv_n, cwr, sgets, rc_O, ia_n, fa_n, is_n, fs_n, ↓mI_eq, lits, nI_add, nLe, nLt, nE, mI_ne, mI_ne', mI_lt, mI_le, mI_nlt, mI_nle, ne_eq, mI_addC, pk_sub, pk_mul, pk_div, Nat.reduceEqDiff, Nat.reduceAdd, Nat.reduceMul, Nat.reduceSub, reduceIte, not_true_eq_false, not_false_eq_true, true_or, or_true, if_true, if_false, and_self, and_true, true_and, and_false, false_and, or_self, or_false, false_or, decide_true, decide_false, Bool.false_eq_true, Bool.true_eq_false, bI_t, bI_f, oS_1, ord, owA0, owF0, owF1, owA1, owF2, owA2, owF3, owA3, ywo, gfs11, pfs11, yrd, ywr, q133_23, q133_24, q133_25, q133_26, q133_29, q133_30, q133_33, q133_34, q133_35, q133_36, q133_39, q133_42, q133_43, q133_46, q133_47, q133_48, q133_49, q133_50, q133_53, g4, g3, h132, e8, m1, e7, m2, dec_S, Nat.reduceAdd]
      obtain ⟨s1, s2, s3, s4⟩ := stepF_ok (pw_nn V' k q hq hlv) (hd k (by omega))
      have hst : stepF (pw V' k) (V'.2.2.2 0 k) = FP.fadd (V'.2.2.2 0 k) (FP.fmul (FP.fsub (pw V' k) (V'.2.2.2 0 k)) (partF (pw V' k) (V'.2.2.2 0 k))) := rfl
      have hu : updL V' k = sA (sF V' 0 (vf_upd (V'.2.2.2 0) k (stepF (pw V' k) (V'.2.2.2 0 k)))) 7 (upd (V'.2.2.1 7) k (if nI 0 ≤ Op.cmpValue (FP.fcmp (stepF (pw V' k) (V'.2.2.2 0 k)) V'.2.1) .g then nI 0 else V'.2.2.1 7 k + nI 1)) := by unfold updL; rw [if_neg hp]
      have hld := updL_ld hC.2.2.2.2.2.2.1 hd (show k < 20 by omega)
      have hR2 := Rl_ld hR (vf_upd (V'.2.2.2 0) k (stepF (pw V' k) (V'.2.2.2 0 k))) (upd (V'.2.2.1 7) k (if nI 0 ≤ Op.cmpValue (FP.fcmp (stepF (pw V' k) (V'.2.2.2 0 k)) V'.2.1) .g then nI 0 else V'.2.2.1 7 k + nI 1)) (fun p hp => by
        have := hld p hp
        rw [hu] at this
        exact this)
      have g5 := m116 M o (sF Y' 0 (vf_upd (Y'.2.2.2 0) k (stepF (pw V' k) (V'.2.2.2 0 k)))) w k 5 (by omega) (by omega)
      have g6 := fun x => m118 M o (sF Y' 0 (vf_upd (Y'.2.2.2 0) k (stepF (pw V' k) (V'.2.2.2 0 k)))) w k 5 (by omega) (by omega) x
      simp only [sgets, Nat.reduceAdd] at g5 g6
      refine ⟨sA (sF Y' 0 (vf_upd (Y'.2.2.2 0) k (stepF (pw V' k) (V'.2.2.2 0 k)))) 9 (upd (Y'.2.2.1 9) k (if nI 0 ≤ Op.cmpValue (FP.fcmp (stepF (pw V' k) (V'.2.2.2 0 k)) V'.2.1) .g then nI 0 else V'.2.2.1 7 k + nI 1)), (some (.float (pw V' k)), some (.float (V'.2.2.2 0 k))), ?_, ?_⟩
      · rw [q133_2]
        unfold partF at hst s2
        rw [hst] at s3 ⊢
        rw [hst] at g5 g6
        by_cases hc : Op.cmpValue (FP.fcmp (pw V' k) (V'.2.2.2 0 k)) .l ≤ nI 0
        · simp only [hc, if_true] at s2 s3 g5 g6 ⊢
          by_cases hc2 : nI 0 ≤ Op.cmpValue (FP.fcmp (FP.fadd (V'.2.2.2 0 k) (FP.fmul (FP.fsub (pw V' k) (V'.2.2.2 0 k)) 1040187392)) V'.2.1) .g
          · have hc3 := hc2
            rw [hT] at hc3
            simp (disch := first | omega | (simp only [sgets, reduceIte, Nat.reduceEqDiff, e12, hk2, e4, eF, e9, hc, hc2, hc3, dec_S, Nat.reduceAdd]; done) | omega) only [cS_1, crd, z_pv_some, z_wv_some, z_cv_v, z_cv_n, cwr, sgets, rc_O, ia_n, fa_n, is_n, fs_n, ↓mI_eq, lits, nI_add, nLe, nLt, nE, mI_ne, mI_ne', mI_lt, mI_le, mI_nlt, mI_nle, ne_eq, mI_addC, pk_sub, pk_mul, pk_div, Nat.reduceEqDiff, Nat.reduceAdd, Nat.reduceMul, Nat.reduceSub, reduceIte, not_true_eq_false, not_false_eq_true, true_or, or_true, if_true, if_false, and_self, and_true, true_and, and_false, false_and, or_self, or_false, false_or, decide_true, decide_false, Bool.false_eq_true, Bool.true_eq_false, bI_t, bI_f, oS_1, ord, owA0, owF0, owF1, owA1, owF2, owA2, owF3, owA3, ywo, gfs11, pfs11, yrd, ywr, q133_3, q133_4, q133_7, q133_9, q133_10, q133_13, q133_14, q133_15, q133_16, q133_19, q133_20, hpow, q133_56, q133_57, q133_58, q133_61, q133_62, q133_63, q133_65, q133_66, q133_69, q133_70, q133_71, q133_73, q133_74, q133_77, q133_79, q133_80, q133_82, q133_83, q133_85, q133_86, q133_87, q133_90, q133_92, q133_93, q133_95, q133_96, q133_98, q133_99, q133_100, q133_101, q133_102, q133_103, q133_104, q133_105, q133_108, q133_109, q133_110, q133_111, q133_112, q133_115, q133_116, q133_117, q133_118, q133_121, q133_122, q133_123, q133_126, q133_127, q133_130, q133_133, g0, g5, g6, s1, s2, s3, updF_eq, e12, hk2, e4, eF, e9, hc, hc2, hc3, dec_S, Nat.reduceAdd]
          · have hc3 := hc2
            rw [hT] at hc3
            simp (disch := first | omega | (simp only [sgets, reduceIte, Nat.reduceEqDiff, e12, hk2, e4, eF, e9, hc, hc2, hc3, dec_S, Nat.reduceAdd]; done) | omega) only [cS_1, crd, z_pv_some, z_wv_some, z_cv_v, z_cv_n, cwr, sgets, rc_O, ia_n, fa_n, is_n, fs_n, ↓mI_eq, lits, nI_add, nLe, nLt, nE, mI_ne, mI_ne', mI_lt, mI_le, mI_nlt, mI_nle, ne_eq, mI_addC, pk_sub, pk_mul, pk_div, Nat.reduceEqDiff, Nat.reduceAdd, Nat.reduceMul, Nat.reduceSub, reduceIte, not_true_eq_false, not_false_eq_true, true_or, or_true, if_true, if_false, and_self, and_true, true_and, and_false, false_and, or_self, or_false, false_or, decide_true, decide_false, Bool.false_eq_true, Bool.true_eq_false, bI_t, bI_f, oS_1, ord, owA0, owF0, owF1, owA1, owF2, owA2, owF3, owA3, ywo, gfs11, pfs11, yrd, ywr, q133_3, q133_4, q133_7, q133_9, q133_10, q133_13, q133_14, q133_15, q133_16, q133_19, q133_20, hpow, q133_56, q133_57, q133_58, q133_61, q133_62, q133_63, q133_65, q133_66, q133_69, q133_70, q133_71, q133_73, q133_74, q133_77, q133_79, q133_80, q133_82, q133_83, q133_85, q133_86, q133_87, q133_90, q133_92, q133_93, q133_95, q133_96, q133_98, q133_99, q133_100, q133_101, q133_102, q133_103, q133_104, q133_105, q133_108, q133_109, q133_110, q133_111, q133_112, q133_115, q133_116, q133_117, q133_118, q133_121, q133_122, q133_123, q133_126, q133_127, q133_130, q133_133, g0, g5, g6, s1, s2, s3, updF_eq, e12, hk2, e4, eF, e9, hc, hc2, hc3, dec_S, Nat.reduceAdd]
        · simp only [hc, if_false] at s2 s3 g5 g6 ⊢
          by_cases hc2 : nI 0 ≤ Op.cmpValue (FP.fcmp (FP.fadd (V'.2.2.2 0 k) (FP.fmul (FP.fsub (pw V' k) (V'.2.2.2 0 k)) 1056964608)) V'.2.1) .g
          · have hc3 := hc2
            rw [hT] at hc3
            simp (disch := first | omega | (simp only [sgets, reduceIte, Nat.reduceEqDiff, e12, hk2, e4, eF, e9, hc, hc2, hc3, dec_S, Nat.reduceAdd]; done) | omega) only [cS_1, crd, z_pv_some, z_wv_some, z_cv_v, z_cv_n, cwr, sgets, rc_O, ia_n, fa_n, is_n, fs_n, ↓mI_eq, lits, nI_add, nLe, nLt, nE, mI_ne, mI_ne', mI_lt, mI_le, mI_nlt, mI_nle, ne_eq, mI_addC, pk_sub, pk_mul, pk_div, Nat.reduceEqDiff, Nat.reduceAdd, Nat.reduceMul, Nat.reduceSub, reduceIte, not_true_eq_false, not_false_eq_true, true_or, or_true, if_true, if_false, and_self, and_true, true_and, and_false, false_and, or_self, or_false, false_or, decide_true, decide_false, Bool.false_eq_true, Bool.true_eq_false, bI_t, bI_f, oS_1, ord, owA0, owF0, owF1, owA1, owF2, owA2, owF3, owA3, ywo, gfs11, pfs11, yrd, ywr, q133_3, q133_4, q133_7, q133_9, q133_10, q133_13, q133_14, q133_15, q133_16, q133_19, q133_20, hpow, q133_56, q133_57, q133_58, q133_61, q133_62, q133_63, q133_65, q133_66, q133_69, q133_70, q133_71, q133_73, q133_74, q133_77, q133_79, q133_80, q133_82, q133_83, q133_85, q133_86, q133_87, q133_90, q133_92, q133_93, q133_95, q133_96, q133_98, q133_99, q133_100, q133_101, q133_102, q133_103, q133_104, q133_105, q133_108, q133_109, q133_110, q133_111, q133_112, q133_115, q133_116, q133_117, q133_118, q133_121, q133_122, q133_123, q133_126, q133_127, q133_130, q133_133, g0, g5, g6, s1, s2, s3, updF_eq, e12, hk2, e4, eF, e9, hc, hc2, hc3, dec_S, Nat.reduceAdd]
          · have hc3 := hc2
            rw [hT] at hc3
            simp (disch := first | omega | (simp only [sgets, reduceIte, Nat.reduceEqDiff, e12, hk2, e4, eF, e9, hc, hc2, hc3, dec_S, Nat.reduceAdd]; done) | omega) only [cS_1, crd, z_pv_some, z_wv_some, z_cv_v, z_cv_n, cwr, sgets, rc_O, ia_n, fa_n, is_n, fs_n, ↓mI_eq, lits, nI_add, nLe, nLt, nE, mI_ne, mI_ne', mI_lt, mI_le, mI_nlt, mI_nle, ne_eq, mI_addC, pk_sub, pk_mul, pk_div, Nat.reduceEqDiff, Nat.reduceAdd, Nat.reduceMul, Nat.reduceSub, reduceIte, not_true_eq_false, not_false_eq_true, true_or, or_true, if_true, if_false, and_self, and_true, true_and, and_false, false_and, or_self, or_false, false_or, decide_true, decide_false, Bool.false_eq_true, Bool.true_eq_false, bI_t, bI_f, oS_1, ord, owA0, owF0, owF1, owA1, owF2, owA2, owF3, owA3, ywo, gfs11, pfs11, yrd, ywr, q133_3, q133_4, q133_7, q133_9, q133_10, q133_13, q133_14, q133_15, q133_16, q133_19, q133_20, hpow, q133_56, q133_57, q133_58, q133_61, q133_62, q133_63, q133_65, q133_66, q133_69, q133_70, q133_71, q133_73, q133_74, q133_77, q133_79, q133_80, q133_82, q133_83, q133_85, q133_86, q133_87, q133_90, q133_92, q133_93, q133_95, q133_96, q133_98, q133_99, q133_100, q133_101, q133_102, q133_103, q133_104, q133_105, q133_108, q133_109, q133_110, q133_111, q133_112, q133_115, q133_116, q133_117, q133_118, q133_121, q133_122, q133_123, q133_126, q133_127, q133_130, q133_133, g0, g5, g6, s1, s2, s3, updF_eq, e12, hk2, e4, eF, e9, hc, hc2, hc3, dec_S, Nat.reduceAdd]
      · refine ⟨?_, hK.tr ⟨fun _ _ => rfl, ⟨rfl, rfl⟩, rfl, rfl⟩, ?_⟩
        · show Rl c J S Hy B (updL V' k) _
          rw [hu, r2.2.2.2.1, r2.2.2.2.2.2.2.2.2.2.2.2.1]
          exact hR2
        · show (updL V' k).2.1 = V.2.1
          rw [updL_T]; exact hT) V Y (none, none) ⟨h, kY.rf Y, rfl⟩
  refine ⟨Z, ?_, l2, l3⟩
  have e12 := Rl_12 l2
  have hJ := (Rl_J h).1
  rw [e133]
  refine Eq.trans ?_ (l1.trans ?_)
  · simp (disch := first | omega | (simp only [sgets, reduceIte, Nat.reduceEqDiff, dec_S, Nat.reduceAdd]; done) | omega) only [cS_1, crd, z_pv_some, z_wv_some, z_cv_v, z_cv_n, cwr, sgets, rc_O, ia_n, fa_n, is_n, fs_n, ↓mI_eq, lits, nI_add, nLe, nLt, nE, mI_ne, mI_ne', mI_lt, mI_le, mI_nlt, mI_nle, ne_eq, mI_addC, pk_sub, pk_mul, pk_div, Nat.reduceEqDiff, Nat.reduceAdd, Nat.reduceMul, Nat.reduceSub, reduceIte, not_true_eq_false, not_false_eq_true, true_or, or_true, if_true, if_false, and_self, and_true, true_and, and_false, false_and, or_self, or_false, false_or, decide_true, decide_false, Bool.false_eq_true, Bool.true_eq_false, bI_t, bI_f, oS_1, ord, owA0, owF0, owF1, owA1, owF2, owA2, owF3, owA3, ywo, gfs11, pfs11, yrd, ywr, q133_0, q133_1, dec_S, Nat.reduceAdd]
  · simp only
    rw [q133_2]
    simp (disch := first | omega | (simp only [sgets, reduceIte, Nat.reduceEqDiff, e12, dec_S, Nat.reduceAdd]; done) | omega) only [cS_1, crd, z_pv_some, z_wv_some, z_cv_v, z_cv_n, cwr, sgets, rc_O, ia_n, fa_n, is_n, fs_n, ↓mI_eq, lits, nI_add, nLe, nLt, nE, mI_ne, mI_ne', mI_lt, mI_le, mI_nlt, mI_nle, ne_eq, mI_addC, pk_sub, pk_mul, pk_div, Nat.reduceEqDiff, Nat.reduceAdd, Nat.reduceMul, Nat.reduceSub, reduceIte, not_true_eq_false, not_false_eq_true, true_or, or_true, if_true, if_false, and_self, and_true, true_and, and_false, false_and, or_self, or_false, false_or, decide_true, decide_false, Bool.false_eq_true, Bool.true_eq_false, bI_t, bI_f, oS_1, ord, owA0, owF0, owF1, owA1, owF2, owA2, owF3, owA3, ywo, gfs11, pfs11, yrd, ywr, q133_3, q133_4, q133_7, q133_9, q133_10, q133_13, q133_14, q133_15, q133_16, q133_19, q133_20, q133_23, q133_24, q133_25, q133_26, q133_29, q133_30, q133_33, q133_34, q133_35, q133_36, q133_39, q133_42, q133_43, q133_46, q133_47, q133_48, q133_49, q133_50, q133_53, q133_56, q133_57, q133_58, q133_61, q133_62, q133_63, q133_65, q133_66, q133_69, q133_70, q133_71, q133_73, q133_74, q133_77, q133_79, q133_80, q133_82, q133_83, q133_85, q133_86, q133_87, q133_90, q133_92, q133_93, q133_95, q133_96, q133_98, q133_99, q133_100, q133_101, q133_102, q133_103, q133_104, q133_105, q133_108, q133_109, q133_110, q133_111, q133_112, q133_115, q133_116, q133_117, q133_118, q133_121, q133_122, q133_123, q133_126, q133_127, q133_130, q133_133, q133_136, Nat.le_refl, e12, dec_S, Nat.reduceAdd]
