/-! the model's tick: the floor -/
theorem Rl_th {c J S Hy B : Nat} {V Y : z_V} (h : Rl c J S Hy B V Y) (f g : Nat → Int32) : Rl c J S Hy B (sA (sA V 14 f) 15 g) (sA (sA Y 12 f) 13 g) := by
  obtain ⟨⟨q1, q2, q3, q4, q5, q6, q7, q8, q9, q10, q11⟩, hfl, hSB, r1, r2, r3, r4, r5, r6, r7⟩ := h
  exact ⟨⟨q1, q2, q3, q4, q5, q6, q7, q8, q9, q10, q11⟩, hfl, hSB, r1, ⟨r2.1, r2.2.1, r2.2.2.1, r2.2.2.2.1, r2.2.2.2.2.1, rfl, rfl, r2.2.2.2.2.2.2.2⟩, r3, r4, r5, r6, r7⟩
theorem Rl_fx {c J S Hy B : Nat} {V Y : z_V} (h : Rl c J S Hy B V Y) {k x : Nat} (hk : k < J) (hp : ¬ V.2.2.1 3 k = mI) (hx : x < 2) : Rl c J S Hy B (sA (forg V k (nV V 11)) 13 (upd ((forg V k (nV V 11)).2.2.1 13) k (nI x))) (sA (sA Y 11 (upd (Y.2.2.1 11) k (nI x))) 14 (upd (Y.2.2.1 14) k mI)) := by
  have hJ := (Rl_J h).1
  obtain ⟨hC, hf, hSB, r1, r2, r3, r4, r5, r6, r7⟩ := h
  have kf := kF_forg hC.2.2.2.2.1 hC.2.2.2.2.2.1 k
  have e13 : upd ((forg V k (nV V 11)).2.2.1 13) k (nI x) = upd (V.2.2.1 13) k (nI x) := by
    rw [forg_13]
    funext j
    unfold upd
    by_cases c : j = k
    · rw [if_pos c, if_pos c]
    · rw [if_neg c, if_neg c, if_neg c]
  rw [e13]
  obtain ⟨t1, t2, t3, t4, t5⟩ := side (J := J) (B := B) (V := V) (V' := sA (forg V k (nV V 11)) 13 (upd (V.2.2.1 13) k (nI x))) (Y := Y) (Y' := sA (sA Y 11 (upd (Y.2.2.1 11) k (nI x))) 14 (upd (Y.2.2.1 14) k mI)) (fun i a b => forg_S _ _ _ _ a) (forg_T _ _ _) (fun i a b d e => by simp only [sgets, e, if_false]; exact forg_A _ _ _ _ b e) (forg_F _ _ _) (fun _ _ => rfl) (fun a _ _ b d _ => by simp only [sgets, b, d, if_false]) rfl r1 r2 r4 r5 r7
  have a3 : (sA (forg V k (nV V 11)) 13 (upd (V.2.2.1 13) k (nI x))).2.2.1 3 = V.2.2.1 3 := forg_A _ _ _ _ (by omega) (by omega)
  have a6 : (sA (forg V k (nV V 11)) 13 (upd (V.2.2.1 13) k (nI x))).2.2.1 6 = V.2.2.1 6 := forg_A _ _ _ _ (by omega) (by omega)
  have a13 : (sA (forg V k (nV V 11)) 13 (upd (V.2.2.1 13) k (nI x))).2.2.1 13 = upd (V.2.2.1 13) k (nI x) := rfl
  refine ⟨?_, ?_, hSB, t1, t2, ⟨?_, ?_, ?_, ?_, ?_, ?_, ?_⟩, t3, t4, ?_, t5⟩
  · have := okC_kF hC kf
    obtain ⟨q1, q2, q3, q4, q5, q6, q7, q8, q9, q10, q11⟩ := this
    exact ⟨q1, q2, q3, q4, q5, q6, q7, q8, q9, q10, q11⟩
  · obtain ⟨f, hf⟩ := hf
    exact ⟨f, (forg_S _ _ _ _ (by omega)).trans hf⟩
  · intro p hp2 hm
    rw [a3] at hm
    rw [a13]
    by_cases cp : p = k
    · subst cp; exact absurd hm hp
    · rw [upd_ne _ _ cp]; exact r3.1 p hp2 hm
  · intro p hp2 hm
    rw [a3] at hm
    rw [a13, a3]
    show Y.2.2.1 4 p = nI 1 ∧ Y.2.2.1 6 p = V.2.2.1 3 p ∧ upd (Y.2.2.1 11) k (nI x) p = upd (V.2.2.1 13) k (nI x) p ∧ ∃ d, d < B ∧ V.2.2.1 3 p = nI d
    obtain ⟨k1, k2, k3, k4⟩ := r3.2.1 p hp2 hm
    by_cases cp : p = k
    · subst cp; rw [upd_eq, upd_eq]; exact ⟨k1, k2, rfl, k4⟩
    · rw [upd_ne _ _ cp, upd_ne _ _ cp]; exact ⟨k1, k2, k3, k4⟩
  · intro p hp2 hJp
    rw [a13]
    show Y.2.2.1 4 p = nI 0 ∧ upd (Y.2.2.1 11) k (nI x) p = nI 0 ∧ upd (V.2.2.1 13) k (nI x) p = nI 0
    rw [upd_ne _ _ (by omega), upd_ne _ _ (by omega)]
    exact r3.2.2.1 p hp2 hJp
  · intro p hp2
    rw [a13]
    by_cases cp : p = k
    · subst cp; rw [upd_eq]
      rcases (show x = 0 ∨ x = 1 by omega) with rfl | rfl
      · exact Or.inl rfl
      · exact Or.inr rfl
    · rw [upd_ne _ _ cp]; exact r3.2.2.2.1 p hp2
  · rw [a3]
    exact (forg_S _ _ _ _ (by omega)).trans r3.2.2.2.2.1
  · rw [a3]
    exact r3.2.2.2.2.2.1
  · rw [a6]
    exact r3.2.2.2.2.2.2
  · refine rQ_rem r6 hJ hk rfl rfl (forg_A _ _ _ _ (by omega) (by omega)) ?_ ?_ rfl ?_ (fun _ _ => rfl) ?_
    · intro r hr
      rw [a13, upd_ne _ _ hr]
    · intro r hr
      rw [a3]
    · intro r hr
      show upd (Y.2.2.1 14) k mI r = Y.2.2.1 14 r
      rw [upd_ne _ _ hr]
    · intro _
      show upd (Y.2.2.1 14) k mI k = mI
      rw [upd_eq]
theorem upd_self {f : Nat → Int32} {k : Nat} {x : Int32} (h : f k = x) : upd f k x = f := by
  funext j
  unfold upd
  by_cases c : j = k
  · rw [if_pos c, c, h]
  · rw [if_neg c]
theorem Rl_f0 {c J S Hy B : Nat} {V Y : z_V} (h : Rl c J S Hy B V Y) {k : Nat} (hk : k < J) (hp : ¬ V.2.2.1 3 k = mI) (h14 : Y.2.2.1 14 k = mI) : Rl c J S Hy B (forg V k (nV V 11)) (sA Y 11 (upd (Y.2.2.1 11) k (nI 0))) := by
  have h1 := Rl_fx h hk hp (show 0 < 2 by omega)
  rw [upd_self h14, upd_self (f := (forg V k (nV V 11)).2.2.1 13) (by rw [forg_13, upd_eq]), sA_idV] at h1
  have e := sA_idV (sA Y 11 (upd (Y.2.2.1 11) k (nI 0))) 14
  rw [show (sA Y 11 (upd (Y.2.2.1 11) k (nI 0))).2.2.1 14 = Y.2.2.1 14 from rfl] at e
  rw [e] at h1
  exact h1
theorem th_tail (M : z_M) (o : Nat) (w : Int64) {c J S Hy B : Nat} {V Y : z_V} (h : Rl c J S Hy B V Y) (t : UInt32) {k : Nat} (hk : k < J) (hp : ¬ V.2.2.1 3 k = mI) (h13 : V.2.2.1 13 k = nI 1) : ∃ Z, z_ex 134 M.1 81 [some (.ref o), some (.float t), some (.int (nI k))] [] (yS M o Y w) = z_ex 134 M.1 163 [some (.ref o), some (.float t), some (.int (nI k))] [] (yS M o Z w) ∧ Rl c J S Hy B (if ¬ V.2.2.1 15 k ≤ V.1 6 then evAdd (forg V k (nV V 11)) (nI 3) (nI k) (V.1 0) else if ¬ V.1 7 ≤ nI 0 ∧ ¬ V.2.2.1 14 k < V.1 7 ∧ ¬ V.1 11 ≤ nI 0 then evAdd (forg V k (nV V 11)) (nI 4) (nI k) (V.1 0) else V) Z ∧ kY Y Z := by
  have hJ := (Rl_J h).1
  have h14 := (rQ_14 h.2.2.2.2.2.2.2.2.1 hJ hk hp).2 h13
  have g9 := m116 M o Y w k 9 (by omega) (by omega)
  have g8 := m116 M o Y w k 8 (by omega) (by omega)
  have g7 := m118 M o Y w k 7 (by omega) (by omega) (nI 0)
  have h128 := m128 M o w h
  have hF := Rl_f0 h hk hp h14
  simp only [Nat.reduceAdd] at g7 g8 g9
  have n3 := m135r M o w hF (nI 3) (nI k)
  have n4 := m135r M o w hF (nI 4) (nI k)
  have r3 := Rl_ev hF (nI 3) (nI k)
  have r4 := Rl_ev hF (nI 4) (nI k)
  rw [forg_S _ _ _ _ (by omega)] at r3 r4
  have hk3 := fun x => (show kY Y (sA Y 11 (upd (Y.2.2.1 11) k (nI 0))) from ⟨fun _ _ => rfl, ⟨rfl, rfl⟩, rfl, rfl⟩).tr (kY_note (sA Y 11 (upd (Y.2.2.1 11) k (nI 0))) x (nI k))
  have hR := h
  obtain ⟨hC, hf, hSB, r1, r2, -⟩ := h
  have e13 : Y.2.2.1 13 k = V.2.2.1 15 k := by rw [r2.2.2.2.2.2.2.1]
  have e12 : Y.2.2.1 12 k = V.2.2.1 14 k := by rw [r2.2.2.2.2.2.1]
  have y6 : Y.1 6 = V.1 6 := r1.2.2.2.2.2.2.1
  have y7 : Y.1 7 = V.1 7 := r1.2.2.2.2.2.2.2.1
  by_cases d1 : V.2.2.1 15 k ≤ V.1 6
  · rw [if_neg (by simp [d1])]
    by_cases d2 : V.1 7 ≤ nI 0
    · rw [if_neg (fun q => q.1 d2)]
      refine ⟨Y, ?_, hR, kY.rf Y⟩
      simp (disch := first | omega | (simp only [sgets, reduceIte, Nat.reduceEqDiff, e12, e13, y6, y7, d1, d2, dec_S, Nat.reduceAdd]; done) | omega) only [cS_1, crd, z_pv_some, z_wv_some, z_cv_v, z_cv_n, cwr, sgets, rc_O, ia_n, fa_n, is_n, fs_n, ↓mI_eq, lits, nI_add, nLe, nLt, nE, mI_ne, mI_ne', mI_lt, mI_le, mI_nlt, mI_nle, ne_eq, mI_addC, pk_sub, pk_mul, pk_div, Nat.reduceEqDiff, Nat.reduceAdd, Nat.reduceMul, Nat.reduceSub, reduceIte, not_true_eq_false, not_false_eq_true, true_or, or_true, if_true, if_false, and_self, and_true, true_and, and_false, false_and, or_self, or_false, false_or, decide_true, decide_false, Bool.false_eq_true, Bool.true_eq_false, bI_t, bI_f, oS_1, ord, owA0, owF0, owF1, owA1, owF2, owA2, owF3, owA3, ywo, gfs11, pfs11, yrd, ywr, q134_81, q134_82, q134_83, q134_85, q134_88, q134_89, q134_92, q134_94, q134_95, q134_98, q134_99, q134_100, q134_102, q134_103, q134_106, q134_107, q134_108, q134_109, q134_112, q134_115, q134_116, q134_119, q134_121, q134_122, q134_125, q134_126, q134_127, q134_129, q134_132, q134_133, q134_136, q134_138, q134_139, q134_142, q134_143, q134_146, q134_149, q134_150, q134_151, q134_153, q134_154, q134_157, q134_158, q134_159, q134_160, g9, g8, h128, g7, n3, n4, e12, e13, y6, y7, d1, d2, dec_S, Nat.reduceAdd]
    · by_cases d3 : V.2.2.1 14 k < V.1 7
      · rw [if_neg (fun q => q.2.1 d3)]
        refine ⟨Y, ?_, hR, kY.rf Y⟩
        simp (disch := first | omega | (simp only [sgets, reduceIte, Nat.reduceEqDiff, e12, e13, y6, y7, d1, d2, d3, dec_S, Nat.reduceAdd]; done) | omega) only [cS_1, crd, z_pv_some, z_wv_some, z_cv_v, z_cv_n, cwr, sgets, rc_O, ia_n, fa_n, is_n, fs_n, ↓mI_eq, lits, nI_add, nLe, nLt, nE, mI_ne, mI_ne', mI_lt, mI_le, mI_nlt, mI_nle, ne_eq, mI_addC, pk_sub, pk_mul, pk_div, Nat.reduceEqDiff, Nat.reduceAdd, Nat.reduceMul, Nat.reduceSub, reduceIte, not_true_eq_false, not_false_eq_true, true_or, or_true, if_true, if_false, and_self, and_true, true_and, and_false, false_and, or_self, or_false, false_or, decide_true, decide_false, Bool.false_eq_true, Bool.true_eq_false, bI_t, bI_f, oS_1, ord, owA0, owF0, owF1, owA1, owF2, owA2, owF3, owA3, ywo, gfs11, pfs11, yrd, ywr, q134_81, q134_82, q134_83, q134_85, q134_88, q134_89, q134_92, q134_94, q134_95, q134_98, q134_99, q134_100, q134_102, q134_103, q134_106, q134_107, q134_108, q134_109, q134_112, q134_115, q134_116, q134_119, q134_121, q134_122, q134_125, q134_126, q134_127, q134_129, q134_132, q134_133, q134_136, q134_138, q134_139, q134_142, q134_143, q134_146, q134_149, q134_150, q134_151, q134_153, q134_154, q134_157, q134_158, q134_159, q134_160, g9, g8, h128, g7, n3, n4, e12, e13, y6, y7, d1, d2, d3, dec_S, Nat.reduceAdd]
      · by_cases d4 : V.1 11 ≤ nI 0
        · rw [if_neg (fun q => q.2.2 d4)]
          refine ⟨Y, ?_, hR, kY.rf Y⟩
          simp (disch := first | omega | (simp only [sgets, reduceIte, Nat.reduceEqDiff, e12, e13, y6, y7, d1, d2, d3, d4, dec_S, Nat.reduceAdd]; done) | omega) only [cS_1, crd, z_pv_some, z_wv_some, z_cv_v, z_cv_n, cwr, sgets, rc_O, ia_n, fa_n, is_n, fs_n, ↓mI_eq, lits, nI_add, nLe, nLt, nE, mI_ne, mI_ne', mI_lt, mI_le, mI_nlt, mI_nle, ne_eq, mI_addC, pk_sub, pk_mul, pk_div, Nat.reduceEqDiff, Nat.reduceAdd, Nat.reduceMul, Nat.reduceSub, reduceIte, not_true_eq_false, not_false_eq_true, true_or, or_true, if_true, if_false, and_self, and_true, true_and, and_false, false_and, or_self, or_false, false_or, decide_true, decide_false, Bool.false_eq_true, Bool.true_eq_false, bI_t, bI_f, oS_1, ord, owA0, owF0, owF1, owA1, owF2, owA2, owF3, owA3, ywo, gfs11, pfs11, yrd, ywr, q134_81, q134_82, q134_83, q134_85, q134_88, q134_89, q134_92, q134_94, q134_95, q134_98, q134_99, q134_100, q134_102, q134_103, q134_106, q134_107, q134_108, q134_109, q134_112, q134_115, q134_116, q134_119, q134_121, q134_122, q134_125, q134_126, q134_127, q134_129, q134_132, q134_133, q134_136, q134_138, q134_139, q134_142, q134_143, q134_146, q134_149, q134_150, q134_151, q134_153, q134_154, q134_157, q134_158, q134_159, q134_160, g9, g8, h128, g7, n3, n4, e12, e13, y6, y7, d1, d2, d3, d4, dec_S, Nat.reduceAdd]
        · rw [if_pos ⟨d2, d3, d4⟩]
          refine ⟨noteY (sA Y 11 (upd (Y.2.2.1 11) k (nI 0))) (nI 4) (nI k), ?_, r4, hk3 _⟩
          simp (disch := first | omega | (simp only [sgets, reduceIte, Nat.reduceEqDiff, e12, e13, y6, y7, d1, d2, d3, d4, dec_S, Nat.reduceAdd]; done) | omega) only [cS_1, crd, z_pv_some, z_wv_some, z_cv_v, z_cv_n, cwr, sgets, rc_O, ia_n, fa_n, is_n, fs_n, ↓mI_eq, lits, nI_add, nLe, nLt, nE, mI_ne, mI_ne', mI_lt, mI_le, mI_nlt, mI_nle, ne_eq, mI_addC, pk_sub, pk_mul, pk_div, Nat.reduceEqDiff, Nat.reduceAdd, Nat.reduceMul, Nat.reduceSub, reduceIte, not_true_eq_false, not_false_eq_true, true_or, or_true, if_true, if_false, and_self, and_true, true_and, and_false, false_and, or_self, or_false, false_or, decide_true, decide_false, Bool.false_eq_true, Bool.true_eq_false, bI_t, bI_f, oS_1, ord, owA0, owF0, owF1, owA1, owF2, owA2, owF3, owA3, ywo, gfs11, pfs11, yrd, ywr, q134_81, q134_82, q134_83, q134_85, q134_88, q134_89, q134_92, q134_94, q134_95, q134_98, q134_99, q134_100, q134_102, q134_103, q134_106, q134_107, q134_108, q134_109, q134_112, q134_115, q134_116, q134_119, q134_121, q134_122, q134_125, q134_126, q134_127, q134_129, q134_132, q134_133, q134_136, q134_138, q134_139, q134_142, q134_143, q134_146, q134_149, q134_150, q134_151, q134_153, q134_154, q134_157, q134_158, q134_159, q134_160, g9, g8, h128, g7, n3, n4, e12, e13, y6, y7, d1, d2, d3, d4, dec_S, Nat.reduceAdd]
  · rw [if_pos d1]
    refine ⟨noteY (sA Y 11 (upd (Y.2.2.1 11) k (nI 0))) (nI 3) (nI k), ?_, r3, hk3 _⟩
    simp (disch := first | omega | (simp only [sgets, reduceIte, Nat.reduceEqDiff, e12, e13, y6, y7, d1, dec_S, Nat.reduceAdd]; done) | omega) only [cS_1, crd, z_pv_some, z_wv_some, z_cv_v, z_cv_n, cwr, sgets, rc_O, ia_n, fa_n, is_n, fs_n, ↓mI_eq, lits, nI_add, nLe, nLt, nE, mI_ne, mI_ne', mI_lt, mI_le, mI_nlt, mI_nle, ne_eq, mI_addC, pk_sub, pk_mul, pk_div, Nat.reduceEqDiff, Nat.reduceAdd, Nat.reduceMul, Nat.reduceSub, reduceIte, not_true_eq_false, not_false_eq_true, true_or, or_true, if_true, if_false, and_self, and_true, true_and, and_false, false_and, or_self, or_false, false_or, decide_true, decide_false, Bool.false_eq_true, Bool.true_eq_false, bI_t, bI_f, oS_1, ord, owA0, owF0, owF1, owA1, owF2, owA2, owF3, owA3, ywo, gfs11, pfs11, yrd, ywr, q134_81, q134_82, q134_83, q134_85, q134_88, q134_89, q134_92, q134_94, q134_95, q134_98, q134_99, q134_100, q134_102, q134_103, q134_106, q134_107, q134_108, q134_109, q134_112, q134_115, q134_116, q134_119, q134_121, q134_122, q134_125, q134_126, q134_127, q134_129, q134_132, q134_133, q134_136, q134_138, q134_139, q134_142, q134_143, q134_146, q134_149, q134_150, q134_151, q134_153, q134_154, q134_157, q134_158, q134_159, q134_160, g9, g8, h128, g7, n3, n4, e12, e13, y6, y7, d1, dec_S, Nat.reduceAdd]
theorem th_all (M : z_M) (o : Nat) (w : Int64) {c J S Hy B : Nat} {V Y : z_V} (h : Rl c J S Hy B V Y) : ∃ Z, z_ex 134 M.1 2 [some (.ref o), some (.float V.2.1), some (.int (nI 0))] [] (yS M o Y w) = z_ex 134 M.1 169 [some (.ref o), some (.float V.2.1), some (.int (nI J))] [] (yS M o Z w) ∧ Rl c J S Hy B (it tHs J V) Z ∧ kY Y Z := by
  obtain ⟨Z, -, l1, l2, l3, l4⟩ := lp_rel (fun k (Y : z_V) (_ : Unit) => z_ex 134 M.1 2 [some (.ref o), some (.float V.2.1), some (.int (nI k))] [] (yS M o Y w)) tHs (fun _ V' Y' => Rl c J S Hy B V' Y' ∧ kY Y Y' ∧ V'.2.1 = V.2.1) J (by
    rintro k V' Y' - hk ⟨hR, hK, hT⟩
    have e12 := Rl_12 hR
    have hJ := (Rl_J hR).1
    have hk2 : ¬ J ≤ k := by omega
    have g0 := m116 M o Y' w k 0 (by omega) (by omega)
    have g7 := m116 M o Y' w k 7 (by omega) (by omega)
    have hR' := hR
    obtain ⟨hC, hfl, hSB, r1, r2, r3, r4, r5, r6, r7⟩ := hR'
    have kt := (kF_tHs hC.2.2.2.2.1 hC.2.2.2.2.2.1 k).2.2.2.1
    by_cases h1 : V'.2.2.1 13 k = nI 1
    · have hp : ¬ V'.2.2.1 3 k = mI := by
        intro hm
        have := (r3.1 k hk hm).2
        rw [h1, nE (by omega) (by omega)] at this
        omega
      obtain ⟨e4, -, e11, -⟩ := r3.2.1 k hk hp
      rw [h1] at e11
      have g8 := m116 M o Y' w k 8 (by omega) (by omega)
      have i12 : Y'.2.2.1 12 k = V'.2.2.1 14 k := by rw [r2.2.2.2.2.2.1]
      have i13 : Y'.2.2.1 13 k = V'.2.2.1 15 k := by rw [r2.2.2.2.2.2.2.1]
      have eF : Y'.2.2.2 0 k = V'.2.2.2 0 k := by rw [r2.2.2.2.2.2.2.2.2.2.2.2.1]
      have s8 := m118 M o Y' w k 8 (by omega) (by omega) (V'.2.2.1 14 k + nI 1)
      simp only [Nat.reduceAdd] at s8 g8
      have g9 := m116 M o (sA Y' 12 (upd (Y'.2.2.1 12) k (V'.2.2.1 14 k + nI 1))) w k 9 (by omega) (by omega)
      have s9 := fun x => m118 M o (sA Y' 12 (upd (Y'.2.2.1 12) k (V'.2.2.1 14 k + nI 1))) w k 9 (by omega) (by omega) x
      simp only [sgets, Nat.reduceAdd, Nat.reduceEqDiff, if_false] at g9 s9
      have hA := Rl_th hR (upd (V'.2.2.1 14) k (V'.2.2.1 14 k + nI 1)) (upd (V'.2.2.1 15) k (if nI 0 ≤ Op.cmpValue (FP.fcmp (V'.2.2.2 0 k) V'.2.1) .g then nI 0 else V'.2.2.1 15 k + nI 1))
      have hA2 : Rl c J S Hy B (tHa V' k) (sA (sA Y' 12 (upd (Y'.2.2.1 12) k (V'.2.2.1 14 k + nI 1))) 13 (upd (Y'.2.2.1 13) k (if nI 0 ≤ Op.cmpValue (FP.fcmp (V'.2.2.2 0 k) V'.2.1) .g then nI 0 else V'.2.2.1 15 k + nI 1))) := by
        rw [r2.2.2.2.2.2.1, r2.2.2.2.2.2.2.1]
        exact hA
      obtain ⟨Z, z1, z2, z3⟩ := th_tail M o w hA2 V.2.1 hk hp h1
      refine ⟨Z, (), ?_, ?_, ?_, ?_⟩
      · rw [q134_2]
        by_cases hc : nI 0 ≤ Op.cmpValue (FP.fcmp (V'.2.2.2 0 k) V'.2.1) .g
        · have hc3 := hc
          rw [hT] at hc3
          simp only [hc, if_true] at z1
          simp (disch := first | omega | (simp only [sgets, reduceIte, Nat.reduceEqDiff, e12, hk2, e4, e11, i12, i13, eF, hc3, dec_S, Nat.reduceAdd]; done) | omega) only [cS_1, crd, z_pv_some, z_wv_some, z_cv_v, z_cv_n, cwr, sgets, rc_O, ia_n, fa_n, is_n, fs_n, ↓mI_eq, lits, nI_add, nLe, nLt, nE, mI_ne, mI_ne', mI_lt, mI_le, mI_nlt, mI_nle, ne_eq, mI_addC, pk_sub, pk_mul, pk_div, Nat.reduceEqDiff, Nat.reduceAdd, Nat.reduceMul, Nat.reduceSub, reduceIte, not_true_eq_false, not_false_eq_true, true_or, or_true, if_true, if_false, and_self, and_true, true_and, and_false, false_and, or_self, or_false, false_or, decide_true, decide_false, Bool.false_eq_true, Bool.true_eq_false, bI_t, bI_f, oS_1, ord, owA0, owF0, owF1, owA1, owF2, owA2, owF3, owA3, ywo, gfs11, pfs11, yrd, ywr, q134_3, q134_4, q134_7, q134_9, q134_10, q134_13, q134_14, q134_15, q134_16, q134_19, q134_20, q134_23, q134_24, q134_25, q134_27, q134_30, q134_31, q134_34, q134_35, q134_36, q134_38, q134_39, q134_40, q134_42, q134_45, q134_46, q134_47, q134_50, q134_51, q134_52, q134_54, q134_55, q134_58, q134_59, q134_60, q134_61, q134_62, q134_65, q134_66, q134_67, q134_69, q134_72, q134_73, q134_74, q134_77, q134_78, g0, g7, g8, g9, s8, s9, z1, q134_163, q134_166, e12, hk2, e4, e11, i12, i13, eF, hc3, dec_S, Nat.reduceAdd]
        · have hc3 := hc
          rw [hT] at hc3
          simp only [hc, if_false] at z1
          simp (disch := first | omega | (simp only [sgets, reduceIte, Nat.reduceEqDiff, e12, hk2, e4, e11, i12, i13, eF, hc3, dec_S, Nat.reduceAdd]; done) | omega) only [cS_1, crd, z_pv_some, z_wv_some, z_cv_v, z_cv_n, cwr, sgets, rc_O, ia_n, fa_n, is_n, fs_n, ↓mI_eq, lits, nI_add, nLe, nLt, nE, mI_ne, mI_ne', mI_lt, mI_le, mI_nlt, mI_nle, ne_eq, mI_addC, pk_sub, pk_mul, pk_div, Nat.reduceEqDiff, Nat.reduceAdd, Nat.reduceMul, Nat.reduceSub, reduceIte, not_true_eq_false, not_false_eq_true, true_or, or_true, if_true, if_false, and_self, and_true, true_and, and_false, false_and, or_self, or_false, false_or, decide_true, decide_false, Bool.false_eq_true, Bool.true_eq_false, bI_t, bI_f, oS_1, ord, owA0, owF0, owF1, owA1, owF2, owA2, owF3, owA3, ywo, gfs11, pfs11, yrd, ywr, q134_3, q134_4, q134_7, q134_9, q134_10, q134_13, q134_14, q134_15, q134_16, q134_19, q134_20, q134_23, q134_24, q134_25, q134_27, q134_30, q134_31, q134_34, q134_35, q134_36, q134_38, q134_39, q134_40, q134_42, q134_45, q134_46, q134_47, q134_50, q134_51, q134_52, q134_54, q134_55, q134_58, q134_59, q134_60, q134_61, q134_62, q134_65, q134_66, q134_67, q134_69, q134_72, q134_73, q134_74, q134_77, q134_78, g0, g7, g8, g9, s8, s9, z1, q134_163, q134_166, e12, hk2, e4, e11, i12, i13, eF, hc3, dec_S, Nat.reduceAdd]
      · have hu : tHs k V' = tH V' k := by unfold tHs; rw [if_pos h1]
        rw [hu]
        exact z2
      · exact hK.tr ((show kY Y' _ from ⟨fun _ _ => rfl, ⟨rfl, rfl⟩, rfl, rfl⟩ : kY Y' (sA (sA Y' 12 (upd (Y'.2.2.1 12) k (V'.2.2.1 14 k + nI 1))) 13 (upd (Y'.2.2.1 13) k (if nI 0 ≤ Op.cmpValue (FP.fcmp (V'.2.2.2 0 k) V'.2.1) .g then nI 0 else V'.2.2.1 15 k + nI 1)))).tr z3)
      · exact kt.trans hT
    · have hu : tHs k V' = V' := by unfold tHs; rw [if_neg h1]
      refine ⟨Y', (), ?_, ?_⟩
      · rw [q134_2]
        by_cases hp : V'.2.2.1 3 k = mI
        · have e4 := (r3.1 k hk hp).1
          simp (disch := first | omega | (simp only [sgets, reduceIte, Nat.reduceEqDiff, e12, hk2, e4, dec_S, Nat.reduceAdd]; done) | omega) only [cS_1, crd, z_pv_some, z_wv_some, z_cv_v, z_cv_n, cwr, sgets, rc_O, ia_n, fa_n, is_n, fs_n, ↓mI_eq, lits, nI_add, nLe, nLt, nE, mI_ne, mI_ne', mI_lt, mI_le, mI_nlt, mI_nle, ne_eq, mI_addC, pk_sub, pk_mul, pk_div, Nat.reduceEqDiff, Nat.reduceAdd, Nat.reduceMul, Nat.reduceSub, reduceIte, not_true_eq_false, not_false_eq_true, true_or, or_true, if_true, if_false, and_self, and_true, true_and, and_false, false_and, or_self, or_false, false_or, decide_true, decide_false, Bool.false_eq_true, Bool.true_eq_false, bI_t, bI_f, oS_1, ord, owA0, owF0, owF1, owA1, owF2, owA2, owF3, owA3, ywo, gfs11, pfs11, yrd, ywr, q134_3, q134_4, q134_7, q134_9, q134_10, q134_13, q134_14, q134_15, q134_16, q134_19, q134_20, q134_23, q134_24, q134_25, q134_27, q134_30, q134_31, g0, g7, q134_163, q134_166, e12, hk2, e4, dec_S, Nat.reduceAdd]
        · obtain ⟨e4, -, e11, -⟩ := r3.2.1 k hk hp
          have h1' : ¬ Y'.2.2.1 11 k = nI 1 := by rw [e11]; exact h1
          simp (disch := first | omega | (simp only [sgets, reduceIte, Nat.reduceEqDiff, e12, hk2, e4, h1', dec_S, Nat.reduceAdd]; done) | omega) only [cS_1, crd, z_pv_some, z_wv_some, z_cv_v, z_cv_n, cwr, sgets, rc_O, ia_n, fa_n, is_n, fs_n, ↓mI_eq, lits, nI_add, nLe, nLt, nE, mI_ne, mI_ne', mI_lt, mI_le, mI_nlt, mI_nle, ne_eq, mI_addC, pk_sub, pk_mul, pk_div, Nat.reduceEqDiff, Nat.reduceAdd, Nat.reduceMul, Nat.reduceSub, reduceIte, not_true_eq_false, not_false_eq_true, true_or, or_true, if_true, if_false, and_self, and_true, true_and, and_false, false_and, or_self, or_false, false_or, decide_true, decide_false, Bool.false_eq_true, Bool.true_eq_false, bI_t, bI_f, oS_1, ord, owA0, owF0, owF1, owA1, owF2, owA2, owF3, owA3, ywo, gfs11, pfs11, yrd, ywr, q134_3, q134_4, q134_7, q134_9, q134_10, q134_13, q134_14, q134_15, q134_16, q134_19, q134_20, q134_23, q134_24, q134_25, q134_27, q134_30, q134_31, g0, g7, q134_163, q134_166, e12, hk2, e4, h1', dec_S, Nat.reduceAdd]
      · rw [hu]
        exact ⟨hR, hK, hT⟩) V Y () ⟨h, kY.rf Y, rfl⟩
  have e12 := Rl_12 l2
  have hJ := (Rl_J l2).1
  refine ⟨Z, l1.trans ?_, l2, l3⟩
  rw [q134_2]
  simp (disch := first | omega | (simp only [sgets, reduceIte, Nat.reduceEqDiff, e12, dec_S, Nat.reduceAdd]; done) | omega) only [cS_1, crd, z_pv_some, z_wv_some, z_cv_v, z_cv_n, cwr, sgets, rc_O, ia_n, fa_n, is_n, fs_n, ↓mI_eq, lits, nI_add, nLe, nLt, nE, mI_ne, mI_ne', mI_lt, mI_le, mI_nlt, mI_nle, ne_eq, mI_addC, pk_sub, pk_mul, pk_div, Nat.reduceEqDiff, Nat.reduceAdd, Nat.reduceMul, Nat.reduceSub, reduceIte, not_true_eq_false, not_false_eq_true, true_or, or_true, if_true, if_false, and_self, and_true, true_and, and_false, false_and, or_self, or_false, false_or, decide_true, decide_false, Bool.false_eq_true, Bool.true_eq_false, bI_t, bI_f, oS_1, ord, owA0, owF0, owF1, owA1, owF2, owA2, owF3, owA3, ywo, gfs11, pfs11, yrd, ywr, q134_3, q134_4, q134_7, q134_9, q134_10, Nat.le_refl, e12, dec_S, Nat.reduceAdd]
/-! holders -/
theorem sum_cnt {f : Nat → Int32} {n : Nat} (h : ∀ p, p < n → f p = nI 0 ∨ f p = nI 1) : sumI f n = nI (cnt (fun k => decide (f k = nI 1)) n) := by
  induction n with
  | zero => rfl
  | succ n ih =>
    have e : sumI f (n + 1) = sumI f n + f n := rfl
    rw [e, ih (fun p hp => h p (by omega)), cnt_s]
    rcases h n (by omega) with c | c
    · have h01 : ¬ nI 0 = nI 1 := by decide
      rw [c, nI_add]
      simp [h01]
    · rw [c, nI_add]
      simp
theorem cnt_ext {P : Nat → Bool} {J n : Nat} (hJ : J ≤ n) (h : ∀ p, J ≤ p → p < n → P p = false) : cnt P n = cnt P J := by
  induction n with
  | zero => rw [show J = 0 by omega]
  | succ n ih =>
    by_cases c : J = n + 1
    · rw [c]
    · rw [cnt_s, ih (by omega) (fun p a b => h p a (by omega)), h n (by omega) (by omega)]
      simp
theorem hol_cnt {c J S Hy B : Nat} {V Y : z_V} (h : Rl c J S Hy B V Y) : sumI (V.2.2.1 13) 20 = nI (cnt (fun k => decide (Y.2.2.1 4 k = nI 1 ∧ Y.2.2.1 (4 + 7) k = nI 1)) J) := by
  have hJ := (Rl_J h).1
  obtain ⟨hC, hf, hSB, r1, r2, r3, -⟩ := h
  rw [sum_cnt r3.2.2.2.1, cnt_ext (J := J) (by omega) (fun p a b => by rw [(r3.2.2.1 p b a).2.2, decide_eq_false_iff_not, nE (by omega) (by omega)]; omega)]
  congr 1
  apply cnt_congr
  intro k hk
  show _ = decide (Y.2.2.1 4 k = nI 1 ∧ Y.2.2.1 11 k = nI 1)
  by_cases hp : V.2.2.1 3 k = mI
  · obtain ⟨a1, a2⟩ := r3.1 k hk hp
    rw [a1, a2]
    simp only [nE (show 0 < 2 ^ 31 by omega) (show 1 < 2 ^ 31 by omega)]
    simp
  · obtain ⟨a1, -, a3, -⟩ := r3.2.1 k hk hp
    rw [a1, a3]
    simp
theorem Rl_gr {c J S Hy B : Nat} {V Y : z_V} (h : Rl c J S Hy B V Y) {k : Nat} (hk : k < J) (hp : ¬ V.2.2.1 3 k = mI) : Rl c J S Hy B (grantF V k (nV V 11)) (sA (sA (sA (sA Y 11 (upd (Y.2.2.1 11) k (nI 1))) 12 (upd (Y.2.2.1 12) k (nI 0))) 13 (upd (Y.2.2.1 13) k (nI 0))) 14 (upd (Y.2.2.1 14) k mI)) := by
  have h1 := Rl_fx h hk hp (show 1 < 2 by omega)
  have h2 := Rl_th h1 (upd ((forg V k (nV V 11)).2.2.1 14) k (nI 0)) (upd ((forg V k (nV V 11)).2.2.1 15) k (nI 0))
  have r2 := h.2.2.2.2.1
  have e : sA (sA (sA (sA Y 11 (upd (Y.2.2.1 11) k (nI 1))) 14 (upd (Y.2.2.1 14) k mI)) 12 (upd ((forg V k (nV V 11)).2.2.1 14) k (nI 0))) 13 (upd ((forg V k (nV V 11)).2.2.1 15) k (nI 0)) = sA (sA (sA (sA Y 11 (upd (Y.2.2.1 11) k (nI 1))) 12 (upd (Y.2.2.1 12) k (nI 0))) 13 (upd (Y.2.2.1 13) k (nI 0))) 14 (upd (Y.2.2.1 14) k mI) := by
    rw [forg_A _ _ _ _ (by omega) (by omega), forg_A _ _ _ _ (by omega) (by omega), r2.2.2.2.2.2.1, r2.2.2.2.2.2.2.1]
    refine V_ext rfl rfl (funext fun j => ?_) rfl
    simp only [sgets]
    by_cases c1 : j = 14
    · subst c1; rfl
    · by_cases c2 : j = 13
      · subst c2; rfl
      · simp only [c1, c2, if_false]
  rw [e] at h2
  exact h2
theorem grant_13 (V : z_V) (p W : Nat) : (grantF V p W).2.2.1 13 = upd (V.2.2.1 13) p (nI 1) := by
  unfold grantF
  simp only [sgets, Nat.reduceEqDiff, if_true, if_false]
  rw [forg_13]
  funext j
  unfold upd
  by_cases c : j = p
  · rw [if_pos c, if_pos c]
  · rw [if_neg c, if_neg c, if_neg c]
theorem gr_all (M : z_M) (o : Nat) (w : Int64) {c J S Hy B : Nat} (hc : c < 2 ^ 31) (t : UInt32) : ∀ (k : Nat) (s : Int32) (V Y : z_V), Rl c J S Hy B V Y → nV V 11 = k → s = sumI (V.2.2.1 13) 20 → ∃ Z, z_ex 134 M.1 175 [some (.ref o), some (.float t), some (.int (if k = 0 then mI else V.2.2.1 11 0))] [] (yS M o Y w) = some (none, yS M o Z w) ∧ Rl c J S Hy B (gF k s V) Z ∧ kY Y Z := by
  intro k
  induction k with
  | zero =>
    intro s V Y h hk hs
    refine ⟨Y, ?_, h, kY.rf Y⟩
    rw [if_pos rfl, q134_175]
    simp (disch := first | omega | (simp only [sgets, reduceIte, Nat.reduceEqDiff, dec_S, Nat.reduceAdd]; done) | omega) only [cS_1, crd, z_pv_some, z_wv_some, z_cv_v, z_cv_n, cwr, sgets, rc_O, ia_n, fa_n, is_n, fs_n, ↓mI_eq, lits, nI_add, nLe, nLt, nE, mI_ne, mI_ne', mI_lt, mI_le, mI_nlt, mI_nle, ne_eq, mI_addC, pk_sub, pk_mul, pk_div, Nat.reduceEqDiff, Nat.reduceAdd, Nat.reduceMul, Nat.reduceSub, reduceIte, not_true_eq_false, not_false_eq_true, true_or, or_true, if_true, if_false, and_self, and_true, true_and, and_false, false_and, or_self, or_false, false_or, decide_true, decide_false, Bool.false_eq_true, Bool.true_eq_false, bI_t, bI_f, oS_1, ord, owA0, owF0, owF1, owA1, owF2, owA2, owF3, owA3, ywo, gfs11, pfs11, yrd, ywr, q134_176, q134_177, q134_180, q134_181, q134_183, q134_184, q134_187, q134_188, q134_191, q134_192, q134_193, q134_196, q134_197, q134_198, q134_200, q134_201, q134_204, q134_205, q134_206, q134_208, q134_209, q134_212, q134_213, q134_214, q134_216, q134_217, q134_220, q134_221, q134_222, q134_224, q134_225, q134_228, q134_229, q134_230, q134_231, q134_234, q134_235, q134_236, q134_239, q134_240, q134_243, dec_S, Nat.reduceAdd]
  | succ k ih =>
    intro s V Y h hk hs
    have hJ := (Rl_J h).1
    have hq := h
    obtain ⟨hC, hf, hSB, r1, r2, r3, r4, r5, ⟨W, n, q, pr, ak, w1, w2, w3, w4, w5, w6, w7⟩, r7⟩ := hq
    have hW : W = k + 1 := by rw [nV_of w3 (by omega)] at hk; exact hk
    obtain ⟨v1, v2, v3, v4, -⟩ := w5 0 (by omega)
    have hq0 : q0 V = q 0 := by unfold q0; rw [v1, nI_clamp (by omega)]
    rw [if_neg (by omega), v1]
    have hcnt := hol_cnt h
    have h115 := m115 M o w Y J hJ (Rl_12 h) 7 (by omega) (nI 1)
    rw [← hcnt, ← hs] at h115
    have y5 : Y.1 5 = V.1 5 := r1.2.2.2.2.2.1
    unfold gF
    rw [hq0]
    by_cases hcc : V.1 5 ≤ s
    · rw [if_pos hcc]
      refine ⟨Y, ?_, h, kY.rf Y⟩
      rw [q134_175]
      simp (disch := first | omega | (simp only [sgets, reduceIte, Nat.reduceEqDiff, y5, hcc, dec_S, Nat.reduceAdd]; done) | omega) only [cS_1, crd, z_pv_some, z_wv_some, z_cv_v, z_cv_n, cwr, sgets, rc_O, ia_n, fa_n, is_n, fs_n, ↓mI_eq, lits, nI_add, nLe, nLt, nE, mI_ne, mI_ne', mI_lt, mI_le, mI_nlt, mI_nle, ne_eq, mI_addC, pk_sub, pk_mul, pk_div, Nat.reduceEqDiff, Nat.reduceAdd, Nat.reduceMul, Nat.reduceSub, reduceIte, not_true_eq_false, not_false_eq_true, true_or, or_true, if_true, if_false, and_self, and_true, true_and, and_false, false_and, or_self, or_false, false_or, decide_true, decide_false, Bool.false_eq_true, Bool.true_eq_false, bI_t, bI_f, oS_1, ord, owA0, owF0, owF1, owA1, owF2, owA2, owF3, owA3, ywo, gfs11, pfs11, yrd, ywr, q134_176, q134_177, q134_180, q134_181, q134_183, q134_184, q134_187, q134_188, q134_191, q134_192, q134_193, q134_196, q134_197, q134_198, q134_200, q134_201, q134_204, q134_205, q134_206, q134_208, q134_209, q134_212, q134_213, q134_214, q134_216, q134_217, q134_220, q134_221, q134_222, q134_224, q134_225, q134_228, q134_229, q134_230, q134_231, q134_234, q134_235, q134_236, q134_239, q134_240, q134_243, h115, y5, hcc, dec_S, Nat.reduceAdd]
    · rw [if_neg hcc]
      have hG := Rl_gr h v2 v3
      rw [hk] at hG
      have g1 := m118 M o Y w (q 0) 7 (by omega) (by omega) (nI 1)
      have g2 := m118 M o (sA Y 11 (upd (Y.2.2.1 11) (q 0) (nI 1))) w (q 0) 8 (by omega) (by omega) (nI 0)
      have g3 := m118 M o (sA (sA Y 11 (upd (Y.2.2.1 11) (q 0) (nI 1))) 12 (upd (Y.2.2.1 12) (q 0) (nI 0))) w (q 0) 9 (by omega) (by omega) (nI 0)
      have g4 := m118 M o (sA (sA (sA Y 11 (upd (Y.2.2.1 11) (q 0) (nI 1))) 12 (upd (Y.2.2.1 12) (q 0) (nI 0))) 13 (upd (Y.2.2.1 13) (q 0) (nI 0))) w (q 0) 10 (by omega) (by omega) mI
      simp only [sgets, Nat.reduceAdd, Nat.reduceEqDiff, if_false] at g1 g2 g3 g4
      have n2 := m135r M o w hG (nI 2) (nI (q 0))
      have hE := Rl_ev hG (nI 2) (nI (q 0))
      have kg := kF_grant hC.2.2.2.2.1 hC.2.2.2.2.2.1 (q 0)
      rw [hk] at kg
      rw [kg.2.2.1 0 (by omega) (by omega) (by omega)] at hE
      have g11 := grant_11 V (q 0) k (by omega) v1
      have hn : nV (evAdd (grantF V (q 0) (k + 1)) (nI 2) (nI (q 0)) (V.1 0)) 11 = k := nV_of (by rw [evAdd_S _ _ _ _ _ (by omega) (by omega)]; exact g11) (by omega)
      have hs2 : s + nI 1 = sumI ((evAdd (grantF V (q 0) (k + 1)) (nI 2) (nI (q 0)) (V.1 0)).2.2.1 13) 20 := by
        rw [evAdd_A _ _ _ _ _ (by omega), grant_13, hs, sum_cnt r3.2.2.2.1, sum_cnt (f := upd (V.2.2.1 13) (q 0) (nI 1)) (fun p hp => by
          by_cases cp : p = q 0
          · rw [cp, upd_eq]; exact Or.inr rfl
          · rw [upd_ne _ _ cp]; exact r3.2.2.2.1 p hp), nI_add]
        congr 1
        have e1 := cnt_ins (P := fun k => decide (V.2.2.1 13 k = nI 1)) (x := q 0) 20 (by rw [v4, decide_eq_false_iff_not, nE (by omega) (by omega)]; omega)
        rw [if_pos (by omega)] at e1
        rw [← e1]
        apply cnt_congr
        intro p hp
        by_cases cp : p = q 0
        · rw [cp, upd_eq]; simp
        · rw [upd_ne _ _ cp]
          have : ¬ q 0 = p := fun e => cp e.symm
          simp [this]
      obtain ⟨Z, z1, z2, z3⟩ := ih (s + nI 1) _ _ hE hn hs2
      refine ⟨Z, ?_, z2, ?_⟩
      · have hwait : z_cl 136 [.ref o, .int (nI 0)] (yS M o (noteY (sA (sA (sA (sA Y 11 (upd (Y.2.2.1 11) (q 0) (nI 1))) 12 (upd (Y.2.2.1 12) (q 0) (nI 0))) 13 (upd (Y.2.2.1 13) (q 0) (nI 0))) 14 (upd (Y.2.2.1 14) (q 0) mI)) (nI 2) (nI (q 0))) w) = some (some (.int (if k = 0 then mI else (evAdd (grantF V (q 0) (k + 1)) (nI 2) (nI (q 0)) (V.1 0)).2.2.1 11 0)), yS M o (noteY (sA (sA (sA (sA Y 11 (upd (Y.2.2.1 11) (q 0) (nI 1))) 12 (upd (Y.2.2.1 12) (q 0) (nI 0))) 13 (upd (Y.2.2.1 13) (q 0) (nI 0))) 14 (upd (Y.2.2.1 14) (q 0) mI)) (nI 2) (nI (q 0))) w) := by
          by_cases ck : k = 0
          · rw [if_pos ck]
            exact m136n M o w hE hc 0 (by omega) (by omega)
          · rw [if_neg ck]
            exact m136 M o w hE hc 0 (by omega)
        rw [q134_175]
        simp (disch := first | omega | (simp only [sgets, reduceIte, Nat.reduceEqDiff, y5, hcc, dec_S, Nat.reduceAdd]; done) | omega) only [cS_1, crd, z_pv_some, z_wv_some, z_cv_v, z_cv_n, cwr, sgets, rc_O, ia_n, fa_n, is_n, fs_n, ↓mI_eq, lits, nI_add, nLe, nLt, nE, mI_ne, mI_ne', mI_lt, mI_le, mI_nlt, mI_nle, ne_eq, mI_addC, pk_sub, pk_mul, pk_div, Nat.reduceEqDiff, Nat.reduceAdd, Nat.reduceMul, Nat.reduceSub, reduceIte, not_true_eq_false, not_false_eq_true, true_or, or_true, if_true, if_false, and_self, and_true, true_and, and_false, false_and, or_self, or_false, false_or, decide_true, decide_false, Bool.false_eq_true, Bool.true_eq_false, bI_t, bI_f, oS_1, ord, owA0, owF0, owF1, owA1, owF2, owA2, owF3, owA3, ywo, gfs11, pfs11, yrd, ywr, q134_176, q134_177, q134_180, q134_181, q134_183, q134_184, q134_187, q134_188, q134_191, q134_192, q134_193, q134_196, q134_197, q134_198, q134_200, q134_201, q134_204, q134_205, q134_206, q134_208, q134_209, q134_212, q134_213, q134_214, q134_216, q134_217, q134_220, q134_221, q134_222, q134_224, q134_225, q134_228, q134_229, q134_230, q134_231, q134_234, q134_235, q134_236, q134_239, q134_240, q134_243, h115, g1, g2, g3, g4, n2, hwait, z1, y5, hcc, dec_S, Nat.reduceAdd]
      · exact ((show kY Y _ from ⟨fun _ _ => rfl, ⟨rfl, rfl⟩, rfl, rfl⟩ : kY Y (sA (sA (sA (sA Y 11 (upd (Y.2.2.1 11) (q 0) (nI 1))) 12 (upd (Y.2.2.1 12) (q 0) (nI 0))) 13 (upd (Y.2.2.1 13) (q 0) (nI 0))) 14 (upd (Y.2.2.1 14) (q 0) mI))).tr (kY_note _ _ _)).tr z3
theorem s134 (M : z_M) (o : Nat) (w : Int64) {c J S Hy B : Nat} {V Y : z_V} (h : Rl c J S Hy B V Y) (hc : c < 2 ^ 31) : ∃ Z, z_cl 134 [.ref o, .float V.2.1] (yS M o Y w) = some (none, yS M o Z w) ∧ Rl c J S Hy B (floorV J V) Z ∧ kY Y Z := by
  obtain ⟨Z1, l1, l2, l3⟩ := th_all M o w h
  obtain ⟨Z2, m1, m2, m3⟩ := gr_all M o w hc V.2.1 (nV (it tHs J V) 11) (sumI ((it tHs J V).2.2.1 13) 20) (it tHs J V) Z1 l2 rfl rfl
  refine ⟨Z2, ?_, m2, l3.tr m3⟩
  have hwait : z_cl 136 [.ref o, .int (nI 0)] (yS M o Z1 w) = some (some (.int (if nV (it tHs J V) 11 = 0 then mI else (it tHs J V).2.2.1 11 0)), yS M o Z1 w) := by
    by_cases ck : nV (it tHs J V) 11 = 0
    · rw [if_pos ck]
      exact m136n M o w l2 hc 0 (by omega) (by omega)
    · rw [if_neg ck]
      exact m136 M o w l2 hc 0 (by omega)
  rw [e134]
  simp (disch := first | omega | (simp only [sgets, reduceIte, Nat.reduceEqDiff, dec_S, Nat.reduceAdd]; done) | omega) only [cS_1, crd, z_pv_some, z_wv_some, z_cv_v, z_cv_n, cwr, sgets, rc_O, ia_n, fa_n, is_n, fs_n, ↓mI_eq, lits, nI_add, nLe, nLt, nE, mI_ne, mI_ne', mI_lt, mI_le, mI_nlt, mI_nle, ne_eq, mI_addC, pk_sub, pk_mul, pk_div, Nat.reduceEqDiff, Nat.reduceAdd, Nat.reduceMul, Nat.reduceSub, reduceIte, not_true_eq_false, not_false_eq_true, true_or, or_true, if_true, if_false, and_self, and_true, true_and, and_false, false_and, or_self, or_false, false_or, decide_true, decide_false, Bool.false_eq_true, Bool.true_eq_false, bI_t, bI_f, oS_1, ord, owA0, owF0, owF1, owA1, owF2, owA2, owF3, owA3, ywo, gfs11, pfs11, yrd, ywr, q134_0, q134_1, l1, q134_169, q134_170, q134_171, q134_174, hwait, m1, dec_S, Nat.reduceAdd]
