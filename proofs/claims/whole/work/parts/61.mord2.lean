/-! the model's orders: muted, settings, move, join, addBridge -/
theorem s124 (M : z_M) (o : Nat) (w : Int64) {c J S Hy B : Nat} {V Y : z_V} (h : Rl c J S Hy B V Y) (hX : okX Y) (x : Int32) (z : Bool) : sim M o w 124 [.int x, .int (bI z)] Y (mutR V x z) c := by
  have h120 := m120 M o w h x
  have e124 := e124 o x (bI z) (yS M o Y w)
  unfold mutR
  by_cases hh : here V x = false
  · rw [if_pos hh]
    rw [hh] at h120
    refine sim_er h n2 ?_
    rw [e124]
    simp (disch := first | omega | (simp only [sgets, reduceIte, Nat.reduceEqDiff, dec_S, Nat.reduceAdd]; done) | omega) only [cS_1, crd, z_pv_some, z_wv_some, z_cv_v, z_cv_n, cwr, sgets, rc_O, ia_n, fa_n, is_n, fs_n, ↓mI_eq, lits, nI_add, nLe, nLt, nE, mI_ne, mI_ne', mI_lt, mI_le, mI_nlt, mI_nle, ne_eq, mI_addC, pk_sub, pk_mul, pk_div, Nat.reduceEqDiff, Nat.reduceAdd, Nat.reduceMul, Nat.reduceSub, reduceIte, not_true_eq_false, not_false_eq_true, true_or, or_true, if_true, if_false, and_self, and_true, true_and, and_false, false_and, or_self, or_false, false_or, decide_true, decide_false, Bool.false_eq_true, Bool.true_eq_false, bI_t, bI_f, oS_1, ord, owA0, owF0, owF1, owA1, owF2, owA2, owF3, owA3, ywo, gfs11, pfs11, yrd, ywr, b124, h120, bI_f, dec_S, Nat.reduceAdd]
  · rw [if_neg hh]
    have hh := bool_f hh
    rw [hh] at h120
    obtain ⟨k, hk, rfl, hp⟩ := here_k (Rl_J h).1 (Rl_J h).2 hh
    have hJ := (Rl_J h).1
    rw [nI_clamp (by omega)]
    obtain ⟨s, hs, h13⟩ := hX
    have h111 := m111 M o Y w s hs h13
    have hZ := Rl_kV sv_kV h
    generalize hgen : svY Y = Z at h111 hZ
    have g1 := m116 M o Z w k 4 (by omega) (by omega)
    have g2 := m118 M o Z w k 4 (by omega) (by omega) (bI z)
    obtain ⟨hC, hf, hSB, r1, r2, r3, r4, r5, r6, r7⟩ := hZ
    obtain ⟨⟨hJ, h9⟩, ⟨hS, h1⟩, ⟨hH, h2⟩, ⟨hB, h8⟩, hE, hw, hl, hd, hst, hpl, hmx⟩ := hC
    have e8 : Z.2.2.1 8 k = V.2.2.1 6 k := by rw [r2.2.2.1]
    have hm := r3.2.2.2.2.2.2 k (by omega)
    refine ⟨sA Z 8 (upd (Z.2.2.1 8) k (bI z)), ?_, ⟨J, S, Hy, B, ⟨⟨hJ, h9⟩, ⟨hS, h1⟩, ⟨hH, h2⟩, ⟨hB, h8⟩, hE, hw, hl, hd, hst, hpl, hmx⟩, hf, hSB, r1, ⟨r2.1, r2.2.1, ?_, r2.2.2.2⟩, ⟨r3.1, r3.2.1, r3.2.2.1, r3.2.2.2.1, r3.2.2.2.2.1, r3.2.2.2.2.2.1, ?_⟩, r4, r5, r6, r7⟩, ?_, ?_⟩
    · rw [e124]
      cases z
      · rw [bI_f] at g2
        simp (disch := first | omega | (simp only [sgets, reduceIte, Nat.reduceEqDiff, e8, dec_S, Nat.reduceAdd]; done) | omega) only [cS_1, crd, z_pv_some, z_wv_some, z_cv_v, z_cv_n, cwr, sgets, rc_O, ia_n, fa_n, is_n, fs_n, ↓mI_eq, lits, nI_add, nLe, nLt, nE, mI_ne, mI_ne', mI_lt, mI_le, mI_nlt, mI_nle, ne_eq, mI_addC, pk_sub, pk_mul, pk_div, Nat.reduceEqDiff, Nat.reduceAdd, Nat.reduceMul, Nat.reduceSub, reduceIte, not_true_eq_false, not_false_eq_true, true_or, or_true, if_true, if_false, and_self, and_true, true_and, and_false, false_and, or_self, or_false, false_or, decide_true, decide_false, Bool.false_eq_true, Bool.true_eq_false, bI_t, bI_f, oS_1, ord, owA0, owF0, owF1, owA1, owF2, owA2, owF3, owA3, ywo, gfs11, pfs11, yrd, ywr, b124, h120, h111, g1, g2, bI_t, bI_f, e8, dec_S, Nat.reduceAdd]
      · rw [bI_t] at g2
        simp (disch := first | omega | (simp only [sgets, reduceIte, Nat.reduceEqDiff, e8, dec_S, Nat.reduceAdd]; done) | omega) only [cS_1, crd, z_pv_some, z_wv_some, z_cv_v, z_cv_n, cwr, sgets, rc_O, ia_n, fa_n, is_n, fs_n, ↓mI_eq, lits, nI_add, nLe, nLt, nE, mI_ne, mI_ne', mI_lt, mI_le, mI_nlt, mI_nle, ne_eq, mI_addC, pk_sub, pk_mul, pk_div, Nat.reduceEqDiff, Nat.reduceAdd, Nat.reduceMul, Nat.reduceSub, reduceIte, not_true_eq_false, not_false_eq_true, true_or, or_true, if_true, if_false, and_self, and_true, true_and, and_false, false_and, or_self, or_false, false_or, decide_true, decide_false, Bool.false_eq_true, Bool.true_eq_false, bI_t, bI_f, oS_1, ord, owA0, owF0, owF1, owA1, owF2, owA2, owF3, owA3, ywo, gfs11, pfs11, yrd, ywr, b124, h120, h111, g1, g2, bI_t, bI_f, e8, dec_S, Nat.reduceAdd]
    · show upd (Z.2.2.1 8) k (bI z) = upd (V.2.2.1 6) k (bI z)
      rw [r2.2.2.1]
    · intro p hp
      show upd (V.2.2.1 6) k (bI z) p = nI 0 ∨ upd (V.2.2.1 6) k (bI z) p = nI 1
      by_cases cp : p = k
      · subst cp
        rw [upd_eq]
        exact bI_or z
      · rw [upd_ne _ _ cp]; exact r3.2.2.2.2.2.2 p hp
    · intro hn
      rcases hm with hm | hm
      · rw [hm] at hn
        exact absurd hn (nI_nn (by omega))
      · rw [hm] at hn
        exact absurd hn (nI_nn (by omega))
    · intro _
      rw [hgen]
      exact ⟨fun _ _ => rfl, ⟨rfl, rfl⟩, rfl, rfl⟩
theorem s125 (M : z_M) (o : Nat) (w : Int64) {c J S Hy B : Nat} {V Y : z_V} (h : Rl c J S Hy B V Y) (hX : okX Y) (x y z v : Int32) : sim M o w 125 [.int x, .int y, .int z, .int v] Y (selR V x y z v) c := by
  have i1 := m110 x (nI 1) (nI 4) (yS M o Y w)
  have i2 := m110 y (nI 1) (nI 60) (yS M o Y w)
  have i3 := m110 z (nI 4) (nI 16) (yS M o Y w)
  have i4 := m110 v (nI 0) (nI 20) (yS M o Y w)
  have e125 := e125 o x y z v (yS M o Y w)
  unfold selR selOk
  by_cases c1 : nI 1 ≤ x ∧ x ≤ nI 4
  · rw [show decide (nI 1 ≤ x ∧ x ≤ nI 4) = true by simp [c1]] at i1
    by_cases c2 : nI 1 ≤ y ∧ y ≤ nI 60
    · rw [show decide (nI 1 ≤ y ∧ y ≤ nI 60) = true by simp [c2]] at i2
      by_cases c3 : nI 4 ≤ z ∧ z ≤ nI 16
      · rw [show decide (nI 4 ≤ z ∧ z ≤ nI 16) = true by simp [c3]] at i3
        by_cases c4 : nI 0 ≤ v ∧ v ≤ nI 20
        · rw [show decide (nI 0 ≤ v ∧ v ≤ nI 20) = true by simp [c4]] at i4
          rw [if_pos (by simp [c1, c2, c3, c4])]
          obtain ⟨s, hs, h13⟩ := hX
          have h111 := m111 M o Y w s hs h13
          have hZ := Rl_kV sv_kV h
          generalize hgen : svY Y = Z at h111 hZ
          obtain ⟨hC, hf, hSB, r1, r2, r3, r4, r5, r6, r7⟩ := hZ
          obtain ⟨⟨hJ, h9⟩, ⟨hS, h1⟩, ⟨hH, h2⟩, ⟨hB, h8⟩, hE, hw, hl, hd, hst, hpl, hmx⟩ := hC
          obtain ⟨a1, a2, a3, rfl⟩ := in_nI (by omega) (by omega) c1
          obtain ⟨b1, b2, b3, rfl⟩ := in_nI (by omega) (by omega) c2
          obtain ⟨d1, d2, d3, rfl⟩ := in_nI (by omega) (by omega) c3
          obtain ⟨f1, f2, f3, rfl⟩ := in_nI (by omega) (by omega) c4
          have e0 : Z.1 0 = nI S := by rw [r1.2.1]; exact h1
          refine ⟨sS (sS (sS (sS Z 0 (nI a1)) 1 (nI b1)) 2 (nI d1)) 3 (nI f1), ?_, ⟨J, a1, d1, B, ⟨⟨hJ, h9⟩, ⟨a3, rfl⟩, ⟨d3, rfl⟩, ⟨hB, h8⟩, hE, hw, hl, hd, hst, hpl, hmx⟩, hf, ⟨a2, hSB.2⟩, ⟨⟨b1, by omega, rfl, ?_⟩, rfl, rfl, rfl, r1.2.2.2.2⟩, r2, r3, r4, r5, r6, r7⟩, ?_, ?_⟩
          · rw [e125, h1]
            simp (disch := first | omega | (simp only [sgets, reduceIte, Nat.reduceEqDiff, e0, dec_S, Nat.reduceAdd]; done) | omega) only [cS_1, crd, z_pv_some, z_wv_some, z_cv_v, z_cv_n, cwr, sgets, rc_O, ia_n, fa_n, is_n, fs_n, ↓mI_eq, lits, nI_add, nLe, nLt, nE, mI_ne, mI_ne', mI_lt, mI_le, mI_nlt, mI_nle, ne_eq, mI_addC, pk_sub, pk_mul, pk_div, Nat.reduceEqDiff, Nat.reduceAdd, Nat.reduceMul, Nat.reduceSub, reduceIte, not_true_eq_false, not_false_eq_true, true_or, or_true, if_true, if_false, and_self, and_true, true_and, and_false, false_and, or_self, or_false, false_or, decide_true, decide_false, Bool.false_eq_true, Bool.true_eq_false, bI_t, bI_f, oS_1, ord, owA0, owF0, owF1, owA1, owF2, owA2, owF3, owA3, ywo, gfs11, pfs11, yrd, ywr, b125, i1, i2, i3, i4, h111, bI_t, e0, dec_S, Nat.reduceAdd]
          · show pwr (nI b1).toNatClampNeg = pwr b1
            rw [nI_clamp (by omega)]
          · intro hn
            rw [h1] at hn
            exact absurd hn (nI_nn (by omega))
          · intro _
            rw [hgen]
            exact ⟨fun i hi => by simp only [sgets, show i ≠ 0 by omega, show i ≠ 1 by omega, show i ≠ 2 by omega, show i ≠ 3 by omega, if_false], ⟨rfl, rfl⟩, rfl, rfl⟩
        · rw [if_neg (by simp [c4])]
          rw [show decide (nI 0 ≤ v ∧ v ≤ nI 20) = false by simp [c4]] at i4
          refine sim_er h n3 ?_
          rw [e125]
          simp (disch := first | omega | (simp only [sgets, reduceIte, Nat.reduceEqDiff, dec_S, Nat.reduceAdd]; done) | omega) only [cS_1, crd, z_pv_some, z_wv_some, z_cv_v, z_cv_n, cwr, sgets, rc_O, ia_n, fa_n, is_n, fs_n, ↓mI_eq, lits, nI_add, nLe, nLt, nE, mI_ne, mI_ne', mI_lt, mI_le, mI_nlt, mI_nle, ne_eq, mI_addC, pk_sub, pk_mul, pk_div, Nat.reduceEqDiff, Nat.reduceAdd, Nat.reduceMul, Nat.reduceSub, reduceIte, not_true_eq_false, not_false_eq_true, true_or, or_true, if_true, if_false, and_self, and_true, true_and, and_false, false_and, or_self, or_false, false_or, decide_true, decide_false, Bool.false_eq_true, Bool.true_eq_false, bI_t, bI_f, oS_1, ord, owA0, owF0, owF1, owA1, owF2, owA2, owF3, owA3, ywo, gfs11, pfs11, yrd, ywr, b125, i1, i2, i3, i4, bI_t, bI_f, dec_S, Nat.reduceAdd]
      · rw [if_neg (by simp [c3])]
        rw [show decide (nI 4 ≤ z ∧ z ≤ nI 16) = false by simp [c3]] at i3
        refine sim_er h n3 ?_
        rw [e125]
        simp (disch := first | omega | (simp only [sgets, reduceIte, Nat.reduceEqDiff, dec_S, Nat.reduceAdd]; done) | omega) only [cS_1, crd, z_pv_some, z_wv_some, z_cv_v, z_cv_n, cwr, sgets, rc_O, ia_n, fa_n, is_n, fs_n, ↓mI_eq, lits, nI_add, nLe, nLt, nE, mI_ne, mI_ne', mI_lt, mI_le, mI_nlt, mI_nle, ne_eq, mI_addC, pk_sub, pk_mul, pk_div, Nat.reduceEqDiff, Nat.reduceAdd, Nat.reduceMul, Nat.reduceSub, reduceIte, not_true_eq_false, not_false_eq_true, true_or, or_true, if_true, if_false, and_self, and_true, true_and, and_false, false_and, or_self, or_false, false_or, decide_true, decide_false, Bool.false_eq_true, Bool.true_eq_false, bI_t, bI_f, oS_1, ord, owA0, owF0, owF1, owA1, owF2, owA2, owF3, owA3, ywo, gfs11, pfs11, yrd, ywr, b125, i1, i2, i3, bI_t, bI_f, dec_S, Nat.reduceAdd]
    · rw [if_neg (by simp [c2])]
      rw [show decide (nI 1 ≤ y ∧ y ≤ nI 60) = false by simp [c2]] at i2
      refine sim_er h n3 ?_
      rw [e125]
      simp (disch := first | omega | (simp only [sgets, reduceIte, Nat.reduceEqDiff, dec_S, Nat.reduceAdd]; done) | omega) only [cS_1, crd, z_pv_some, z_wv_some, z_cv_v, z_cv_n, cwr, sgets, rc_O, ia_n, fa_n, is_n, fs_n, ↓mI_eq, lits, nI_add, nLe, nLt, nE, mI_ne, mI_ne', mI_lt, mI_le, mI_nlt, mI_nle, ne_eq, mI_addC, pk_sub, pk_mul, pk_div, Nat.reduceEqDiff, Nat.reduceAdd, Nat.reduceMul, Nat.reduceSub, reduceIte, not_true_eq_false, not_false_eq_true, true_or, or_true, if_true, if_false, and_self, and_true, true_and, and_false, false_and, or_self, or_false, false_or, decide_true, decide_false, Bool.false_eq_true, Bool.true_eq_false, bI_t, bI_f, oS_1, ord, owA0, owF0, owF1, owA1, owF2, owA2, owF3, owA3, ywo, gfs11, pfs11, yrd, ywr, b125, i1, i2, bI_t, bI_f, dec_S, Nat.reduceAdd]
  · rw [if_neg (by simp [c1])]
    rw [show decide (nI 1 ≤ x ∧ x ≤ nI 4) = false by simp [c1]] at i1
    refine sim_er h n3 ?_
    rw [e125]
    simp (disch := first | omega | (simp only [sgets, reduceIte, Nat.reduceEqDiff, dec_S, Nat.reduceAdd]; done) | omega) only [cS_1, crd, z_pv_some, z_wv_some, z_cv_v, z_cv_n, cwr, sgets, rc_O, ia_n, fa_n, is_n, fs_n, ↓mI_eq, lits, nI_add, nLe, nLt, nE, mI_ne, mI_ne', mI_lt, mI_le, mI_nlt, mI_nle, ne_eq, mI_addC, pk_sub, pk_mul, pk_div, Nat.reduceEqDiff, Nat.reduceAdd, Nat.reduceMul, Nat.reduceSub, reduceIte, not_true_eq_false, not_false_eq_true, true_or, or_true, if_true, if_false, and_self, and_true, true_and, and_false, false_and, or_self, or_false, false_or, decide_true, decide_false, Bool.false_eq_true, Bool.true_eq_false, bI_t, bI_f, oS_1, ord, owA0, owF0, owF1, owA1, owF2, owA2, owF3, owA3, ywo, gfs11, pfs11, yrd, ywr, b125, i1, bI_t, bI_f, dec_S, Nat.reduceAdd]
theorem s126 (M : z_M) (o : Nat) (w : Int64) {c J S Hy B : Nat} {V Y : z_V} (h : Rl c J S Hy B V Y) (hX : okX Y) (u : Bool) (y z v : Int32) : sim M o w 126 [.int (bI u), .int y, .int z, .int v] Y (flrR V u y z v) c := by
  have i2 := m110 y (nI 1) (nI 4) (yS M o Y w)
  have i3 := m110 z (nI 1) (nI 50) (yS M o Y w)
  have i4 := m110 v (nI 0) (nI 100) (yS M o Y w)
  have e126 := e126 o (bI u) y z v (yS M o Y w)
  unfold flrR flrOk
  by_cases c2 : nI 1 ≤ y ∧ y ≤ nI 4
  · rw [show decide (nI 1 ≤ y ∧ y ≤ nI 4) = true by simp [c2]] at i2
    by_cases c3 : nI 1 ≤ z ∧ z ≤ nI 50
    · rw [show decide (nI 1 ≤ z ∧ z ≤ nI 50) = true by simp [c3]] at i3
      by_cases c4 : nI 0 ≤ v ∧ v ≤ nI 100
      · rw [show decide (nI 0 ≤ v ∧ v ≤ nI 100) = true by simp [c4]] at i4
        rw [if_pos (by simp [c2, c3, c4])]
        obtain ⟨s, hs, h13⟩ := hX
        have h111 := m111 M o Y w s hs h13
        have hZ := Rl_kV sv_kV h
        generalize hgen : svY Y = Z at h111 hZ
        obtain ⟨hC, ⟨f, hf⟩, hSB, r1, r2, r3, r4, r5, r6, r7⟩ := hZ
        have e4 : Z.1 4 = bI f := by rw [r1.2.2.2.2.1]; exact hf
        refine ⟨sS (sS (sS (sS Z 4 (bI u)) 5 y) 6 z) 7 v, ?_, ⟨J, S, Hy, B, hC, ⟨u, rfl⟩, hSB, ⟨r1.1, r1.2.1, r1.2.2.1, r1.2.2.2.1, rfl, rfl, rfl, rfl, r1.2.2.2.2.2.2.2.2⟩, r2, r3, r4, r5, r6, r7⟩, ?_, ?_⟩
        · rw [e126, hf]
          cases u
          · simp (disch := first | omega | (simp only [sgets, reduceIte, Nat.reduceEqDiff, e4, dec_S, Nat.reduceAdd]; done) | omega) only [cS_1, crd, z_pv_some, z_wv_some, z_cv_v, z_cv_n, cwr, sgets, rc_O, ia_n, fa_n, is_n, fs_n, ↓mI_eq, lits, nI_add, nLe, nLt, nE, mI_ne, mI_ne', mI_lt, mI_le, mI_nlt, mI_nle, ne_eq, mI_addC, pk_sub, pk_mul, pk_div, Nat.reduceEqDiff, Nat.reduceAdd, Nat.reduceMul, Nat.reduceSub, reduceIte, not_true_eq_false, not_false_eq_true, true_or, or_true, if_true, if_false, and_self, and_true, true_and, and_false, false_and, or_self, or_false, false_or, decide_true, decide_false, Bool.false_eq_true, Bool.true_eq_false, bI_t, bI_f, oS_1, ord, owA0, owF0, owF1, owA1, owF2, owA2, owF3, owA3, ywo, gfs11, pfs11, yrd, ywr, b126, i2, i3, i4, h111, bI_t, e4, dec_S, Nat.reduceAdd]
          · simp (disch := first | omega | (simp only [sgets, reduceIte, Nat.reduceEqDiff, e4, dec_S, Nat.reduceAdd]; done) | omega) only [cS_1, crd, z_pv_some, z_wv_some, z_cv_v, z_cv_n, cwr, sgets, rc_O, ia_n, fa_n, is_n, fs_n, ↓mI_eq, lits, nI_add, nLe, nLt, nE, mI_ne, mI_ne', mI_lt, mI_le, mI_nlt, mI_nle, ne_eq, mI_addC, pk_sub, pk_mul, pk_div, Nat.reduceEqDiff, Nat.reduceAdd, Nat.reduceMul, Nat.reduceSub, reduceIte, not_true_eq_false, not_false_eq_true, true_or, or_true, if_true, if_false, and_self, and_true, true_and, and_false, false_and, or_self, or_false, false_or, decide_true, decide_false, Bool.false_eq_true, Bool.true_eq_false, bI_t, bI_f, oS_1, ord, owA0, owF0, owF1, owA1, owF2, owA2, owF3, owA3, ywo, gfs11, pfs11, yrd, ywr, b126, i2, i3, i4, h111, bI_t, e4, dec_S, Nat.reduceAdd]
        · intro hn
          rw [hf] at hn
          cases f
          · exact absurd hn (nI_nn (by omega))
          · exact absurd hn (nI_nn (by omega))
        · intro _
          rw [hgen]
          exact ⟨fun i hi => by simp only [sgets, show i ≠ 4 by omega, show i ≠ 5 by omega, show i ≠ 6 by omega, show i ≠ 7 by omega, if_false], ⟨rfl, rfl⟩, rfl, rfl⟩
      · rw [if_neg (by simp [c4])]
        rw [show decide (nI 0 ≤ v ∧ v ≤ nI 100) = false by simp [c4]] at i4
        refine sim_er h n3 ?_
        rw [e126]
        simp (disch := first | omega | (simp only [sgets, reduceIte, Nat.reduceEqDiff, dec_S, Nat.reduceAdd]; done) | omega) only [cS_1, crd, z_pv_some, z_wv_some, z_cv_v, z_cv_n, cwr, sgets, rc_O, ia_n, fa_n, is_n, fs_n, ↓mI_eq, lits, nI_add, nLe, nLt, nE, mI_ne, mI_ne', mI_lt, mI_le, mI_nlt, mI_nle, ne_eq, mI_addC, pk_sub, pk_mul, pk_div, Nat.reduceEqDiff, Nat.reduceAdd, Nat.reduceMul, Nat.reduceSub, reduceIte, not_true_eq_false, not_false_eq_true, true_or, or_true, if_true, if_false, and_self, and_true, true_and, and_false, false_and, or_self, or_false, false_or, decide_true, decide_false, Bool.false_eq_true, Bool.true_eq_false, bI_t, bI_f, oS_1, ord, owA0, owF0, owF1, owA1, owF2, owA2, owF3, owA3, ywo, gfs11, pfs11, yrd, ywr, b126, i2, i3, i4, bI_t, bI_f, dec_S, Nat.reduceAdd]
    · rw [if_neg (by simp [c3])]
      rw [show decide (nI 1 ≤ z ∧ z ≤ nI 50) = false by simp [c3]] at i3
      refine sim_er h n3 ?_
      rw [e126]
      simp (disch := first | omega | (simp only [sgets, reduceIte, Nat.reduceEqDiff, dec_S, Nat.reduceAdd]; done) | omega) only [cS_1, crd, z_pv_some, z_wv_some, z_cv_v, z_cv_n, cwr, sgets, rc_O, ia_n, fa_n, is_n, fs_n, ↓mI_eq, lits, nI_add, nLe, nLt, nE, mI_ne, mI_ne', mI_lt, mI_le, mI_nlt, mI_nle, ne_eq, mI_addC, pk_sub, pk_mul, pk_div, Nat.reduceEqDiff, Nat.reduceAdd, Nat.reduceMul, Nat.reduceSub, reduceIte, not_true_eq_false, not_false_eq_true, true_or, or_true, if_true, if_false, and_self, and_true, true_and, and_false, false_and, or_self, or_false, false_or, decide_true, decide_false, Bool.false_eq_true, Bool.true_eq_false, bI_t, bI_f, oS_1, ord, owA0, owF0, owF1, owA1, owF2, owA2, owF3, owA3, ywo, gfs11, pfs11, yrd, ywr, b126, i2, i3, bI_t, bI_f, dec_S, Nat.reduceAdd]
  · rw [if_neg (by simp [c2])]
    rw [show decide (nI 1 ≤ y ∧ y ≤ nI 4) = false by simp [c2]] at i2
    refine sim_er h n3 ?_
    rw [e126]
    simp (disch := first | omega | (simp only [sgets, reduceIte, Nat.reduceEqDiff, dec_S, Nat.reduceAdd]; done) | omega) only [cS_1, crd, z_pv_some, z_wv_some, z_cv_v, z_cv_n, cwr, sgets, rc_O, ia_n, fa_n, is_n, fs_n, ↓mI_eq, lits, nI_add, nLe, nLt, nE, mI_ne, mI_ne', mI_lt, mI_le, mI_nlt, mI_nle, ne_eq, mI_addC, pk_sub, pk_mul, pk_div, Nat.reduceEqDiff, Nat.reduceAdd, Nat.reduceMul, Nat.reduceSub, reduceIte, not_true_eq_false, not_false_eq_true, true_or, or_true, if_true, if_false, and_self, and_true, true_and, and_false, false_and, or_self, or_false, false_or, decide_true, decide_false, Bool.false_eq_true, Bool.true_eq_false, bI_t, bI_f, oS_1, ord, owA0, owF0, owF1, owA1, owF2, owA2, owF3, owA3, ywo, gfs11, pfs11, yrd, ywr, b126, i2, bI_t, bI_f, dec_S, Nat.reduceAdd]
/-- how many stand at a bridge -/
theorem cnt_at {c J S Hy B : Nat} {V Y : z_V} (h : Rl c J S Hy B V Y) (b : Nat) (hb : b < 8) : cnt (fun k => decide (Y.2.2.1 4 k = nI 1 ∧ Y.2.2.1 (4 + 2) k = nI b)) J = cnt (fun k => decide (V.2.2.1 3 k = nI b)) J := by
  obtain ⟨-, -, -, -, -, hh, -⟩ := h
  apply cnt_congr
  intro k hk
  by_cases hp : V.2.2.1 3 k = mI
  · have e1 := (hh.1 k hk hp).1
    rw [e1, hp]
    simp only [nE (show 0 < 2 ^ 31 by omega) (show 1 < 2 ^ 31 by omega), mI_ne' (show b < 2 ^ 31 by omega)]
    simp
  · obtain ⟨e1, e2, -⟩ := hh.2.1 k hk hp
    show decide (Y.2.2.1 4 k = nI 1 ∧ Y.2.2.1 6 k = nI b) = _
    rw [e1, e2]
    simp
theorem cnt_but (P : Nat → Bool) (p J : Nat) : cnt P J = cnt (fun k => P k && !decide (k = p)) J + if p < J ∧ P p = true then 1 else 0 := by
  induction J with
  | zero => simp [cnt_0]
  | succ J ih =>
    rw [cnt_s, cnt_s, ih]
    by_cases c : J = p
    · subst c
      by_cases c2 : P J = true
      · rw [if_neg (show ¬ (J < J ∧ P J = true) by omega), if_pos (show J < J + 1 ∧ P J = true from ⟨by omega, c2⟩)]
        simp [c2]
      · rw [if_neg (show ¬ (J < J ∧ P J = true) by omega), if_neg (show ¬ (J < J + 1 ∧ P J = true) from fun h => c2 h.2)]
        simp [c2]
    · by_cases c3 : p < J ∧ P p = true
      · rw [if_pos c3, if_pos (show p < J + 1 ∧ P p = true from ⟨by omega, c3.2⟩)]
        simp [c]
        omega
      · rw [if_neg c3, if_neg (show ¬ (p < J + 1 ∧ P p = true) from fun h => c3 ⟨by omega, h.2⟩)]
        simp [c]
