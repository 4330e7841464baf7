/-! the model's orders: join, addBridge -/
theorem s114 (M : z_M) (o : Nat) (w : Int64) {c J S Hy B : Nat} {V Y : z_V} (h : Rl c J S Hy B V Y) (hX : okX Y) (x y : Int32) : sim M o w 114 [.int x, .int y] Y (admR V J x y) c := by
  have h109 := m109 M o w h x
  have h110 := m110 y (nI 0) (nI 1) (yS M o Y w)
  have e114 := e114 o x y (yS M o Y w)
  have hB := h.1.2.2.2.1
  have hJ := (Rl_J h).1
  have e12 := Rl_12 h
  unfold admR
  by_cases hb : hasB V x = false
  · rw [if_pos hb]
    rw [hb] at h109
    refine sim_er h n2 ?_
    rw [e114]
    simp (disch := first | omega | (simp only [sgets, reduceIte, Nat.reduceEqDiff, dec_S, Nat.reduceAdd]; done) | omega) only [cS_1, crd, z_pv_some, z_wv_some, z_cv_v, z_cv_n, cwr, sgets, rc_O, ia_n, fa_n, is_n, fs_n, ↓mI_eq, lits, nI_add, nLe, nLt, nE, mI_ne, mI_ne', mI_lt, mI_le, mI_nlt, mI_nle, ne_eq, mI_addC, pk_sub, pk_mul, pk_div, Nat.reduceEqDiff, Nat.reduceAdd, Nat.reduceMul, Nat.reduceSub, reduceIte, not_true_eq_false, not_false_eq_true, true_or, or_true, if_true, if_false, and_self, and_true, true_and, and_false, false_and, or_self, or_false, false_or, decide_true, decide_false, Bool.false_eq_true, Bool.true_eq_false, bI_t, bI_f, oS_1, ord, owA0, owF0, owF1, owA1, owF2, owA2, owF3, owA3, ywo, gfs11, pfs11, yrd, ywr, b114, h109, bI_f, dec_S, Nat.reduceAdd]
  · rw [if_neg hb]
    have hb := bool_f hb
    rw [hb] at h109
    obtain ⟨b, hb8, rfl⟩ := has_b hB.1 hB.2 hb
    rw [nI_clamp (by omega)]
    by_cases hy : nI 0 ≤ y ∧ y ≤ nI 1
    · rw [if_neg (by simp [hy])]
      rw [show decide (nI 0 ≤ y ∧ y ≤ nI 1) = true by simp [hy]] at h110
      obtain ⟨t, _, ht, rfl⟩ := in_nI (by omega) (by omega) hy
      have hct := m115 M o w Y J hJ e12 2 (by omega) (nI b)
      rw [cnt_at h b (by omega)] at hct
      have hh3 := h.2.2.2.2.2.1
      have hA := h.2.2.2.2.1
      have hle := hh3.2.2.2.2.2.1 b (by omega)
      have hph := m117 M o Y w b 2 (by omega) (by omega)
      have e2 : Y.2.2.1 2 b = V.2.2.1 2 b := by rw [hA.2.2.2.2.2.2.2.2.2.2.1]
      have ec : cnt (fun k => decide (V.2.2.1 3 k = nI b ∧ ¬ nI k = mI)) J = cnt (fun k => decide (V.2.2.1 3 k = nI b)) J := by
        apply cnt_congr
        intro k hk
        have := mI_ne (show k < 2 ^ 31 by omega)
        simp [this]
      rw [ec]
      by_cases c1 : 20 ≤ J ∨ 6 ≤ cnt (fun k => decide (V.2.2.1 3 k = nI b)) J
      · rw [if_pos c1]
        refine sim_er h n5 ?_
        rw [e114]
        by_cases c2 : J = 20
        · simp (disch := first | omega | (simp only [sgets, reduceIte, Nat.reduceEqDiff, e12, c2, dec_S, Nat.reduceAdd]; done) | omega) only [cS_1, crd, z_pv_some, z_wv_some, z_cv_v, z_cv_n, cwr, sgets, rc_O, ia_n, fa_n, is_n, fs_n, ↓mI_eq, lits, nI_add, nLe, nLt, nE, mI_ne, mI_ne', mI_lt, mI_le, mI_nlt, mI_nle, ne_eq, mI_addC, pk_sub, pk_mul, pk_div, Nat.reduceEqDiff, Nat.reduceAdd, Nat.reduceMul, Nat.reduceSub, reduceIte, not_true_eq_false, not_false_eq_true, true_or, or_true, if_true, if_false, and_self, and_true, true_and, and_false, false_and, or_self, or_false, false_or, decide_true, decide_false, Bool.false_eq_true, Bool.true_eq_false, bI_t, bI_f, oS_1, ord, owA0, owF0, owF1, owA1, owF2, owA2, owF3, owA3, ywo, gfs11, pfs11, yrd, ywr, b114, h109, h110, bI_t, e12, c2, dec_S, Nat.reduceAdd]
        · have c3 : cnt (fun k => decide (V.2.2.1 3 k = nI b)) J = 6 := by omega
          rw [c3] at hct
          simp (disch := first | omega | (simp only [sgets, reduceIte, Nat.reduceEqDiff, e12, c2, dec_S, Nat.reduceAdd]; done) | omega) only [cS_1, crd, z_pv_some, z_wv_some, z_cv_v, z_cv_n, cwr, sgets, rc_O, ia_n, fa_n, is_n, fs_n, ↓mI_eq, lits, nI_add, nLe, nLt, nE, mI_ne, mI_ne', mI_lt, mI_le, mI_nlt, mI_nle, ne_eq, mI_addC, pk_sub, pk_mul, pk_div, Nat.reduceEqDiff, Nat.reduceAdd, Nat.reduceMul, Nat.reduceSub, reduceIte, not_true_eq_false, not_false_eq_true, true_or, or_true, if_true, if_false, and_self, and_true, true_and, and_false, false_and, or_self, or_false, false_or, decide_true, decide_false, Bool.false_eq_true, Bool.true_eq_false, bI_t, bI_f, oS_1, ord, owA0, owF0, owF1, owA1, owF2, owA2, owF3, owA3, ywo, gfs11, pfs11, yrd, ywr, b114, h109, h110, bI_t, hct, e12, c2, dec_S, Nat.reduceAdd]
      · rw [if_neg c1]
        have c2 : ¬ J = 20 := by omega
        have c3 : ¬ cnt (fun k => decide (V.2.2.1 3 k = nI b)) J = 6 := by omega
        have c3' : cnt (fun k => decide (V.2.2.1 3 k = nI b)) J ≤ 20 := by omega
        by_cases c7 : nI t = nI 1 ∧ V.2.2.1 2 b = nI 1
        · rw [if_pos c7]
          obtain ⟨c8, c9⟩ := c7
          rw [nE (by omega) (by omega)] at c8
          subst c8
          refine sim_er h n6 ?_
          rw [e114]
          simp (disch := first | omega | (simp only [sgets, reduceIte, Nat.reduceEqDiff, e12, c2, c3, e2, c9, dec_S, Nat.reduceAdd]; done) | omega) only [cS_1, crd, z_pv_some, z_wv_some, z_cv_v, z_cv_n, cwr, sgets, rc_O, ia_n, fa_n, is_n, fs_n, ↓mI_eq, lits, nI_add, nLe, nLt, nE, mI_ne, mI_ne', mI_lt, mI_le, mI_nlt, mI_nle, ne_eq, mI_addC, pk_sub, pk_mul, pk_div, Nat.reduceEqDiff, Nat.reduceAdd, Nat.reduceMul, Nat.reduceSub, reduceIte, not_true_eq_false, not_false_eq_true, true_or, or_true, if_true, if_false, and_self, and_true, true_and, and_false, false_and, or_self, or_false, false_or, decide_true, decide_false, Bool.false_eq_true, Bool.true_eq_false, bI_t, bI_f, oS_1, ord, owA0, owF0, owF1, owA1, owF2, owA2, owF3, owA3, ywo, gfs11, pfs11, yrd, ywr, b114, h109, h110, bI_t, hct, hph, e12, c2, c3, e2, c9, dec_S, Nat.reduceAdd]
        · rw [if_neg c7]
          obtain ⟨s, hs, h13⟩ := hX
          have h111 := m111 M o Y w s hs h13
          have hZ := Rl_kV sv_kV h
          generalize hgen : svY Y = Z at h111 hZ
          have e12Z := Rl_12 hZ
          have g1 := m118 M o Z w J 0 (by omega) (by omega) (nI 1)
          have g2 := m118 M o (sA Z 4 (upd (Z.2.2.1 4) J (nI 1))) w J 1 (by omega) (by omega) (nI t)
          have g3 := m118 M o (sA (sA Z 4 (upd (Z.2.2.1 4) J (nI 1))) 5 (upd (Z.2.2.1 5) J (nI t))) w J 2 (by omega) (by omega) (nI b)
          have g4 := m118 M o (sA (sA (sA Z 4 (upd (Z.2.2.1 4) J (nI 1))) 5 (upd (Z.2.2.1 5) J (nI t))) 6 (upd (Z.2.2.1 6) J (nI b))) w J 10 (by omega) (by omega) mI
          simp only [sgets, Nat.reduceAdd, Nat.reduceEqDiff, if_false] at g1 g2 g3 g4
          obtain ⟨hC, hf, hSB, r1, r2, r3, r4, r5, r6, r7⟩ := hZ
          obtain ⟨⟨-, h9⟩, ⟨hS, h1⟩, ⟨hH, h2⟩, ⟨-, h8⟩, hE, hw, hl, hd, hst, hpl, hmx⟩ := hC
          refine ⟨sS (sA (sA (sA (sA Z 4 (upd (Z.2.2.1 4) J (nI 1))) 5 (upd (Z.2.2.1 5) J (nI t))) 6 (upd (Z.2.2.1 6) J (nI b))) 14 (upd (Z.2.2.1 14) J mI)) 12 (nI (J + 1)), ?_, ⟨J + 1, S, Hy, B, ⟨⟨by omega, rfl⟩, ⟨hS, h1⟩, ⟨hH, h2⟩, ⟨hB.1, h8⟩, hE, hw, hl, hd, ?_, hpl, hmx⟩, hf, hSB, ⟨r1.1, r1.2.1, r1.2.2.1, r1.2.2.2.1, r1.2.2.2.2.1, r1.2.2.2.2.2.1, r1.2.2.2.2.2.2.1, r1.2.2.2.2.2.2.2.1, r1.2.2.2.2.2.2.2.2.1, r1.2.2.2.2.2.2.2.2.2.1, rfl⟩, ⟨?_, r2.2⟩, ⟨?_, ?_, ?_, r3.2.2.2.1, ?_, ?_, r3.2.2.2.2.2.2⟩, ?_, r5, ?_, r7⟩, ?_, ?_⟩
          · rw [e114]
            by_cases c8 : t = 1
            · have c9 : ¬ V.2.2.1 2 b = nI 1 := fun h => c7 ⟨by rw [c8], h⟩
              subst c8
              simp (disch := first | omega | (simp only [sgets, reduceIte, Nat.reduceEqDiff, e12, c2, c3, e2, c9, e12Z, dec_S, Nat.reduceAdd]; done) | omega) only [cS_1, crd, z_pv_some, z_wv_some, z_cv_v, z_cv_n, cwr, sgets, rc_O, ia_n, fa_n, is_n, fs_n, ↓mI_eq, lits, nI_add, nLe, nLt, nE, mI_ne, mI_ne', mI_lt, mI_le, mI_nlt, mI_nle, ne_eq, mI_addC, pk_sub, pk_mul, pk_div, Nat.reduceEqDiff, Nat.reduceAdd, Nat.reduceMul, Nat.reduceSub, reduceIte, not_true_eq_false, not_false_eq_true, true_or, or_true, if_true, if_false, and_self, and_true, true_and, and_false, false_and, or_self, or_false, false_or, decide_true, decide_false, Bool.false_eq_true, Bool.true_eq_false, bI_t, bI_f, oS_1, ord, owA0, owF0, owF1, owA1, owF2, owA2, owF3, owA3, ywo, gfs11, pfs11, yrd, ywr, b114, h109, h110, bI_t, hct, hph, h111, g1, g2, g3, g4, e12, c2, c3, e2, c9, e12Z, dec_S, Nat.reduceAdd]
            · simp (disch := first | omega | (simp only [sgets, reduceIte, Nat.reduceEqDiff, e12, c2, c3, c8, e2, e12Z, dec_S, Nat.reduceAdd]; done) | omega) only [cS_1, crd, z_pv_some, z_wv_some, z_cv_v, z_cv_n, cwr, sgets, rc_O, ia_n, fa_n, is_n, fs_n, ↓mI_eq, lits, nI_add, nLe, nLt, nE, mI_ne, mI_ne', mI_lt, mI_le, mI_nlt, mI_nle, ne_eq, mI_addC, pk_sub, pk_mul, pk_div, Nat.reduceEqDiff, Nat.reduceAdd, Nat.reduceMul, Nat.reduceSub, reduceIte, not_true_eq_false, not_false_eq_true, true_or, or_true, if_true, if_false, and_self, and_true, true_and, and_false, false_and, or_self, or_false, false_or, decide_true, decide_false, Bool.false_eq_true, Bool.true_eq_false, bI_t, bI_f, oS_1, ord, owA0, owF0, owF1, owA1, owF2, owA2, owF3, owA3, ywo, gfs11, pfs11, yrd, ywr, b114, h109, h110, bI_t, hct, hph, h111, g1, g2, g3, g4, e12, c2, c3, c8, e2, e12Z, dec_S, Nat.reduceAdd]
          · intro v hv
            obtain ⟨n, a1, a2, a3⟩ := hst v hv
            refine ⟨n, a1, a2, fun i hi => ?_⟩
            obtain ⟨b1, s1, b2, b3⟩ := a3 i hi
            exact ⟨b1, s1, by omega, b3⟩
          · show upd (Z.2.2.1 5) J (nI t) = upd (V.2.2.1 4) J (nI t)
            rw [r2.1]
          · intro p hp hm
            replace hm : upd (V.2.2.1 3) J (nI b) p = mI := hm
            show upd (Z.2.2.1 4) J (nI 1) p = nI 0 ∧ V.2.2.1 13 p = nI 0
            by_cases cp : p = J
            · subst cp
              rw [upd_eq, mI_ne (by omega)] at hm
              exact hm.elim
            · rw [upd_ne _ _ cp] at hm ⊢
              exact r3.1 p (by omega) hm
          · intro p hp hm
            replace hm : ¬ upd (V.2.2.1 3) J (nI b) p = mI := hm
            show upd (Z.2.2.1 4) J (nI 1) p = nI 1 ∧ upd (Z.2.2.1 6) J (nI b) p = upd (V.2.2.1 3) J (nI b) p ∧ Z.2.2.1 11 p = V.2.2.1 13 p ∧ ∃ d, d < B ∧ upd (V.2.2.1 3) J (nI b) p = nI d
            by_cases cp : p = J
            · subst cp
              obtain ⟨k1, k2, k3⟩ := r3.2.2.1 p (by omega) (Nat.le_refl _)
              rw [upd_eq, upd_eq, upd_eq, k2, k3]
              exact ⟨rfl, rfl, rfl, b, hb8, rfl⟩
            · rw [upd_ne _ _ cp] at hm
              rw [upd_ne _ _ cp, upd_ne _ _ cp, upd_ne _ _ cp]
              exact r3.2.1 p (by omega) hm
          · intro p hp hJp
            show upd (Z.2.2.1 4) J (nI 1) p = nI 0 ∧ Z.2.2.1 11 p = nI 0 ∧ V.2.2.1 13 p = nI 0
            rw [upd_ne _ _ (by omega)]
            exact r3.2.2.1 p hp (by omega)
          · show V.1 10 + nI 1 = nI (cnt (fun k => decide (¬ upd (V.2.2.1 3) J (nI b) k = mI)) (J + 1))
            rw [cnt_s, upd_eq, r3.2.2.2.2.1, nI_add]
            have e : cnt (fun k => decide (¬ upd (V.2.2.1 3) J (nI b) k = mI)) J = cnt (fun k => decide (¬ V.2.2.1 3 k = mI)) J := cnt_congr (fun k hk => by rw [upd_ne _ _ (by omega)])
            rw [e]
            have := mI_ne (show b < 2 ^ 31 by omega)
            simp [this]
          · intro d hd
            show cnt (fun k => decide (upd (V.2.2.1 3) J (nI b) k = nI d)) (J + 1) ≤ 6
            have e : cnt (fun k => decide (upd (V.2.2.1 3) J (nI b) k = nI d)) J = cnt (fun k => decide (V.2.2.1 3 k = nI d)) J := cnt_congr (fun k hk => by rw [upd_ne _ _ (by omega)])
            have hd1 := r3.2.2.2.2.2.1 d hd
            rw [cnt_s, upd_eq, e]
            by_cases cd : b = d
            · subst cd
              simp
              omega
            · have hne := nE (show b < 2 ^ 31 by omega) (show d < 2 ^ 31 by omega)
              simp [hne, cd]
              omega
          · intro p hp
            obtain ⟨t1, t2, t3⟩ := r4 p hp
            exact ⟨t1, fun hh => t2 (by omega), t3⟩
          · obtain ⟨W, n, q, pr, ak, w1, w2, w3, w4, w5, w6, w7⟩ := r6
            refine ⟨W, n, q, pr, ak, w1, w2, w3, w4, fun j hj => ?_, w6, fun p hp2 hm hno => ?_⟩
            · obtain ⟨v1, v2, v3, v4, v5, v6⟩ := w5 j hj
              refine ⟨v1, by omega, ?_, v4, ?_, v6⟩
              · show ¬ upd (V.2.2.1 3) J (nI b) (q j) = mI
                rw [upd_ne _ _ (by omega)]; exact v3
              · show upd (Z.2.2.1 14) J mI (q j) = _
                rw [upd_ne _ _ (by omega)]; exact v5
            · show upd (Z.2.2.1 14) J mI p = mI
              replace hm : ¬ upd (V.2.2.1 3) J (nI b) p = mI := hm
              by_cases cp : p = J
              · subst cp; rw [upd_eq]
              · rw [upd_ne _ _ cp] at hm ⊢
                exact w7 p (by omega) hm hno
          · intro hn
            exact absurd hn (nI_nn (by omega))
          · intro _
            rw [hgen]
            exact ⟨fun i hi => by simp only [sgets, show i ≠ 12 by omega, if_false], ⟨rfl, rfl⟩, rfl, rfl⟩
    · rw [if_pos hy]
      rw [show decide (nI 0 ≤ y ∧ y ≤ nI 1) = false by simp [hy]] at h110
      refine sim_er h n3 ?_
      rw [e114]
      simp (disch := first | omega | (simp only [sgets, reduceIte, Nat.reduceEqDiff, dec_S, Nat.reduceAdd]; done) | omega) only [cS_1, crd, z_pv_some, z_wv_some, z_cv_v, z_cv_n, cwr, sgets, rc_O, ia_n, fa_n, is_n, fs_n, ↓mI_eq, lits, nI_add, nLe, nLt, nE, mI_ne, mI_ne', mI_lt, mI_le, mI_nlt, mI_nle, ne_eq, mI_addC, pk_sub, pk_mul, pk_div, Nat.reduceEqDiff, Nat.reduceAdd, Nat.reduceMul, Nat.reduceSub, reduceIte, not_true_eq_false, not_false_eq_true, true_or, or_true, if_true, if_false, and_self, and_true, true_and, and_false, false_and, or_self, or_false, false_or, decide_true, decide_false, Bool.false_eq_true, Bool.true_eq_false, bI_t, bI_f, oS_1, ord, owA0, owF0, owF1, owA1, owF2, owA2, owF3, owA3, ywo, gfs11, pfs11, yrd, ywr, b114, h109, h110, bI_t, bI_f, dec_S, Nat.reduceAdd]
theorem s108 (M : z_M) (o : Nat) (w : Int64) {c J S Hy B : Nat} {V Y : z_V} (h : Rl c J S Hy B V Y) (hX : okX Y) (x y : Int32) (z : Bool) : sim M o w 108 [.int x, .int y, .int (bI z)] Y (linkR V B x y z) c := by
  have h109 := m109 M o w h x
  have h110 := m110 y (nI 1) (nI 4) (yS M o Y w)
  have e108 := e108 o x y (bI z) (yS M o Y w)
  have hB := h.1.2.2.2.1
  have e11 : Y.1 11 = nI B := by rw [h.2.2.2.1.2.2.2.2.2.2.2.2.2.1]; exact hB.2
  unfold linkR
  by_cases hb : hasB V x = false
  · rw [if_pos hb]
    rw [hb] at h109
    refine sim_er h n2 ?_
    rw [e108]
    simp (disch := first | omega | (simp only [sgets, reduceIte, Nat.reduceEqDiff, dec_S, Nat.reduceAdd]; done) | omega) only [cS_1, crd, z_pv_some, z_wv_some, z_cv_v, z_cv_n, cwr, sgets, rc_O, ia_n, fa_n, is_n, fs_n, ↓mI_eq, lits, nI_add, nLe, nLt, nE, mI_ne, mI_ne', mI_lt, mI_le, mI_nlt, mI_nle, ne_eq, mI_addC, pk_sub, pk_mul, pk_div, Nat.reduceEqDiff, Nat.reduceAdd, Nat.reduceMul, Nat.reduceSub, reduceIte, not_true_eq_false, not_false_eq_true, true_or, or_true, if_true, if_false, and_self, and_true, true_and, and_false, false_and, or_self, or_false, false_or, decide_true, decide_false, Bool.false_eq_true, Bool.true_eq_false, bI_t, bI_f, oS_1, ord, owA0, owF0, owF1, owA1, owF2, owA2, owF3, owA3, ywo, gfs11, pfs11, yrd, ywr, b108, h109, bI_f, dec_S, Nat.reduceAdd]
  · rw [if_neg hb]
    have hb := bool_f hb
    rw [hb] at h109
    obtain ⟨b, hb8, rfl⟩ := has_b hB.1 hB.2 hb
    by_cases hy : nI 1 ≤ y ∧ y ≤ nI 4
    · rw [if_neg (by simp [hy])]
      rw [show decide (nI 1 ≤ y ∧ y ≤ nI 4) = true by simp [hy]] at h110
      obtain ⟨t, ht1, ht, rfl⟩ := in_nI (by omega) (by omega) hy
      by_cases c8 : 8 ≤ B
      · rw [if_pos c8]
        have c9 : B = 8 := by omega
        refine sim_er h n5 ?_
        rw [e108]
        simp (disch := first | omega | (simp only [sgets, reduceIte, Nat.reduceEqDiff, e11, c9, dec_S, Nat.reduceAdd]; done) | omega) only [cS_1, crd, z_pv_some, z_wv_some, z_cv_v, z_cv_n, cwr, sgets, rc_O, ia_n, fa_n, is_n, fs_n, ↓mI_eq, lits, nI_add, nLe, nLt, nE, mI_ne, mI_ne', mI_lt, mI_le, mI_nlt, mI_nle, ne_eq, mI_addC, pk_sub, pk_mul, pk_div, Nat.reduceEqDiff, Nat.reduceAdd, Nat.reduceMul, Nat.reduceSub, reduceIte, not_true_eq_false, not_false_eq_true, true_or, or_true, if_true, if_false, and_self, and_true, true_and, and_false, false_and, or_self, or_false, false_or, decide_true, decide_false, Bool.false_eq_true, Bool.true_eq_false, bI_t, bI_f, oS_1, ord, owA0, owF0, owF1, owA1, owF2, owA2, owF3, owA3, ywo, gfs11, pfs11, yrd, ywr, b108, h109, h110, bI_t, e11, c9, dec_S, Nat.reduceAdd]
      · rw [if_neg c8]
        have c9 : ¬ B = 8 := by omega
        obtain ⟨s, hs, h13⟩ := hX
        have h111 := m111 M o Y w s hs h13
        have hZ := Rl_kV sv_kV h
        generalize hgen : svY Y = Z at h111 hZ
        have e11Z : Z.1 11 = nI B := by rw [hZ.2.2.2.1.2.2.2.2.2.2.2.2.2.1]; exact hB.2
        have g1 := m113 M o Z w B 0 (by omega) (by omega) (nI b)
        have g2 := m113 M o (sA Z 0 (upd (Z.2.2.1 0) B (nI b))) w B 1 (by omega) (by omega) (nI t)
        have g3 := m113 M o (sA (sA Z 0 (upd (Z.2.2.1 0) B (nI b))) 1 (upd (Z.2.2.1 1) B (nI t))) w B 2 (by omega) (by omega) (bI z)
        simp only [sgets, Nat.reduceEqDiff, if_false] at g1 g2 g3
        obtain ⟨hC, hf, hSB, r1, r2, r3, r4, r5, r6, r7⟩ := hZ
        obtain ⟨⟨hJ, h9⟩, ⟨hS, h1⟩, ⟨hH, h2⟩, ⟨-, h8⟩, hE, hw, hl, hd, hst, hpl, hmx⟩ := hC
        obtain ⟨g4, g5, g6, g7, g8⟩ := r7
        have hpar : ∀ j, j < B → ¬ V.2.2.1 0 j = nI B := by
          intro j hj e
          by_cases j0 : j = 0
          · subst j0
            rw [g7, mI_ne' (by omega)] at e
            exact e
          · obtain ⟨a, ha, e2⟩ := g8 j (by omega) hj
            rw [e2, nE (by omega) (by omega)] at e
            omega
        refine ⟨sS (sA (sA (sA Z 0 (upd (Z.2.2.1 0) B (nI b))) 1 (upd (Z.2.2.1 1) B (nI t))) 2 (upd (Z.2.2.1 2) B (bI z))) 11 (nI (B + 1)), ?_, ⟨J, S, Hy, B + 1, ⟨⟨hJ, h9⟩, ⟨hS, h1⟩, ⟨hH, h2⟩, ⟨by omega, rfl⟩, hE, hw, hl, hd, hst, ?_, hmx⟩, hf, ⟨hSB.1, by omega⟩, ⟨r1.1, r1.2.1, r1.2.2.1, r1.2.2.2.1, r1.2.2.2.2.1, r1.2.2.2.2.2.1, r1.2.2.2.2.2.2.1, r1.2.2.2.2.2.2.2.1, r1.2.2.2.2.2.2.2.2.1, rfl, r1.2.2.2.2.2.2.2.2.2.2⟩, ⟨r2.1, r2.2.1, r2.2.2.1, r2.2.2.2.1, r2.2.2.2.2.1, r2.2.2.2.2.2.1, r2.2.2.2.2.2.2.1, r2.2.2.2.2.2.2.2.1, ?_, ?_, ?_, r2.2.2.2.2.2.2.2.2.2.2.2⟩, ⟨r3.1, ?_, r3.2.2⟩, ?_, r5, r6, ?_, ?_, ?_, ?_, ?_⟩, ?_, ?_⟩
        · rw [e108]
          cases z
          · rw [bI_f] at g3
            simp (disch := first | omega | (simp only [sgets, reduceIte, Nat.reduceEqDiff, e11, c9, e11Z, dec_S, Nat.reduceAdd]; done) | omega) only [cS_1, crd, z_pv_some, z_wv_some, z_cv_v, z_cv_n, cwr, sgets, rc_O, ia_n, fa_n, is_n, fs_n, ↓mI_eq, lits, nI_add, nLe, nLt, nE, mI_ne, mI_ne', mI_lt, mI_le, mI_nlt, mI_nle, ne_eq, mI_addC, pk_sub, pk_mul, pk_div, Nat.reduceEqDiff, Nat.reduceAdd, Nat.reduceMul, Nat.reduceSub, reduceIte, not_true_eq_false, not_false_eq_true, true_or, or_true, if_true, if_false, and_self, and_true, true_and, and_false, false_and, or_self, or_false, false_or, decide_true, decide_false, Bool.false_eq_true, Bool.true_eq_false, bI_t, bI_f, oS_1, ord, owA0, owF0, owF1, owA1, owF2, owA2, owF3, owA3, ywo, gfs11, pfs11, yrd, ywr, b108, h109, h110, bI_t, bI_f, h111, g1, g2, g3, e11, c9, e11Z, dec_S, Nat.reduceAdd]
          · rw [bI_t] at g3
            simp (disch := first | omega | (simp only [sgets, reduceIte, Nat.reduceEqDiff, e11, c9, e11Z, dec_S, Nat.reduceAdd]; done) | omega) only [cS_1, crd, z_pv_some, z_wv_some, z_cv_v, z_cv_n, cwr, sgets, rc_O, ia_n, fa_n, is_n, fs_n, ↓mI_eq, lits, nI_add, nLe, nLt, nE, mI_ne, mI_ne', mI_lt, mI_le, mI_nlt, mI_nle, ne_eq, mI_addC, pk_sub, pk_mul, pk_div, Nat.reduceEqDiff, Nat.reduceAdd, Nat.reduceMul, Nat.reduceSub, reduceIte, not_true_eq_false, not_false_eq_true, true_or, or_true, if_true, if_false, and_self, and_true, true_and, and_false, false_and, or_self, or_false, false_or, decide_true, decide_false, Bool.false_eq_true, Bool.true_eq_false, bI_t, bI_f, oS_1, ord, owA0, owF0, owF1, owA1, owF2, owA2, owF3, owA3, ywo, gfs11, pfs11, yrd, ywr, b108, h109, h110, bI_t, bI_f, h111, g1, g2, g3, e11, c9, e11Z, dec_S, Nat.reduceAdd]
        · intro d hd2
          show ∃ n, n ≤ 4 ∧ upd (V.2.2.1 1) B (nI t) d = nI n
          by_cases cd : d = B
          · subst cd; rw [upd_eq]; exact ⟨t, ht, rfl⟩
          · rw [upd_ne _ _ cd]; exact hpl d hd2
        · show upd (Z.2.2.1 0) B (nI b) = upd (V.2.2.1 0) B (nI b)
          rw [r2.2.2.2.2.2.2.2.2.1]
        · show upd (Z.2.2.1 1) B (nI t) = upd (V.2.2.1 1) B (nI t)
          rw [r2.2.2.2.2.2.2.2.2.2.1]
        · show upd (Z.2.2.1 2) B (bI z) = upd (V.2.2.1 2) B (bI z)
          rw [r2.2.2.2.2.2.2.2.2.2.2.1]
        · intro p hp hm
          obtain ⟨k1, k2, k3, d, k4, k5⟩ := r3.2.1 p hp hm
          exact ⟨k1, k2, k3, d, by omega, k5⟩
        · intro p hp
          obtain ⟨t1, t2, t3⟩ := r4 p hp
          refine ⟨?_, t2, t3⟩
          rcases t1 with t1 | ⟨d, t1, t4⟩
          · exact Or.inl t1
          · exact Or.inr ⟨d, by omega, t4⟩
        · intro yy xx hyy hxx
          have eU : ∀ j, (addBr V B (nI b) (nI t) z).2.2.1 0 j = upd (V.2.2.1 0) B (nI b) j := fun j => rfl
          by_cases cy : yy = B
          · subst cy
            have ez := g6 yy xx (by omega) (by omega) (Or.inl (Nat.le_refl _))
            refine ⟨fun _ => ez, fun v hv hv16 => ?_⟩
            unfold way at hv
            rw [eU, eU, upd_eq] at hv
            by_cases c1 : nI b = nI xx
            · rw [if_pos c1, nE (by omega) (by omega)] at hv
              subst hv
              have := (g5 yy (by omega) (Nat.le_refl _)).1
              refine ⟨ez.trans this.symm, fun k hk => ?_⟩
              replace hk : k < (V.2.2.1 16 yy).toNatClampNeg := hk
              rw [this, nI_clamp (by omega)] at hk
              omega
            · rw [if_neg c1] at hv
              by_cases c2 : xx = yy
              · subst c2
                rw [upd_eq, if_neg (by rw [nE (by omega) (by omega)]; omega), mI_ne' (by omega)] at hv
                exact hv.elim
              · rw [upd_ne _ _ c2, if_neg (hpar xx (by omega)), mI_ne' (by omega)] at hv
                exact hv.elim
          · by_cases cx : xx = B
            · subst cx
              have ez := g6 yy xx (by omega) (by omega) (Or.inr (Nat.le_refl _))
              refine ⟨fun _ => ez, fun v hv hv16 => ?_⟩
              unfold way at hv
              rw [eU, eU, upd_eq, upd_ne _ _ cy, if_neg (hpar yy (by omega))] at hv
              by_cases c1 : nI b = nI yy
              · rw [if_pos c1, nE (by omega) (by omega)] at hv
                subst hv
                have := (g5 xx (by omega) (Nat.le_refl _)).2
                refine ⟨ez.trans this.symm, fun k hk => ?_⟩
                replace hk : k < (V.2.2.1 16 (8 + xx)).toNatClampNeg := hk
                rw [this, nI_clamp (by omega)] at hk
                omega
              · rw [if_neg c1, mI_ne' (by omega)] at hv
                exact hv.elim
            · have ew : way (addBr V B (nI b) (nI t) z) yy xx = way V yy xx := by
                unfold way
                rw [eU, eU, upd_ne _ _ cy, upd_ne _ _ cx]
              rw [ew]
              exact g4 yy xx (by omega) (by omega)
        · intro d hd1 hd2
          exact g5 d hd1 (by omega)
        · intro yy xx hyy hxx hor
          exact g6 yy xx hyy hxx (by omega)
        · show upd (V.2.2.1 0) B (nI b) 0 = mI
          rw [upd_ne _ _ (by omega)]; exact g7
        · intro d hd1 hd2
          show ∃ a, a < d ∧ upd (V.2.2.1 0) B (nI b) d = nI a
          by_cases cd : d = B
          · subst cd; rw [upd_eq]; exact ⟨b, hb8, rfl⟩
          · rw [upd_ne _ _ cd]; exact g8 d hd1 (by omega)
        · intro hn
          exact absurd hn (nI_nn (by omega))
        · intro _
          rw [hgen]
          exact ⟨fun i hi => by simp only [sgets, show i ≠ 11 by omega, if_false], ⟨rfl, rfl⟩, rfl, rfl⟩
    · rw [if_pos hy]
      rw [show decide (nI 1 ≤ y ∧ y ≤ nI 4) = false by simp [hy]] at h110
      refine sim_er h n3 ?_
      rw [e108]
      simp (disch := first | omega | (simp only [sgets, reduceIte, Nat.reduceEqDiff, dec_S, Nat.reduceAdd]; done) | omega) only [cS_1, crd, z_pv_some, z_wv_some, z_cv_v, z_cv_n, cwr, sgets, rc_O, ia_n, fa_n, is_n, fs_n, ↓mI_eq, lits, nI_add, nLe, nLt, nE, mI_ne, mI_ne', mI_lt, mI_le, mI_nlt, mI_nle, ne_eq, mI_addC, pk_sub, pk_mul, pk_div, Nat.reduceEqDiff, Nat.reduceAdd, Nat.reduceMul, Nat.reduceSub, reduceIte, not_true_eq_false, not_false_eq_true, true_or, or_true, if_true, if_false, and_self, and_true, true_and, and_false, false_and, or_self, or_false, false_or, decide_true, decide_false, Bool.false_eq_true, Bool.true_eq_false, bI_t, bI_f, oS_1, ord, owA0, owF0, owF1, owA1, owF2, owA2, owF3, owA3, ywo, gfs11, pfs11, yrd, ywr, b108, h109, h110, bI_t, bI_f, dec_S, Nat.reduceAdd]
