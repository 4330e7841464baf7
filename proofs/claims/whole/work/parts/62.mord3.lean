/-! the model's orders: move, join -/
theorem bI_d {p q : Prop} [Decidable p] [Decidable q] (h : p ↔ q) : decide p = decide q := by simp [h]
theorem has_b {V : z_V} {x : Int32} {B : Nat} (hB : B ≤ 8) (h8 : V.1 8 = nI B) (h : hasB V x = true) : ∃ b, b < B ∧ x = nI b := by
  unfold hasB at h
  rw [h8] at h
  exact has_k (by omega) (of_decide_eq_true h)
theorem s122 (M : z_M) (o : Nat) (w : Int64) {c J S Hy B : Nat} {V Y : z_V} (h : Rl c J S Hy B V Y) (hX : okX Y) (x y : Int32) : sim M o w 122 [.int x, .int y] Y (trnR V J x y) c := by
  have h120 := m120 M o w h x
  have h109 := m109 M o w h y
  have e122 := e122 o x y (yS M o Y w)
  have hB := h.1.2.2.2.1
  unfold trnR
  by_cases hh : here V x = false
  · rw [if_pos (Or.inl hh)]
    rw [hh] at h120
    refine sim_er h n2 ?_
    rw [e122]
    simp (disch := first | omega | (simp only [sgets, reduceIte, Nat.reduceEqDiff, dec_S, Nat.reduceAdd]; done) | omega) only [cS_1, crd, z_pv_some, z_wv_some, z_cv_v, z_cv_n, cwr, sgets, rc_O, ia_n, fa_n, is_n, fs_n, ↓mI_eq, lits, nI_add, nLe, nLt, nE, mI_ne, mI_ne', mI_lt, mI_le, mI_nlt, mI_nle, ne_eq, mI_addC, pk_sub, pk_mul, pk_div, Nat.reduceEqDiff, Nat.reduceAdd, Nat.reduceMul, Nat.reduceSub, reduceIte, not_true_eq_false, not_false_eq_true, true_or, or_true, if_true, if_false, and_self, and_true, true_and, and_false, false_and, or_self, or_false, false_or, decide_true, decide_false, Bool.false_eq_true, Bool.true_eq_false, bI_t, bI_f, oS_1, ord, owA0, owF0, owF1, owA1, owF2, owA2, owF3, owA3, ywo, gfs11, pfs11, yrd, ywr, b122, h120, bI_f, dec_S, Nat.reduceAdd]
  · have hh := bool_f hh
    rw [hh] at h120
    obtain ⟨k, hk, rfl, hp⟩ := here_k (Rl_J h).1 (Rl_J h).2 hh
    have hJ := (Rl_J h).1
    rw [nI_clamp (by omega)]
    by_cases hb : hasB V y = false
    · rw [if_pos (Or.inr hb)]
      rw [hb] at h109
      refine sim_er h n2 ?_
      rw [e122]
      simp (disch := first | omega | (simp only [sgets, reduceIte, Nat.reduceEqDiff, dec_S, Nat.reduceAdd]; done) | omega) only [cS_1, crd, z_pv_some, z_wv_some, z_cv_v, z_cv_n, cwr, sgets, rc_O, ia_n, fa_n, is_n, fs_n, ↓mI_eq, lits, nI_add, nLe, nLt, nE, mI_ne, mI_ne', mI_lt, mI_le, mI_nlt, mI_nle, ne_eq, mI_addC, pk_sub, pk_mul, pk_div, Nat.reduceEqDiff, Nat.reduceAdd, Nat.reduceMul, Nat.reduceSub, reduceIte, not_true_eq_false, not_false_eq_true, true_or, or_true, if_true, if_false, and_self, and_true, true_and, and_false, false_and, or_self, or_false, false_or, decide_true, decide_false, Bool.false_eq_true, Bool.true_eq_false, bI_t, bI_f, oS_1, ord, owA0, owF0, owF1, owA1, owF2, owA2, owF3, owA3, ywo, gfs11, pfs11, yrd, ywr, b122, h120, h109, bI_f, bI_t, dec_S, Nat.reduceAdd]
    · have hb := bool_f hb
      rw [hb] at h109
      rw [if_neg (by simp [hh, hb])]
      obtain ⟨b, hb8, rfl⟩ := has_b hB.1 hB.2 hb
      rw [nI_clamp (by omega)]
      have hat := m116 M o Y w k 2 (by omega) (by omega)
      have hki := m116 M o Y w k 1 (by omega) (by omega)
      have hph := m117 M o Y w b 2 (by omega) (by omega)
      have hct := m115 M o w Y J hJ (Rl_12 h) 2 (by omega) (nI b)
      rw [cnt_at h b (by omega)] at hct
      have hh3 := h.2.2.2.2.2.1
      have hA := h.2.2.2.2.1
      obtain ⟨f1, f2, f3, b0, f4, f5⟩ := hh3.2.1 k hk hp
      have e6 : Y.2.2.1 6 k = nI b0 := by rw [f2, f5]
      have e5 : Y.2.2.1 5 k = V.2.2.1 4 k := by rw [hA.1]
      have e2 : Y.2.2.1 2 b = V.2.2.1 2 b := by rw [hA.2.2.2.2.2.2.2.2.2.2.1]
      have hle := hh3.2.2.2.2.2.1 b (by omega)
      have hcb : cnt (fun j => decide (V.2.2.1 3 j = nI b)) J = cnt (fun j => decide (V.2.2.1 3 j = nI b ∧ ¬ nI j = nI k)) J + if b0 = b then 1 else 0 := by
        rw [cnt_but (fun j => decide (V.2.2.1 3 j = nI b)) k J]
        congr 1
        · apply cnt_congr
          intro j hj
          have hne := nE (show j < 2 ^ 31 by omega) (show k < 2 ^ 31 by omega)
          by_cases c1 : V.2.2.1 3 j = nI b <;> by_cases c2 : j = k <;> simp [c1, c2, hne]
        · simp only [decide_eq_true_eq, f5, nE (show b0 < 2 ^ 31 by omega) (show b < 2 ^ 31 by omega)]
          by_cases c1 : b0 = b <;> simp [c1, hk]
      by_cases c6 : 6 ≤ cnt (fun j => decide (V.2.2.1 3 j = nI b ∧ ¬ nI j = nI k)) J
      · rw [if_pos c6]
        refine sim_er h n5 ?_
        rw [e122]
        by_cases c1 : b0 = b
        · rw [if_pos c1] at hcb
          omega
        · rw [if_neg c1, Nat.add_zero] at hcb
          rw [hcb] at hct
          have c6n : ¬ cnt (fun j => decide (V.2.2.1 3 j = nI b ∧ ¬ nI j = nI k)) J < 6 := by omega
          simp (disch := first | omega | (simp only [sgets, reduceIte, Nat.reduceEqDiff, e6, c1, c6n, dec_S, Nat.reduceAdd]; done) | omega) only [cS_1, crd, z_pv_some, z_wv_some, z_cv_v, z_cv_n, cwr, sgets, rc_O, ia_n, fa_n, is_n, fs_n, ↓mI_eq, lits, nI_add, nLe, nLt, nE, mI_ne, mI_ne', mI_lt, mI_le, mI_nlt, mI_nle, ne_eq, mI_addC, pk_sub, pk_mul, pk_div, Nat.reduceEqDiff, Nat.reduceAdd, Nat.reduceMul, Nat.reduceSub, reduceIte, not_true_eq_false, not_false_eq_true, true_or, or_true, if_true, if_false, and_self, and_true, true_and, and_false, false_and, or_self, or_false, false_or, decide_true, decide_false, Bool.false_eq_true, Bool.true_eq_false, bI_t, bI_f, oS_1, ord, owA0, owF0, owF1, owA1, owF2, owA2, owF3, owA3, ywo, gfs11, pfs11, yrd, ywr, b122, h120, h109, hat, hct, bI_f, bI_t, Nat.sub_zero, e6, c1, c6n, dec_S, Nat.reduceAdd]
      · rw [if_neg c6]
        have c6' : cnt (fun j => decide (V.2.2.1 3 j = nI b ∧ ¬ nI j = nI k)) J < 6 := by omega
        by_cases c7 : V.2.2.1 4 k = nI 1 ∧ V.2.2.1 2 b = nI 1
        · rw [if_pos c7]
          refine sim_er h n6 ?_
          obtain ⟨c8, c9⟩ := c7
          rw [e122]
          rw [hcb] at hct
          by_cases c1 : b0 = b
          · rw [if_pos c1] at hct
            simp (disch := first | omega | (simp only [sgets, reduceIte, Nat.reduceEqDiff, e6, c1, c6', e5, e2, c8, c9, dec_S, Nat.reduceAdd]; done) | omega) only [cS_1, crd, z_pv_some, z_wv_some, z_cv_v, z_cv_n, cwr, sgets, rc_O, ia_n, fa_n, is_n, fs_n, ↓mI_eq, lits, nI_add, nLe, nLt, nE, mI_ne, mI_ne', mI_lt, mI_le, mI_nlt, mI_nle, ne_eq, mI_addC, pk_sub, pk_mul, pk_div, Nat.reduceEqDiff, Nat.reduceAdd, Nat.reduceMul, Nat.reduceSub, reduceIte, not_true_eq_false, not_false_eq_true, true_or, or_true, if_true, if_false, and_self, and_true, true_and, and_false, false_and, or_self, or_false, false_or, decide_true, decide_false, Bool.false_eq_true, Bool.true_eq_false, bI_t, bI_f, oS_1, ord, owA0, owF0, owF1, owA1, owF2, owA2, owF3, owA3, ywo, gfs11, pfs11, yrd, ywr, b122, h120, h109, hat, hct, hki, hph, bI_f, bI_t, Nat.add_sub_cancel, e6, c1, c6', e5, e2, c8, c9, dec_S, Nat.reduceAdd]
          · rw [if_neg c1, Nat.add_zero] at hct
            simp (disch := first | omega | (simp only [sgets, reduceIte, Nat.reduceEqDiff, e6, c1, c6', e5, e2, c8, c9, dec_S, Nat.reduceAdd]; done) | omega) only [cS_1, crd, z_pv_some, z_wv_some, z_cv_v, z_cv_n, cwr, sgets, rc_O, ia_n, fa_n, is_n, fs_n, ↓mI_eq, lits, nI_add, nLe, nLt, nE, mI_ne, mI_ne', mI_lt, mI_le, mI_nlt, mI_nle, ne_eq, mI_addC, pk_sub, pk_mul, pk_div, Nat.reduceEqDiff, Nat.reduceAdd, Nat.reduceMul, Nat.reduceSub, reduceIte, not_true_eq_false, not_false_eq_true, true_or, or_true, if_true, if_false, and_self, and_true, true_and, and_false, false_and, or_self, or_false, false_or, decide_true, decide_false, Bool.false_eq_true, Bool.true_eq_false, bI_t, bI_f, oS_1, ord, owA0, owF0, owF1, owA1, owF2, owA2, owF3, owA3, ywo, gfs11, pfs11, yrd, ywr, b122, h120, h109, hat, hct, hki, hph, bI_f, bI_t, Nat.sub_zero, e6, c1, c6', e5, e2, c8, c9, dec_S, Nat.reduceAdd]
        · rw [if_neg c7]
          obtain ⟨s, hs, h13⟩ := hX
          have h111 := m111 M o Y w s hs h13
          have hZ := Rl_kV sv_kV h
          generalize hgen : svY Y = Z at h111 hZ
          have g2 := m118 M o Z w k 2 (by omega) (by omega) (nI b)
          obtain ⟨hC, hf, hSB, r1, r2, r3, r4, r5, r6, r7⟩ := hZ
          refine ⟨sA Z 6 (upd (Z.2.2.1 6) k (nI b)), ?_, ⟨J, S, Hy, B, hC, hf, hSB, r1, r2, ⟨?_, ?_, r3.2.2.1, r3.2.2.2.1, ?_, ?_, r3.2.2.2.2.2.2⟩, r4, r5, ?_, r7⟩, ?_, ?_⟩
          · rw [e122, f5]
            rw [hcb] at hct
            by_cases c1 : b0 = b
            · rw [if_pos c1] at hct
              by_cases c8 : V.2.2.1 4 k = nI 1
              · have c9 : ¬ V.2.2.1 2 b = nI 1 := fun h => c7 ⟨c8, h⟩
                simp (disch := first | omega | (simp only [sgets, reduceIte, Nat.reduceEqDiff, e6, c1, c6', e5, e2, c8, c9, dec_S, Nat.reduceAdd]; done) | omega) only [cS_1, crd, z_pv_some, z_wv_some, z_cv_v, z_cv_n, cwr, sgets, rc_O, ia_n, fa_n, is_n, fs_n, ↓mI_eq, lits, nI_add, nLe, nLt, nE, mI_ne, mI_ne', mI_lt, mI_le, mI_nlt, mI_nle, ne_eq, mI_addC, pk_sub, pk_mul, pk_div, Nat.reduceEqDiff, Nat.reduceAdd, Nat.reduceMul, Nat.reduceSub, reduceIte, not_true_eq_false, not_false_eq_true, true_or, or_true, if_true, if_false, and_self, and_true, true_and, and_false, false_and, or_self, or_false, false_or, decide_true, decide_false, Bool.false_eq_true, Bool.true_eq_false, bI_t, bI_f, oS_1, ord, owA0, owF0, owF1, owA1, owF2, owA2, owF3, owA3, ywo, gfs11, pfs11, yrd, ywr, b122, h120, h109, hat, hct, hki, hph, h111, g2, bI_f, bI_t, Nat.add_sub_cancel, e6, c1, c6', e5, e2, c8, c9, dec_S, Nat.reduceAdd]
              · simp (disch := first | omega | (simp only [sgets, reduceIte, Nat.reduceEqDiff, e6, c1, c6', e5, e2, c8, dec_S, Nat.reduceAdd]; done) | omega) only [cS_1, crd, z_pv_some, z_wv_some, z_cv_v, z_cv_n, cwr, sgets, rc_O, ia_n, fa_n, is_n, fs_n, ↓mI_eq, lits, nI_add, nLe, nLt, nE, mI_ne, mI_ne', mI_lt, mI_le, mI_nlt, mI_nle, ne_eq, mI_addC, pk_sub, pk_mul, pk_div, Nat.reduceEqDiff, Nat.reduceAdd, Nat.reduceMul, Nat.reduceSub, reduceIte, not_true_eq_false, not_false_eq_true, true_or, or_true, if_true, if_false, and_self, and_true, true_and, and_false, false_and, or_self, or_false, false_or, decide_true, decide_false, Bool.false_eq_true, Bool.true_eq_false, bI_t, bI_f, oS_1, ord, owA0, owF0, owF1, owA1, owF2, owA2, owF3, owA3, ywo, gfs11, pfs11, yrd, ywr, b122, h120, h109, hat, hct, hki, hph, h111, g2, bI_f, bI_t, Nat.add_sub_cancel, e6, c1, c6', e5, e2, c8, dec_S, Nat.reduceAdd]
            · rw [if_neg c1, Nat.add_zero] at hct
              by_cases c8 : V.2.2.1 4 k = nI 1
              · have c9 : ¬ V.2.2.1 2 b = nI 1 := fun h => c7 ⟨c8, h⟩
                simp (disch := first | omega | (simp only [sgets, reduceIte, Nat.reduceEqDiff, e6, c1, c6', e5, e2, c8, c9, dec_S, Nat.reduceAdd]; done) | omega) only [cS_1, crd, z_pv_some, z_wv_some, z_cv_v, z_cv_n, cwr, sgets, rc_O, ia_n, fa_n, is_n, fs_n, ↓mI_eq, lits, nI_add, nLe, nLt, nE, mI_ne, mI_ne', mI_lt, mI_le, mI_nlt, mI_nle, ne_eq, mI_addC, pk_sub, pk_mul, pk_div, Nat.reduceEqDiff, Nat.reduceAdd, Nat.reduceMul, Nat.reduceSub, reduceIte, not_true_eq_false, not_false_eq_true, true_or, or_true, if_true, if_false, and_self, and_true, true_and, and_false, false_and, or_self, or_false, false_or, decide_true, decide_false, Bool.false_eq_true, Bool.true_eq_false, bI_t, bI_f, oS_1, ord, owA0, owF0, owF1, owA1, owF2, owA2, owF3, owA3, ywo, gfs11, pfs11, yrd, ywr, b122, h120, h109, hat, hct, hki, hph, h111, g2, bI_f, bI_t, Nat.sub_zero, e6, c1, c6', e5, e2, c8, c9, dec_S, Nat.reduceAdd]
              · simp (disch := first | omega | (simp only [sgets, reduceIte, Nat.reduceEqDiff, e6, c1, c6', e5, e2, c8, dec_S, Nat.reduceAdd]; done) | omega) only [cS_1, crd, z_pv_some, z_wv_some, z_cv_v, z_cv_n, cwr, sgets, rc_O, ia_n, fa_n, is_n, fs_n, ↓mI_eq, lits, nI_add, nLe, nLt, nE, mI_ne, mI_ne', mI_lt, mI_le, mI_nlt, mI_nle, ne_eq, mI_addC, pk_sub, pk_mul, pk_div, Nat.reduceEqDiff, Nat.reduceAdd, Nat.reduceMul, Nat.reduceSub, reduceIte, not_true_eq_false, not_false_eq_true, true_or, or_true, if_true, if_false, and_self, and_true, true_and, and_false, false_and, or_self, or_false, false_or, decide_true, decide_false, Bool.false_eq_true, Bool.true_eq_false, bI_t, bI_f, oS_1, ord, owA0, owF0, owF1, owA1, owF2, owA2, owF3, owA3, ywo, gfs11, pfs11, yrd, ywr, b122, h120, h109, hat, hct, hki, hph, h111, g2, bI_f, bI_t, Nat.sub_zero, e6, c1, c6', e5, e2, c8, dec_S, Nat.reduceAdd]
          · intro p hp2 hm
            replace hm : upd (V.2.2.1 3) k (nI b) p = mI := hm
            by_cases cp : p = k
            · subst cp
              rw [upd_eq, mI_ne (by omega)] at hm
              exact hm.elim
            · rw [upd_ne _ _ cp] at hm
              exact r3.1 p hp2 hm
          · intro p hp2 hm
            replace hm : ¬ upd (V.2.2.1 3) k (nI b) p = mI := hm
            show Z.2.2.1 4 p = nI 1 ∧ upd (Z.2.2.1 6) k (nI b) p = upd (V.2.2.1 3) k (nI b) p ∧ Z.2.2.1 11 p = V.2.2.1 13 p ∧ ∃ d, d < B ∧ upd (V.2.2.1 3) k (nI b) p = nI d
            by_cases cp : p = k
            · subst cp
              obtain ⟨k1, k2, k3, k4⟩ := r3.2.1 p hp2 hp
              rw [upd_eq, upd_eq]
              exact ⟨k1, rfl, k3, b, hb8, rfl⟩
            · rw [upd_ne _ _ cp] at hm
              rw [upd_ne _ _ cp, upd_ne _ _ cp]
              exact r3.2.1 p hp2 hm
          · show V.1 10 = nI (cnt (fun j => decide (¬ upd (V.2.2.1 3) k (nI b) j = mI)) J)
            rw [r3.2.2.2.2.1]
            congr 1
            apply cnt_congr
            intro j hj
            by_cases cp : j = k
            · subst cp
              rw [upd_eq]
              simp [hp, mI_ne (show b < 2 ^ 31 by omega)]
            · rw [upd_ne _ _ cp]
          · intro d hd
            show cnt (fun j => decide (upd (V.2.2.1 3) k (nI b) j = nI d)) J ≤ 6
            have hd1 := r3.2.2.2.2.2.1 d hd
            by_cases cd : d = b
            · subst cd
              have e : cnt (fun j => decide (upd (V.2.2.1 3) k (nI d) j = nI d)) J = cnt (fun j => decide (V.2.2.1 3 j = nI d ∧ ¬ nI j = nI k)) J + 1 := by
                rw [cnt_but (fun j => decide (upd (V.2.2.1 3) k (nI d) j = nI d)) k J]
                congr 1
                · apply cnt_congr
                  intro j hj
                  have hne := nE (show j < 2 ^ 31 by omega) (show k < 2 ^ 31 by omega)
                  by_cases c2 : j = k
                  · simp [c2]
                  · rw [upd_ne _ _ c2]; simp [c2, hne]
                · rw [upd_eq]; simp [hk]
              omega
            · have e : cnt (fun j => decide (upd (V.2.2.1 3) k (nI b) j = nI d)) J ≤ cnt (fun j => decide (V.2.2.1 3 j = nI d)) J := by
                rw [cnt_but (fun j => decide (upd (V.2.2.1 3) k (nI b) j = nI d)) k J, cnt_but (fun j => decide (V.2.2.1 3 j = nI d)) k J]
                have e1 : cnt (fun j => decide (upd (V.2.2.1 3) k (nI b) j = nI d) && !decide (j = k)) J = cnt (fun j => decide (V.2.2.1 3 j = nI d) && !decide (j = k)) J := by
                  apply cnt_congr
                  intro j hj
                  by_cases c2 : j = k
                  · simp [c2]
                  · rw [upd_ne _ _ c2]
                have hne := nE (show b < 2 ^ 31 by omega) (show d < 2 ^ 31 by omega)
                rw [e1, upd_eq]
                have : ¬ b = d := fun h => cd h.symm
                simp [this, hne]
              omega
          · obtain ⟨W, n, q, pr, ak, w1, w2, w3, w4, w5, w6, w7⟩ := r6
            refine ⟨W, n, q, pr, ak, w1, w2, w3, w4, fun j hj => ?_, w6, fun p hp2 hm hno => ?_⟩
            · obtain ⟨v1, v2, v3, v4⟩ := w5 j hj
              refine ⟨v1, v2, ?_, v4⟩
              show ¬ upd (V.2.2.1 3) k (nI b) (q j) = mI
              by_cases cp : q j = k
              · rw [cp, upd_eq, mI_ne (by omega)]; exact id
              · rw [upd_ne _ _ cp]; exact v3
            · refine w7 p hp2 ?_ hno
              replace hm : ¬ upd (V.2.2.1 3) k (nI b) p = mI := hm
              by_cases cp : p = k
              · subst cp; exact hp
              · rw [upd_ne _ _ cp] at hm; exact hm
          · intro hn
            rw [f5] at hn
            exact absurd hn (nI_nn (by omega))
          · intro _
            rw [hgen]
            exact ⟨fun _ _ => rfl, ⟨rfl, rfl⟩, rfl, rfl⟩
