/-! the model's orders: request, giveUp -/
theorem rQ_14 {c J : Nat} {V Y : z_V} (hr : rQ c J V Y) (hJ : J ≤ 20) {p : Nat} (hp : p < J) (hh : ¬ V.2.2.1 3 p = mI) : (qAt V (nI p) (nV V 11) = mI ↔ Y.2.2.1 14 p = mI) ∧ (V.2.2.1 13 p = nI 1 → Y.2.2.1 14 p = mI) := by
  obtain ⟨W, n, q, pr, ak, w1, w2, w3, w4, w5, w6, w7⟩ := hr
  rw [nV_of w3 (by omega)]
  have key : (∀ k, k < W → q k ≠ p) ∨ ∃ k, k < W ∧ q k = p := by
    by_cases hx : ∃ k, k < W ∧ q k = p
    · exact Or.inr hx
    · exact Or.inl (fun k hk e => hx ⟨k, hk, e⟩)
  rcases qAt_sp V (nI p) W w1 with ⟨h1, h2⟩ | ⟨a, h1, h2, h3⟩
  · have h4 : Y.2.2.1 14 p = mI := w7 p hp hh (fun k hk e => h2 k hk (by rw [(w5 k hk).1, e]))
    exact ⟨⟨fun _ => h4, fun _ => h1⟩, fun _ => h4⟩
  · obtain ⟨v1, v2, v3, v4, v5, v6, v7, v8, v9⟩ := w5 a h1
    rw [v1, nE (by omega) (by omega)] at h3
    rw [h3] at v4 v5 v6
    refine ⟨⟨fun e => ?_, fun e => ?_⟩, fun e => ?_⟩
    · rw [h2, mI_ne (by omega)] at e; exact e.elim
    · rw [v5, mI_ne (by omega)] at e; exact e.elim
    · rw [v4, nE (by omega) (by omega)] at e; omega
theorem s127 (M : z_M) (o : Nat) (w : Int64) {c J S Hy B : Nat} {V Y : z_V} (h : Rl c J S Hy B V Y) (hc : c < 2 ^ 30) (hX : okX Y) (x y : Int32) : sim M o w 127 [.int x, .int y] Y (askR V x y) (c + 1) := by
  have h120 := m120 M o w h x
  have h110 := m110 y (nI 0) (nI 9) (yS M o Y w)
  have e127 := e127 o x y (yS M o Y w)
  have hup := Rl_le (Nat.le_succ c) h
  unfold askR
  by_cases hh : here V x = false
  · rw [if_pos hh]
    rw [hh] at h120
    refine sim_er hup n2 ?_
    rw [e127]
    simp (disch := first | omega | (simp only [sgets, reduceIte, Nat.reduceEqDiff, dec_S, Nat.reduceAdd]; done) | omega) only [cS_1, crd, z_pv_some, z_wv_some, z_cv_v, z_cv_n, cwr, sgets, rc_O, ia_n, fa_n, is_n, fs_n, ↓mI_eq, lits, nI_add, nLe, nLt, nE, mI_ne, mI_ne', mI_lt, mI_le, mI_nlt, mI_nle, ne_eq, mI_addC, pk_sub, pk_mul, pk_div, Nat.reduceEqDiff, Nat.reduceAdd, Nat.reduceMul, Nat.reduceSub, reduceIte, not_true_eq_false, not_false_eq_true, true_or, or_true, if_true, if_false, and_self, and_true, true_and, and_false, false_and, or_self, or_false, false_or, decide_true, decide_false, Bool.false_eq_true, Bool.true_eq_false, bI_t, bI_f, oS_1, ord, owA0, owF0, owF1, owA1, owF2, owA2, owF3, owA3, ywo, gfs11, pfs11, yrd, ywr, b127, h120, bI_f, dec_S, Nat.reduceAdd]
  · rw [if_neg hh]
    have hh := bool_f hh
    rw [hh] at h120
    obtain ⟨k, hk, rfl, hp⟩ := here_k (Rl_J h).1 (Rl_J h).2 hh
    have hJ := (Rl_J h).1
    rw [nI_clamp (by omega)]
    by_cases hy : nI 0 ≤ y ∧ y ≤ nI 9
    · rw [if_neg (by simp [hy])]
      rw [show decide (nI 0 ≤ y ∧ y ≤ nI 9) = true by simp [hy]] at h110
      obtain ⟨t, _, ht, rfl⟩ := in_nI (by omega) (by omega) hy
      have hq := rQ_14 h.2.2.2.2.2.2.2.2.1 hJ hk hp
      have hh3 := h.2.2.2.2.2.1
      have f3 := (hh3.2.1 k hk hp).2.2.1
      have i1 := m116 M o Y w k 7 (by omega) (by omega)
      have i2 := m116 M o Y w k 10 (by omega) (by omega)
      unfold stands
      by_cases c1 : V.2.2.1 13 k = nI 1
      · rw [if_pos c1, if_pos (by rw [nE (by omega) (by omega)]; omega)]
        refine sim_er hup n4 ?_
        have e11 : Y.2.2.1 11 k = nI 1 := f3.trans c1
        rw [e127]
        simp (disch := first | omega | (simp only [sgets, reduceIte, Nat.reduceEqDiff, e11, dec_S, Nat.reduceAdd]; done) | omega) only [cS_1, crd, z_pv_some, z_wv_some, z_cv_v, z_cv_n, cwr, sgets, rc_O, ia_n, fa_n, is_n, fs_n, ↓mI_eq, lits, nI_add, nLe, nLt, nE, mI_ne, mI_ne', mI_lt, mI_le, mI_nlt, mI_nle, ne_eq, mI_addC, pk_sub, pk_mul, pk_div, Nat.reduceEqDiff, Nat.reduceAdd, Nat.reduceMul, Nat.reduceSub, reduceIte, not_true_eq_false, not_false_eq_true, true_or, or_true, if_true, if_false, and_self, and_true, true_and, and_false, false_and, or_self, or_false, false_or, decide_true, decide_false, Bool.false_eq_true, Bool.true_eq_false, bI_t, bI_f, oS_1, ord, owA0, owF0, owF1, owA1, owF2, owA2, owF3, owA3, ywo, gfs11, pfs11, yrd, ywr, b127, h120, h110, i1, i2, bI_t, e11, dec_S, Nat.reduceAdd]
      · rw [if_neg c1]
        have c0 : V.2.2.1 13 k = nI 0 := by
          rcases hh3.2.2.2.1 k (by omega) with e | e
          · exact e
          · exact absurd e c1
        have e11 : Y.2.2.1 11 k = nI 0 := f3.trans c0
        by_cases c2 : qAt V (nI k) (nV V 11) = mI
        · rw [if_pos c2, if_neg (by simp)]
          have e14 := hq.1.mp c2
          obtain ⟨s, hs, h13⟩ := hX
          have h111 := m111 M o Y w s hs h13
          have hZ := Rl_kV sv_kV h
          have hkV := sv_kV (Y := Y)
          have e14Z : (svY Y).2.2.1 14 k = mI := by rw [hkV.2.1 14 (by omega)]; exact e14
          generalize hgen : svY Y = Z at h111 hZ e14Z
          have g1 := m118 M o Z w k 10 (by omega) (by omega) (nI t)
          have g2 := m118 M o (sA Z 14 (upd (Z.2.2.1 14) k (nI t))) w k 11 (by omega) (by omega) (Z.1 8)
          simp only [sgets, Nat.reduceAdd, Nat.reduceEqDiff, if_false] at g1 g2
          obtain ⟨hC, hf, hSB, r1, r2, r3, r4, r5, r6, r7⟩ := hZ
          obtain ⟨W, n, q, pr, ak, w1, w2, w3, w4, w5⟩ := r6
          have hw4 : Z.1 8 = nI n := w4
          obtain ⟨a1, a2⟩ := rQ_add (V' := enq V k (nV V 11) (nI t)) (Y' := sS (sA (sA Z 14 (upd (Z.2.2.1 14) k (nI t))) 15 (upd (Z.2.2.1 15) k (Z.1 8))) 8 (nI (n + 1))) ⟨W, n, q, pr, ak, w1, w2, w3, w4, w5⟩ hJ (by omega) hk (by omega) hp c0 e14Z rfl (by simp only [sgets, if_true]; rw [hw4, nI_add]) (by simp only [sgets, Nat.reduceEqDiff, if_true, if_false]) (by simp only [sgets, Nat.reduceEqDiff, if_true, if_false])
          have eq : enqR V k (nI t) = enq V k (nV V 11) (nI t) := by unfold enqR; rw [if_neg (by omega)]
          rw [eq]
          have hW : nV V 11 = W := nV_of w3 (by omega)
          have hR : Rl (c + 1) J S Hy B (enq V k (nV V 11) (nI t)) (sS (sA (sA Z 14 (upd (Z.2.2.1 14) k (nI t))) 15 (upd (Z.2.2.1 15) k (Z.1 8))) 8 (nI (n + 1))) := by
            obtain ⟨t1, t2, t3, t4, t5⟩ := side (J := J) (B := B) (V := V) (V' := enq V k (nV V 11) (nI t)) (Y := Z) (Y' := sS (sA (sA Z 14 (upd (Z.2.2.1 14) k (nI t))) 15 (upd (Z.2.2.1 15) k (Z.1 8))) 8 (nI (n + 1))) (fun i a _ => by unfold enq; simp only [sgets, a, if_false]) rfl (fun i _ b d _ => by unfold enq; simp only [sgets, b, d, if_false]) rfl (fun i a => by simp only [sgets, a, if_false]) (fun i _ _ _ a b => by simp only [sgets, a, b, if_false]) rfl r1 r2 r4 r5 r7
            refine ⟨?_, hf, hSB, t1, t2, r3, t3, t4, a1, t5⟩
            obtain ⟨⟨q1, q2⟩, ⟨q3, q4⟩, ⟨q5, q6⟩, ⟨q7, q8⟩, hE, hw, q9⟩ := hC
            refine ⟨⟨q1, q2⟩, ⟨q3, q4⟩, ⟨q5, q6⟩, ⟨q7, q8⟩, hE, ?_, q9⟩
            obtain ⟨W1, n1, q', pr', ak', v1, v2, v3, v4, v5, -⟩ := a1
            exact ⟨W1, v1, v3, fun j hj => ⟨q' j, by have := (v5 j hj).2.1; omega, (v5 j hj).1⟩⟩
          have h128 := m128 M o w hR
          have e11' : (enq V k (nV V 11) (nI t)).1 11 = nI (W + 1) := by
            unfold enq
            simp only [sgets, if_true]
            rw [hW]
          rw [e11'] at h128
          rw [hw4] at h128 g2
          refine ⟨sS (sA (sA Z 14 (upd (Z.2.2.1 14) k (nI t))) 15 (upd (Z.2.2.1 15) k (Z.1 8))) 8 (nI (n + 1)), ?_, ⟨J, S, Hy, B, hR⟩, ?_, ?_⟩
          · rw [e127, hw4, e11']
            simp (disch := first | omega | (simp only [sgets, reduceIte, Nat.reduceEqDiff, e11, e14, hw4, dec_S, Nat.reduceAdd]; done) | omega) only [cS_1, crd, z_pv_some, z_wv_some, z_cv_v, z_cv_n, cwr, sgets, rc_O, ia_n, fa_n, is_n, fs_n, ↓mI_eq, lits, nI_add, nLe, nLt, nE, mI_ne, mI_ne', mI_lt, mI_le, mI_nlt, mI_nle, ne_eq, mI_addC, pk_sub, pk_mul, pk_div, Nat.reduceEqDiff, Nat.reduceAdd, Nat.reduceMul, Nat.reduceSub, reduceIte, not_true_eq_false, not_false_eq_true, true_or, or_true, if_true, if_false, and_self, and_true, true_and, and_false, false_and, or_self, or_false, false_or, decide_true, decide_false, Bool.false_eq_true, Bool.true_eq_false, bI_t, bI_f, oS_1, ord, owA0, owF0, owF1, owA1, owF2, owA2, owF3, owA3, ywo, gfs11, pfs11, yrd, ywr, b127, h120, h110, h111, i1, i2, g1, g2, h128, bI_t, e11, e14, hw4, dec_S, Nat.reduceAdd]
          · intro hlt
            rw [e11'] at hlt
            exact absurd hlt (nI_nn (by omega))
          · intro _
            rw [hgen]
            exact ⟨fun i hi => by simp only [sgets, show i ≠ 8 by omega, if_false], ⟨rfl, rfl⟩, rfl, rfl⟩
        · rw [if_neg c2, if_pos (by rw [nE (by omega) (by omega)]; omega)]
          have e14 : ¬ Y.2.2.1 14 k = mI := fun e => c2 (hq.1.mpr e)
          refine sim_er hup n4 ?_
          rw [e127]
          simp (disch := first | omega | (simp only [sgets, reduceIte, Nat.reduceEqDiff, e11, e14, dec_S, Nat.reduceAdd]; done) | omega) only [cS_1, crd, z_pv_some, z_wv_some, z_cv_v, z_cv_n, cwr, sgets, rc_O, ia_n, fa_n, is_n, fs_n, ↓mI_eq, lits, nI_add, nLe, nLt, nE, mI_ne, mI_ne', mI_lt, mI_le, mI_nlt, mI_nle, ne_eq, mI_addC, pk_sub, pk_mul, pk_div, Nat.reduceEqDiff, Nat.reduceAdd, Nat.reduceMul, Nat.reduceSub, reduceIte, not_true_eq_false, not_false_eq_true, true_or, or_true, if_true, if_false, and_self, and_true, true_and, and_false, false_and, or_self, or_false, false_or, decide_true, decide_false, Bool.false_eq_true, Bool.true_eq_false, bI_t, bI_f, oS_1, ord, owA0, owF0, owF1, owA1, owF2, owA2, owF3, owA3, ywo, gfs11, pfs11, yrd, ywr, b127, h120, h110, i1, i2, bI_t, e11, e14, dec_S, Nat.reduceAdd]
    · rw [if_pos hy]
      rw [show decide (nI 0 ≤ y ∧ y ≤ nI 9) = false by simp [hy]] at h110
      refine sim_er hup n3 ?_
      rw [e127]
      simp (disch := first | omega | (simp only [sgets, reduceIte, Nat.reduceEqDiff, dec_S, Nat.reduceAdd]; done) | omega) only [cS_1, crd, z_pv_some, z_wv_some, z_cv_v, z_cv_n, cwr, sgets, rc_O, ia_n, fa_n, is_n, fs_n, ↓mI_eq, lits, nI_add, nLe, nLt, nE, mI_ne, mI_ne', mI_lt, mI_le, mI_nlt, mI_nle, ne_eq, mI_addC, pk_sub, pk_mul, pk_div, Nat.reduceEqDiff, Nat.reduceAdd, Nat.reduceMul, Nat.reduceSub, reduceIte, not_true_eq_false, not_false_eq_true, true_or, or_true, if_true, if_false, and_self, and_true, true_and, and_false, false_and, or_self, or_false, false_or, decide_true, decide_false, Bool.false_eq_true, Bool.true_eq_false, bI_t, bI_f, oS_1, ord, owA0, owF0, owF1, owA1, owF2, owA2, owF3, owA3, ywo, gfs11, pfs11, yrd, ywr, b127, h120, h110, bI_t, bI_f, dec_S, Nat.reduceAdd]
theorem s129 (M : z_M) (o : Nat) (w : Int64) {c J S Hy B : Nat} {V Y : z_V} (h : Rl c J S Hy B V Y) (hX : okX Y) (x : Int32) : sim M o w 129 [.int x] Y (yieR V x) c := by
  have h120 := m120 M o w h x
  have e129 := e129 o x (yS M o Y w)
  unfold yieR
  by_cases hh : here V x = false
  · rw [if_pos hh]
    rw [hh] at h120
    refine sim_er h n2 ?_
    rw [e129]
    simp (disch := first | omega | (simp only [sgets, reduceIte, Nat.reduceEqDiff, dec_S, Nat.reduceAdd]; done) | omega) only [cS_1, crd, z_pv_some, z_wv_some, z_cv_v, z_cv_n, cwr, sgets, rc_O, ia_n, fa_n, is_n, fs_n, ↓mI_eq, lits, nI_add, nLe, nLt, nE, mI_ne, mI_ne', mI_lt, mI_le, mI_nlt, mI_nle, ne_eq, mI_addC, pk_sub, pk_mul, pk_div, Nat.reduceEqDiff, Nat.reduceAdd, Nat.reduceMul, Nat.reduceSub, reduceIte, not_true_eq_false, not_false_eq_true, true_or, or_true, if_true, if_false, and_self, and_true, true_and, and_false, false_and, or_self, or_false, false_or, decide_true, decide_false, Bool.false_eq_true, Bool.true_eq_false, bI_t, bI_f, oS_1, ord, owA0, owF0, owF1, owA1, owF2, owA2, owF3, owA3, ywo, gfs11, pfs11, yrd, ywr, b129, h120, bI_f, dec_S, Nat.reduceAdd]
  · rw [if_neg hh]
    have hh := bool_f hh
    rw [hh] at h120
    obtain ⟨k, hk, rfl, hp⟩ := here_k (Rl_J h).1 (Rl_J h).2 hh
    have hJ := (Rl_J h).1
    rw [nI_clamp (by omega)]
    have hq := rQ_14 h.2.2.2.2.2.2.2.2.1 hJ hk hp
    have hh3 := h.2.2.2.2.2.1
    have f3 := (hh3.2.1 k hk hp).2.2.1
    have i1 := m116 M o Y w k 7 (by omega) (by omega)
    have i2 := m116 M o Y w k 10 (by omega) (by omega)
    obtain ⟨t, ht, e13⟩ : ∃ t, t ≤ 1 ∧ V.2.2.1 13 k = nI t := by
      rcases hh3.2.2.2.1 k (by omega) with e | e
      · exact ⟨0, by omega, e⟩
      · exact ⟨1, by omega, e⟩
    have e11 : Y.2.2.1 11 k = nI t := f3.trans e13
    by_cases c0 : stands V k (nV V 11) = nI 0
    · rw [if_pos c0]
      have ct : t = 0 := by
        unfold stands at c0
        rw [e13] at c0
        by_cases c1 : nI t = nI 1
        · rw [if_pos c1, nE (by omega) (by omega)] at c0; omega
        · rw [nE (by omega) (by omega)] at c1; omega
      subst ct
      have e14 : Y.2.2.1 14 k = mI := by
        apply hq.1.mp
        unfold stands at c0
        rw [if_neg (by rw [e13, nE (by omega) (by omega)]; omega)] at c0
        by_cases c1 : qAt V (nI k) (nV V 11) = mI
        · exact c1
        · rw [if_neg c1, nE (by omega) (by omega)] at c0; omega
      refine sim_er h n4 ?_
      rw [e129]
      simp (disch := first | omega | (simp only [sgets, reduceIte, Nat.reduceEqDiff, e11, e14, dec_S, Nat.reduceAdd]; done) | omega) only [cS_1, crd, z_pv_some, z_wv_some, z_cv_v, z_cv_n, cwr, sgets, rc_O, ia_n, fa_n, is_n, fs_n, ↓mI_eq, lits, nI_add, nLe, nLt, nE, mI_ne, mI_ne', mI_lt, mI_le, mI_nlt, mI_nle, ne_eq, mI_addC, pk_sub, pk_mul, pk_div, Nat.reduceEqDiff, Nat.reduceAdd, Nat.reduceMul, Nat.reduceSub, reduceIte, not_true_eq_false, not_false_eq_true, true_or, or_true, if_true, if_false, and_self, and_true, true_and, and_false, false_and, or_self, or_false, false_or, decide_true, decide_false, Bool.false_eq_true, Bool.true_eq_false, bI_t, bI_f, oS_1, ord, owA0, owF0, owF1, owA1, owF2, owA2, owF3, owA3, ywo, gfs11, pfs11, yrd, ywr, b129, h120, i1, i2, bI_t, e11, e14, dec_S, Nat.reduceAdd]
    · rw [if_neg c0]
      have e2 : (if stands V k (nV V 11) = nI 2 then nI 1 else nI 0) = nI t := by
        unfold stands
        by_cases c1 : V.2.2.1 13 k = nI 1
        · rw [if_pos c1, if_pos rfl, ← e13, c1]
        · rw [if_neg c1]
          have ct : t = 0 := by
            by_cases ct : t = 1
            · rw [ct] at e13; exact absurd e13 c1
            · omega
          subst ct
          by_cases c2 : qAt V (nI k) (nV V 11) = mI
          · rw [if_pos c2, if_neg (by rw [nE (by omega) (by omega)]; omega)]
          · rw [if_neg c2, if_neg (by rw [nE (by omega) (by omega)]; omega)]
      rw [e2]
      have c3 : ¬ (t = 0 ∧ Y.2.2.1 14 k = mI) := by
        rintro ⟨ct, e14⟩
        apply c0
        unfold stands
        rw [if_neg (by rw [e13, nE (by omega) (by omega)]; omega), if_pos (hq.1.mpr e14)]
      obtain ⟨s, hs, h13⟩ := hX
      have h111 := m111 M o Y w s hs h13
      have hZ := Rl_kV sv_kV h
      generalize hgen : svY Y = Z at h111 hZ
      have g1 := m118 M o Z w k 7 (by omega) (by omega) (nI 0)
      have g2 := m118 M o (sA Z 11 (upd (Z.2.2.1 11) k (nI 0))) w k 10 (by omega) (by omega) mI
      simp only [sgets, Nat.reduceAdd, Nat.reduceEqDiff, if_false] at g1 g2
      obtain ⟨hC, hf, hSB, r1, r2, r3, r4, r5, r6, r7⟩ := hZ
      have kf := kF_forg hC.2.2.2.2.1 hC.2.2.2.2.2.1 k
      refine ⟨sA (sA Z 11 (upd (Z.2.2.1 11) k (nI 0))) 14 (upd (Z.2.2.1 14) k mI), ?_, ⟨J, S, Hy, B, ?_⟩, ?_, ?_⟩
      · rw [e129]
        by_cases ct : t = 0
        · have e14 : ¬ Y.2.2.1 14 k = mI := fun e => c3 ⟨ct, e⟩
          subst ct
          simp (disch := first | omega | (simp only [sgets, reduceIte, Nat.reduceEqDiff, e11, e14, dec_S, Nat.reduceAdd]; done) | omega) only [cS_1, crd, z_pv_some, z_wv_some, z_cv_v, z_cv_n, cwr, sgets, rc_O, ia_n, fa_n, is_n, fs_n, ↓mI_eq, lits, nI_add, nLe, nLt, nE, mI_ne, mI_ne', mI_lt, mI_le, mI_nlt, mI_nle, ne_eq, mI_addC, pk_sub, pk_mul, pk_div, Nat.reduceEqDiff, Nat.reduceAdd, Nat.reduceMul, Nat.reduceSub, reduceIte, not_true_eq_false, not_false_eq_true, true_or, or_true, if_true, if_false, and_self, and_true, true_and, and_false, false_and, or_self, or_false, false_or, decide_true, decide_false, Bool.false_eq_true, Bool.true_eq_false, bI_t, bI_f, oS_1, ord, owA0, owF0, owF1, owA1, owF2, owA2, owF3, owA3, ywo, gfs11, pfs11, yrd, ywr, b129, h120, h111, i1, i2, g1, g2, bI_t, e11, e14, dec_S, Nat.reduceAdd]
        · simp (disch := first | omega | (simp only [sgets, reduceIte, Nat.reduceEqDiff, e11, ct, dec_S, Nat.reduceAdd]; done) | omega) only [cS_1, crd, z_pv_some, z_wv_some, z_cv_v, z_cv_n, cwr, sgets, rc_O, ia_n, fa_n, is_n, fs_n, ↓mI_eq, lits, nI_add, nLe, nLt, nE, mI_ne, mI_ne', mI_lt, mI_le, mI_nlt, mI_nle, ne_eq, mI_addC, pk_sub, pk_mul, pk_div, Nat.reduceEqDiff, Nat.reduceAdd, Nat.reduceMul, Nat.reduceSub, reduceIte, not_true_eq_false, not_false_eq_true, true_or, or_true, if_true, if_false, and_self, and_true, true_and, and_false, false_and, or_self, or_false, false_or, decide_true, decide_false, Bool.false_eq_true, Bool.true_eq_false, bI_t, bI_f, oS_1, ord, owA0, owF0, owF1, owA1, owF2, owA2, owF3, owA3, ywo, gfs11, pfs11, yrd, ywr, b129, h120, h111, i1, i2, g1, g2, bI_t, e11, ct, dec_S, Nat.reduceAdd]
      · obtain ⟨t1, t2, t3, t4, t5⟩ := side (J := J) (B := B) (V := V) (V' := forg V k (nV V 11)) (Y := Z) (Y' := sA (sA Z 11 (upd (Z.2.2.1 11) k (nI 0))) 14 (upd (Z.2.2.1 14) k mI)) (fun i a b => forg_S _ _ _ _ a) (forg_T _ _ _) (fun i a b d e => forg_A _ _ _ _ b e) (forg_F _ _ _) (fun _ _ => rfl) (fun a _ _ b d _ => by simp only [sgets, b, d, if_false]) rfl r1 r2 r4 r5 r7
        refine ⟨okC_kF hC kf, ?_, hSB, t1, t2, ⟨?_, ?_, ?_, ?_, ?_, ?_, ?_⟩, t3, t4, ?_, t5⟩
        · obtain ⟨f, hf⟩ := hf
          exact ⟨f, by rw [forg_S _ _ _ _ (by omega)]; exact hf⟩
        · intro p hp2 hm
          rw [forg_A _ _ _ _ (by omega) (by omega)] at hm
          rw [forg_13]
          by_cases cp : p = k
          · subst cp; exact absurd hm hp
          · rw [upd_ne _ _ cp]; exact r3.1 p hp2 hm
        · intro p hp2 hm
          rw [forg_A _ _ _ _ (by omega) (by omega)] at hm
          show Z.2.2.1 4 p = nI 1 ∧ Z.2.2.1 6 p = (forg V k (nV V 11)).2.2.1 3 p ∧ upd (Z.2.2.1 11) k (nI 0) p = (forg V k (nV V 11)).2.2.1 13 p ∧ ∃ d, d < B ∧ (forg V k (nV V 11)).2.2.1 3 p = nI d
          rw [forg_13, forg_A _ _ _ _ (by omega) (by omega)]
          obtain ⟨k1, k2, k3, k4⟩ := r3.2.1 p hp2 hm
          by_cases cp : p = k
          · subst cp; rw [upd_eq, upd_eq]; exact ⟨k1, k2, rfl, k4⟩
          · rw [upd_ne _ _ cp, upd_ne _ _ cp]; exact ⟨k1, k2, k3, k4⟩
        · intro p hp2 hJp
          show Z.2.2.1 4 p = nI 0 ∧ upd (Z.2.2.1 11) k (nI 0) p = nI 0 ∧ (forg V k (nV V 11)).2.2.1 13 p = nI 0
          rw [forg_13, upd_ne _ _ (by omega), upd_ne _ _ (by omega)]
          exact r3.2.2.1 p hp2 hJp
        · intro p hp2
          rw [forg_13]
          by_cases cp : p = k
          · subst cp; rw [upd_eq]; exact Or.inl rfl
          · rw [upd_ne _ _ cp]; exact r3.2.2.2.1 p hp2
        · rw [forg_S _ _ _ _ (by omega), forg_A _ _ _ _ (by omega) (by omega)]
          exact r3.2.2.2.2.1
        · rw [forg_A _ _ _ _ (by omega) (by omega)]
          exact r3.2.2.2.2.2.1
        · rw [forg_A _ _ _ _ (by omega) (by omega)]
          exact r3.2.2.2.2.2.2
        · refine rQ_rem r6 hJ hk rfl rfl (forg_A _ _ _ _ (by omega) (by omega)) ?_ ?_ rfl ?_ (fun _ _ => rfl) ?_
          · intro r hr
            rw [forg_13, upd_ne _ _ hr]
          · intro r hr
            rw [forg_A _ _ _ _ (by omega) (by omega)]
          · intro r hr
            show upd (Z.2.2.1 14) k mI r = Z.2.2.1 14 r
            rw [upd_ne _ _ hr]
          · intro _
            show upd (Z.2.2.1 14) k mI k = mI
            rw [upd_eq]
      · intro hlt
        exact absurd hlt (nI_nn (by omega))
      · intro _
        rw [hgen]
        exact ⟨fun _ _ => rfl, ⟨rfl, rfl⟩, rfl, rfl⟩
