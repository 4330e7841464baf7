/-! the model's orders: leave, request, giveUp -/
theorem okC_kF {V W : z_V} {J S Hy B : Nat} (h : okC V J S Hy B) (k : kF V W) : okC W J S Hy B := by
  obtain ⟨⟨hJ, h9⟩, ⟨hS, h1⟩, ⟨hH, h2⟩, ⟨hB, h8⟩, hE, hw, hl, hd, hst, hpl, hmx⟩ := h
  obtain ⟨k1, k2, k3, k4, k5, k6, k7⟩ := k
  refine ⟨⟨hJ, by rw [k3 9 (by omega) (by omega) (by omega)]; exact h9⟩, ⟨hS, by rw [k3 1 (by omega) (by omega) (by omega)]; exact h1⟩, ⟨hH, by rw [k3 2 (by omega) (by omega) (by omega)]; exact h2⟩, ⟨hB, by rw [k3 8 (by omega) (by omega) (by omega)]; exact h8⟩, k1, k2, ?_, ?_, ?_, ?_, ?_⟩
  · intro p hp; rw [k5 5 (by omega)]; exact hl p hp
  · intro p hp; rw [k7]; exact hd p hp
  · intro v hv
    rw [k6 16 (by omega) (by omega), k6 17 (by omega) (by omega), k7]
    exact hst v hv
  · intro p hp; rw [k5 1 (by omega)]; exact hpl p hp
  · intro p hp; rw [k7]; exact hmx p hp
theorem side {J B : Nat} {V V' Y Y' : z_V} (v1 : ∀ i, i ≠ 11 → i ≠ 10 → V'.1 i = V.1 i) (v2 : V'.2.1 = V.2.1) (v3 : ∀ i, i ≠ 3 → i ≠ 11 → i ≠ 12 → i ≠ 13 → V'.2.2.1 i = V.2.2.1 i) (v4 : V'.2.2.2 = V.2.2.2) (y1 : ∀ i, i ≠ 8 → Y'.1 i = Y.1 i) (y3 : ∀ a, a ≠ 4 → a ≠ 6 → a ≠ 11 → a ≠ 14 → a ≠ 15 → Y'.2.2.1 a = Y.2.2.1 a) (y4 : Y'.2.2.2 = Y.2.2.2) (h1 : rS V Y) (h2 : rA V Y) (h3 : rT J B V Y) (h4 : rE V Y) (h5 : rG B V Y) : rS V' Y' ∧ rA V' Y' ∧ rT J B V' Y' ∧ rE V' Y' ∧ rG B V' Y' := by
  refine ⟨?_, ?_, ?_, ?_, ?_⟩
  · unfold rS at h1 ⊢
    rw [v2, v1 1 (by omega) (by omega), v1 2 (by omega) (by omega), v1 3 (by omega) (by omega), v1 4 (by omega) (by omega), v1 5 (by omega) (by omega), v1 6 (by omega) (by omega), v1 7 (by omega) (by omega), v1 0 (by omega) (by omega), v1 8 (by omega) (by omega), v1 9 (by omega) (by omega), y1 0 (by omega), y1 1 (by omega), y1 2 (by omega), y1 3 (by omega), y1 4 (by omega), y1 5 (by omega), y1 6 (by omega), y1 7 (by omega), y1 9 (by omega), y1 11 (by omega), y1 12 (by omega)]
    exact h1
  · unfold rA at h2 ⊢
    rw [v4, y4, v3 4 (by omega) (by omega) (by omega) (by omega), v3 5 (by omega) (by omega) (by omega) (by omega), v3 6 (by omega) (by omega) (by omega) (by omega), v3 7 (by omega) (by omega) (by omega) (by omega), v3 8 (by omega) (by omega) (by omega) (by omega), v3 14 (by omega) (by omega) (by omega) (by omega), v3 15 (by omega) (by omega) (by omega) (by omega), v3 10 (by omega) (by omega) (by omega) (by omega), v3 0 (by omega) (by omega) (by omega) (by omega), v3 1 (by omega) (by omega) (by omega) (by omega), v3 2 (by omega) (by omega) (by omega) (by omega), y3 5 (by omega) (by omega) (by omega) (by omega) (by omega), y3 7 (by omega) (by omega) (by omega) (by omega) (by omega), y3 8 (by omega) (by omega) (by omega) (by omega) (by omega), y3 9 (by omega) (by omega) (by omega) (by omega) (by omega), y3 10 (by omega) (by omega) (by omega) (by omega) (by omega), y3 12 (by omega) (by omega) (by omega) (by omega) (by omega), y3 13 (by omega) (by omega) (by omega) (by omega) (by omega), y3 16 (by omega) (by omega) (by omega) (by omega) (by omega), y3 0 (by omega) (by omega) (by omega) (by omega) (by omega), y3 1 (by omega) (by omega) (by omega) (by omega) (by omega), y3 2 (by omega) (by omega) (by omega) (by omega) (by omega)]
    exact h2
  · unfold rT at h3 ⊢
    rw [v3 9 (by omega) (by omega) (by omega) (by omega), y3 3 (by omega) (by omega) (by omega) (by omega) (by omega)]
    exact h3
  · unfold rE at h4 ⊢
    rw [v1 13 (by omega) (by omega), v1 12 (by omega) (by omega), y1 10 (by omega), v3 19 (by omega) (by omega) (by omega) (by omega), v3 20 (by omega) (by omega) (by omega) (by omega), v3 21 (by omega) (by omega) (by omega) (by omega), y3 17 (by omega) (by omega) (by omega) (by omega) (by omega), y3 18 (by omega) (by omega) (by omega) (by omega) (by omega), y3 19 (by omega) (by omega) (by omega) (by omega) (by omega)]
    exact h4
  · unfold rG lkS way at h5 ⊢
    rw [v4, y4, v3 0 (by omega) (by omega) (by omega) (by omega), v3 16 (by omega) (by omega) (by omega) (by omega), v3 17 (by omega) (by omega) (by omega) (by omega), v3 18 (by omega) (by omega) (by omega) (by omega), y3 20 (by omega) (by omega) (by omega) (by omega) (by omega), y3 21 (by omega) (by omega) (by omega) (by omega) (by omega), y3 22 (by omega) (by omega) (by omega) (by omega) (by omega)]
    exact h5
theorem s119 (M : z_M) (o : Nat) (w : Int64) {c J S Hy B : Nat} {V Y : z_V} (h : Rl c J S Hy B V Y) (hX : okX Y) (x : Int32) : sim M o w 119 [.int x] Y (disR V (nV V 11) x) c := by
  have h120 := m120 M o w h x
  have e119 := e119 o x (yS M o Y w)
  unfold disR
  by_cases hh : here V x = false
  · rw [if_pos hh]
    rw [hh] at h120
    refine sim_er h n2 ?_
    rw [e119]
    simp (disch := first | omega | (simp only [sgets, reduceIte, Nat.reduceEqDiff, dec_S, Nat.reduceAdd]; done) | omega) only [cS_1, crd, z_pv_some, z_wv_some, z_cv_v, z_cv_n, cwr, sgets, rc_O, ia_n, fa_n, is_n, fs_n, ↓mI_eq, lits, nI_add, nLe, nLt, nE, mI_ne, mI_ne', mI_lt, mI_le, mI_nlt, mI_nle, ne_eq, mI_addC, pk_sub, pk_mul, pk_div, Nat.reduceEqDiff, Nat.reduceAdd, Nat.reduceMul, Nat.reduceSub, reduceIte, not_true_eq_false, not_false_eq_true, true_or, or_true, if_true, if_false, and_self, and_true, true_and, and_false, false_and, or_self, or_false, false_or, decide_true, decide_false, Bool.false_eq_true, Bool.true_eq_false, bI_t, bI_f, oS_1, ord, owA0, owF0, owF1, owA1, owF2, owA2, owF3, owA3, ywo, gfs11, pfs11, yrd, ywr, b119, h120, bI_f, dec_S, Nat.reduceAdd]
  · rw [if_neg hh]
    have hh := bool_f hh
    rw [hh] at h120
    obtain ⟨k, hk, rfl, hp⟩ := here_k (Rl_J h).1 (Rl_J h).2 hh
    have hJ := (Rl_J h).1
    rw [nI_clamp (by omega)]
    obtain ⟨s, hs, h13⟩ := hX
    have h111 := m111 M o Y w s hs h13
    have hZ := Rl_kV sv_kV h
    generalize hgen : svY Y = Z at h111 hZ
    have g2 := m118 M o Z w k 0 (by omega) (by omega) (nI 0)
    simp only [Nat.reduceAdd] at g2
    obtain ⟨hC, hf, hSB, r1, r2, r3, r4, r5, r6, r7⟩ := hZ
    have kf := kF_forg hC.2.2.2.2.1 hC.2.2.2.2.2.1 k
    have hcnt : ∃ n, cnt (fun j => decide (¬ V.2.2.1 3 j = mI)) J = n + 1 := by
      rw [cnt_but (fun j => decide (¬ V.2.2.1 3 j = mI)) k J, if_pos ⟨hk, by simp [hp]⟩]
      exact ⟨_, rfl⟩
    obtain ⟨n, hn⟩ := hcnt
    have hnJ : n + 1 ≤ 20 := by have := cnt_le (fun j => decide (¬ V.2.2.1 3 j = mI)) J; omega
    have e10 : V.1 10 - nI 1 = nI n := by rw [r3.2.2.2.2.1, hn, pk_sub (by omega), Nat.add_sub_cancel]
    have hR : Rl c J S Hy B (sS (sA (forg V k (nV V 11)) 3 (upd (V.2.2.1 3) k mI)) 10 (V.1 10 - nI 1)) (sA Z 4 (upd (Z.2.2.1 4) k (nI 0))) := by
      obtain ⟨t1, t2, t3, t4, t5⟩ := side (J := J) (B := B) (V := V) (V' := sS (sA (forg V k (nV V 11)) 3 (upd (V.2.2.1 3) k mI)) 10 (V.1 10 - nI 1)) (Y := Z) (Y' := sA Z 4 (upd (Z.2.2.1 4) k (nI 0))) (fun i a b => by simp only [sgets, b, if_false]; exact forg_S _ _ _ _ a) (by simp only [sgets]; exact forg_T _ _ _) (fun i a b d e => by simp only [sgets, a, if_false]; exact forg_A _ _ _ _ b e) (by simp only [sgets]; exact forg_F _ _ _) (fun _ _ => rfl) (fun a b _ _ _ _ => by simp only [sgets, b, if_false]) rfl r1 r2 r4 r5 r7
      refine ⟨?_, ?_, hSB, t1, t2, ⟨?_, ?_, ?_, ?_, ?_, ?_, ?_⟩, t3, t4, ?_, t5⟩
      · have := okC_kF hC kf
        obtain ⟨⟨q1, q2⟩, ⟨q3, q4⟩, ⟨q5, q6⟩, ⟨q7, q8⟩, q9⟩ := this
        exact ⟨⟨q1, q2⟩, ⟨q3, q4⟩, ⟨q5, q6⟩, ⟨q7, q8⟩, q9⟩
      · obtain ⟨f, hf⟩ := hf
        refine ⟨f, ?_⟩
        simp only [sgets, Nat.reduceEqDiff, if_false]
        rw [forg_S _ _ _ _ (by omega)]
        exact hf
      · intro p hp2 hm
        replace hm : upd (V.2.2.1 3) k mI p = mI := hm
        show upd (Z.2.2.1 4) k (nI 0) p = nI 0 ∧ (forg V k (nV V 11)).2.2.1 13 p = nI 0
        rw [forg_13]
        by_cases cp : p = k
        · subst cp; rw [upd_eq, upd_eq]; exact ⟨rfl, rfl⟩
        · rw [upd_ne _ _ cp] at hm
          rw [upd_ne _ _ cp, upd_ne _ _ cp]
          exact r3.1 p hp2 hm
      · intro p hp2 hm
        replace hm : ¬ upd (V.2.2.1 3) k mI p = mI := hm
        show upd (Z.2.2.1 4) k (nI 0) p = nI 1 ∧ Z.2.2.1 6 p = upd (V.2.2.1 3) k mI p ∧ Z.2.2.1 11 p = (forg V k (nV V 11)).2.2.1 13 p ∧ ∃ d, d < B ∧ upd (V.2.2.1 3) k mI p = nI d
        rw [forg_13]
        by_cases cp : p = k
        · subst cp; rw [upd_eq] at hm; exact absurd rfl hm
        · rw [upd_ne _ _ cp] at hm
          rw [upd_ne _ _ cp, upd_ne _ _ cp, upd_ne _ _ cp]
          exact r3.2.1 p hp2 hm
      · intro p hp2 hJp
        show upd (Z.2.2.1 4) k (nI 0) p = nI 0 ∧ Z.2.2.1 11 p = nI 0 ∧ (forg V k (nV V 11)).2.2.1 13 p = nI 0
        rw [forg_13, upd_ne _ _ (by omega), upd_ne _ _ (by omega)]
        exact r3.2.2.1 p hp2 hJp
      · intro p hp2
        show (forg V k (nV V 11)).2.2.1 13 p = nI 0 ∨ (forg V k (nV V 11)).2.2.1 13 p = nI 1
        rw [forg_13]
        by_cases cp : p = k
        · subst cp; rw [upd_eq]; exact Or.inl rfl
        · rw [upd_ne _ _ cp]; exact r3.2.2.2.1 p hp2
      · show V.1 10 - nI 1 = nI (cnt (fun j => decide (¬ upd (V.2.2.1 3) k mI j = mI)) J)
        rw [e10]
        congr 1
        have e1 := cnt_but (fun j => decide (¬ V.2.2.1 3 j = mI)) k J
        rw [if_pos ⟨hk, by simp [hp]⟩, hn] at e1
        have e2 : cnt (fun j => decide (¬ upd (V.2.2.1 3) k mI j = mI)) J = cnt (fun j => decide (¬ V.2.2.1 3 j = mI) && !decide (j = k)) J := by
          apply cnt_congr
          intro j hj
          by_cases cp : j = k
          · subst cp; rw [upd_eq]; simp
          · rw [upd_ne _ _ cp]; simp [cp]
        omega
      · intro d hd
        show cnt (fun j => decide (upd (V.2.2.1 3) k mI j = nI d)) J ≤ 6
        have hd1 := r3.2.2.2.2.2.1 d hd
        have e1 := cnt_but (fun j => decide (V.2.2.1 3 j = nI d)) k J
        have e2 : cnt (fun j => decide (upd (V.2.2.1 3) k mI j = nI d)) J = cnt (fun j => decide (V.2.2.1 3 j = nI d) && !decide (j = k)) J := by
          apply cnt_congr
          intro j hj
          by_cases cp : j = k
          · subst cp; rw [upd_eq]
            have := mI_ne' (show d < 2 ^ 31 by omega)
            simp [this]
          · rw [upd_ne _ _ cp]; simp [cp]
        omega
      · intro p hp2
        show (forg V k (nV V 11)).2.2.1 6 p = nI 0 ∨ (forg V k (nV V 11)).2.2.1 6 p = nI 1
        rw [forg_A _ _ _ _ (by omega) (by omega)]
        exact r3.2.2.2.2.2.2 p hp2
      · refine rQ_rem r6 hJ hk ?_ ?_ ?_ ?_ ?_ rfl (fun _ _ => rfl) (fun _ _ => rfl) ?_
        · simp only [sgets, Nat.reduceEqDiff, if_false]
        · simp only [sgets, Nat.reduceEqDiff, if_false]
        · simp only [sgets, Nat.reduceEqDiff, if_false]
          exact forg_A _ _ _ _ (by omega) (by omega)
        · intro r hr
          show (forg V k (nV V 11)).2.2.1 13 r = V.2.2.1 13 r
          rw [forg_13, upd_ne _ _ hr]
        · intro r hr
          show upd (V.2.2.1 3) k mI r = V.2.2.1 3 r
          rw [upd_ne _ _ hr]
        · intro hm
          replace hm : ¬ upd (V.2.2.1 3) k mI k = mI := hm
          rw [upd_eq] at hm
          exact absurd rfl hm
    have h121 := m121 M o w hR
    have e10' : (sS (sA (forg V k (nV V 11)) 3 (upd (V.2.2.1 3) k mI)) 10 (V.1 10 - nI 1)).1 10 = nI n := by
      simp only [sgets, if_true]
      exact e10
    rw [e10'] at h121
    refine ⟨_, ?_, ⟨J, S, Hy, B, hR⟩, ?_, ?_⟩
    · rw [e119, e10]
      simp (disch := first | omega | (simp only [sgets, reduceIte, Nat.reduceEqDiff, dec_S, Nat.reduceAdd]; done) | omega) only [cS_1, crd, z_pv_some, z_wv_some, z_cv_v, z_cv_n, cwr, sgets, rc_O, ia_n, fa_n, is_n, fs_n, ↓mI_eq, lits, nI_add, nLe, nLt, nE, mI_ne, mI_ne', mI_lt, mI_le, mI_nlt, mI_nle, ne_eq, mI_addC, pk_sub, pk_mul, pk_div, Nat.reduceEqDiff, Nat.reduceAdd, Nat.reduceMul, Nat.reduceSub, reduceIte, not_true_eq_false, not_false_eq_true, true_or, or_true, if_true, if_false, and_self, and_true, true_and, and_false, false_and, or_self, or_false, false_or, decide_true, decide_false, Bool.false_eq_true, Bool.true_eq_false, bI_t, bI_f, oS_1, ord, owA0, owF0, owF1, owA1, owF2, owA2, owF3, owA3, ywo, gfs11, pfs11, yrd, ywr, b119, h120, h111, g2, h121, bI_t, dec_S, Nat.reduceAdd]
    · intro hlt
      rw [e10] at hlt
      exact absurd hlt (nI_nn (by omega))
    · intro _
      rw [hgen]
      exact ⟨fun _ _ => rfl, ⟨rfl, rfl⟩, rfl, rfl⟩
