/-! the model's orders: settings, level, muted -/
def okX (Y : z_V) : Prop := ∃ s, s ≤ 5 ∧ Y.1 13 = nI s
def sim (M : z_M) (o : Nat) (w : Int64) (mid : Nat) (As : List Value) (Y : z_V) (R : Int32 × z_V) (c : Nat) : Prop := ∃ Z, z_cl mid (.ref o :: As) (yS M o Y w) = some (some (.int R.1), yS M o Z w) ∧ (∃ J S Hy B, Rl c J S Hy B R.2 Z) ∧ (R.1 < nI 0 → Z = Y) ∧ (¬ R.1 < nI 0 → kY (svY Y) Z)
theorem sim_er {M : z_M} {o : Nat} {w : Int64} {mid : Nat} {As : List Value} {V Y : z_V} {c J S Hy B : Nat} {x : Int32} (h : Rl c J S Hy B V Y) (hx : x < nI 0) (e : z_cl mid (.ref o :: As) (yS M o Y w) = some (some (.int x), yS M o Y w)) : sim M o w mid As Y (x, V) c :=
  ⟨Y, e, ⟨J, S, Hy, B, h⟩, fun _ => rfl, fun hn => absurd hx hn⟩
theorem n2 : -(nI 2) < nI 0 := by decide
theorem n3 : -(nI 3) < nI 0 := by decide
theorem n4 : -(nI 4) < nI 0 := by decide
theorem n5 : -(nI 5) < nI 0 := by decide
theorem n6 : -(nI 6) < nI 0 := by decide
theorem nI_nn {k : Nat} (h : k < 2 ^ 31) : ¬ nI k < nI 0 := by rw [nLt h (by omega)]; omega
theorem bool_f {b : Bool} (h : ¬ b = false) : b = true := by cases b; exact absurd rfl h; rfl
theorem s123 (M : z_M) (o : Nat) (w : Int64) {c J S Hy B : Nat} {V Y : z_V} (h : Rl c J S Hy B V Y) (hX : okX Y) (x y : Int32) : sim M o w 123 [.int x, .int y] Y (lvlR V x y) c := by
  have h120 := m120 M o w h x
  have h110 := m110 y (nI 0) (nI 60) (yS M o Y w)
  have e123 := e123 o x y (yS M o Y w)
  unfold lvlR
  by_cases hh : here V x = false
  · rw [if_pos hh]
    rw [hh] at h120
    refine sim_er h n2 ?_
    rw [e123]
    simp (disch := first | omega | (simp only [sgets, reduceIte, Nat.reduceEqDiff, dec_S, Nat.reduceAdd]; done) | omega) only [cS_1, crd, z_pv_some, z_wv_some, z_cv_v, z_cv_n, cwr, sgets, rc_O, ia_n, fa_n, is_n, fs_n, ↓mI_eq, lits, nI_add, nLe, nLt, nE, mI_ne, mI_ne', mI_lt, mI_le, mI_nlt, mI_nle, ne_eq, mI_addC, pk_sub, pk_mul, pk_div, Nat.reduceEqDiff, Nat.reduceAdd, Nat.reduceMul, Nat.reduceSub, reduceIte, not_true_eq_false, not_false_eq_true, true_or, or_true, if_true, if_false, and_self, and_true, true_and, and_false, false_and, or_self, or_false, false_or, decide_true, decide_false, Bool.false_eq_true, Bool.true_eq_false, bI_t, bI_f, oS_1, ord, owA0, owF0, owF1, owA1, owF2, owA2, owF3, owA3, ywo, gfs11, pfs11, yrd, ywr, b123, h120, bI_f, dec_S, Nat.reduceAdd]
  · rw [if_neg hh]
    have hh := bool_f hh
    rw [hh] at h120
    obtain ⟨k, hk, rfl, hp⟩ := here_k (Rl_J h).1 (Rl_J h).2 hh
    have hJ := (Rl_J h).1
    rw [nI_clamp (by omega)]
    by_cases hy : nI 0 ≤ y ∧ y ≤ nI 60
    · rw [if_neg (by simp [hy])]
      rw [show decide (nI 0 ≤ y ∧ y ≤ nI 60) = true by simp [hy]] at h110
      obtain ⟨s, hs, h13⟩ := hX
      have h111 := m111 M o Y w s hs h13
      have hZ := Rl_kV sv_kV h
      generalize hgen : svY Y = Z at h111 hZ
      have g1 := m116 M o Z w k 3 (by omega) (by omega)
      have g2 := m118 M o Z w k 3 (by omega) (by omega) y
      obtain ⟨hC, hf, hSB, r1, r2, r3, r4, r5, r6, r7⟩ := hZ
      obtain ⟨⟨hJ, h9⟩, ⟨hS, h1⟩, ⟨hH, h2⟩, ⟨hB, h8⟩, hE, hw, hl, hd, hst, hpl, hmx⟩ := hC
      obtain ⟨q, hq, hlv⟩ := hl k (by omega)
      have e7 : Z.2.2.1 7 k = nI q := by rw [r2.2.1]; exact hlv
      refine ⟨sA Z 7 (upd (Z.2.2.1 7) k y), ?_, ⟨J, S, Hy, B, ⟨⟨hJ, h9⟩, ⟨hS, h1⟩, ⟨hH, h2⟩, ⟨hB, h8⟩, hE, hw, ?_, hd, hst, hpl, hmx⟩, hf, hSB, r1, ⟨r2.1, ?_, r2.2.2⟩, r3, r4, r5, r6, r7⟩, ?_, ?_⟩
      · rw [e123, hlv]
        simp (disch := first | omega | (simp only [sgets, reduceIte, Nat.reduceEqDiff, e7, dec_S, Nat.reduceAdd]; done) | omega) only [cS_1, crd, z_pv_some, z_wv_some, z_cv_v, z_cv_n, cwr, sgets, rc_O, ia_n, fa_n, is_n, fs_n, ↓mI_eq, lits, nI_add, nLe, nLt, nE, mI_ne, mI_ne', mI_lt, mI_le, mI_nlt, mI_nle, ne_eq, mI_addC, pk_sub, pk_mul, pk_div, Nat.reduceEqDiff, Nat.reduceAdd, Nat.reduceMul, Nat.reduceSub, reduceIte, not_true_eq_false, not_false_eq_true, true_or, or_true, if_true, if_false, and_self, and_true, true_and, and_false, false_and, or_self, or_false, false_or, decide_true, decide_false, Bool.false_eq_true, Bool.true_eq_false, bI_t, bI_f, oS_1, ord, owA0, owF0, owF1, owA1, owF2, owA2, owF3, owA3, ywo, gfs11, pfs11, yrd, ywr, b123, h120, h110, h111, g1, g2, bI_t, e7, dec_S, Nat.reduceAdd]
      · intro p hp
        show ∃ r, r < 61 ∧ upd (V.2.2.1 5) k y p = nI r
        by_cases cp : p = k
        · subst cp
          rw [upd_eq]
          obtain ⟨r, _, hr, e⟩ := in_nI (by omega) (by omega) hy
          exact ⟨r, by omega, e⟩
        · rw [upd_ne _ _ cp]; exact hl p hp
      · show upd (Z.2.2.1 7) k y = upd (V.2.2.1 5) k y
        rw [r2.2.1]
      · intro hn
        rw [hlv] at hn
        exact absurd hn (nI_nn (by omega))
      · intro _
        rw [hgen]
        exact ⟨fun _ _ => rfl, ⟨rfl, rfl⟩, rfl, rfl⟩
    · rw [if_pos hy]
      rw [show decide (nI 0 ≤ y ∧ y ≤ nI 60) = false by simp [hy]] at h110
      refine sim_er h n3 ?_
      rw [e123]
      simp (disch := first | omega | (simp only [sgets, reduceIte, Nat.reduceEqDiff, dec_S, Nat.reduceAdd]; done) | omega) only [cS_1, crd, z_pv_some, z_wv_some, z_cv_v, z_cv_n, cwr, sgets, rc_O, ia_n, fa_n, is_n, fs_n, ↓mI_eq, lits, nI_add, nLe, nLt, nE, mI_ne, mI_ne', mI_lt, mI_le, mI_nlt, mI_nle, ne_eq, mI_addC, pk_sub, pk_mul, pk_div, Nat.reduceEqDiff, Nat.reduceAdd, Nat.reduceMul, Nat.reduceSub, reduceIte, not_true_eq_false, not_false_eq_true, true_or, or_true, if_true, if_false, and_self, and_true, true_and, and_false, false_and, or_self, or_false, false_or, decide_true, decide_false, Bool.false_eq_true, Bool.true_eq_false, bI_t, bI_f, oS_1, ord, owA0, owF0, owF1, owA1, owF2, owA2, owF3, owA3, ywo, gfs11, pfs11, yrd, ywr, b123, h120, h110, bI_t, bI_f, dec_S, Nat.reduceAdd]
