/-! the model's textFault; run on both sides -/
def rX (L : Nat) (T Y : z_V) : Prop := L ≤ 100 ∧ T.1 0 = nI L ∧ Y.1 15 = nI L ∧ Y.2.2.1 28 = T.2.2.1 0 ∧ ∀ i, i < L → ¬ T.2.2.1 0 i = mI
section
variable (M : z_M) (o : Nat) (w : Int64)
theorem m158f {Y : z_V} {L a : Nat} (hL : L ≤ 100) (ha : a ≤ L) (h15 : Y.1 15 = nI L) (h16 : Y.1 16 = nI a) : z_cl 158 [.ref o, .int (nI 0)] (yS M o Y w) = some (some (.int (nI 0)), yS M o (sS (sS Y 16 (nI (if tOk (Y.2.2.1 28) L a = true then tE (Y.2.2.1 28) L a else tFl (Y.2.2.1 28) L a))) 17 (bI (tOk (Y.2.2.1 28) L a))) w) := by
  obtain ⟨x4, x5, e, -⟩ := ord_go M o w hL ha h15 h16 (.int (nI 0)) ⟨false, rfl⟩
  rw [e]
  generalize (if tOk (Y.2.2.1 28) L a = true then tE (Y.2.2.1 28) L a else tFl (Y.2.2.1 28) L a) = p
  cases tOk (Y.2.2.1 28) L a
  · simp (disch := first | omega | (simp only [sgets, reduceIte, Nat.reduceEqDiff, dec_S, Nat.reduceAdd]; done) | omega) only [cS_1, crd, z_pv_some, z_wv_some, z_cv_v, z_cv_n, cwr, sgets, rc_O, ia_n, fa_n, is_n, fs_n, ↓mI_eq, lits, nI_add, nLe, nLt, nE, mI_ne, mI_ne', mI_lt, mI_le, mI_nlt, mI_nle, ne_eq, mI_addC, pk_sub, pk_mul, pk_div, Nat.reduceEqDiff, Nat.reduceAdd, Nat.reduceMul, Nat.reduceSub, reduceIte, not_true_eq_false, not_false_eq_true, true_or, or_true, if_true, if_false, and_self, and_true, true_and, and_false, false_and, or_self, or_false, false_or, decide_true, decide_false, Bool.false_eq_true, Bool.true_eq_false, bI_t, bI_f, oS_1, ord, owA0, owF0, owF1, owA1, owF2, owA2, owF3, owA3, ywo, gfs11, pfs11, yrd, ywr, q158_108, q158_109, q158_112, q158_115, q158_116, q158_119, q158_120, dec_S, Nat.reduceAdd]
  · simp (disch := first | omega | (simp only [sgets, reduceIte, Nat.reduceEqDiff, dec_S, Nat.reduceAdd]; done) | omega) only [cS_1, crd, z_pv_some, z_wv_some, z_cv_v, z_cv_n, cwr, sgets, rc_O, ia_n, fa_n, is_n, fs_n, ↓mI_eq, lits, nI_add, nLe, nLt, nE, mI_ne, mI_ne', mI_lt, mI_le, mI_nlt, mI_nle, ne_eq, mI_addC, pk_sub, pk_mul, pk_div, Nat.reduceEqDiff, Nat.reduceAdd, Nat.reduceMul, Nat.reduceSub, reduceIte, not_true_eq_false, not_false_eq_true, true_or, or_true, if_true, if_false, and_self, and_true, true_and, and_false, false_and, or_self, or_false, false_or, decide_true, decide_false, Bool.false_eq_true, Bool.true_eq_false, bI_t, bI_f, oS_1, ord, owA0, owF0, owF1, owA1, owF2, owA2, owF3, owA3, ywo, gfs11, pfs11, yrd, ywr, q158_108, q158_109, q158_112, q158_115, q158_116, q158_119, q158_120, dec_S, Nat.reduceAdd]
theorem ords_f {Y : z_V} {L m : Nat} (hL : L ≤ 100) (h15 : Y.1 15 = nI L) (hP : tPre (Y.2.2.1 28) L m) : ∀ i, i ≤ m → ∃ x4 x5 x6, z_cl 157 [.ref o, .int (nI 0)] (yS M o Y w) = z_ex 157 M.1 14 [some (.ref o), some (.int (nI 0)), some (.int (nI i)), some (.int (nI 1)), x4, x5, x6] [] (yS M o (sS (sS Y 16 (nI (tPos (Y.2.2.1 28) L i))) 17 (nI 1)) w) := by
  intro i
  induction i with
  | zero =>
    intro _
    refine ⟨none, none, none, ?_⟩
    rw [e157]
    show _ = z_ex 157 M.1 14 [some (.ref o), some (.int (nI 0)), some (.int (nI 0)), some (.int (nI 1)), none, none, none] [] (yS M o (sS (sS Y 16 (nI 0)) 17 (nI 1)) w)
    simp (disch := first | omega | (simp only [sgets, reduceIte, Nat.reduceEqDiff, bz1, dec_S, Nat.reduceAdd]; done) | omega) only [cS_1, crd, z_pv_some, z_wv_some, z_cv_v, z_cv_n, cwr, sgets, rc_O, ia_n, fa_n, is_n, fs_n, ↓mI_eq, lits, nI_add, nLe, nLt, nE, mI_ne, mI_ne', mI_lt, mI_le, mI_nlt, mI_nle, ne_eq, mI_addC, pk_sub, pk_mul, pk_div, Nat.reduceEqDiff, Nat.reduceAdd, Nat.reduceMul, Nat.reduceSub, reduceIte, not_true_eq_false, not_false_eq_true, true_or, or_true, if_true, if_false, and_self, and_true, true_and, and_false, false_and, or_self, or_false, false_or, decide_true, decide_false, Bool.false_eq_true, Bool.true_eq_false, bI_t, bI_f, oS_1, ord, owA0, owF0, owF1, owA1, owF2, owA2, owF3, owA3, ywo, gfs11, pfs11, yrd, ywr, q157_0, q157_1, q157_2, q157_5, q157_6, q157_7, q157_10, q157_11, q157_12, q157_13, bz1, dec_S, Nat.reduceAdd]
  | succ i ih =>
    intro hi
    obtain ⟨x4, x5, x6, e⟩ := ih (by omega)
    have hle := tPos_le i (fun j hj => hP j (by omega))
    obtain ⟨p1, p2, p3⟩ := hP i (by omega)
    have hb := tOk_bd hle.1 p1
    have h158 := m158f M o w (Y := sS (sS Y 16 (nI (tPos (Y.2.2.1 28) L i))) 17 (nI 1)) (a := tPos (Y.2.2.1 28) L i) hL hle.1 h15 rfl
    replace h158 : z_cl 158 [.ref o, .int (nI 0)] (yS M o (sS (sS Y 16 (nI (tPos (Y.2.2.1 28) L i))) 17 (nI 1)) w) = some (some (.int (nI 0)), yS M o (sS (sS (sS (sS Y 16 (nI (tPos (Y.2.2.1 28) L i))) 17 (nI 1)) 16 (nI (if tOk (Y.2.2.1 28) L (tPos (Y.2.2.1 28) L i) = true then tE (Y.2.2.1 28) L (tPos (Y.2.2.1 28) L i) else tFl (Y.2.2.1 28) L (tPos (Y.2.2.1 28) L i)))) 17 (bI (tOk (Y.2.2.1 28) L (tPos (Y.2.2.1 28) L i)))) w) := h158
    rw [p1, if_pos rfl, bI_t, s1716, sS_sS, sS_sS] at h158
    have hA := (tl_A M o w (Z := sS (sS Y 16 (nI (tE (Y.2.2.1 28) L (tPos (Y.2.2.1 28) L i)))) 17 (nI 1)) (e := tE (Y.2.2.1 28) L (tPos (Y.2.2.1 28) L i)) (i := i) hL hb.2.1 h15 rfl rfl (some (.int (nI 0))) (some (.int (nI 1))) x4 x5 x6 (nI 0) (nI_nn (by omega))).1 p2 p3
    replace hA : z_ex 157 M.1 23 [some (.ref o), some (.int (nI 0)), some (.int (nI i)), some (.int (nI 1)), x4, x5, x6] [.int (nI 0)] (yS M o (sS (sS Y 16 (nI (tE (Y.2.2.1 28) L (tPos (Y.2.2.1 28) L i)))) 17 (nI 1)) w) = z_ex 157 M.1 14 [some (.ref o), some (.int (nI 0)), some (.int (nI (i + 1))), some (.int (nI 1)), some (.int (nI 0)), some (.int (nI 1)), some (.int (nI 59))] [] (yS M o (sS (sS (sS Y 16 (nI (tE (Y.2.2.1 28) L (tPos (Y.2.2.1 28) L i)))) 17 (nI 1)) 16 (nI (tPos (Y.2.2.1 28) L (i + 1)))) w) := hA
    rw [s1716, sS_sS] at hA
    refine ⟨_, _, _, e.trans (Eq.trans ?_ hA)⟩
    rw [q157_14]
    simp (disch := first | omega | (simp only [sgets, reduceIte, Nat.reduceEqDiff, dec_S, Nat.reduceAdd]; done) | omega) only [cS_1, crd, z_pv_some, z_wv_some, z_cv_v, z_cv_n, cwr, sgets, rc_O, ia_n, fa_n, is_n, fs_n, ↓mI_eq, lits, nI_add, nLe, nLt, nE, mI_ne, mI_ne', mI_lt, mI_le, mI_nlt, mI_nle, ne_eq, mI_addC, pk_sub, pk_mul, pk_div, Nat.reduceEqDiff, Nat.reduceAdd, Nat.reduceMul, Nat.reduceSub, reduceIte, not_true_eq_false, not_false_eq_true, true_or, or_true, if_true, if_false, and_self, and_true, true_and, and_false, false_and, or_self, or_false, false_or, decide_true, decide_false, Bool.false_eq_true, Bool.true_eq_false, bI_t, bI_f, oS_1, ord, owA0, owF0, owF1, owA1, owF2, owA2, owF3, owA3, ywo, gfs11, pfs11, yrd, ywr, q157_15, q157_18, q157_19, q157_20, h158, dec_S, Nat.reduceAdd]
theorem s157f {T Y : z_V} {L m : Nat} (hx : rX L T Y) (hO : tOut (T.2.2.1 0) L m (scnR T L)) : ∃ x y n, z_cl 157 [.ref o, .int (nI 0)] (yS M o Y w) = some (some (.int n), yS M o (sS (sS Y 16 x) 17 (bI y)) w) ∧ (y = true → (scnR T L).1 2 = mI) ∧ (y = false → (scnR T L).1 2 = x ∧ ∃ p, p < 2 ^ 31 ∧ x = nI p) := by
  obtain ⟨hL, h0, h15, h28, hb⟩ := hx
  rw [← h28] at hO hb
  obtain ⟨hP, -, -, hcs⟩ := hO
  obtain ⟨x4, x5, x6, e⟩ := ords_f M o w hL h15 hP m (Nat.le_refl m)
  have hle := tPos_le m hP
  have h158 := m158f M o w (Y := sS (sS Y 16 (nI (tPos (Y.2.2.1 28) L m))) 17 (nI 1)) (a := tPos (Y.2.2.1 28) L m) hL hle.1 h15 rfl
  replace h158 : z_cl 158 [.ref o, .int (nI 0)] (yS M o (sS (sS Y 16 (nI (tPos (Y.2.2.1 28) L m))) 17 (nI 1)) w) = some (some (.int (nI 0)), yS M o (sS (sS (sS (sS Y 16 (nI (tPos (Y.2.2.1 28) L m))) 17 (nI 1)) 16 (nI (if tOk (Y.2.2.1 28) L (tPos (Y.2.2.1 28) L m) = true then tE (Y.2.2.1 28) L (tPos (Y.2.2.1 28) L m) else tFl (Y.2.2.1 28) L (tPos (Y.2.2.1 28) L m)))) 17 (bI (tOk (Y.2.2.1 28) L (tPos (Y.2.2.1 28) L m)))) w) := h158
  rw [s1716, sS_sS, sS_sS] at h158
  have hgo : ∀ (p : Nat) (y : Bool), z_cl 158 [.ref o, .int (nI 0)] (yS M o (sS (sS Y 16 (nI (tPos (Y.2.2.1 28) L m))) 17 (nI 1)) w) = some (some (.int (nI 0)), yS M o (sS (sS Y 16 (nI p)) 17 (bI y)) w) → z_ex 157 M.1 14 [some (.ref o), some (.int (nI 0)), some (.int (nI m)), some (.int (nI 1)), x4, x5, x6] [] (yS M o (sS (sS Y 16 (nI (tPos (Y.2.2.1 28) L m))) 17 (nI 1)) w) = z_ex 157 M.1 23 [some (.ref o), some (.int (nI 0)), some (.int (nI m)), some (.int (nI 1)), x4, x5, x6] [.int (nI 0)] (yS M o (sS (sS Y 16 (nI p)) 17 (bI y)) w) := by
    intro p y hq
    rw [q157_14]
    simp (disch := first | omega | (simp only [sgets, reduceIte, Nat.reduceEqDiff, dec_S, Nat.reduceAdd]; done) | omega) only [cS_1, crd, z_pv_some, z_wv_some, z_cv_v, z_cv_n, cwr, sgets, rc_O, ia_n, fa_n, is_n, fs_n, ↓mI_eq, lits, nI_add, nLe, nLt, nE, mI_ne, mI_ne', mI_lt, mI_le, mI_nlt, mI_nle, ne_eq, mI_addC, pk_sub, pk_mul, pk_div, Nat.reduceEqDiff, Nat.reduceAdd, Nat.reduceMul, Nat.reduceSub, reduceIte, not_true_eq_false, not_false_eq_true, true_or, or_true, if_true, if_false, and_self, and_true, true_and, and_false, false_and, or_self, or_false, false_or, decide_true, decide_false, Bool.false_eq_true, Bool.true_eq_false, bI_t, bI_f, oS_1, ord, owA0, owF0, owF1, owA1, owF2, owA2, owF3, owA3, ywo, gfs11, pfs11, yrd, ywr, q157_15, q157_18, q157_19, q157_20, hq, dec_S, Nat.reduceAdd]
  rcases hcs with ⟨c1, c2, c3, -⟩ | ⟨c1, c2⟩ | ⟨c1, c2, c3, c4⟩
  · rw [c1, if_pos rfl] at h158
    have hb2 := tOk_bd hle.1 c1
    have hA := (tl_A M o w (Z := sS (sS Y 16 (nI (tE (Y.2.2.1 28) L (tPos (Y.2.2.1 28) L m)))) 17 (nI 1)) (e := tE (Y.2.2.1 28) L (tPos (Y.2.2.1 28) L m)) (i := m) hL hb2.2.1 h15 rfl rfl (some (.int (nI 0))) (some (.int (nI 1))) x4 x5 x6 (nI 0) (nI_nn (by omega))).2.2 c2
    rw [s1716, sS_sS] at hA
    exact ⟨_, true, _, e.trans ((hgo _ _ h158).trans hA), fun _ => c3, fun h => by cases h⟩
  · rw [c1, if_neg (by decide)] at h158
    have hC := tl_C M o w (Z := sS (sS Y 16 (nI (tFl (Y.2.2.1 28) L (tPos (Y.2.2.1 28) L m)))) 17 (nI 0)) (i := m) rfl (some (.int (nI 0))) (some (.int (nI 1))) x4 x5 x6 (nI 0)
    refine ⟨_, false, _, e.trans ((hgo _ _ h158).trans hC), (fun h => by cases h), fun _ => ⟨c2, _, ?_, rfl⟩⟩
    obtain ⟨t1, t2, t3⟩ := t_bd (Y.2.2.1 28) L (tPos (Y.2.2.1 28) L m) hle.1
    unfold tFl
    split
    · omega
    · rename_i c0
      have hpl : tP (Y.2.2.1 28) L (tPos (Y.2.2.1 28) L m) < L := by
        unfold tN at c0
        by_cases c : tP (Y.2.2.1 28) L (tPos (Y.2.2.1 28) L m) < L
        · exact c
        · rw [if_neg c] at c0; exact absurd rfl c0
      have := t3 hpl
      split <;> omega
  · rw [c1, if_pos rfl] at h158
    have hb2 := tOk_bd hle.1 c1
    have hA := (tl_A M o w (Z := sS (sS Y 16 (nI (tE (Y.2.2.1 28) L (tPos (Y.2.2.1 28) L m)))) 17 (nI 1)) (e := tE (Y.2.2.1 28) L (tPos (Y.2.2.1 28) L m)) (i := m) hL hb2.2.1 h15 rfl rfl (some (.int (nI 0))) (some (.int (nI 1))) x4 x5 x6 (nI 0) (nI_nn (by omega))).2.1 c2 c3 (hb _ c2)
    rw [s1716, sS_sS, sS_sS] at hA
    refine ⟨_, false, _, e.trans ((hgo _ _ h158).trans hA), (fun h => by cases h), fun _ => ⟨c4, _, ?_, rfl⟩⟩
    show tSp (Y.2.2.1 28) L (tPos (Y.2.2.1 28) L m) < 2 ^ 31
    omega
theorem s156 {T Y : z_V} {L : Nat} (hx : rX L T Y) : ∃ x y, z_cl 156 [.ref o] (yS M o Y w) = some (some (.int ((scnR T L).1 2)), yS M o (sS (sS Y 16 x) 17 y) w) := by
  obtain ⟨m, hO⟩ := scnR_sp hx.1 hx.2.1
  obtain ⟨x, y, n, e, h1, h2⟩ := s157f M o w hx hO
  refine ⟨x, bI y, ?_⟩
  rw [e156]
  cases y with
  | true =>
    rw [h1 rfl]
    simp (disch := first | omega | (simp only [sgets, reduceIte, Nat.reduceEqDiff, dec_S, Nat.reduceAdd]; done) | omega) only [cS_1, crd, z_pv_some, z_wv_some, z_cv_v, z_cv_n, cwr, sgets, rc_O, ia_n, fa_n, is_n, fs_n, ↓mI_eq, lits, nI_add, nLe, nLt, nE, mI_ne, mI_ne', mI_lt, mI_le, mI_nlt, mI_nle, ne_eq, mI_addC, pk_sub, pk_mul, pk_div, Nat.reduceEqDiff, Nat.reduceAdd, Nat.reduceMul, Nat.reduceSub, reduceIte, not_true_eq_false, not_false_eq_true, true_or, or_true, if_true, if_false, and_self, and_true, true_and, and_false, false_and, or_self, or_false, false_or, decide_true, decide_false, Bool.false_eq_true, Bool.true_eq_false, bI_t, bI_f, oS_1, ord, owA0, owF0, owF1, owA1, owF2, owA2, owF3, owA3, ywo, gfs11, pfs11, yrd, ywr, b156, e, dec_S, Nat.reduceAdd]
  | false =>
    obtain ⟨h3, p, hp, rfl⟩ := h2 rfl
    rw [h3]
    simp (disch := first | omega | (simp only [sgets, reduceIte, Nat.reduceEqDiff, dec_S, Nat.reduceAdd]; done) | omega) only [cS_1, crd, z_pv_some, z_wv_some, z_cv_v, z_cv_n, cwr, sgets, rc_O, ia_n, fa_n, is_n, fs_n, ↓mI_eq, lits, nI_add, nLe, nLt, nE, mI_ne, mI_ne', mI_lt, mI_le, mI_nlt, mI_nle, ne_eq, mI_addC, pk_sub, pk_mul, pk_div, Nat.reduceEqDiff, Nat.reduceAdd, Nat.reduceMul, Nat.reduceSub, reduceIte, not_true_eq_false, not_false_eq_true, true_or, or_true, if_true, if_false, and_self, and_true, true_and, and_false, false_and, or_self, or_false, false_or, decide_true, decide_false, Bool.false_eq_true, Bool.true_eq_false, bI_t, bI_f, oS_1, ord, owA0, owF0, owF1, owA1, owF2, owA2, owF3, owA3, ywo, gfs11, pfs11, yrd, ywr, b156, e, dec_S, Nat.reduceAdd]
theorem s154 {T Y : z_V} {L : Nat} (hx : rX L T Y) (y : Int32) : ∃ L', z_cl 154 [.ref o, .int y] (yS M o Y w) = some (some (.int (appR T L y).1), yS M o (if ¬ (nI 0 ≤ y ∧ y ≤ nI 255) ∨ 100 ≤ L then Y else sS (sA Y 28 (upd (Y.2.2.1 28) L y)) 15 (nI (L + 1))) w) ∧ rX L' (appR T L y).2 (if ¬ (nI 0 ≤ y ∧ y ≤ nI 255) ∨ 100 ≤ L then Y else sS (sA Y 28 (upd (Y.2.2.1 28) L y)) 15 (nI (L + 1))) := by
  have hx' := hx
  obtain ⟨hL, h0, h15, h28, hb⟩ := hx
  have h110 := m110 y (nI 0) (nI 255) (yS M o Y w)
  have e154 := e154 o y (yS M o Y w)
  unfold appR
  by_cases hy : nI 0 ≤ y ∧ y ≤ nI 255
  · rw [if_neg (by simp [hy])]
    rw [show decide (nI 0 ≤ y ∧ y ≤ nI 255) = true by simp [hy]] at h110
    by_cases c : 100 ≤ L
    · have c' : L = 100 := by omega
      rw [if_pos c, if_pos (Or.inr c)]
      refine ⟨L, ?_, hx'⟩
      rw [e154]
      simp (disch := first | omega | (simp only [sgets, reduceIte, Nat.reduceEqDiff, h15, c', dec_S, Nat.reduceAdd]; done) | omega) only [cS_1, crd, z_pv_some, z_wv_some, z_cv_v, z_cv_n, cwr, sgets, rc_O, ia_n, fa_n, is_n, fs_n, ↓mI_eq, lits, nI_add, nLe, nLt, nE, mI_ne, mI_ne', mI_lt, mI_le, mI_nlt, mI_nle, ne_eq, mI_addC, pk_sub, pk_mul, pk_div, Nat.reduceEqDiff, Nat.reduceAdd, Nat.reduceMul, Nat.reduceSub, reduceIte, not_true_eq_false, not_false_eq_true, true_or, or_true, if_true, if_false, and_self, and_true, true_and, and_false, false_and, or_self, or_false, false_or, decide_true, decide_false, Bool.false_eq_true, Bool.true_eq_false, bI_t, bI_f, oS_1, ord, owA0, owF0, owF1, owA1, owF2, owA2, owF3, owA3, ywo, gfs11, pfs11, yrd, ywr, b154, h110, h15, c', dec_S, Nat.reduceAdd]
    · have c' : ¬ L = 100 := by omega
      rw [if_neg c, if_neg (by simp [hy, c])]
      refine ⟨L + 1, ?_, by omega, rfl, rfl, ?_, fun i hi => ?_⟩
      · rw [e154]
        simp (disch := first | omega | (simp only [sgets, reduceIte, Nat.reduceEqDiff, h15, c', dec_S, Nat.reduceAdd]; done) | omega) only [cS_1, crd, z_pv_some, z_wv_some, z_cv_v, z_cv_n, cwr, sgets, rc_O, ia_n, fa_n, is_n, fs_n, ↓mI_eq, lits, nI_add, nLe, nLt, nE, mI_ne, mI_ne', mI_lt, mI_le, mI_nlt, mI_nle, ne_eq, mI_addC, pk_sub, pk_mul, pk_div, Nat.reduceEqDiff, Nat.reduceAdd, Nat.reduceMul, Nat.reduceSub, reduceIte, not_true_eq_false, not_false_eq_true, true_or, or_true, if_true, if_false, and_self, and_true, true_and, and_false, false_and, or_self, or_false, false_or, decide_true, decide_false, Bool.false_eq_true, Bool.true_eq_false, bI_t, bI_f, oS_1, ord, owA0, owF0, owF1, owA1, owF2, owA2, owF3, owA3, ywo, gfs11, pfs11, yrd, ywr, b154, h110, h15, c', dec_S, Nat.reduceAdd]
      · show upd (Y.2.2.1 28) L y = upd (T.2.2.1 0) L y
        rw [h28]
      · show ¬ upd (T.2.2.1 0) L y i = mI
        by_cases ci : i = L
        · subst ci
          rw [upd_eq]
          obtain ⟨k, _, hk, rfl⟩ := in_nI (by omega) (by omega) hy
          rw [mI_ne (by omega)]; exact not_false
        · rw [upd_ne _ _ ci]; exact hb i (by omega)
  · rw [if_pos hy, if_pos (Or.inl hy)]
    rw [show decide (nI 0 ≤ y ∧ y ≤ nI 255) = false by simp [hy]] at h110
    refine ⟨L, ?_, hx'⟩
    rw [e154]
    simp (disch := first | omega | (simp only [sgets, reduceIte, Nat.reduceEqDiff, dec_S, Nat.reduceAdd]; done) | omega) only [cS_1, crd, z_pv_some, z_wv_some, z_cv_v, z_cv_n, cwr, sgets, rc_O, ia_n, fa_n, is_n, fs_n, ↓mI_eq, lits, nI_add, nLe, nLt, nE, mI_ne, mI_ne', mI_lt, mI_le, mI_nlt, mI_nle, ne_eq, mI_addC, pk_sub, pk_mul, pk_div, Nat.reduceEqDiff, Nat.reduceAdd, Nat.reduceMul, Nat.reduceSub, reduceIte, not_true_eq_false, not_false_eq_true, true_or, or_true, if_true, if_false, and_self, and_true, true_and, and_false, false_and, or_self, or_false, false_or, decide_true, decide_false, Bool.false_eq_true, Bool.true_eq_false, bI_t, bI_f, oS_1, ord, owA0, owF0, owF1, owA1, owF2, owA2, owF3, owA3, ywo, gfs11, pfs11, yrd, ywr, b154, h110, dec_S, Nat.reduceAdd]
theorem s155 {T Y : z_V} {L : Nat} (hx : rX L T Y) : z_cl 155 [.ref o] (yS M o Y w) = some (some (.int (T.1 0)), yS M o (sS Y 15 (nI 0)) w) ∧ rX 0 (sS T 0 (nI 0)) (sS Y 15 (nI 0)) := by
  obtain ⟨hL, h0, h15, h28, hb⟩ := hx
  refine ⟨?_, by omega, rfl, rfl, h28, fun i hi => by omega⟩
  rw [e155, h0]
  simp (disch := first | omega | (simp only [sgets, reduceIte, Nat.reduceEqDiff, h15, dec_S, Nat.reduceAdd]; done) | omega) only [cS_1, crd, z_pv_some, z_wv_some, z_cv_v, z_cv_n, cwr, sgets, rc_O, ia_n, fa_n, is_n, fs_n, ↓mI_eq, lits, nI_add, nLe, nLt, nE, mI_ne, mI_ne', mI_lt, mI_le, mI_nlt, mI_nle, ne_eq, mI_addC, pk_sub, pk_mul, pk_div, Nat.reduceEqDiff, Nat.reduceAdd, Nat.reduceMul, Nat.reduceSub, reduceIte, not_true_eq_false, not_false_eq_true, true_or, or_true, if_true, if_false, and_self, and_true, true_and, and_false, false_and, or_self, or_false, false_or, decide_true, decide_false, Bool.false_eq_true, Bool.true_eq_false, bI_t, bI_f, oS_1, ord, owA0, owF0, owF1, owA1, owF2, owA2, owF3, owA3, ywo, gfs11, pfs11, yrd, ywr, b155, h15, dec_S, Nat.reduceAdd]
end
