/-! run: all orders, on both sides -/
def kZ (Y Z : z_V) : Prop := Z.1 13 = Y.1 13 ∧ Z.1 14 = Y.1 14 ∧ Z.1 15 = Y.1 15 ∧ Z.2.2.1 23 = Y.2.2.1 23 ∧ Z.2.2.1 28 = Y.2.2.1 28 ∧ Z.2.2.2 3 = Y.2.2.2 3 ∧ Z.2.2.2 4 = Y.2.2.2 4
theorem kZ.tr {Y Z W : z_V} (h1 : kZ Y Z) (h2 : kZ Z W) : kZ Y W := ⟨h2.1.trans h1.1, h2.2.1.trans h1.2.1, h2.2.2.1.trans h1.2.2.1, h2.2.2.2.1.trans h1.2.2.2.1, h2.2.2.2.2.1.trans h1.2.2.2.2.1, h2.2.2.2.2.2.1.trans h1.2.2.2.2.2.1, h2.2.2.2.2.2.2.trans h1.2.2.2.2.2.2⟩
theorem kZ.rf (Y : z_V) : kZ Y Y := ⟨rfl, rfl, rfl, rfl, rfl, rfl, rfl⟩
theorem kY.z {Y Z : z_V} (h : kY Y Z) : kZ Y Z := ⟨h.1 13 (by omega), h.1 14 (by omega), h.1 15 (by omega), h.2.1.1, h.2.1.2, h.2.2.1, h.2.2.2⟩
theorem kZ_at (Y : z_V) (x : Int32) : kZ Y (sS Y 16 x) := ⟨rfl, rfl, rfl, rfl, rfl, rfl, rfl⟩
theorem kZ_fi (Y : z_V) (x : Int32) : kZ Y (sS Y 17 x) := ⟨rfl, rfl, rfl, rfl, rfl, rfl, rfl⟩
theorem kZ_b {Y Z : z_V} (h : kZ Y Z) (hb : okb Y) : okb Z := by unfold okb at *; rw [h.2.2.2.2.2.2]; exact hb
theorem kZ_X {Y Z : z_V} (h : kZ Y Z) (hX : okX Y) : okX Z := by unfold okX at *; rw [h.1]; exact hX
theorem Rl_s {c J S Hy B : Nat} {V Y : z_V} {i : Nat} {x : Int32} (hi : 12 < i) (h : Rl c J S Hy B V Y) : Rl c J S Hy B V (sS Y i x) :=
  Rl_Y (Y := Y) (Z := sS Y i x) (fun j hj => by simp only [sgets, show j ≠ i by omega, if_false]) (fun _ _ => rfl) (fun _ _ => rfl) h
section
variable (M : z_M) (n : Nat) (Vt H T : z_V) (Hs : Nat → z_V) (M' : z_M) (o : Nat) (w : Int64) {b : Nat → Int32} {L : Nat}
theorem run_1 (hL : L ≤ 100) {i c J S Hy B : Nat} {V Y : z_V} (U : z_V) (hi : i < 100) (hle : tPos b L i ≤ L) (hok : tOk b L (tPos b L i) = true) (q : T.2.2.1 1 i = b (tP b L (tPos b L i)) ∧ T.2.2.1 2 i = numV b L (tA b L (tPos b L i)) ∧ T.2.2.1 3 i = if tN b L (tPos b L i) = 2 then numV b L (tK b L (tPos b L i)) else mI) (h : Rl c J S Hy B V Y) (hd : hdOk V) (hc : c < 2 ^ 29) (hX : okX Y) (hb : okb Y) (h14 : Y.1 14 = nI 1) (h15 : Y.1 15 = nI L) (h16 : Y.1 16 = nI (tPos b L i)) (h28 : Y.2.2.1 28 = b) (x4 x5 x6 : Option Value) : ∃ (R : Int32 × z_V × z_V) (Z : z_V), z_cl 90 [.ref n, .int (nI i)] (gM M n V Vt U H T Hs) = some (some (.int R.1), gM M n R.2.2 Vt R.2.1 H T Hs) ∧ z_ex 157 M'.1 14 [some (.ref o), some (.int (nI 1)), some (.int (nI i)), some (.int (nI 1)), x4, x5, x6] [] (yS M' o Y w) = z_ex 157 M'.1 23 [some (.ref o), some (.int (nI 1)), some (.int (nI i)), some (.int (nI 1)), x4, x5, x6] [.int R.1] (yS M' o Z w) ∧ (∃ J' S' Hy' B', Rl (c + 1) J' S' Hy' B' R.2.2 Z) ∧ kY (sS (sS Y 16 (nI (tE b L (tPos b L i)))) 17 (nI 1)) Z ∧ hdOk R.2.2 := by
  obtain ⟨q1, q2, q3⟩ := q
  have hb1 := tOk_bd hle hok
  have hnz : ¬ numA (T.2.2.1 1 i) = 0 := by
    rw [q1]
    have := (of_decide_eq_true hok).1
    unfold tN at this
    rw [if_pos hb1.1] at this
    exact this
  have c90 := g90 M n V Vt U H T Hs h.1 hi hnz
  rw [q1, q2, q3] at c90
  obtain ⟨Z1, z1, z2, z3⟩ := m158t M' o w h (by omega) hX hb h14 U hL hle h15 h16 (by rw [h28]; exact hok) (if tN b L (tPos b L i) = 2 then numV b L (tK b L (tPos b L i)) else mI) (by rw [h28]; intro q; rw [if_pos q])
  rw [h28] at z1 z2 z3
  refine ⟨_, Z1, c90, ?_, z2, z3, hd_ex h.1 hd _ _ _⟩
  generalize exR J S B (b (tP b L (tPos b L i))) (numV b L (tA b L (tPos b L i))) (if tN b L (tPos b L i) = 2 then numV b L (tK b L (tPos b L i)) else mI) U V = R at z1
  rw [q157_14]
  simp (disch := first | omega | (simp only [sgets, reduceIte, Nat.reduceEqDiff, dec_S, Nat.reduceAdd]; done) | omega) only [cS_1, crd, z_pv_some, z_wv_some, z_cv_v, z_cv_n, cwr, sgets, rc_O, ia_n, fa_n, is_n, fs_n, ↓mI_eq, lits, nI_add, nLe, nLt, nE, mI_ne, mI_ne', mI_lt, mI_le, mI_nlt, mI_nle, ne_eq, mI_addC, pk_sub, pk_mul, pk_div, Nat.reduceEqDiff, Nat.reduceAdd, Nat.reduceMul, Nat.reduceSub, reduceIte, not_true_eq_false, not_false_eq_true, true_or, or_true, if_true, if_false, and_self, and_true, true_and, and_false, false_and, or_self, or_false, false_or, decide_true, decide_false, Bool.false_eq_true, Bool.true_eq_false, bI_t, bI_f, oS_1, ord, owA0, owF0, owF1, owA1, owF2, owA2, owF3, owA3, ywo, gfs11, pfs11, yrd, ywr, q157_15, q157_18, q157_19, q157_20, z1, dec_S, Nat.reduceAdd]
theorem run_c {V V' U U' : z_V} {i m : Nat} {r : Int32} (hm : m < 100) (h3 : T.1 3 = nI (m + 1)) (hi : i ≤ m) (h : z_cl 90 [.ref n, .int (nI i)] (gM M n V Vt U H T Hs) = some (some (.int r), gM M n V' Vt U' H T Hs)) : (r < nI 0 → z_ex 89 M.1 27 [some (.ref n), some (.int (nI i))] [] (gM M n V Vt U H T Hs) = z_ex 89 M.1 52 [some (.ref n), some (.int (nI i))] [] (gM M n V' Vt U' H T Hs)) ∧ (¬ r < nI 0 → z_ex 89 M.1 27 [some (.ref n), some (.int (nI i))] [] (gM M n V Vt U H T Hs) = z_ex 89 M.1 27 [some (.ref n), some (.int (nI (i + 1)))] [] (gM M n V' Vt U' H T Hs)) := by
  have hi2 : ¬ m + 1 ≤ i := by omega
  constructor
  · intro hr
    rw [q89_27]
    simp (disch := first | omega | (simp only [sgets, reduceIte, Nat.reduceEqDiff, h3, hi2, hr]; done) | omega) only [cS_1, crd, z_pv_some, z_wv_some, z_cv_v, z_cv_n, cwr, sgets, rc_O, ia_n, fa_n, is_n, fs_n, ↓mI_eq, lits, nI_add, nLe, nLt, nE, mI_ne, mI_ne', mI_lt, mI_le, mI_nlt, mI_nle, ne_eq, mI_addC, pk_sub, pk_mul, pk_div, Nat.reduceEqDiff, Nat.reduceAdd, Nat.reduceMul, Nat.reduceSub, reduceIte, not_true_eq_false, not_false_eq_true, true_or, or_true, if_true, if_false, and_self, and_true, true_and, and_false, false_and, or_self, or_false, false_or, decide_true, decide_false, Bool.false_eq_true, Bool.true_eq_false, bI_t, bI_f, grd, gM_1, gfs10, gfs0, gfs3, gfs5, gfs6, gfs9, gfs2, gfs7, gfs8, gfs1, q89_28, q89_29, q89_32, q89_35, q89_38, q89_39, q89_40, q89_43, q89_46, q89_49, h, h3, hi2, hr]
  · intro hr
    rw [q89_27]
    simp (disch := first | omega | (simp only [sgets, reduceIte, Nat.reduceEqDiff, h3, hi2, hr]; done) | omega) only [cS_1, crd, z_pv_some, z_wv_some, z_cv_v, z_cv_n, cwr, sgets, rc_O, ia_n, fa_n, is_n, fs_n, ↓mI_eq, lits, nI_add, nLe, nLt, nE, mI_ne, mI_ne', mI_lt, mI_le, mI_nlt, mI_nle, ne_eq, mI_addC, pk_sub, pk_mul, pk_div, Nat.reduceEqDiff, Nat.reduceAdd, Nat.reduceMul, Nat.reduceSub, reduceIte, not_true_eq_false, not_false_eq_true, true_or, or_true, if_true, if_false, and_self, and_true, true_and, and_false, false_and, or_self, or_false, false_or, decide_true, decide_false, Bool.false_eq_true, Bool.true_eq_false, bI_t, bI_f, grd, gM_1, gfs10, gfs0, gfs3, gfs5, gfs6, gfs9, gfs2, gfs7, gfs8, gfs1, q89_28, q89_29, q89_32, q89_35, q89_38, q89_39, q89_40, q89_43, q89_46, q89_49, h, h3, hi2, hr]
theorem run_j {m : Nat} (hL : L ≤ 100) (hP : tPre b L m) (hok : tOk b L (tPos b L m) = true) (hsp : ¬ tSp b L (tPos b L m) < L) (hA : tArr b L (m + 1) T) (h3 : T.1 3 = nI (m + 1)) : ∀ (d i c J S Hy B : Nat) (V U Y : z_V) (x4 x5 x6 : Option Value), d + i = m → Rl c J S Hy B V Y → hdOk V → c + d < 2 ^ 29 → okX Y → okb Y → Y.1 14 = nI 1 → Y.1 15 = nI L → Y.1 16 = nI (tPos b L i) → Y.2.2.1 28 = b → ∃ k V' U' Z, k ≤ m + 1 ∧ z_ex 89 M.1 27 [some (.ref n), some (.int (nI i))] [] (gM M n V Vt U H T Hs) = z_ex 89 M.1 52 [some (.ref n), some (.int (nI k))] [] (gM M n V' Vt U' H T Hs) ∧ z_ex 157 M'.1 14 [some (.ref o), some (.int (nI 1)), some (.int (nI i)), some (.int (nI 1)), x4, x5, x6] [] (yS M' o Y w) = some (some (.int (nI k)), yS M' o Z w) ∧ (∃ J' S' Hy' B', Rl (c + d + 1) J' S' Hy' B' V' Z) ∧ kZ Y Z ∧ hdOk V' := by
  have hlem := tPos_le m hP
  have hm100 : m < 100 := by have := tOk_bd hlem.1 hok; omega
  intro d
  induction d with
  | zero =>
    intro i c J S Hy B V U Y x4 x5 x6 hdi h hd hc hX hb h14 h15 h16 h28
    have him : i = m := by omega
    subst him
    obtain ⟨R, Z, r1, r2, ⟨J', S', Hy', B', r3⟩, r4, r5⟩ := run_1 M n Vt H T Hs M' o w hL U (show i < 100 by omega) hlem.1 hok (hA i (by omega)) h hd (by omega) hX hb h14 h15 h16 h28 x4 x5 x6
    have hb1 := tOk_bd hlem.1 hok
    obtain ⟨cc1, cc2⟩ := run_c M n Vt H T Hs hm100 h3 (Nat.le_refl i) r1
    have zz : kZ Y Z := ((kZ_at Y _).tr (kZ_fi _ _)).tr r4.z
    have g15 : Z.1 15 = nI L := by rw [zz.2.2.1]; exact h15
    have g16 : Z.1 16 = nI (tE b L (tPos b L i)) := r4.1 16 (by omega)
    have g17 : Z.1 17 = nI 1 := r4.1 17 (by omega)
    have g28 : Z.2.2.1 28 = b := by rw [zz.2.2.2.2.1]; exact h28
    by_cases hr : R.1 < nI 0
    · obtain ⟨x, y, e⟩ := tl_B M' o w (i := i) hL hb1.2.1 g15 g16 g17 (some (.int (nI 1))) (some (.int (nI 1))) x4 x5 x6 R.1 hr
      exact ⟨i, R.2.2, R.2.1, _, by omega, cc1 hr, r2.trans e, ⟨J', S', Hy', B', Rl_s (by omega) (Rl_s (by omega) r3)⟩, (zz.tr (kZ_at _ _)).tr (kZ_fi _ _), r5⟩
    · have e := (tl_A M' o w (i := i) hL hb1.2.1 g15 g16 g17 (some (.int (nI 1))) (some (.int (nI 1))) x4 x5 x6 R.1 hr).2.2 (by rw [g28]; exact hsp)
      refine ⟨i + 1, R.2.2, R.2.1, _, by omega, (cc2 hr).trans ?_, r2.trans e, ⟨J', S', Hy', B', Rl_s (by omega) r3⟩, zz.tr (kZ_at _ _), r5⟩
      rw [q89_27]
      simp (disch := first | omega | (simp only [sgets, reduceIte, Nat.reduceEqDiff, h3]; done) | omega) only [cS_1, crd, z_pv_some, z_wv_some, z_cv_v, z_cv_n, cwr, sgets, rc_O, ia_n, fa_n, is_n, fs_n, ↓mI_eq, lits, nI_add, nLe, nLt, nE, mI_ne, mI_ne', mI_lt, mI_le, mI_nlt, mI_nle, ne_eq, mI_addC, pk_sub, pk_mul, pk_div, Nat.reduceEqDiff, Nat.reduceAdd, Nat.reduceMul, Nat.reduceSub, reduceIte, not_true_eq_false, not_false_eq_true, true_or, or_true, if_true, if_false, and_self, and_true, true_and, and_false, false_and, or_self, or_false, false_or, decide_true, decide_false, Bool.false_eq_true, Bool.true_eq_false, bI_t, bI_f, grd, gM_1, gfs10, gfs0, gfs3, gfs5, gfs6, gfs9, gfs2, gfs7, gfs8, gfs1, q89_28, q89_29, q89_32, q89_35, Nat.le_refl, h3]
  | succ d ih =>
    intro i c J S Hy B V U Y x4 x5 x6 hdi h hd hc hX hb h14 h15 h16 h28
    have hle := tPos_le i (fun j hj => hP j (by omega))
    obtain ⟨p1, p2, p3⟩ := hP i (by omega)
    obtain ⟨R, Z, r1, r2, ⟨J', S', Hy', B', r3⟩, r4, r5⟩ := run_1 M n Vt H T Hs M' o w hL U (show i < 100 by omega) hle.1 p1 (hA i (by omega)) h hd (by omega) hX hb h14 h15 h16 h28 x4 x5 x6
    have hb1 := tOk_bd hle.1 p1
    obtain ⟨cc1, cc2⟩ := run_c M n Vt H T Hs hm100 h3 (show i ≤ m by omega) r1
    have zz : kZ Y Z := ((kZ_at Y _).tr (kZ_fi _ _)).tr r4.z
    have g15 : Z.1 15 = nI L := by rw [zz.2.2.1]; exact h15
    have g16 : Z.1 16 = nI (tE b L (tPos b L i)) := r4.1 16 (by omega)
    have g17 : Z.1 17 = nI 1 := r4.1 17 (by omega)
    have g28 : Z.2.2.1 28 = b := by rw [zz.2.2.2.2.1]; exact h28
    by_cases hr : R.1 < nI 0
    · obtain ⟨x, y, e⟩ := tl_B M' o w (i := i) hL hb1.2.1 g15 g16 g17 (some (.int (nI 1))) (some (.int (nI 1))) x4 x5 x6 R.1 hr
      exact ⟨i, R.2.2, R.2.1, _, by omega, cc1 hr, r2.trans e, ⟨J', S', Hy', B', Rl_le (by omega) (Rl_s (by omega) (Rl_s (by omega) r3))⟩, (zz.tr (kZ_at _ _)).tr (kZ_fi _ _), r5⟩
    · have e := (tl_A M' o w (i := i) hL hb1.2.1 g15 g16 g17 (some (.int (nI 1))) (some (.int (nI 1))) x4 x5 x6 R.1 hr).1 (by rw [g28]; exact p2) (by rw [g28]; exact p3)
      rw [g28] at e
      obtain ⟨k, V', U', Z', k1, k2, k3, k4, k5, k6⟩ := ih (i + 1) (c + 1) J' S' Hy' B' R.2.2 R.2.1 (sS Z 16 (nI (tPos b L (i + 1)))) (some (.int R.1)) (some (.int (nI 1))) (some (.int (nI 59))) (by omega) (Rl_s (by omega) r3) r5 (by omega) (kZ_X (zz.tr (kZ_at _ _)) hX) (kZ_b (zz.tr (kZ_at _ _)) hb) (by rw [(zz.tr (kZ_at _ _)).2.1]; exact h14) g15 rfl g28
      refine ⟨k, V', U', Z', k1, (cc2 hr).trans k2, r2.trans (e.trans k3), ?_, (zz.tr (kZ_at _ _)).tr k5, k6⟩
      rw [show c + (d + 1) + 1 = c + 1 + d + 1 by omega]
      exact k4
end
theorem tFl_le {b : Nat → Int32} {L a : Nat} (ha : a ≤ L) : tFl b L a ≤ L := by
  obtain ⟨t1, t2, t3⟩ := t_bd b L a ha
  unfold tFl
  split
  · omega
  · rename_i c0
    have hpl : tP b L a < L := by
      unfold tN at c0
      by_cases c : tP b L a < L
      · exact c
      · rw [if_neg c] at c0; exact absurd rfl c0
    have := t3 hpl
    split <;> omega
/-- run, on both sides -/
theorem run_all (M : z_M) (n : Nat) (V Vt U H T : z_V) (Hs : Nat → z_V) (M' : z_M) (o : Nat) (w : Int64) {c J S Hy B kk mm L : Nat} {Y : z_V} (hG : okG V H T J S Hy B kk mm L) (h : Rl c J S Hy B V Y) (hd : hdOk V) (hx : rX L T Y) (hc : c < 2 ^ 28) (hX : okX Y) (hb : okb Y) (h14 : Y.1 14 = nI 0) : (∃ x y, z_cl 89 [.ref n] (gM M n V Vt U H T Hs) = some (some (.int (-(nI 4))), gM M n V Vt U H (scnR T L) Hs) ∧ z_cl 161 [.ref o] (yS M' o Y w) = some (some (.int (-(nI 4))), yS M' o (sS (sS Y 16 x) 17 y) w)) ∨ ∃ k V' U' Z x, k ≤ 100 ∧ z_cl 89 [.ref n] (gM M n V Vt U H T Hs) = some (some (.int (nI k)), gM M n V' Vt U' (setR H (nI k)) (scnR T L) (upH Hs kk V)) ∧ z_cl 161 [.ref o] (yS M' o Y w) = some (some (.int (nI k)), yS M' o Z w) ∧ (∃ J' S' Hy' B', Rl (c + 101) J' S' Hy' B' V' Z) ∧ kZ (svY (sS (sS Y 16 x) 17 (nI 1))) Z ∧ hdOk V' := by
  obtain ⟨hC, ⟨f, hf⟩, hH, hL, hT⟩ := hG
  have c41 := g41 M n V Vt U H T Hs L hL hT
  obtain ⟨m, hO⟩ := scnR_sp hL hT
  obtain ⟨x, y, a, e, h1, h2⟩ := s157f M' o w hx hO
  cases y with
  | false =>
    obtain ⟨h3, p, hp, rfl⟩ := h2 rfl
    have hne : ¬ (scnR T L).1 2 = mI := by rw [h3, mI_ne hp]; exact not_false
    refine Or.inl ⟨nI p, nI 0, ?_, ?_⟩
    · rw [e89]
      simp (disch := first | omega | (simp only [sgets, reduceIte, Nat.reduceEqDiff, hne]; done) | omega) only [cS_1, crd, z_pv_some, z_wv_some, z_cv_v, z_cv_n, cwr, sgets, rc_O, ia_n, fa_n, is_n, fs_n, ↓mI_eq, lits, nI_add, nLe, nLt, nE, mI_ne, mI_ne', mI_lt, mI_le, mI_nlt, mI_nle, ne_eq, mI_addC, pk_sub, pk_mul, pk_div, Nat.reduceEqDiff, Nat.reduceAdd, Nat.reduceMul, Nat.reduceSub, reduceIte, not_true_eq_false, not_false_eq_true, true_or, or_true, if_true, if_false, and_self, and_true, true_and, and_false, false_and, or_self, or_false, false_or, decide_true, decide_false, Bool.false_eq_true, Bool.true_eq_false, bI_t, bI_f, grd, gM_1, gfs10, gfs0, gfs3, gfs5, gfs6, gfs9, gfs2, gfs7, gfs8, gfs1, q89_0, q89_1, q89_4, q89_7, q89_8, q89_11, q89_13, q89_14, q89_15, q89_18, q89_19, q89_22, q89_25, q89_26, c41, hne]
    · rw [e161]
      rw [bI_f] at e
      simp (disch := first | omega | (simp only [sgets, reduceIte, Nat.reduceEqDiff, dec_S, Nat.reduceAdd]; done) | omega) only [cS_1, crd, z_pv_some, z_wv_some, z_cv_v, z_cv_n, cwr, sgets, rc_O, ia_n, fa_n, is_n, fs_n, ↓mI_eq, lits, nI_add, nLe, nLt, nE, mI_ne, mI_ne', mI_lt, mI_le, mI_nlt, mI_nle, ne_eq, mI_addC, pk_sub, pk_mul, pk_div, Nat.reduceEqDiff, Nat.reduceAdd, Nat.reduceMul, Nat.reduceSub, reduceIte, not_true_eq_false, not_false_eq_true, true_or, or_true, if_true, if_false, and_self, and_true, true_and, and_false, false_and, or_self, or_false, false_or, decide_true, decide_false, Bool.false_eq_true, Bool.true_eq_false, bI_t, bI_f, oS_1, ord, owA0, owF0, owF1, owA1, owF2, owA2, owF3, owA3, ywo, gfs11, pfs11, yrd, ywr, q161_0, q161_1, q161_2, q161_5, q161_6, q161_7, q161_10, q161_13, q161_15, e, dec_S, Nat.reduceAdd]
  | true =>
    have h3 := h1 rfl
    rw [bI_t] at e
    obtain ⟨hP, hb0, hT0, hcs⟩ := hO
    rcases hcs with ⟨c1, c2, c3, c4, c5⟩ | ⟨c1, c2⟩ | ⟨c1, c2, c3, c4⟩
    · right
      have hR1 : Rl c J S Hy B V (sS (sS Y 16 x) 17 (nI 1)) := Rl_s (by omega) (Rl_s (by omega) h)
      have kz1 : kZ Y (sS (sS Y 16 x) 17 (nI 1)) := (kZ_at _ _).tr (kZ_fi _ _)
      have hv17 : (sS (sS Y 16 x) 17 (nI 1)).1 17 = nI 1 := rfl
      refine ?_
      have key : ∀ Y1 : z_V, z_cl 157 [.ref o, .int (nI 0)] (yS M' o Y w) = some (some (.int a), yS M' o Y1 w) → Rl c J S Hy B V Y1 → kZ Y Y1 → Y1.1 17 = nI 1 → ∃ k V' U' Z, k ≤ 100 ∧ z_cl 89 [.ref n] (gM M n V Vt U H T Hs) = some (some (.int (nI k)), gM M n V' Vt U' (setR H (nI k)) (scnR T L) (upH Hs kk V)) ∧ z_cl 161 [.ref o] (yS M' o Y w) = some (some (.int (nI k)), yS M' o Z w) ∧ (∃ J' S' Hy' B', Rl (c + 101) J' S' Hy' B' V' Z) ∧ kZ (svY Y1) Z ∧ hdOk V' := by
        intro Y1 e hR1 kz1 h17
        have hX1 := kZ_X kz1 hX
        have hb1 := kZ_b kz1 hb
        have hX1' := hX1
        obtain ⟨s, hs, h13⟩ := hX1
        have h111 := m111 M' o Y1 w s hs h13
        have hRs := Rl_kV sv_kV hR1
        have hbs := kV_b sv_kV hb1
        have kv := sv_kV (Y := Y1)
        have hXs : okX (svY Y1) := by
          have h140 : Y1.1 14 = nI 0 := by rw [kz1.2.1]; exact h14
          unfold svY
          rw [if_pos h140]
          split
          · exact ⟨5, by omega, rfl⟩
          · rename_i c5
            rw [nV_of h13 (by omega)] at c5 ⊢
            exact ⟨s + 1, by omega, rfl⟩
        have s15 : (svY Y1).1 15 = nI L := by rw [kv.1 15 (by omega), kz1.2.2.1]; exact hx.2.2.1
        have s28 : (svY Y1).2.2.1 28 = T.2.2.1 0 := by rw [kv.2.1 28 (by omega), kz1.2.2.2.2.1]; exact hx.2.2.2.1
        have hm100 : m < 100 := by have := tPos_le m hP; have := tOk_bd this.1 c1; omega
        obtain ⟨k, V', U', Z, k1, k2, k3, ⟨J', S', Hy', B', k4⟩, k5, k6⟩ := run_j M n Vt H (scnR T L) (upH Hs kk V) M' o w hL hP c1 c2 c5 c4 m 0 c J S Hy B V U (sS (sS (sS (svY Y1) 14 (nI 1)) 16 (nI 0)) 17 (nI 1)) none none none (by omega) (Rl_s (by omega) (Rl_s (by omega) (Rl_s (by omega) hRs))) hd (by omega) hXs hbs rfl s15 rfl s28
        have d28 := g28 M n V Vt U H (scnR T L) Hs kk mm hH f hf
        have d29 := g29 M n V' Vt U' H (scnR T L) (upH Hs kk V) kk mm hH (nI k)
        have hord : z_cl 157 [.ref o, .int (nI 1)] (yS M' o (sS (svY Y1) 14 (nI 1)) w) = some (some (.int (nI k)), yS M' o Z w) := by
          rw [e157]
          refine Eq.trans ?_ k3
          simp (disch := first | omega | (simp only [sgets, reduceIte, Nat.reduceEqDiff, bz1, dec_S, Nat.reduceAdd]; done) | omega) only [cS_1, crd, z_pv_some, z_wv_some, z_cv_v, z_cv_n, cwr, sgets, rc_O, ia_n, fa_n, is_n, fs_n, ↓mI_eq, lits, nI_add, nLe, nLt, nE, mI_ne, mI_ne', mI_lt, mI_le, mI_nlt, mI_nle, ne_eq, mI_addC, pk_sub, pk_mul, pk_div, Nat.reduceEqDiff, Nat.reduceAdd, Nat.reduceMul, Nat.reduceSub, reduceIte, not_true_eq_false, not_false_eq_true, true_or, or_true, if_true, if_false, and_self, and_true, true_and, and_false, false_and, or_self, or_false, false_or, decide_true, decide_false, Bool.false_eq_true, Bool.true_eq_false, bI_t, bI_f, oS_1, ord, owA0, owF0, owF1, owA1, owF2, owA2, owF3, owA3, ywo, gfs11, pfs11, yrd, ywr, q157_0, q157_1, q157_2, q157_5, q157_6, q157_7, q157_10, q157_11, q157_12, q157_13, bz1, dec_S, Nat.reduceAdd]
        refine ⟨k, V', U', sS Z 14 (nI 0), by omega, ?_, ?_, ⟨J', S', Hy', B', Rl_s (by omega) (Rl_le (by omega) k4)⟩, ?_, k6⟩
        · rw [e89]
          refine Eq.trans (b := z_ex 89 M.1 27 [some (.ref n), some (.int (nI 0))] [] (gM M n V Vt U H (scnR T L) (upH Hs kk V))) ?_ (k2.trans ?_)
          · simp (disch := first | omega | (simp only [sgets, reduceIte, Nat.reduceEqDiff, c3]; done) | omega) only [cS_1, crd, z_pv_some, z_wv_some, z_cv_v, z_cv_n, cwr, sgets, rc_O, ia_n, fa_n, is_n, fs_n, ↓mI_eq, lits, nI_add, nLe, nLt, nE, mI_ne, mI_ne', mI_lt, mI_le, mI_nlt, mI_nle, ne_eq, mI_addC, pk_sub, pk_mul, pk_div, Nat.reduceEqDiff, Nat.reduceAdd, Nat.reduceMul, Nat.reduceSub, reduceIte, not_true_eq_false, not_false_eq_true, true_or, or_true, if_true, if_false, and_self, and_true, true_and, and_false, false_and, or_self, or_false, false_or, decide_true, decide_false, Bool.false_eq_true, Bool.true_eq_false, bI_t, bI_f, grd, gM_1, gfs10, gfs0, gfs3, gfs5, gfs6, gfs9, gfs2, gfs7, gfs8, gfs1, q89_0, q89_1, q89_4, q89_7, q89_8, q89_11, q89_13, q89_14, q89_15, q89_18, q89_19, q89_22, q89_25, q89_26, c41, d28, c3]
          · simp (disch := first | omega | (simp only [sgets, reduceIte, Nat.reduceEqDiff]; done) | omega) only [cS_1, crd, z_pv_some, z_wv_some, z_cv_v, z_cv_n, cwr, sgets, rc_O, ia_n, fa_n, is_n, fs_n, ↓mI_eq, lits, nI_add, nLe, nLt, nE, mI_ne, mI_ne', mI_lt, mI_le, mI_nlt, mI_nle, ne_eq, mI_addC, pk_sub, pk_mul, pk_div, Nat.reduceEqDiff, Nat.reduceAdd, Nat.reduceMul, Nat.reduceSub, reduceIte, not_true_eq_false, not_false_eq_true, true_or, or_true, if_true, if_false, and_self, and_true, true_and, and_false, false_and, or_self, or_false, false_or, decide_true, decide_false, Bool.false_eq_true, Bool.true_eq_false, bI_t, bI_f, grd, gM_1, gfs10, gfs0, gfs3, gfs5, gfs6, gfs9, gfs2, gfs7, gfs8, gfs1, q89_52, q89_53, q89_56, q89_57, q89_60, d29]
        · rw [e161]
          simp (disch := first | omega | (simp only [sgets, reduceIte, Nat.reduceEqDiff, h17, bz1, bz0, dec_S, Nat.reduceAdd]; done) | omega) only [cS_1, crd, z_pv_some, z_wv_some, z_cv_v, z_cv_n, cwr, sgets, rc_O, ia_n, fa_n, is_n, fs_n, ↓mI_eq, lits, nI_add, nLe, nLt, nE, mI_ne, mI_ne', mI_lt, mI_le, mI_nlt, mI_nle, ne_eq, mI_addC, pk_sub, pk_mul, pk_div, Nat.reduceEqDiff, Nat.reduceAdd, Nat.reduceMul, Nat.reduceSub, reduceIte, not_true_eq_false, not_false_eq_true, true_or, or_true, if_true, if_false, and_self, and_true, true_and, and_false, false_and, or_self, or_false, false_or, decide_true, decide_false, Bool.false_eq_true, Bool.true_eq_false, bI_t, bI_f, oS_1, ord, owA0, owF0, owF1, owA1, owF2, owA2, owF3, owA3, ywo, gfs11, pfs11, yrd, ywr, q161_0, q161_1, q161_2, q161_5, q161_6, q161_7, q161_10, q161_13, q161_15, q161_16, q161_17, q161_20, q161_21, q161_22, q161_25, q161_26, q161_27, q161_30, q161_31, q161_32, q161_33, q161_36, q161_37, e, h111, hord, h17, bz1, bz0, dec_S, Nat.reduceAdd]
        · have h140 : (svY Y1).1 14 = nI 0 := by rw [kv.1 14 (by omega), kz1.2.1]; exact h14
          exact ⟨k5.1, h140.symm, k5.2.2.1, k5.2.2.2.1, k5.2.2.2.2.1, k5.2.2.2.2.2.1, k5.2.2.2.2.2.2⟩
      obtain ⟨k, V', U', Z, z⟩ := key _ e hR1 kz1 hv17
      exact ⟨k, V', U', Z, x, z⟩
    · have hle := tPos_le m hP
      have := tFl_le (b := T.2.2.1 0) hle.1
      rw [c2, mI_ne (by omega)] at h3
      exact h3.elim
    · rw [c4, mI_ne (by omega)] at h3
      exact h3.elim
