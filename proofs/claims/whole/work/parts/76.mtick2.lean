/-! the model's ticks, tick -/
theorem cnt_or {P Q : Nat → Bool} {n : Nat} (h : ∀ k, k < n → P k = true → Q k = false) : cnt (fun k => P k || Q k) n = cnt P n + cnt Q n := by
  induction n with
  | zero => rfl
  | succ n ih =>
    rw [cnt_s, cnt_s, cnt_s, ih (fun k hk => h k (by omega))]
    have := h n (by omega)
    cases hp : P n
    · cases hq : Q n <;> simp <;> omega
    · rw [this hp]; simp; omega
theorem sum_sp {f : Nat → Int32} {J : Nat} : ∀ n, n ≤ 8 → it (fun b s => s + cnt (fun k => decide (f k = nI b)) J) n 0 = cnt (fun k => it (fun b s => s || decide (f k = nI b)) n false) J := by
  intro n
  induction n with
  | zero =>
    intro _
    show 0 = cnt (fun _ => false) J
    induction J with
    | zero => rfl
    | succ J ih => rw [cnt_s, ← ih]; rfl
  | succ n ih =>
    intro hn
    show it (fun b s => s + cnt (fun k => decide (f k = nI b)) J) n 0 + cnt (fun k => decide (f k = nI n)) J = cnt (fun k => it (fun b s => s || decide (f k = nI b)) n false || decide (f k = nI n)) J
    rw [ih (by omega), cnt_or]
    intro k hk h
    obtain ⟨b, h1, h2⟩ := spk_it.mp h
    rw [h2, dnI (by omega) (by omega), decide_eq_false_iff_not]
    omega
section
variable (M : z_M) (o : Nat) (w : Int64) {c J S Hy B : Nat}
theorem Rl_tc {V Y : z_V} (h : Rl c J S Hy B V Y) (x : Int32) : Rl c J S Hy B (sS V 0 x) (sS Y 9 x) := by
  obtain ⟨⟨q1, q2, q3, q4, q5, q6, q7, q8, q9, q10, q11⟩, hfl, hSB, r1, r2, r3, r4, r5, r6, r7⟩ := h
  exact ⟨⟨q1, q2, q3, q4, q5, q6, q7, q8, q9, q10, q11⟩, hfl, hSB, ⟨r1.1, r1.2.1, r1.2.2.1, r1.2.2.2.1, r1.2.2.2.2.1, r1.2.2.2.2.2.1, r1.2.2.2.2.2.2.1, r1.2.2.2.2.2.2.2.1, rfl, r1.2.2.2.2.2.2.2.2.2⟩, r2, r3, r4, r5, r6, r7⟩
theorem flo_T {V : z_V} (hE : okE V) (hw : okW V) : (floorV J V).2.1 = V.2.1 := by
  have kt : ∀ n, kF V (it tHs n V) := by
    intro n
    induction n with
    | zero => exact kF.rf hE hw
    | succ n ih => exact ih.tr (kF_tHs ih.1 ih.2.1 n)
  have kJ := kt J
  unfold floorV
  generalize it tHs J V = W3 at kJ ⊢
  have kg := (m13 (0, fun _ => none) 0 W3 kJ.2.1 kJ.1).2
  exact (kJ.tr kg).2.2.2.1
theorem s131 {V Y : z_V} (h : Rl c J S Hy B V Y) (hb : okb Y) (hc : c < 2 ^ 31) (U : z_V) : ∃ Z, z_cl 131 [.ref o] (yS M o Y w) = some (none, yS M o Z w) ∧ Rl c J S Hy B (tick1 J S B (U, V)).2 Z ∧ kY Y Z := by
  have hB := (Rl_11 h).1
  have hJ := (Rl_J h).1
  obtain ⟨⟨q, hq, eq1, eq2⟩, -⟩ := h.2.2.2.1
  have h132 := m132 M o Y w hb q hq
  rw [← eq2] at h132
  have h0 := Rl_tc h (V.1 0 + nI 1)
  have e9 : Y.1 9 = V.1 0 := h.2.2.2.1.2.2.2.2.2.2.2.2.1
  have hK0 : kY Y (sS Y 9 (V.1 0 + nI 1)) := ⟨fun i hi => by simp only [sgets, show i ≠ 9 by omega, if_false], ⟨rfl, rfl⟩, rfl, rfl⟩
  have hb0 := kY_b hK0 hb
  obtain ⟨Z1, a1, a2, a3⟩ := s133 M o w h0 hb0
  replace a1 : z_cl 133 [.ref o, .float V.2.1] (yS M o (sS Y 9 (V.1 0 + nI 1)) w) = some (none, yS M o Z1 w) := a1
  have hC0 := h0.1
  have t1 : (it (fun p W => updL W p) J (sS V 0 (V.1 0 + nI 1))).2.1 = V.2.1 := (m52 M 0 (sS V 0 (V.1 0 + nI 1)) J hJ hC0.1.2 hC0.2.2.2.2.2.2.1 hC0.2.2.2.2.2.2.2.1).2.2.2.1
  have t4 : (it (fun p W => updL W p) J (sS V 0 (V.1 0 + nI 1))).1 4 = V.1 4 := by
    rw [(m52 M 0 (sS V 0 (V.1 0 + nI 1)) J hJ hC0.1.2 hC0.2.2.2.2.2.2.1 hC0.2.2.2.2.2.2.2.1).2.2.1]
    rfl
  have hS : ∃ W Z2, (W = if V.1 4 = nI 0 then it (fun p W => updL W p) J (sS V 0 (V.1 0 + nI 1)) else floorV J (it (fun p W => updL W p) J (sS V 0 (V.1 0 + nI 1)))) ∧ z_ex 131 M.1 27 [some (.ref o), some (.float V.2.1), none] [] (yS M o Z1 w) = z_ex 131 M.1 42 [some (.ref o), some (.float V.2.1), none] [] (yS M o Z2 w) ∧ Rl c J S Hy B W Z2 ∧ kY Z1 Z2 ∧ W.2.1 = V.2.1 := by
    generalize it (fun p W => updL W p) J (sS V 0 (V.1 0 + nI 1)) = V1 at a2 t1 t4
    have y4 : Z1.1 4 = V.1 4 := by rw [a2.2.2.2.1.2.2.2.2.1]; exact t4
    obtain ⟨f, hf⟩ := h.2.1
    cases f with
    | false =>
      rw [bI_f] at hf
      refine ⟨V1, Z1, by rw [if_pos hf], ?_, a2, kY.rf Z1, t1⟩
      simp (disch := first | omega | (simp only [sgets, reduceIte, Nat.reduceEqDiff, y4, hf, dec_S, Nat.reduceAdd]; done) | omega) only [cS_1, crd, z_pv_some, z_wv_some, z_cv_v, z_cv_n, cwr, sgets, rc_O, ia_n, fa_n, is_n, fs_n, ↓mI_eq, lits, nI_add, nLe, nLt, nE, mI_ne, mI_ne', mI_lt, mI_le, mI_nlt, mI_nle, ne_eq, mI_addC, pk_sub, pk_mul, pk_div, Nat.reduceEqDiff, Nat.reduceAdd, Nat.reduceMul, Nat.reduceSub, reduceIte, not_true_eq_false, not_false_eq_true, true_or, or_true, if_true, if_false, and_self, and_true, true_and, and_false, false_and, or_self, or_false, false_or, decide_true, decide_false, Bool.false_eq_true, Bool.true_eq_false, bI_t, bI_f, oS_1, ord, owA0, owF0, owF1, owA1, owF2, owA2, owF3, owA3, ywo, gfs11, pfs11, yrd, ywr, q131_27, q131_28, q131_31, q131_32, q131_33, q131_34, q131_37, q131_38, q131_39, y4, hf, dec_S, Nat.reduceAdd]
    | true =>
      rw [bI_t] at hf
      obtain ⟨Z2, b1, b2, b3⟩ := s134 M o w a2 hc
      rw [t1] at b1
      refine ⟨floorV J V1, Z2, by rw [if_neg (by rw [hf, nE (by omega) (by omega)]; omega)], ?_, b2, b3, (flo_T a2.1.2.2.2.2.1 a2.1.2.2.2.2.2.1).trans t1⟩
      simp (disch := first | omega | (simp only [sgets, reduceIte, Nat.reduceEqDiff, y4, hf, dec_S, Nat.reduceAdd]; done) | omega) only [cS_1, crd, z_pv_some, z_wv_some, z_cv_v, z_cv_n, cwr, sgets, rc_O, ia_n, fa_n, is_n, fs_n, ↓mI_eq, lits, nI_add, nLe, nLt, nE, mI_ne, mI_ne', mI_lt, mI_le, mI_nlt, mI_nle, ne_eq, mI_addC, pk_sub, pk_mul, pk_div, Nat.reduceEqDiff, Nat.reduceAdd, Nat.reduceMul, Nat.reduceSub, reduceIte, not_true_eq_false, not_false_eq_true, true_or, or_true, if_true, if_false, and_self, and_true, true_and, and_false, false_and, or_self, or_false, false_or, decide_true, decide_false, Bool.false_eq_true, Bool.true_eq_false, bI_t, bI_f, oS_1, ord, owA0, owF0, owF1, owA1, owF2, owA2, owF3, owA3, ywo, gfs11, pfs11, yrd, ywr, q131_27, q131_28, q131_31, q131_32, q131_33, q131_34, q131_37, q131_38, q131_39, b1, y4, hf, dec_S, Nat.reduceAdd]
  obtain ⟨W, Z2, hW, b1, b2, b3, b4⟩ := hS
  obtain ⟨Z3, -, l1, l2, l3, l4⟩ := lp_rel (fun k (Y : z_V) (_ : Unit) => z_ex 131 M.1 44 [some (.ref o), some (.float V.2.1), some (.int (nI k))] [] (yS M o Y w)) (selB J S) (fun _ V' Y' => Rl c J S Hy B V' Y' ∧ kY Z2 Y' ∧ V'.2.1 = V.2.1) B (by
    rintro k V' Y' - hk ⟨hR, hK, hT⟩
    have hk2 : ¬ B ≤ k := by omega
    obtain ⟨-, e11⟩ := Rl_11 hR
    obtain ⟨Z, z1, z2, z3, z4⟩ := s137 M o w hR hk
    rw [hT] at z1
    refine ⟨Z, (), ?_, z2, hK.tr z3, z4.trans hT⟩
    rw [q131_44]
    simp (disch := first | omega | (simp only [sgets, reduceIte, Nat.reduceEqDiff, e11, hk2, dec_S, Nat.reduceAdd]; done) | omega) only [cS_1, crd, z_pv_some, z_wv_some, z_cv_v, z_cv_n, cwr, sgets, rc_O, ia_n, fa_n, is_n, fs_n, ↓mI_eq, lits, nI_add, nLe, nLt, nE, mI_ne, mI_ne', mI_lt, mI_le, mI_nlt, mI_nle, ne_eq, mI_addC, pk_sub, pk_mul, pk_div, Nat.reduceEqDiff, Nat.reduceAdd, Nat.reduceMul, Nat.reduceSub, reduceIte, not_true_eq_false, not_false_eq_true, true_or, or_true, if_true, if_false, and_self, and_true, true_and, and_false, false_and, or_self, or_false, false_or, decide_true, decide_false, Bool.false_eq_true, Bool.true_eq_false, bI_t, bI_f, oS_1, ord, owA0, owF0, owF1, owA1, owF2, owA2, owF3, owA3, ywo, gfs11, pfs11, yrd, ywr, q131_45, q131_46, q131_49, q131_51, q131_52, q131_55, q131_56, q131_57, q131_58, q131_61, q131_64, z1, e11, hk2, dec_S, Nat.reduceAdd]) W Z2 () ⟨b2, kY.rf Z2, b4⟩
  have hbeg : begT V J S B = it (selB J S) B W := by
    unfold begT
    rw [← hW]
  rw [← hbeg] at l2
  obtain ⟨Z4, d1, d2, d3⟩ := s146 M o w l2 U
  obtain ⟨Z5, f1, f2, f3⟩ := s149 M o w d2 (it (letH J B) B (U, begT V J S B)).1
  obtain ⟨-, e11⟩ := Rl_11 l2
  refine ⟨Z5, ?_, f2, ((((hK0.tr a3).tr b3).tr l3).tr d3).tr f3⟩
  rw [e131]
  refine Eq.trans (b := z_ex 131 M.1 27 [some (.ref o), some (.float V.2.1), none] [] (yS M o Z1 w)) ?_ (b1.trans (Eq.trans ?_ (l1.trans ?_)))
  · simp (disch := first | omega | (simp only [sgets, reduceIte, Nat.reduceEqDiff, eq1, e9, dec_S, Nat.reduceAdd]; done) | omega) only [cS_1, crd, z_pv_some, z_wv_some, z_cv_v, z_cv_n, cwr, sgets, rc_O, ia_n, fa_n, is_n, fs_n, ↓mI_eq, lits, nI_add, nLe, nLt, nE, mI_ne, mI_ne', mI_lt, mI_le, mI_nlt, mI_nle, ne_eq, mI_addC, pk_sub, pk_mul, pk_div, Nat.reduceEqDiff, Nat.reduceAdd, Nat.reduceMul, Nat.reduceSub, reduceIte, not_true_eq_false, not_false_eq_true, true_or, or_true, if_true, if_false, and_self, and_true, true_and, and_false, false_and, or_self, or_false, false_or, decide_true, decide_false, Bool.false_eq_true, Bool.true_eq_false, bI_t, bI_f, oS_1, ord, owA0, owF0, owF1, owA1, owF2, owA2, owF3, owA3, ywo, gfs11, pfs11, yrd, ywr, q131_0, q131_1, q131_2, q131_5, q131_6, q131_7, q131_10, q131_11, q131_12, q131_15, q131_17, q131_18, q131_19, q131_20, q131_21, q131_22, q131_23, q131_24, h132, a1, eq1, e9, dec_S, Nat.reduceAdd]
  · simp (disch := first | omega | (simp only [sgets, reduceIte, Nat.reduceEqDiff, dec_S, Nat.reduceAdd]; done) | omega) only [cS_1, crd, z_pv_some, z_wv_some, z_cv_v, z_cv_n, cwr, sgets, rc_O, ia_n, fa_n, is_n, fs_n, ↓mI_eq, lits, nI_add, nLe, nLt, nE, mI_ne, mI_ne', mI_lt, mI_le, mI_nlt, mI_nle, ne_eq, mI_addC, pk_sub, pk_mul, pk_div, Nat.reduceEqDiff, Nat.reduceAdd, Nat.reduceMul, Nat.reduceSub, reduceIte, not_true_eq_false, not_false_eq_true, true_or, or_true, if_true, if_false, and_self, and_true, true_and, and_false, false_and, or_self, or_false, false_or, decide_true, decide_false, Bool.false_eq_true, Bool.true_eq_false, bI_t, bI_f, oS_1, ord, owA0, owF0, owF1, owA1, owF2, owA2, owF3, owA3, ywo, gfs11, pfs11, yrd, ywr, q131_42, q131_43, dec_S, Nat.reduceAdd]
  · rw [q131_44]
    simp (disch := first | omega | (simp only [sgets, reduceIte, Nat.reduceEqDiff, e11, dec_S, Nat.reduceAdd]; done) | omega) only [cS_1, crd, z_pv_some, z_wv_some, z_cv_v, z_cv_n, cwr, sgets, rc_O, ia_n, fa_n, is_n, fs_n, ↓mI_eq, lits, nI_add, nLe, nLt, nE, mI_ne, mI_ne', mI_lt, mI_le, mI_nlt, mI_nle, ne_eq, mI_addC, pk_sub, pk_mul, pk_div, Nat.reduceEqDiff, Nat.reduceAdd, Nat.reduceMul, Nat.reduceSub, reduceIte, not_true_eq_false, not_false_eq_true, true_or, or_true, if_true, if_false, and_self, and_true, true_and, and_false, false_and, or_self, or_false, false_or, decide_true, decide_false, Bool.false_eq_true, Bool.true_eq_false, bI_t, bI_f, oS_1, ord, owA0, owF0, owF1, owA1, owF2, owA2, owF3, owA3, ywo, gfs11, pfs11, yrd, ywr, q131_45, q131_46, q131_49, q131_51, q131_52, q131_67, q131_68, q131_71, q131_72, q131_75, d1, f1, Nat.le_refl, e11, dec_S, Nat.reduceAdd]
/-- a tick, many times -/
theorem s130 {V Y : z_V} (h : Rl c J S Hy B V Y) (hX : okX Y) (hb : okb Y) (hc : c < 2 ^ 31) (U : z_V) (y : Int32) : sim M o w 130 [.int y] Y ((tckR V U J S B y).1, (tckR V U J S B y).2.2) c := by
  have hB := (Rl_11 h).1
  have hJ := (Rl_J h).1
  have h110 := m110 y (nI 1) (nI 99) (yS M o Y w)
  have e130 := e130 o y (yS M o Y w)
  unfold tckR
  by_cases hy : nI 1 ≤ y ∧ y ≤ nI 99
  · rw [if_neg (by simp [hy])]
    rw [show decide (nI 1 ≤ y ∧ y ≤ nI 99) = true by simp [hy]] at h110
    obtain ⟨n, hn1, hn2, rfl⟩ := in_nI (by omega) (by omega) hy
    rw [nI_clamp (by omega)]
    obtain ⟨s, hs, h13⟩ := hX
    have h111 := m111 M o Y w s hs h13
    have hZ := Rl_kV sv_kV h
    have hbZ := kV_b sv_kV hb
    obtain ⟨Z, -, l1, l2, l3⟩ := lp_rel (fun k (Y : z_V) (_ : Unit) => z_ex 130 M.1 19 [some (.ref o), some (.int (nI n)), some (.int (nI k)), none] [] (yS M o Y w)) (fun _ s => tick1 J S B s) (fun _ (s : z_V × z_V) Y' => Rl c J S Hy B s.2 Y' ∧ kY (svY Y) Y') n (by
      rintro k ⟨U', V'⟩ Y' - hk ⟨hR, hK⟩
      have hk2 : ¬ n ≤ k := by omega
      obtain ⟨Z, z1, z2, z3⟩ := s131 M o w hR (kY_b hK hbZ) hc U'
      refine ⟨Z, (), ?_, z2, hK.tr z3⟩
      rw [q130_19]
      simp (disch := first | omega | (simp only [sgets, reduceIte, Nat.reduceEqDiff, hk2, dec_S, Nat.reduceAdd]; done) | omega) only [cS_1, crd, z_pv_some, z_wv_some, z_cv_v, z_cv_n, cwr, sgets, rc_O, ia_n, fa_n, is_n, fs_n, ↓mI_eq, lits, nI_add, nLe, nLt, nE, mI_ne, mI_ne', mI_lt, mI_le, mI_nlt, mI_nle, ne_eq, mI_addC, pk_sub, pk_mul, pk_div, Nat.reduceEqDiff, Nat.reduceAdd, Nat.reduceMul, Nat.reduceSub, reduceIte, not_true_eq_false, not_false_eq_true, true_or, or_true, if_true, if_false, and_self, and_true, true_and, and_false, false_and, or_self, or_false, false_or, decide_true, decide_false, Bool.false_eq_true, Bool.true_eq_false, bI_t, bI_f, oS_1, ord, owA0, owF0, owF1, owA1, owF2, owA2, owF3, owA3, ywo, gfs11, pfs11, yrd, ywr, q130_20, q130_21, q130_24, q130_25, q130_28, q130_31, z1, hk2, dec_S, Nat.reduceAdd]) (U, V) (svY Y) () ⟨hZ, kY.rf _⟩
    generalize it (fun _ s => tick1 J S B s) n (U, V) = R at l2 ⊢
    obtain ⟨-, e11⟩ := Rl_11 l2
    have hl := it_run (fun k (a : Nat) => z_ex 130 M.1 38 [some (.ref o), some (.int (nI n)), some (.int (nI a)), some (.int (nI k))] [] (yS M o Z w)) (fun b s => s + cnt (fun k => decide (R.2.2.2.1 9 k = nI b)) J) B 0 (by
      intro k a hk
      have hk2 : ¬ B ≤ k := by omega
      have h141 := m141r M o w l2 (show k < 8 by omega)
      rw [q130_38]
      simp (disch := first | omega | (simp only [sgets, reduceIte, Nat.reduceEqDiff, e11, hk2, dec_S, Nat.reduceAdd]; done) | omega) only [cS_1, crd, z_pv_some, z_wv_some, z_cv_v, z_cv_n, cwr, sgets, rc_O, ia_n, fa_n, is_n, fs_n, ↓mI_eq, lits, nI_add, nLe, nLt, nE, mI_ne, mI_ne', mI_lt, mI_le, mI_nlt, mI_nle, ne_eq, mI_addC, pk_sub, pk_mul, pk_div, Nat.reduceEqDiff, Nat.reduceAdd, Nat.reduceMul, Nat.reduceSub, reduceIte, not_true_eq_false, not_false_eq_true, true_or, or_true, if_true, if_false, and_self, and_true, true_and, and_false, false_and, or_self, or_false, false_or, decide_true, decide_false, Bool.false_eq_true, Bool.true_eq_false, bI_t, bI_f, oS_1, ord, owA0, owF0, owF1, owA1, owF2, owA2, owF3, owA3, ywo, gfs11, pfs11, yrd, ywr, q130_39, q130_40, q130_43, q130_45, q130_46, q130_49, q130_50, q130_51, q130_52, q130_55, q130_56, q130_57, q130_60, h141, e11, hk2, dec_S, Nat.reduceAdd])
    rw [sum_sp B hB] at hl
    have hcn : cnt (fun k => it (fun b s => s || decide (R.2.2.2.1 9 k = nI b)) B false) J = cnt (fun k => decide (¬ R.2.2.2.1 9 k = mI)) J := by
      apply cnt_congr
      intro k hk
      have hT := (l2.2.2.2.2.2.2.1 k (by omega)).1
      by_cases c1 : R.2.2.2.1 9 k = mI
      · rw [show decide (¬ R.2.2.2.1 9 k = mI) = false by simp [c1], Bool.eq_false_iff]
        intro h2
        obtain ⟨b, h3, h4⟩ := spk_it.mp h2
        rw [c1, mI_ne' (by omega)] at h4
        exact h4
      · rw [show decide (¬ R.2.2.2.1 9 k = mI) = true by simp [c1]]
        rcases hT with h2 | h2
        · exact absurd h2 c1
        · exact spk_it.mpr h2
    rw [hcn] at hl
    have hle := cnt_le (fun k => decide (¬ R.2.2.2.1 9 k = mI)) J
    generalize cnt (fun k => decide (¬ R.2.2.2.1 9 k = mI)) J = m at hl hle
    refine ⟨Z, ?_, ⟨J, S, Hy, B, l2⟩, fun hn => absurd hn (nI_nn (by omega)), fun _ => l3⟩
    rw [e130]
    refine Eq.trans (b := z_ex 130 M.1 19 [some (.ref o), some (.int (nI n)), some (.int (nI 0)), none] [] (yS M o (svY Y) w)) ?_ (l1.trans (Eq.trans (b := z_ex 130 M.1 38 [some (.ref o), some (.int (nI n)), some (.int (nI 0)), some (.int (nI 0))] [] (yS M o Z w)) ?_ (hl.trans ?_)))
    · simp (disch := first | omega | (simp only [sgets, reduceIte, Nat.reduceEqDiff, dec_S, Nat.reduceAdd]; done) | omega) only [cS_1, crd, z_pv_some, z_wv_some, z_cv_v, z_cv_n, cwr, sgets, rc_O, ia_n, fa_n, is_n, fs_n, ↓mI_eq, lits, nI_add, nLe, nLt, nE, mI_ne, mI_ne', mI_lt, mI_le, mI_nlt, mI_nle, ne_eq, mI_addC, pk_sub, pk_mul, pk_div, Nat.reduceEqDiff, Nat.reduceAdd, Nat.reduceMul, Nat.reduceSub, reduceIte, not_true_eq_false, not_false_eq_true, true_or, or_true, if_true, if_false, and_self, and_true, true_and, and_false, false_and, or_self, or_false, false_or, decide_true, decide_false, Bool.false_eq_true, Bool.true_eq_false, bI_t, bI_f, oS_1, ord, owA0, owF0, owF1, owA1, owF2, owA2, owF3, owA3, ywo, gfs11, pfs11, yrd, ywr, q130_0, q130_1, q130_2, q130_4, q130_7, q130_10, q130_12, q130_13, q130_14, q130_17, q130_18, h110, h111, bI_t, dec_S, Nat.reduceAdd]
    · rw [q130_19]
      simp (disch := first | omega | (simp only [sgets, reduceIte, Nat.reduceEqDiff, dec_S, Nat.reduceAdd]; done) | omega) only [cS_1, crd, z_pv_some, z_wv_some, z_cv_v, z_cv_n, cwr, sgets, rc_O, ia_n, fa_n, is_n, fs_n, ↓mI_eq, lits, nI_add, nLe, nLt, nE, mI_ne, mI_ne', mI_lt, mI_le, mI_nlt, mI_nle, ne_eq, mI_addC, pk_sub, pk_mul, pk_div, Nat.reduceEqDiff, Nat.reduceAdd, Nat.reduceMul, Nat.reduceSub, reduceIte, not_true_eq_false, not_false_eq_true, true_or, or_true, if_true, if_false, and_self, and_true, true_and, and_false, false_and, or_self, or_false, false_or, decide_true, decide_false, Bool.false_eq_true, Bool.true_eq_false, bI_t, bI_f, oS_1, ord, owA0, owF0, owF1, owA1, owF2, owA2, owF3, owA3, ywo, gfs11, pfs11, yrd, ywr, q130_20, q130_21, q130_24, q130_25, q130_28, q130_31, q130_34, q130_35, q130_36, q130_37, Nat.le_refl, dec_S, Nat.reduceAdd]
    · rw [q130_38]
      simp (disch := first | omega | (simp only [sgets, reduceIte, Nat.reduceEqDiff, e11, dec_S, Nat.reduceAdd]; done) | omega) only [cS_1, crd, z_pv_some, z_wv_some, z_cv_v, z_cv_n, cwr, sgets, rc_O, ia_n, fa_n, is_n, fs_n, ↓mI_eq, lits, nI_add, nLe, nLt, nE, mI_ne, mI_ne', mI_lt, mI_le, mI_nlt, mI_nle, ne_eq, mI_addC, pk_sub, pk_mul, pk_div, Nat.reduceEqDiff, Nat.reduceAdd, Nat.reduceMul, Nat.reduceSub, reduceIte, not_true_eq_false, not_false_eq_true, true_or, or_true, if_true, if_false, and_self, and_true, true_and, and_false, false_and, or_self, or_false, false_or, decide_true, decide_false, Bool.false_eq_true, Bool.true_eq_false, bI_t, bI_f, oS_1, ord, owA0, owF0, owF1, owA1, owF2, owA2, owF3, owA3, ywo, gfs11, pfs11, yrd, ywr, q130_39, q130_40, q130_43, q130_45, q130_46, q130_49, q130_50, q130_51, q130_52, q130_55, q130_56, q130_57, q130_60, q130_63, q130_64, Nat.le_refl, e11, dec_S, Nat.reduceAdd]
  · rw [if_pos hy]
    rw [show decide (nI 1 ≤ y ∧ y ≤ nI 99) = false by simp [hy]] at h110
    refine sim_er h n3 ?_
    rw [e130]
    simp (disch := first | omega | (simp only [sgets, reduceIte, Nat.reduceEqDiff, dec_S, Nat.reduceAdd]; done) | omega) only [cS_1, crd, z_pv_some, z_wv_some, z_cv_v, z_cv_n, cwr, sgets, rc_O, ia_n, fa_n, is_n, fs_n, ↓mI_eq, lits, nI_add, nLe, nLt, nE, mI_ne, mI_ne', mI_lt, mI_le, mI_nlt, mI_nle, ne_eq, mI_addC, pk_sub, pk_mul, pk_div, Nat.reduceEqDiff, Nat.reduceAdd, Nat.reduceMul, Nat.reduceSub, reduceIte, not_true_eq_false, not_false_eq_true, true_or, or_true, if_true, if_false, and_self, and_true, true_and, and_false, false_and, or_self, or_false, false_or, decide_true, decide_false, Bool.false_eq_true, Bool.true_eq_false, bI_t, bI_f, oS_1, ord, owA0, owF0, owF1, owA1, owF2, owA2, owF3, owA3, ywo, gfs11, pfs11, yrd, ywr, q130_0, q130_1, q130_2, q130_4, q130_7, q130_10, q130_12, q130_13, q130_14, q130_17, q130_18, h110, bI_f, dec_S, Nat.reduceAdd]
end
