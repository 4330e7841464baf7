/-! the model's text: here, number -/
theorem bz0 : nI 0 = 0 ∨ nI 0 = 1 := Or.inl rfl
theorem bz1 : nI 1 = 0 ∨ nI 1 = 1 := Or.inr rfl
theorem s1716 (V : z_V) (x y : Int32) : sS (sS V 17 x) 16 y = sS (sS V 16 y) 17 x := by
  unfold sS
  congr 1
  funext j
  by_cases h1 : j = 16
  · subst h1; simp [upd]
  · by_cases h2 : j = 17
    · subst h2; simp [upd]
    · simp [upd, h1, h2]
def digM (b : Nat → Int32) (L s : Nat) : Nat → Nat → Int32 → Int32
  | 0, _, v => v
  | n + 1, a, v => if a < L ∧ isDig (b a) = true then digM b L s n (a + 1) (if a - s < 3 then nI 10 * v + b a - nI 48 else v) else v
theorem digE_no {b : Nat → Int32} {L n a : Nat} (h : ¬ (a < L ∧ isDig (b a) = true)) : digE b L n a = a := by
  cases n with
  | zero => rfl
  | succ n => rw [digE, if_neg h]
theorem digE_ge (b : Nat → Int32) (L n a : Nat) : a ≤ digE b L n a := by
  induction n generalizing a with
  | zero => exact Nat.le_refl _
  | succ n ih =>
    rw [digE]
    split
    · have := ih (a + 1); omega
    · exact Nat.le_refl _
theorem digV_no {b : Nat → Int32} {L n a : Nat} {v : Int32} (h : ¬ (a < L ∧ isDig (b a) = true)) : digV b L n a v = v := by
  cases n with
  | zero => rfl
  | succ n => rw [digV, if_neg h]
theorem digM_no {b : Nat → Int32} {L s n a : Nat} {v : Int32} (h : ¬ (a < L ∧ isDig (b a) = true)) : digM b L s n a v = v := by
  cases n with
  | zero => rfl
  | succ n => rw [digM, if_neg h]
theorem dg_0 {b : Nat → Int32} {L s : Nat} (h : ¬ (s < L ∧ isDig (b s) = true)) : dg b L s = s := digE_no h
theorem dg_1 {b : Nat → Int32} {L s : Nat} (h : s < L ∧ isDig (b s) = true) : s + 1 ≤ dg b L s := by
  unfold dg
  obtain ⟨n, hn⟩ : ∃ n, L - s = n + 1 := ⟨L - s - 1, by omega⟩
  rw [hn, digE, if_pos h]
  exact digE_ge _ _ _ _
theorem dig_n {y : Int32} (h : isDig y = true) : ∃ k, k < 10 ∧ y = nI (48 + k) := by
  obtain ⟨k, h1, h2, e⟩ := in_nI (by omega) (by omega) (of_decide_eq_true h)
  exact ⟨k - 48, by omega, by rw [e]; congr 1; omega⟩
theorem num_eq {b : Nat → Int32} {L s : Nat} (h : dg b L s - s = 1 ∨ dg b L s - s = 2) : digM b L s (L - s) s (nI 0) = numV b L s := by
  have h1 : s < L ∧ isDig (b s) = true := by
    by_cases c : s < L ∧ isDig (b s) = true
    · exact c
    · rw [dg_0 c] at h; omega
  unfold numV
  unfold dg at h
  obtain ⟨n, hn⟩ : ∃ n, L - s = n + 1 := ⟨L - s - 1, by omega⟩
  obtain ⟨k, hk, ek⟩ := dig_n h1.2
  rw [hn] at h ⊢
  rw [digE, if_pos h1] at h
  rw [digM, if_pos h1, digV, if_pos h1, if_pos (by omega), ek]
  have e1 : nI 10 * nI 0 + nI (48 + k) - nI 48 = nI k := by
    rw [pk_mul, nI_add, pk_sub (by omega)]
    congr 1; omega
  have e2 : (nI 0 - nI 0 / nI 10 * nI 10) * nI 10 + nI (48 + k) - nI 48 = nI k := by
    rw [show (nI 0 - nI 0 / nI 10 * nI 10) * nI 10 = nI 0 by decide, nI_add, pk_sub (by omega)]
    congr 1; omega
  rw [e1, e2]
  by_cases c2 : s + 1 < L ∧ isDig (b (s + 1)) = true
  · obtain ⟨n2, hn2⟩ : ∃ n2, n = n2 + 1 := ⟨n - 1, by omega⟩
    obtain ⟨k2, hk2, ek2⟩ := dig_n c2.2
    subst hn2
    rw [digE, if_pos c2] at h
    rw [digM, if_pos c2, digV, if_pos c2, if_pos (by omega), ek2]
    have e3 : nI 10 * nI k + nI (48 + k2) - nI 48 = nI (10 * k + k2) := by
      rw [pk_mul, nI_add, pk_sub (by omega)]
      congr 1; omega
    have e4 : (nI k - nI k / nI 10 * nI 10) * nI 10 + nI (48 + k2) - nI 48 = nI (10 * k + k2) := by
      rw [pk_div (by omega) (by omega) (by omega), pk_mul, pk_sub (by omega), pk_mul, nI_add, pk_sub (by omega)]
      congr 1; omega
    rw [e3, e4]
    have c3 : ¬ (s + 1 + 1 < L ∧ isDig (b (s + 1 + 1)) = true) := by
      intro c3
      obtain ⟨n3, hn3⟩ : ∃ n3, n2 = n3 + 1 := ⟨n2 - 1, by omega⟩
      subst hn3
      rw [digE, if_pos c3] at h
      have := digE_ge b L n3 (s + 1 + 1 + 1)
      omega
    rw [digM_no c3, digV_no c3]
  · rw [digM_no c2, digV_no c2]
section
variable (M : z_M) (o : Nat) (w : Int64)
theorem m159 {Y : z_V} {L a : Nat} (hL : L ≤ 100) (ha : a ≤ L) (h15 : Y.1 15 = nI L) (h16 : Y.1 16 = nI a) : z_cl 159 [.ref o] (yS M o Y w) = some (some (.int (if sk (Y.2.2.1 28) L a < L then Y.2.2.1 28 (sk (Y.2.2.1 28) L a) else mI)), yS M o (sS Y 16 (nI (sk (Y.2.2.1 28) L a))) w) := by
  rw [e159]
  have key : ∀ (n a : Nat), n = L - a → a ≤ L → z_ex 159 M.1 0 [some (.ref o)] [] (yS M o (sS Y 16 (nI a)) w) = z_ex 159 M.1 38 [some (.ref o)] [] (yS M o (sS Y 16 (nI (skipB (Y.2.2.1 28) L n a))) w) := by
    intro n
    induction n with
    | zero =>
      intro a hn ha
      have e : L ≤ a := by omega
      unfold skipB
      rw [q159_0]
      simp (disch := first | omega | (simp only [sgets, reduceIte, Nat.reduceEqDiff, h15, e, dec_S, Nat.reduceAdd]; done) | omega) only [cS_1, crd, z_pv_some, z_wv_some, z_cv_v, z_cv_n, cwr, sgets, rc_O, ia_n, fa_n, is_n, fs_n, ↓mI_eq, lits, nI_add, nLe, nLt, nE, mI_ne, mI_ne', mI_lt, mI_le, mI_nlt, mI_nle, ne_eq, mI_addC, pk_sub, pk_mul, pk_div, Nat.reduceEqDiff, Nat.reduceAdd, Nat.reduceMul, Nat.reduceSub, reduceIte, not_true_eq_false, not_false_eq_true, true_or, or_true, if_true, if_false, and_self, and_true, true_and, and_false, false_and, or_self, or_false, false_or, decide_true, decide_false, Bool.false_eq_true, Bool.true_eq_false, bI_t, bI_f, oS_1, ord, owA0, owF0, owF1, owA1, owF2, owA2, owF3, owA3, ywo, gfs11, pfs11, yrd, ywr, q159_1, q159_4, q159_5, q159_8, q159_11, q159_12, q159_15, q159_16, q159_19, q159_20, q159_22, q159_25, q159_26, q159_27, q159_30, q159_31, q159_32, q159_35, h15, e, dec_S, Nat.reduceAdd]
    | succ n ih =>
      intro a hn ha
      have e : ¬ L ≤ a := by omega
      unfold skipB
      by_cases hb : Y.2.2.1 28 a = nI 32
      · rw [if_pos ⟨by omega, hb⟩, ← ih (a + 1) (by omega) (by omega), q159_0]
        simp (disch := first | omega | (simp only [sgets, reduceIte, Nat.reduceEqDiff, h15, e, hb, dec_S, Nat.reduceAdd]; done) | omega) only [cS_1, crd, z_pv_some, z_wv_some, z_cv_v, z_cv_n, cwr, sgets, rc_O, ia_n, fa_n, is_n, fs_n, ↓mI_eq, lits, nI_add, nLe, nLt, nE, mI_ne, mI_ne', mI_lt, mI_le, mI_nlt, mI_nle, ne_eq, mI_addC, pk_sub, pk_mul, pk_div, Nat.reduceEqDiff, Nat.reduceAdd, Nat.reduceMul, Nat.reduceSub, reduceIte, not_true_eq_false, not_false_eq_true, true_or, or_true, if_true, if_false, and_self, and_true, true_and, and_false, false_and, or_self, or_false, false_or, decide_true, decide_false, Bool.false_eq_true, Bool.true_eq_false, bI_t, bI_f, oS_1, ord, owA0, owF0, owF1, owA1, owF2, owA2, owF3, owA3, ywo, gfs11, pfs11, yrd, ywr, q159_1, q159_4, q159_5, q159_8, q159_11, q159_12, q159_15, q159_16, q159_19, q159_20, q159_22, q159_25, q159_26, q159_27, q159_30, q159_31, q159_32, q159_35, sS_sS, h15, e, hb, dec_S, Nat.reduceAdd]
      · rw [if_neg (fun q => hb q.2), q159_0]
        simp (disch := first | omega | (simp only [sgets, reduceIte, Nat.reduceEqDiff, h15, e, hb, dec_S, Nat.reduceAdd]; done) | omega) only [cS_1, crd, z_pv_some, z_wv_some, z_cv_v, z_cv_n, cwr, sgets, rc_O, ia_n, fa_n, is_n, fs_n, ↓mI_eq, lits, nI_add, nLe, nLt, nE, mI_ne, mI_ne', mI_lt, mI_le, mI_nlt, mI_nle, ne_eq, mI_addC, pk_sub, pk_mul, pk_div, Nat.reduceEqDiff, Nat.reduceAdd, Nat.reduceMul, Nat.reduceSub, reduceIte, not_true_eq_false, not_false_eq_true, true_or, or_true, if_true, if_false, and_self, and_true, true_and, and_false, false_and, or_self, or_false, false_or, decide_true, decide_false, Bool.false_eq_true, Bool.true_eq_false, bI_t, bI_f, oS_1, ord, owA0, owF0, owF1, owA1, owF2, owA2, owF3, owA3, ywo, gfs11, pfs11, yrd, ywr, q159_1, q159_4, q159_5, q159_8, q159_11, q159_12, q159_15, q159_16, q159_19, q159_20, q159_22, q159_25, q159_26, q159_27, q159_30, q159_31, q159_32, q159_35, h15, e, hb, dec_S, Nat.reduceAdd]
  have hk := key (L - a) a rfl ha
  rw [sS_id h16] at hk
  refine Eq.trans (b := z_ex 159 M.1 0 [some (.ref o)] [] (yS M o Y w)) rfl (hk.trans ?_)
  have hs := sk_bd (Y.2.2.1 28) L a
  show z_ex 159 M.1 38 [some (.ref o)] [] (yS M o (sS Y 16 (nI (sk (Y.2.2.1 28) L a))) w) = _
  generalize sk (Y.2.2.1 28) L a = s at hs
  have hsL := hs.2 ha
  by_cases c : s < L
  · have c' : ¬ L ≤ s := by omega
    rw [if_pos c]
    simp (disch := first | omega | (simp only [sgets, reduceIte, Nat.reduceEqDiff, h15, c', dec_S, Nat.reduceAdd]; done) | omega) only [cS_1, crd, z_pv_some, z_wv_some, z_cv_v, z_cv_n, cwr, sgets, rc_O, ia_n, fa_n, is_n, fs_n, ↓mI_eq, lits, nI_add, nLe, nLt, nE, mI_ne, mI_ne', mI_lt, mI_le, mI_nlt, mI_nle, ne_eq, mI_addC, pk_sub, pk_mul, pk_div, Nat.reduceEqDiff, Nat.reduceAdd, Nat.reduceMul, Nat.reduceSub, reduceIte, not_true_eq_false, not_false_eq_true, true_or, or_true, if_true, if_false, and_self, and_true, true_and, and_false, false_and, or_self, or_false, false_or, decide_true, decide_false, Bool.false_eq_true, Bool.true_eq_false, bI_t, bI_f, oS_1, ord, owA0, owF0, owF1, owA1, owF2, owA2, owF3, owA3, ywo, gfs11, pfs11, yrd, ywr, q159_38, q159_39, q159_42, q159_43, q159_46, q159_49, q159_50, q159_53, q159_54, q159_57, q159_58, q159_61, q159_62, h15, c', dec_S, Nat.reduceAdd]
  · have c' : L ≤ s := by omega
    rw [if_neg c]
    simp (disch := first | omega | (simp only [sgets, reduceIte, Nat.reduceEqDiff, h15, c', dec_S, Nat.reduceAdd]; done) | omega) only [cS_1, crd, z_pv_some, z_wv_some, z_cv_v, z_cv_n, cwr, sgets, rc_O, ia_n, fa_n, is_n, fs_n, ↓mI_eq, lits, nI_add, nLe, nLt, nE, mI_ne, mI_ne', mI_lt, mI_le, mI_nlt, mI_nle, ne_eq, mI_addC, pk_sub, pk_mul, pk_div, Nat.reduceEqDiff, Nat.reduceAdd, Nat.reduceMul, Nat.reduceSub, reduceIte, not_true_eq_false, not_false_eq_true, true_or, or_true, if_true, if_false, and_self, and_true, true_and, and_false, false_and, or_self, or_false, false_or, decide_true, decide_false, Bool.false_eq_true, Bool.true_eq_false, bI_t, bI_f, oS_1, ord, owA0, owF0, owF1, owA1, owF2, owA2, owF3, owA3, ywo, gfs11, pfs11, yrd, ywr, q159_38, q159_39, q159_42, q159_43, q159_46, q159_49, q159_50, q159_53, q159_54, q159_57, q159_58, q159_61, q159_62, h15, c', dec_S, Nat.reduceAdd]
theorem m160f {Y : z_V} (hf : Y.1 17 = nI 0) : z_cl 160 [.ref o] (yS M o Y w) = some (some (.int (nI 0)), yS M o Y w) := by
  rw [e160]
  simp (disch := first | omega | (simp only [sgets, reduceIte, Nat.reduceEqDiff, hf, bz0, dec_S, Nat.reduceAdd]; done) | omega) only [cS_1, crd, z_pv_some, z_wv_some, z_cv_v, z_cv_n, cwr, sgets, rc_O, ia_n, fa_n, is_n, fs_n, ↓mI_eq, lits, nI_add, nLe, nLt, nE, mI_ne, mI_ne', mI_lt, mI_le, mI_nlt, mI_nle, ne_eq, mI_addC, pk_sub, pk_mul, pk_div, Nat.reduceEqDiff, Nat.reduceAdd, Nat.reduceMul, Nat.reduceSub, reduceIte, not_true_eq_false, not_false_eq_true, true_or, or_true, if_true, if_false, and_self, and_true, true_and, and_false, false_and, or_self, or_false, false_or, decide_true, decide_false, Bool.false_eq_true, Bool.true_eq_false, bI_t, bI_f, oS_1, ord, owA0, owF0, owF1, owA1, owF2, owA2, owF3, owA3, ywo, gfs11, pfs11, yrd, ywr, q160_0, q160_1, q160_2, q160_5, q160_8, q160_9, q160_12, q160_14, q160_16, q160_19, q160_22, q160_23, q160_26, q160_27, q160_30, q160_31, q160_34, q160_35, q160_36, q160_37, q160_38, q160_41, q160_44, q160_45, q160_46, q160_49, q160_52, q160_53, q160_56, q160_57, q160_58, q160_60, q160_62, q160_65, q160_68, q160_69, q160_70, q160_73, q160_74, q160_75, q160_78, q160_80, q160_81, q160_82, q160_83, q160_86, q160_87, q160_88, q160_89, q160_91, q160_92, q160_95, q160_96, q160_97, q160_100, q160_103, q160_104, q160_105, q160_108, q160_111, q160_112, q160_113, q160_116, q160_117, q160_118, q160_121, q160_122, q160_125, q160_126, q160_129, q160_130, q160_131, q160_134, q160_137, q160_138, q160_141, q160_142, q160_145, q160_148, q160_149, sS_id, hf, bz0, dec_S, Nat.reduceAdd]
theorem m160t {Y : z_V} {L a : Nat} (hL : L ≤ 100) (ha : a ≤ L) (h15 : Y.1 15 = nI L) (h16 : Y.1 16 = nI a) (hf : Y.1 17 = nI 1) : ∃ v, z_cl 160 [.ref o] (yS M o Y w) = some (some (.int v), yS M o (sS (sS Y 16 (nI (if dg (Y.2.2.1 28) L (sk (Y.2.2.1 28) L a) - sk (Y.2.2.1 28) L a = 1 ∨ dg (Y.2.2.1 28) L (sk (Y.2.2.1 28) L a) - sk (Y.2.2.1 28) L a = 2 then dg (Y.2.2.1 28) L (sk (Y.2.2.1 28) L a) else sk (Y.2.2.1 28) L a))) 17 (bI (decide (dg (Y.2.2.1 28) L (sk (Y.2.2.1 28) L a) - sk (Y.2.2.1 28) L a = 1 ∨ dg (Y.2.2.1 28) L (sk (Y.2.2.1 28) L a) - sk (Y.2.2.1 28) L a = 2)))) w) ∧ (dg (Y.2.2.1 28) L (sk (Y.2.2.1 28) L a) - sk (Y.2.2.1 28) L a = 1 ∨ dg (Y.2.2.1 28) L (sk (Y.2.2.1 28) L a) - sk (Y.2.2.1 28) L a = 2 → v = numV (Y.2.2.1 28) L (sk (Y.2.2.1 28) L a)) := by
  have h159 := m159 M o w hL ha h15 h16
  have hs := sk_bd (Y.2.2.1 28) L a
  have e160 := e160 o (yS M o Y w)
  generalize hsk : sk (Y.2.2.1 28) L a = s at h159 hs ⊢
  have hsL := hs.2 ha
  have hd := dg_bd (Y.2.2.1 28) L s
  have h110 := m110 (if s < L then Y.2.2.1 28 s else mI) (nI 48) (nI 57) (yS M o (sS Y 16 (nI s)) w)
  by_cases c : s < L ∧ isDig (Y.2.2.1 28 s) = true
  · have hd1 := dg_1 c
    have hb1 : decide (nI 48 ≤ Y.2.2.1 28 s ∧ Y.2.2.1 28 s ≤ nI 57) = true := c.2
    rw [if_pos c.1] at h159
    rw [if_pos c.1, hb1] at h110
    have key : ∀ (n e : Nat) (v : Int32), n = L - e → s ≤ e → e ≤ L → z_ex 160 M.1 37 [some (.ref o), some (.int (nI e)), some (.int v)] [] (yS M o (sS (sS Y 16 (nI s)) 17 (nI 1)) w) = z_ex 160 M.1 103 [some (.ref o), some (.int (nI (digE (Y.2.2.1 28) L n e))), some (.int (digM (Y.2.2.1 28) L s n e v))] [] (yS M o (sS (sS Y 16 (nI s)) 17 (nI 1)) w) := by
      intro n
      induction n with
      | zero =>
        intro e v hn hse heL
        have e' : L ≤ e := by omega
        unfold digE digM
        rw [q160_37]
        simp (disch := first | omega | (simp only [sgets, reduceIte, Nat.reduceEqDiff, h15, e', dec_S, Nat.reduceAdd]; done) | omega) only [cS_1, crd, z_pv_some, z_wv_some, z_cv_v, z_cv_n, cwr, sgets, rc_O, ia_n, fa_n, is_n, fs_n, ↓mI_eq, lits, nI_add, nLe, nLt, nE, mI_ne, mI_ne', mI_lt, mI_le, mI_nlt, mI_nle, ne_eq, mI_addC, pk_sub, pk_mul, pk_div, Nat.reduceEqDiff, Nat.reduceAdd, Nat.reduceMul, Nat.reduceSub, reduceIte, not_true_eq_false, not_false_eq_true, true_or, or_true, if_true, if_false, and_self, and_true, true_and, and_false, false_and, or_self, or_false, false_or, decide_true, decide_false, Bool.false_eq_true, Bool.true_eq_false, bI_t, bI_f, oS_1, ord, owA0, owF0, owF1, owA1, owF2, owA2, owF3, owA3, ywo, gfs11, pfs11, yrd, ywr, q160_38, q160_41, q160_44, q160_45, q160_46, q160_49, q160_52, q160_53, q160_56, q160_57, q160_58, q160_60, q160_62, q160_65, q160_68, q160_69, q160_70, q160_73, q160_74, q160_75, q160_78, q160_80, q160_81, q160_82, q160_83, q160_86, q160_87, q160_88, q160_89, q160_91, q160_92, q160_95, q160_96, q160_97, q160_100, h15, e', dec_S, Nat.reduceAdd]
      | succ n ih =>
        intro e v hn hse heL
        have e' : ¬ L ≤ e := by omega
        have g110 := m110 (Y.2.2.1 28 e) (nI 48) (nI 57) (yS M o (sS (sS Y 16 (nI s)) 17 (nI 1)) w)
        by_cases cd : isDig (Y.2.2.1 28 e) = true
        · have hb2 : decide (nI 48 ≤ Y.2.2.1 28 e ∧ Y.2.2.1 28 e ≤ nI 57) = true := cd
          rw [hb2] at g110
          rw [digE, digM, if_pos ⟨by omega, cd⟩, if_pos ⟨by omega, cd⟩]
          by_cases c3 : e - s < 3
          · rw [if_pos c3]
            have hi := ih (e + 1) (nI 10 * v + Y.2.2.1 28 e - nI 48) (by omega) (by omega) (by omega)
            have c3' : ¬ 3 ≤ e - s := by omega
            rw [q160_37]
            simp (disch := first | omega | (simp only [sgets, reduceIte, Nat.reduceEqDiff, h15, e', c3', dec_S, Nat.reduceAdd]; done) | omega) only [cS_1, crd, z_pv_some, z_wv_some, z_cv_v, z_cv_n, cwr, sgets, rc_O, ia_n, fa_n, is_n, fs_n, ↓mI_eq, lits, nI_add, nLe, nLt, nE, mI_ne, mI_ne', mI_lt, mI_le, mI_nlt, mI_nle, ne_eq, mI_addC, pk_sub, pk_mul, pk_div, Nat.reduceEqDiff, Nat.reduceAdd, Nat.reduceMul, Nat.reduceSub, reduceIte, not_true_eq_false, not_false_eq_true, true_or, or_true, if_true, if_false, and_self, and_true, true_and, and_false, false_and, or_self, or_false, false_or, decide_true, decide_false, Bool.false_eq_true, Bool.true_eq_false, bI_t, bI_f, oS_1, ord, owA0, owF0, owF1, owA1, owF2, owA2, owF3, owA3, ywo, gfs11, pfs11, yrd, ywr, q160_38, q160_41, q160_44, q160_45, q160_46, q160_49, q160_52, q160_53, q160_56, q160_57, q160_58, q160_60, q160_62, q160_65, q160_68, q160_69, q160_70, q160_73, q160_74, q160_75, q160_78, q160_80, q160_81, q160_82, q160_83, q160_86, q160_87, q160_88, q160_89, q160_91, q160_92, q160_95, q160_96, q160_97, q160_100, g110, hi, h15, e', c3', dec_S, Nat.reduceAdd]
          · rw [if_neg c3]
            have hi := ih (e + 1) v (by omega) (by omega) (by omega)
            have c3' : 3 ≤ e - s := by omega
            rw [q160_37]
            simp (disch := first | omega | (simp only [sgets, reduceIte, Nat.reduceEqDiff, h15, e', c3', dec_S, Nat.reduceAdd]; done) | omega) only [cS_1, crd, z_pv_some, z_wv_some, z_cv_v, z_cv_n, cwr, sgets, rc_O, ia_n, fa_n, is_n, fs_n, ↓mI_eq, lits, nI_add, nLe, nLt, nE, mI_ne, mI_ne', mI_lt, mI_le, mI_nlt, mI_nle, ne_eq, mI_addC, pk_sub, pk_mul, pk_div, Nat.reduceEqDiff, Nat.reduceAdd, Nat.reduceMul, Nat.reduceSub, reduceIte, not_true_eq_false, not_false_eq_true, true_or, or_true, if_true, if_false, and_self, and_true, true_and, and_false, false_and, or_self, or_false, false_or, decide_true, decide_false, Bool.false_eq_true, Bool.true_eq_false, bI_t, bI_f, oS_1, ord, owA0, owF0, owF1, owA1, owF2, owA2, owF3, owA3, ywo, gfs11, pfs11, yrd, ywr, q160_38, q160_41, q160_44, q160_45, q160_46, q160_49, q160_52, q160_53, q160_56, q160_57, q160_58, q160_60, q160_62, q160_65, q160_68, q160_69, q160_70, q160_73, q160_74, q160_75, q160_78, q160_80, q160_81, q160_82, q160_83, q160_86, q160_87, q160_88, q160_89, q160_91, q160_92, q160_95, q160_96, q160_97, q160_100, g110, hi, h15, e', c3', dec_S, Nat.reduceAdd]
        · have hb2 : decide (nI 48 ≤ Y.2.2.1 28 e ∧ Y.2.2.1 28 e ≤ nI 57) = false := by
            rw [← Bool.not_eq_true]; exact cd
          rw [hb2] at g110
          rw [digE_no (fun q => cd q.2), digM_no (fun q => cd q.2), q160_37]
          simp (disch := first | omega | (simp only [sgets, reduceIte, Nat.reduceEqDiff, h15, e', dec_S, Nat.reduceAdd]; done) | omega) only [cS_1, crd, z_pv_some, z_wv_some, z_cv_v, z_cv_n, cwr, sgets, rc_O, ia_n, fa_n, is_n, fs_n, ↓mI_eq, lits, nI_add, nLe, nLt, nE, mI_ne, mI_ne', mI_lt, mI_le, mI_nlt, mI_nle, ne_eq, mI_addC, pk_sub, pk_mul, pk_div, Nat.reduceEqDiff, Nat.reduceAdd, Nat.reduceMul, Nat.reduceSub, reduceIte, not_true_eq_false, not_false_eq_true, true_or, or_true, if_true, if_false, and_self, and_true, true_and, and_false, false_and, or_self, or_false, false_or, decide_true, decide_false, Bool.false_eq_true, Bool.true_eq_false, bI_t, bI_f, oS_1, ord, owA0, owF0, owF1, owA1, owF2, owA2, owF3, owA3, ywo, gfs11, pfs11, yrd, ywr, q160_38, q160_41, q160_44, q160_45, q160_46, q160_49, q160_52, q160_53, q160_56, q160_57, q160_58, q160_60, q160_62, q160_65, q160_68, q160_69, q160_70, q160_73, q160_74, q160_75, q160_78, q160_80, q160_81, q160_82, q160_83, q160_86, q160_87, q160_88, q160_89, q160_91, q160_92, q160_95, q160_96, q160_97, q160_100, g110, h15, e', dec_S, Nat.reduceAdd]
    have hk := key (L - s) s (nI 0) rfl (Nat.le_refl s) hsL
    have hdE : digE (Y.2.2.1 28) L (L - s) s = dg (Y.2.2.1 28) L s := rfl
    rw [hdE] at hk
    refine ⟨digM (Y.2.2.1 28) L s (L - s) s (nI 0), ?_, num_eq⟩
    rw [e160]
    generalize digM (Y.2.2.1 28) L s (L - s) s (nI 0) = v at hk ⊢
    generalize dg (Y.2.2.1 28) L s = e at hk hd hd1 ⊢
    have heL := hd.2 hsL
    refine Eq.trans ?_ (hk.trans ?_)
    · simp (disch := first | omega | (simp only [sgets, reduceIte, Nat.reduceEqDiff, hf, bz1, dec_S, Nat.reduceAdd]; done) | omega) only [cS_1, crd, z_pv_some, z_wv_some, z_cv_v, z_cv_n, cwr, sgets, rc_O, ia_n, fa_n, is_n, fs_n, ↓mI_eq, lits, nI_add, nLe, nLt, nE, mI_ne, mI_ne', mI_lt, mI_le, mI_nlt, mI_nle, ne_eq, mI_addC, pk_sub, pk_mul, pk_div, Nat.reduceEqDiff, Nat.reduceAdd, Nat.reduceMul, Nat.reduceSub, reduceIte, not_true_eq_false, not_false_eq_true, true_or, or_true, if_true, if_false, and_self, and_true, true_and, and_false, false_and, or_self, or_false, false_or, decide_true, decide_false, Bool.false_eq_true, Bool.true_eq_false, bI_t, bI_f, oS_1, ord, owA0, owF0, owF1, owA1, owF2, owA2, owF3, owA3, ywo, gfs11, pfs11, yrd, ywr, q160_0, q160_1, q160_2, q160_5, q160_8, q160_9, q160_12, q160_14, q160_16, q160_19, q160_22, q160_23, q160_26, q160_27, q160_30, q160_31, q160_34, q160_35, q160_36, h159, h110, sS_id, hf, bz1, dec_S, Nat.reduceAdd]
    · by_cases c3 : e - s = 1 ∨ e - s = 2
      · have c3' : ¬ 3 ≤ e - s := by omega
        rw [if_pos c3, decide_eq_true c3]
        simp (disch := first | omega | (simp only [sgets, reduceIte, Nat.reduceEqDiff, c3', bz1, dec_S, Nat.reduceAdd]; done) | omega) only [cS_1, crd, z_pv_some, z_wv_some, z_cv_v, z_cv_n, cwr, sgets, rc_O, ia_n, fa_n, is_n, fs_n, ↓mI_eq, lits, nI_add, nLe, nLt, nE, mI_ne, mI_ne', mI_lt, mI_le, mI_nlt, mI_nle, ne_eq, mI_addC, pk_sub, pk_mul, pk_div, Nat.reduceEqDiff, Nat.reduceAdd, Nat.reduceMul, Nat.reduceSub, reduceIte, not_true_eq_false, not_false_eq_true, true_or, or_true, if_true, if_false, and_self, and_true, true_and, and_false, false_and, or_self, or_false, false_or, decide_true, decide_false, Bool.false_eq_true, Bool.true_eq_false, bI_t, bI_f, oS_1, ord, owA0, owF0, owF1, owA1, owF2, owA2, owF3, owA3, ywo, gfs11, pfs11, yrd, ywr, q160_103, q160_104, q160_105, q160_108, q160_111, q160_112, q160_113, q160_116, q160_117, q160_118, q160_121, q160_122, q160_125, q160_126, q160_129, q160_130, q160_131, q160_134, q160_137, q160_138, q160_141, q160_142, q160_145, q160_148, q160_149, s1716, sS_sS, sS_id, c3', bz1, dec_S, Nat.reduceAdd]
      · have c3' : 3 ≤ e - s := by omega
        rw [if_neg c3, decide_eq_false c3]
        simp (disch := first | omega | (simp only [sgets, reduceIte, Nat.reduceEqDiff, c3', bz0, dec_S, Nat.reduceAdd]; done) | omega) only [cS_1, crd, z_pv_some, z_wv_some, z_cv_v, z_cv_n, cwr, sgets, rc_O, ia_n, fa_n, is_n, fs_n, ↓mI_eq, lits, nI_add, nLe, nLt, nE, mI_ne, mI_ne', mI_lt, mI_le, mI_nlt, mI_nle, ne_eq, mI_addC, pk_sub, pk_mul, pk_div, Nat.reduceEqDiff, Nat.reduceAdd, Nat.reduceMul, Nat.reduceSub, reduceIte, not_true_eq_false, not_false_eq_true, true_or, or_true, if_true, if_false, and_self, and_true, true_and, and_false, false_and, or_self, or_false, false_or, decide_true, decide_false, Bool.false_eq_true, Bool.true_eq_false, bI_t, bI_f, oS_1, ord, owA0, owF0, owF1, owA1, owF2, owA2, owF3, owA3, ywo, gfs11, pfs11, yrd, ywr, q160_103, q160_104, q160_105, q160_108, q160_111, q160_112, q160_113, q160_116, q160_117, q160_118, q160_121, q160_122, q160_125, q160_126, q160_129, q160_130, q160_131, q160_134, q160_137, q160_138, q160_141, q160_142, q160_145, q160_148, q160_149, s1716, sS_sS, sS_id, c3', bz0, dec_S, Nat.reduceAdd]
  · have hb1 : decide (nI 48 ≤ (if s < L then Y.2.2.1 28 s else mI) ∧ (if s < L then Y.2.2.1 28 s else mI) ≤ nI 57) = false := by
      by_cases c1 : s < L
      · rw [if_pos c1]
        rw [← Bool.not_eq_true]
        exact fun q => c ⟨c1, q⟩
      · rw [if_neg c1]
        decide
    rw [hb1] at h110
    rw [dg_0 c, Nat.sub_self]
    refine ⟨nI 0, ?_, fun q => by omega⟩
    rw [if_neg (by omega), decide_eq_false (show ¬ (0 = 1 ∨ 0 = 2) by omega), e160]
    generalize (if s < L then Y.2.2.1 28 s else mI) = l at h159 h110
    simp (disch := first | omega | (simp only [sgets, reduceIte, Nat.reduceEqDiff, hf, bz0, dec_S, Nat.reduceAdd]; done) | omega) only [cS_1, crd, z_pv_some, z_wv_some, z_cv_v, z_cv_n, cwr, sgets, rc_O, ia_n, fa_n, is_n, fs_n, ↓mI_eq, lits, nI_add, nLe, nLt, nE, mI_ne, mI_ne', mI_lt, mI_le, mI_nlt, mI_nle, ne_eq, mI_addC, pk_sub, pk_mul, pk_div, Nat.reduceEqDiff, Nat.reduceAdd, Nat.reduceMul, Nat.reduceSub, reduceIte, not_true_eq_false, not_false_eq_true, true_or, or_true, if_true, if_false, and_self, and_true, true_and, and_false, false_and, or_self, or_false, false_or, decide_true, decide_false, Bool.false_eq_true, Bool.true_eq_false, bI_t, bI_f, oS_1, ord, owA0, owF0, owF1, owA1, owF2, owA2, owF3, owA3, ywo, gfs11, pfs11, yrd, ywr, q160_0, q160_1, q160_2, q160_5, q160_8, q160_9, q160_12, q160_14, q160_16, q160_19, q160_22, q160_23, q160_26, q160_27, q160_30, q160_31, q160_34, q160_35, q160_36, h159, h110, q160_37, q160_38, q160_41, q160_44, q160_45, q160_46, q160_49, q160_52, q160_53, q160_56, q160_57, q160_58, q160_60, q160_62, q160_65, q160_68, q160_69, q160_70, q160_73, q160_74, q160_75, q160_78, q160_80, q160_81, q160_82, q160_83, q160_86, q160_87, q160_88, q160_89, q160_91, q160_92, q160_95, q160_96, q160_97, q160_100, q160_103, q160_104, q160_105, q160_108, q160_111, q160_112, q160_113, q160_116, q160_117, q160_118, q160_121, q160_122, q160_125, q160_126, q160_129, q160_130, q160_131, q160_134, q160_137, q160_138, q160_141, q160_142, q160_145, q160_148, q160_149, s1716, sS_sS, sS_id, hf, bz0, dec_S, Nat.reduceAdd]
end
