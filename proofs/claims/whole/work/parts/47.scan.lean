/-! the text is scanned -/
/-- the text's length is L, the place a lies in it -/
def okT (T : z_V) (L : Nat) : Prop := T.1 0 = nI L ∧ ∃ a, a ≤ L ∧ T.1 1 = nI a
theorem rdN_A (T : z_V) (L a : Nat) : (rdN T L a).2 = T.2 := by unfold rdN; split <;> rfl
theorem rdN_S (T : z_V) (L a i : Nat) (h1 : i ≠ 1) (h2 : i ≠ 2) : (rdN T L a).1 i = T.1 i := by
  unfold rdN
  split <;> simp only [sgets, h1, h2, if_false]
theorem rdN_1 (T : z_V) (L a : Nat) : (rdN T L a).1 1 = nI (dg (T.2.2.1 0) L (sk (T.2.2.1 0) L a)) := by
  unfold rdN
  split <;> simp only [sgets, Nat.reduceEqDiff, if_true, if_false]
def ordB (T : z_V) (L : Nat) : Nat := sk (T.2.2.1 0) L (nV T 1)
def ordN (T : z_V) (L : Nat) : Nat := if ordB T L < L then numA (T.2.2.1 0 (ordB T L)) else 0
def oq2 (T : z_V) (L o : Nat) : z_V := sS (sA (sS T 1 (nI (ordB T L))) 1 (upd (T.2.2.1 1) o (T.2.2.1 0 (ordB T L)))) 1 (nI (ordB T L + 1))
def oq3 (T : z_V) (L o : Nat) : z_V := sA (rdN (oq2 T L o) L (ordB T L + 1)) 2 (upd (T.2.2.1 2) o (numV (T.2.2.1 0) L (sk (T.2.2.1 0) L (ordB T L + 1))))
def oq4 (T : z_V) (L o : Nat) : z_V := if ordN T L = 2 ∧ (oq3 T L o).1 2 = mI then sA (rdN (oq3 T L o) L (nV (oq3 T L o) 1)) 3 (upd (T.2.2.1 3) o (numV (T.2.2.1 0) L (sk (T.2.2.1 0) L (nV (oq3 T L o) 1)))) else sA (oq3 T L o) 3 (upd (T.2.2.1 3) o mI)
/-- OrderText.readOrder -/
def ordR (T : z_V) (L o : Nat) : z_V := if ordN T L = 0 then sS (sS T 1 (nI (ordB T L))) 2 (nI (ordB T L)) else sS (oq4 T L o) 3 (nI (o + 1))
theorem oq3_1 (T : z_V) (L o : Nat) : (oq3 T L o).1 1 = nI (dg (T.2.2.1 0) L (sk (T.2.2.1 0) L (ordB T L + 1))) := by
  unfold oq3
  simp only [sgets]
  rw [rdN_1]
  unfold oq2
  simp only [sgets, Nat.reduceEqDiff, if_false]
theorem oq3_0 (T : z_V) (L o : Nat) : (oq3 T L o).1 0 = T.1 0 := by
  unfold oq3
  simp only [sgets]
  rw [rdN_S _ _ _ _ (by omega) (by omega)]
  unfold oq2
  simp only [sgets, Nat.reduceEqDiff, if_false]
theorem oq3_A (T : z_V) (L o : Nat) : (oq3 T L o).2.2.1 0 = T.2.2.1 0 ∧ (oq3 T L o).2.2.1 3 = T.2.2.1 3 := by
  unfold oq3
  simp only [sgets, rdN_A, Nat.reduceEqDiff, if_false]
  unfold oq2
  simp only [sgets, Nat.reduceEqDiff, if_false, and_self]
theorem numA_lt (y : Int32) : numA y < 3 := by unfold numA; split <;> (try split) <;> omega
theorem m42 (M : z_M) (t : Nat) (T : z_V) (L o : Nat) (hL : L ≤ 100) (ho : o < 100) (h : okT T L) : z_cl 42 [.ref t, .int (nI o)] (tS M t T) = some (none, tS M t (ordR T L o)) ∧ okT (ordR T L o) L := by
  obtain ⟨h0, a, ha, h1⟩ := h
  have hav : nV T 1 = a := nV_of h1 (by omega)
  have hs := sk_bd (T.2.2.1 0) L a
  have h43 := m43 M t T L a hL ha h0 h1
  have hB : ordB T L = sk (T.2.2.1 0) L a := by unfold ordB; rw [hav]
  rw [← hB] at h43 hs
  have hkL : ordB T L ≤ L := hs.2 ha
  have h44 := m44 (tS M t (sS T 1 (nI (ordB T L)))) (T.2.2.1 0 (ordB T L))
  by_cases hn : ordN T L = 0
  · have hR : ordR T L o = sS (sS T 1 (nI (ordB T L))) 2 (nI (ordB T L)) := by unfold ordR; rw [if_pos hn]
    rw [hR]
    refine ⟨?_, by simp only [sgets, Nat.reduceEqDiff, if_false]; exact h0, ordB T L, hkL, by simp only [sgets, Nat.reduceEqDiff, if_true, if_false]⟩
    rw [e42]
    by_cases hk : L ≤ ordB T L
    · simp (disch := first | omega | (simp only [sgets, reduceIte, Nat.reduceEqDiff, h0, hk]; done) | omega) only [cS_1, crd, z_pv_some, z_wv_some, z_cv_v, z_cv_n, cwr, sgets, rc_O, ia_n, fa_n, is_n, fs_n, ↓mI_eq, lits, nI_add, nLe, nLt, nE, mI_ne, mI_ne', mI_lt, mI_le, mI_nlt, mI_nle, ne_eq, mI_addC, pk_sub, pk_mul, pk_div, Nat.reduceEqDiff, Nat.reduceAdd, Nat.reduceMul, Nat.reduceSub, reduceIte, not_true_eq_false, not_false_eq_true, true_or, or_true, if_true, if_false, and_self, and_true, true_and, and_false, false_and, or_self, or_false, false_or, decide_true, decide_false, Bool.false_eq_true, Bool.true_eq_false, bI_t, bI_f, tS_1, trd, twr, gfs5, pfs5, b42, h43, h0, hk]
    · have hn' : numA (T.2.2.1 0 (ordB T L)) = 0 := by unfold ordN at hn; rwa [if_pos (by omega)] at hn
      rw [hn'] at h44
      simp (disch := first | omega | (simp only [sgets, reduceIte, Nat.reduceEqDiff, h0, hk]; done) | omega) only [cS_1, crd, z_pv_some, z_wv_some, z_cv_v, z_cv_n, cwr, sgets, rc_O, ia_n, fa_n, is_n, fs_n, ↓mI_eq, lits, nI_add, nLe, nLt, nE, mI_ne, mI_ne', mI_lt, mI_le, mI_nlt, mI_nle, ne_eq, mI_addC, pk_sub, pk_mul, pk_div, Nat.reduceEqDiff, Nat.reduceAdd, Nat.reduceMul, Nat.reduceSub, reduceIte, not_true_eq_false, not_false_eq_true, true_or, or_true, if_true, if_false, and_self, and_true, true_and, and_false, false_and, or_self, or_false, false_or, decide_true, decide_false, Bool.false_eq_true, Bool.true_eq_false, bI_t, bI_f, tS_1, trd, twr, gfs5, pfs5, b42, h43, h44, h0, hk]
  · have hk : ¬ L ≤ ordB T L := by
      intro hk
      apply hn
      unfold ordN
      rw [if_neg (by omega)]
    have hR : ordR T L o = sS (oq4 T L o) 3 (nI (o + 1)) := by unfold ordR; rw [if_neg hn]
    have hN : ordN T L = numA (T.2.2.1 0 (ordB T L)) := by unfold ordN; rw [if_pos (by omega)]
    have hN3 := numA_lt (T.2.2.1 0 (ordB T L))
    rw [← hN] at h44 hN3
    have h2A : (oq2 T L o).2.2.1 0 = T.2.2.1 0 := by unfold oq2; simp only [sgets, Nat.reduceEqDiff, if_false]
    have h45 := m45 M t (oq2 T L o) L (ordB T L + 1) hL (by omega) (by unfold oq2; simp only [sgets, Nat.reduceEqDiff, if_false]; exact h0) (by unfold oq2; simp only [sgets, if_true])
    rw [h2A] at h45
    have hs2 := sk_bd (T.2.2.1 0) L (ordB T L + 1)
    have hd2 := dg_bd (T.2.2.1 0) L (sk (T.2.2.1 0) L (ordB T L + 1))
    have he1 : dg (T.2.2.1 0) L (sk (T.2.2.1 0) L (ordB T L + 1)) ≤ L := hd2.2 (hs2.2 (by omega))
    have h31 := oq3_1 T L o
    have h30 := oq3_0 T L o
    obtain ⟨h3A, h33⟩ := oq3_A T L o
    have hv3 : nV (oq3 T L o) 1 = dg (T.2.2.1 0) L (sk (T.2.2.1 0) L (ordB T L + 1)) := nV_of h31 (by omega)
    have h45b := m45 M t (oq3 T L o) L _ hL he1 (h30.trans h0) h31
    rw [h3A] at h45b
    have a2 : (rdN (oq2 T L o) L (ordB T L + 1)).2.2.1 2 = T.2.2.1 2 := by rw [rdN_A]; unfold oq2; simp only [sgets, Nat.reduceEqDiff, if_false]
    have a3 : (rdN (oq3 T L o) L (nV (oq3 T L o) 1)).2.2.1 3 = T.2.2.1 3 := by rw [rdN_A]; exact h33
    rw [hv3] at a3
    have e2 : oq2 T L o = sS (sA (sS T 1 (nI (ordB T L))) 1 (upd (T.2.2.1 1) o (T.2.2.1 0 (ordB T L)))) 1 (nI (ordB T L + 1)) := rfl
    have e3 : oq3 T L o = sA (rdN (oq2 T L o) L (ordB T L + 1)) 2 (upd (T.2.2.1 2) o (numV (T.2.2.1 0) L (sk (T.2.2.1 0) L (ordB T L + 1)))) := rfl
    have e4 : oq4 T L o = if ordN T L = 2 ∧ (oq3 T L o).1 2 = mI then sA (rdN (oq3 T L o) L (nV (oq3 T L o) 1)) 3 (upd (T.2.2.1 3) o (numV (T.2.2.1 0) L (sk (T.2.2.1 0) L (nV (oq3 T L o) 1)))) else sA (oq3 T L o) 3 (upd (T.2.2.1 3) o mI) := rfl
    rw [hR]
    have hok : okT (sS (oq4 T L o) 3 (nI (o + 1))) L := by
      rw [e4]
      split
      · have hs3 := sk_bd (T.2.2.1 0) L (nV (oq3 T L o) 1)
        have hd3 := dg_bd (T.2.2.1 0) L (sk (T.2.2.1 0) L (nV (oq3 T L o) 1))
        refine ⟨?_, dg (T.2.2.1 0) L (sk (T.2.2.1 0) L (nV (oq3 T L o) 1)), hd3.2 (hs3.2 (by omega)), ?_⟩
        · simp only [sgets, Nat.reduceEqDiff, if_false]
          rw [rdN_S _ _ _ _ (by omega) (by omega), h30]; exact h0
        · simp only [sgets, Nat.reduceEqDiff, if_false]
          rw [rdN_1, h3A]
      · refine ⟨?_, _, he1, ?_⟩
        · simp only [sgets, Nat.reduceEqDiff, if_false]
          rw [h30]; exact h0
        · simp only [sgets, Nat.reduceEqDiff, if_false]
          exact h31
    refine ⟨?_, hok⟩
    rw [e42]
    rw [e4, hv3]
    have hn1 : ordN T L = 1 ∨ ordN T L = 2 := by omega
    rcases hn1 with hn1 | hn1
    · rw [hn1] at h44 ⊢
      simp (disch := first | omega | (simp only [sgets, reduceIte, Nat.reduceEqDiff, h0, hk]; done) | omega) only [cS_1, crd, z_pv_some, z_wv_some, z_cv_v, z_cv_n, cwr, sgets, rc_O, ia_n, fa_n, is_n, fs_n, ↓mI_eq, lits, nI_add, nLe, nLt, nE, mI_ne, mI_ne', mI_lt, mI_le, mI_nlt, mI_nle, ne_eq, mI_addC, pk_sub, pk_mul, pk_div, Nat.reduceEqDiff, Nat.reduceAdd, Nat.reduceMul, Nat.reduceSub, reduceIte, not_true_eq_false, not_false_eq_true, true_or, or_true, if_true, if_false, and_self, and_true, true_and, and_false, false_and, or_self, or_false, false_or, decide_true, decide_false, Bool.false_eq_true, Bool.true_eq_false, bI_t, bI_f, tS_1, trd, twr, gfs5, pfs5, b42, h43, h44, ← e2, h45, a2, ← e3, h33, h0, hk]
    · rw [hn1] at h44 ⊢
      by_cases hf : (oq3 T L o).1 2 = mI
      · simp (disch := first | omega | (simp only [sgets, reduceIte, Nat.reduceEqDiff, h0, hk, hf]; done) | omega) only [cS_1, crd, z_pv_some, z_wv_some, z_cv_v, z_cv_n, cwr, sgets, rc_O, ia_n, fa_n, is_n, fs_n, ↓mI_eq, lits, nI_add, nLe, nLt, nE, mI_ne, mI_ne', mI_lt, mI_le, mI_nlt, mI_nle, ne_eq, mI_addC, pk_sub, pk_mul, pk_div, Nat.reduceEqDiff, Nat.reduceAdd, Nat.reduceMul, Nat.reduceSub, reduceIte, not_true_eq_false, not_false_eq_true, true_or, or_true, if_true, if_false, and_self, and_true, true_and, and_false, false_and, or_self, or_false, false_or, decide_true, decide_false, Bool.false_eq_true, Bool.true_eq_false, bI_t, bI_f, tS_1, trd, twr, gfs5, pfs5, b42, h43, h44, ← e2, h45, a2, ← e3, h45b, a3, h0, hk, hf]
      · simp (disch := first | omega | (simp only [sgets, reduceIte, Nat.reduceEqDiff, h0, hk, hf]; done) | omega) only [cS_1, crd, z_pv_some, z_wv_some, z_cv_v, z_cv_n, cwr, sgets, rc_O, ia_n, fa_n, is_n, fs_n, ↓mI_eq, lits, nI_add, nLe, nLt, nE, mI_ne, mI_ne', mI_lt, mI_le, mI_nlt, mI_nle, ne_eq, mI_addC, pk_sub, pk_mul, pk_div, Nat.reduceEqDiff, Nat.reduceAdd, Nat.reduceMul, Nat.reduceSub, reduceIte, not_true_eq_false, not_false_eq_true, true_or, or_true, if_true, if_false, and_self, and_true, true_and, and_false, false_and, or_self, or_false, false_or, decide_true, decide_false, Bool.false_eq_true, Bool.true_eq_false, bI_t, bI_f, tS_1, trd, twr, gfs5, pfs5, b42, h43, h44, ← e2, h45, a2, ← e3, h33, h0, hk, hf]
/-- OrderText.readSemicolon -/
def semB (T : z_V) (L : Nat) : Bool := decide (ordB T L < L ∧ T.2.2.1 0 (ordB T L) = nI 59)
def semR (T : z_V) (L : Nat) : z_V := if ordB T L = L then sS T 1 (nI (ordB T L)) else if T.2.2.1 0 (ordB T L) = nI 59 then sS (sS T 1 (nI (ordB T L))) 1 (nI (ordB T L + 1)) else sS (sS T 1 (nI (ordB T L))) 2 (nI (ordB T L))
theorem m46 (M : z_M) (t : Nat) (T : z_V) (L : Nat) (hL : L ≤ 100) (h : okT T L) : z_cl 46 [.ref t] (tS M t T) = some (some (.int (bI (semB T L))), tS M t (semR T L)) ∧ okT (semR T L) L := by
  obtain ⟨h0, a, ha, h1⟩ := h
  have hav : nV T 1 = a := nV_of h1 (by omega)
  have hs := sk_bd (T.2.2.1 0) L a
  have h43 := m43 M t T L a hL ha h0 h1
  have hB : ordB T L = sk (T.2.2.1 0) L a := by unfold ordB; rw [hav]
  rw [← hB] at h43 hs
  have hkL : ordB T L ≤ L := hs.2 ha
  unfold semB semR
  generalize ordB T L = k at h43 hkL ⊢
  by_cases hk : k = L
  · subst hk
    have hlt : ¬ k < k := by omega
    refine ⟨?_, by simp only [if_true, sgets, Nat.reduceEqDiff, if_false]; exact h0, k, hkL, by simp only [if_true, sgets]⟩
    rw [e46]
    simp (disch := first | omega | (simp only [sgets, reduceIte, Nat.reduceEqDiff, h0, hlt]; done) | omega) only [cS_1, crd, z_pv_some, z_wv_some, z_cv_v, z_cv_n, cwr, sgets, rc_O, ia_n, fa_n, is_n, fs_n, ↓mI_eq, lits, nI_add, nLe, nLt, nE, mI_ne, mI_ne', mI_lt, mI_le, mI_nlt, mI_nle, ne_eq, mI_addC, pk_sub, pk_mul, pk_div, Nat.reduceEqDiff, Nat.reduceAdd, Nat.reduceMul, Nat.reduceSub, reduceIte, not_true_eq_false, not_false_eq_true, true_or, or_true, if_true, if_false, and_self, and_true, true_and, and_false, false_and, or_self, or_false, false_or, decide_true, decide_false, Bool.false_eq_true, Bool.true_eq_false, bI_t, bI_f, tS_1, trd, twr, gfs5, pfs5, b46, h43, h0, hlt]
  · have hlt : k < L := by omega
    by_cases hb : T.2.2.1 0 k = nI 59
    · refine ⟨?_, by simp only [hk, hb, if_true, if_false, sgets, Nat.reduceEqDiff]; exact h0, k + 1, by omega, by simp only [hk, hb, if_true, if_false, sgets]⟩
      rw [e46]
      simp (disch := first | omega | (simp only [sgets, reduceIte, Nat.reduceEqDiff, h0, hlt, hk, hb]; done) | omega) only [cS_1, crd, z_pv_some, z_wv_some, z_cv_v, z_cv_n, cwr, sgets, rc_O, ia_n, fa_n, is_n, fs_n, ↓mI_eq, lits, nI_add, nLe, nLt, nE, mI_ne, mI_ne', mI_lt, mI_le, mI_nlt, mI_nle, ne_eq, mI_addC, pk_sub, pk_mul, pk_div, Nat.reduceEqDiff, Nat.reduceAdd, Nat.reduceMul, Nat.reduceSub, reduceIte, not_true_eq_false, not_false_eq_true, true_or, or_true, if_true, if_false, and_self, and_true, true_and, and_false, false_and, or_self, or_false, false_or, decide_true, decide_false, Bool.false_eq_true, Bool.true_eq_false, bI_t, bI_f, tS_1, trd, twr, gfs5, pfs5, b46, h43, h0, hlt, hk, hb]
    · refine ⟨?_, by simp only [hk, hb, if_false, sgets, Nat.reduceEqDiff]; exact h0, k, by omega, by simp only [hk, hb, if_true, if_false, sgets, Nat.reduceEqDiff]⟩
      rw [e46]
      simp (disch := first | omega | (simp only [sgets, reduceIte, Nat.reduceEqDiff, h0, hlt, hk, hb]; done) | omega) only [cS_1, crd, z_pv_some, z_wv_some, z_cv_v, z_cv_n, cwr, sgets, rc_O, ia_n, fa_n, is_n, fs_n, ↓mI_eq, lits, nI_add, nLe, nLt, nE, mI_ne, mI_ne', mI_lt, mI_le, mI_nlt, mI_nle, ne_eq, mI_addC, pk_sub, pk_mul, pk_div, Nat.reduceEqDiff, Nat.reduceAdd, Nat.reduceMul, Nat.reduceSub, reduceIte, not_true_eq_false, not_false_eq_true, true_or, or_true, if_true, if_false, and_self, and_true, true_and, and_false, false_and, or_self, or_false, false_or, decide_true, decide_false, Bool.false_eq_true, Bool.true_eq_false, bI_t, bI_f, tS_1, trd, twr, gfs5, pfs5, b46, h43, h0, hlt, hk, hb]
/-- OrderText.scan -/
def scnL (L : Nat) : Nat → Nat → z_V → z_V
  | 0, _, T => T
  | n + 1, o, T => if (ordR T L o).1 2 = mI then (if semB (ordR T L o) L = true then scnL L n (o + 1) (semR (ordR T L o) L) else semR (ordR T L o) L) else ordR T L o
def scnR (T : z_V) (L : Nat) : z_V := scnL L 100 0 (sS (sS (sS T 1 (nI 0)) 2 mI) 3 (nI 0))
theorem m41 (M : z_M) (t : Nat) (T : z_V) (L : Nat) (hL : L ≤ 100) (h0 : T.1 0 = nI L) : z_cl 41 [.ref t] (tS M t T) = some (some (.int ((scnR T L).1 2)), tS M t (scnR T L)) ∧ okT (scnR T L) L := by
  rw [e41]
  unfold scnR
  have key : ∀ (n o : Nat) (T : z_V), n + o = 100 → okT T L → z_ex 41 M.1 19 [some (.ref t), some (.int (nI 1)), some (.int (nI o))] [] (tS M t T) = some (some (.int ((scnL L n o T).1 2)), tS M t (scnL L n o T)) ∧ okT (scnL L n o T) L := by
    intro n
    induction n with
    | zero =>
      intro o T ho hok
      have ho' : o = 100 := by omega
      subst ho'
      unfold scnL
      refine ⟨?_, hok⟩
      rw [q41_19]
      simp (disch := first | omega | (simp only [sgets, reduceIte, Nat.reduceEqDiff]; done) | omega) only [cS_1, crd, z_pv_some, z_wv_some, z_cv_v, z_cv_n, cwr, sgets, rc_O, ia_n, fa_n, is_n, fs_n, ↓mI_eq, lits, nI_add, nLe, nLt, nE, mI_ne, mI_ne', mI_lt, mI_le, mI_nlt, mI_nle, ne_eq, mI_addC, pk_sub, pk_mul, pk_div, Nat.reduceEqDiff, Nat.reduceAdd, Nat.reduceMul, Nat.reduceSub, reduceIte, not_true_eq_false, not_false_eq_true, true_or, or_true, if_true, if_false, and_self, and_true, true_and, and_false, false_and, or_self, or_false, false_or, decide_true, decide_false, Bool.false_eq_true, Bool.true_eq_false, bI_t, bI_f, tS_1, trd, twr, gfs5, pfs5, b41, Nat.le_refl]
    | succ n ih =>
      intro o T ho hok
      have ho' : ¬ 100 ≤ o := by omega
      obtain ⟨c1, k1⟩ := m42 M t T L o hL (by omega) hok
      unfold scnL
      by_cases hf : (ordR T L o).1 2 = mI
      · obtain ⟨c2, k2⟩ := m46 M t (ordR T L o) L hL k1
        rw [if_pos hf]
        cases hb : semB (ordR T L o) L with
        | false =>
          rw [hb] at c2
          refine ⟨?_, by simp only [Bool.false_eq_true, if_false]; exact k2⟩
          rw [q41_19]
          by_cases h100 : 100 ≤ o + 1
          · simp (disch := first | omega | (simp only [sgets, reduceIte, Nat.reduceEqDiff, ho', hf, h100]; done) | omega) only [cS_1, crd, z_pv_some, z_wv_some, z_cv_v, z_cv_n, cwr, sgets, rc_O, ia_n, fa_n, is_n, fs_n, ↓mI_eq, lits, nI_add, nLe, nLt, nE, mI_ne, mI_ne', mI_lt, mI_le, mI_nlt, mI_nle, ne_eq, mI_addC, pk_sub, pk_mul, pk_div, Nat.reduceEqDiff, Nat.reduceAdd, Nat.reduceMul, Nat.reduceSub, reduceIte, not_true_eq_false, not_false_eq_true, true_or, or_true, if_true, if_false, and_self, and_true, true_and, and_false, false_and, or_self, or_false, false_or, decide_true, decide_false, Bool.false_eq_true, Bool.true_eq_false, bI_t, bI_f, tS_1, trd, twr, gfs5, pfs5, b41, c1, c2, q41_19, ho', hf, h100]
          · simp (disch := first | omega | (simp only [sgets, reduceIte, Nat.reduceEqDiff, ho', hf, h100]; done) | omega) only [cS_1, crd, z_pv_some, z_wv_some, z_cv_v, z_cv_n, cwr, sgets, rc_O, ia_n, fa_n, is_n, fs_n, ↓mI_eq, lits, nI_add, nLe, nLt, nE, mI_ne, mI_ne', mI_lt, mI_le, mI_nlt, mI_nle, ne_eq, mI_addC, pk_sub, pk_mul, pk_div, Nat.reduceEqDiff, Nat.reduceAdd, Nat.reduceMul, Nat.reduceSub, reduceIte, not_true_eq_false, not_false_eq_true, true_or, or_true, if_true, if_false, and_self, and_true, true_and, and_false, false_and, or_self, or_false, false_or, decide_true, decide_false, Bool.false_eq_true, Bool.true_eq_false, bI_t, bI_f, tS_1, trd, twr, gfs5, pfs5, b41, c1, c2, q41_19, ho', hf, h100]
        | true =>
          rw [hb] at c2
          obtain ⟨c3, k3⟩ := ih (o + 1) (semR (ordR T L o) L) (by omega) k2
          refine ⟨?_, by simp only [if_true]; exact k3⟩
          rw [q41_19]
          simp (disch := first | omega | (simp only [sgets, reduceIte, Nat.reduceEqDiff, ho', hf]; done) | omega) only [cS_1, crd, z_pv_some, z_wv_some, z_cv_v, z_cv_n, cwr, sgets, rc_O, ia_n, fa_n, is_n, fs_n, ↓mI_eq, lits, nI_add, nLe, nLt, nE, mI_ne, mI_ne', mI_lt, mI_le, mI_nlt, mI_nle, ne_eq, mI_addC, pk_sub, pk_mul, pk_div, Nat.reduceEqDiff, Nat.reduceAdd, Nat.reduceMul, Nat.reduceSub, reduceIte, not_true_eq_false, not_false_eq_true, true_or, or_true, if_true, if_false, and_self, and_true, true_and, and_false, false_and, or_self, or_false, false_or, decide_true, decide_false, Bool.false_eq_true, Bool.true_eq_false, bI_t, bI_f, tS_1, trd, twr, gfs5, pfs5, b41, c1, c2, c3, ho', hf]
      · rw [if_neg hf]
        refine ⟨?_, k1⟩
        rw [q41_19]
        by_cases h100 : 100 ≤ o + 1
        · simp (disch := first | omega | (simp only [sgets, reduceIte, Nat.reduceEqDiff, ho', hf, h100]; done) | omega) only [cS_1, crd, z_pv_some, z_wv_some, z_cv_v, z_cv_n, cwr, sgets, rc_O, ia_n, fa_n, is_n, fs_n, ↓mI_eq, lits, nI_add, nLe, nLt, nE, mI_ne, mI_ne', mI_lt, mI_le, mI_nlt, mI_nle, ne_eq, mI_addC, pk_sub, pk_mul, pk_div, Nat.reduceEqDiff, Nat.reduceAdd, Nat.reduceMul, Nat.reduceSub, reduceIte, not_true_eq_false, not_false_eq_true, true_or, or_true, if_true, if_false, and_self, and_true, true_and, and_false, false_and, or_self, or_false, false_or, decide_true, decide_false, Bool.false_eq_true, Bool.true_eq_false, bI_t, bI_f, tS_1, trd, twr, gfs5, pfs5, b41, c1, q41_19, ho', hf, h100]
        · simp (disch := first | omega | (simp only [sgets, reduceIte, Nat.reduceEqDiff, ho', hf, h100]; done) | omega) only [cS_1, crd, z_pv_some, z_wv_some, z_cv_v, z_cv_n, cwr, sgets, rc_O, ia_n, fa_n, is_n, fs_n, ↓mI_eq, lits, nI_add, nLe, nLt, nE, mI_ne, mI_ne', mI_lt, mI_le, mI_nlt, mI_nle, ne_eq, mI_addC, pk_sub, pk_mul, pk_div, Nat.reduceEqDiff, Nat.reduceAdd, Nat.reduceMul, Nat.reduceSub, reduceIte, not_true_eq_false, not_false_eq_true, true_or, or_true, if_true, if_false, and_self, and_true, true_and, and_false, false_and, or_self, or_false, false_or, decide_true, decide_false, Bool.false_eq_true, Bool.true_eq_false, bI_t, bI_f, tS_1, trd, twr, gfs5, pfs5, b41, c1, q41_19, ho', hf, h100]
  have hk := key 100 0 (sS (sS (sS T 1 (nI 0)) 2 mI) 3 (nI 0)) (by omega) ⟨by simp only [sgets, Nat.reduceEqDiff, if_false]; exact h0, 0, by omega, by simp only [sgets, Nat.reduceEqDiff, if_true, if_false]⟩
  refine ⟨?_, hk.2⟩
  have hk1 := hk.1
  simp (disch := first | omega | (simp only [sgets, reduceIte, Nat.reduceEqDiff]; done) | omega) only [cS_1, crd, z_pv_some, z_wv_some, z_cv_v, z_cv_n, cwr, sgets, rc_O, ia_n, fa_n, is_n, fs_n, ↓mI_eq, lits, nI_add, nLe, nLt, nE, mI_ne, mI_ne', mI_lt, mI_le, mI_nlt, mI_nle, ne_eq, mI_addC, pk_sub, pk_mul, pk_div, Nat.reduceEqDiff, Nat.reduceAdd, Nat.reduceMul, Nat.reduceSub, reduceIte, not_true_eq_false, not_false_eq_true, true_or, or_true, if_true, if_false, and_self, and_true, true_and, and_false, false_and, or_self, or_false, false_or, decide_true, decide_false, Bool.false_eq_true, Bool.true_eq_false, bI_t, bI_f, tS_1, trd, twr, gfs5, pfs5, b41, hk1]
