/-! Selection: what it writes -/
/-- W is V but for speakers, talk times and events -/
def kS (V W : z_V) : Prop := okE W ∧ (∀ i, i ≠ 12 → i ≠ 13 → W.1 i = V.1 i) ∧ W.2.1 = V.2.1 ∧ (∀ i, i < 19 → i ≠ 9 → i ≠ 8 → W.2.2.1 i = V.2.2.1 i) ∧ W.2.2.2 = V.2.2.2
theorem kS.rf {V : z_V} (h : okE V) : kS V V := ⟨h, fun _ _ _ => rfl, rfl, fun _ _ _ _ => rfl, rfl⟩
theorem kS.tr {V W X : z_V} (h1 : kS V W) (h2 : kS W X) : kS V X := ⟨h2.1, fun i a b => (h2.2.1 i a b).trans (h1.2.1 i a b), h2.2.2.1.trans h1.2.2.1, fun i a b d => (h2.2.2.2.1 i a b d).trans (h1.2.2.2.1 i a b d), h2.2.2.2.2.trans h1.2.2.2.2⟩
theorem kS_ev9 {W : z_V} (h : okE W) (f : Nat → Int32) (x y z : Int32) : kS W (evAdd (sA W 9 f) x y z) := by
  refine ⟨okE_ev (okE_sA h _ _) _ _ _, fun i a b => ?_, rfl, fun i a b d => ?_, rfl⟩
  · rw [evAdd_S _ _ _ _ _ a b]; rfl
  · rw [evAdd_A _ _ _ _ _ a]
    simp only [sgets, b, if_false]
theorem kS_drop {W : z_V} (h : okE W) (p : Nat) : kS W (dropS W p) := kS_ev9 h _ _ _ _
theorem kS_choo {W : z_V} (h : okE W) (b p : Nat) : kS W (chooS W b p) := kS_ev9 h _ _ _ _
/-- dropUnfit -/
def uStep (b p : Nat) (W : z_V) : z_V := if W.2.2.1 9 p = nI b ∧ (mayS W b p = false ∨ W.1 3 < W.2.2.1 7 p) then dropS W p else W
theorem kS_u {W : z_V} (h : okE W) (b p : Nat) : kS W (uStep b p W) := by
  unfold uStep
  split
  · exact kS_drop h p
  · exact kS.rf h
theorem m178 (M : z_M) (c : Nat) (V : z_V) (J : Nat) (hJ : J ≤ 20) (h : V.1 9 = nI J) (hE : okE V) (b : Nat) : z_cl 178 [.ref c, .int (nI b)] (cS M c V) = some (none, cS M c (it (uStep b) J V)) ∧ kS V (it (uStep b) J V) := by
  rw [e178]
  simp (disch := first | omega | (simp only [sgets, reduceIte, Nat.reduceEqDiff]; done) | omega) only [cS_1, crd, z_pv_some, z_wv_some, z_cv_v, z_cv_n, cwr, sgets, rc_O, ia_n, fa_n, is_n, fs_n, ↓mI_eq, lits, nI_add, nLe, nLt, nE, mI_ne, mI_ne', mI_lt, mI_le, mI_nlt, mI_nle, ne_eq, mI_addC, pk_sub, pk_mul, pk_div, Nat.reduceEqDiff, Nat.reduceAdd, Nat.reduceMul, Nat.reduceSub, reduceIte, not_true_eq_false, not_false_eq_true, true_or, or_true, if_true, if_false, and_self, and_true, true_and, and_false, false_and, or_self, or_false, false_or, decide_true, decide_false, Bool.false_eq_true, Bool.true_eq_false, bI_t, bI_f, b178]
  refine lp_for (fun k (W : z_V) (j : Option Value) => z_ex 178 M.1 2 [some (.ref c), some (.int (nI b)), some (.int (nI k)), j] [] (cS M c W)) (uStep b) (fun _ W => kS V W) J (fun W => some (none, cS M c W)) ?_ ?_ ?_ V none (kS.rf hE)
  · intro k W j hk hK
    have hk2 : ¬ J ≤ k := by omega
    have hJ9 : W.1 9 = nI J := by rw [hK.2.1 9 (by omega) (by omega)]; exact h
    have hm := m179 M c W b k (by omega)
    have hdr := m180 M c W k (by omega) hK.1
    rw [q178_2]
    cases h1 : mayS W b k with
    | false =>
      by_cases h3 : W.2.2.1 9 k = nI b
      · have hu : uStep b k W = dropS W k := by simp [uStep, h1, h3]
        simp (disch := first | omega | (simp only [sgets, reduceIte, Nat.reduceEqDiff, hJ9, hk2, h3]; done) | omega) only [cS_1, crd, z_pv_some, z_wv_some, z_cv_v, z_cv_n, cwr, sgets, rc_O, ia_n, fa_n, is_n, fs_n, ↓mI_eq, lits, nI_add, nLe, nLt, nE, mI_ne, mI_ne', mI_lt, mI_le, mI_nlt, mI_nle, ne_eq, mI_addC, pk_sub, pk_mul, pk_div, Nat.reduceEqDiff, Nat.reduceAdd, Nat.reduceMul, Nat.reduceSub, reduceIte, not_true_eq_false, not_false_eq_true, true_or, or_true, if_true, if_false, and_self, and_true, true_and, and_false, false_and, or_self, or_false, false_or, decide_true, decide_false, Bool.false_eq_true, Bool.true_eq_false, bI_t, bI_f, b178, gfs0, gfs6, gfs7, hm, hdr, h1, bI_f, hu, hJ9, hk2, h3]
        exact ⟨_, rfl⟩
      · have hu : uStep b k W = W := by simp [uStep, h3]
        simp (disch := first | omega | (simp only [sgets, reduceIte, Nat.reduceEqDiff, hJ9, hk2, h3]; done) | omega) only [cS_1, crd, z_pv_some, z_wv_some, z_cv_v, z_cv_n, cwr, sgets, rc_O, ia_n, fa_n, is_n, fs_n, ↓mI_eq, lits, nI_add, nLe, nLt, nE, mI_ne, mI_ne', mI_lt, mI_le, mI_nlt, mI_nle, ne_eq, mI_addC, pk_sub, pk_mul, pk_div, Nat.reduceEqDiff, Nat.reduceAdd, Nat.reduceMul, Nat.reduceSub, reduceIte, not_true_eq_false, not_false_eq_true, true_or, or_true, if_true, if_false, and_self, and_true, true_and, and_false, false_and, or_self, or_false, false_or, decide_true, decide_false, Bool.false_eq_true, Bool.true_eq_false, bI_t, bI_f, b178, gfs0, gfs6, gfs7, hm, h1, bI_f, hu, hJ9, hk2, h3]
        exact ⟨_, rfl⟩
    | true =>
      by_cases h2 : W.2.2.1 7 k ≤ W.1 3
      · have h2' : ¬ W.1 3 < W.2.2.1 7 k := Int32.not_lt.mpr h2
        have hu : uStep b k W = W := by simp [uStep, h1, h2']
        by_cases h3 : W.2.2.1 9 k = nI b
        · simp (disch := first | omega | (simp only [sgets, reduceIte, Nat.reduceEqDiff, hJ9, hk2, h2, h3]; done) | omega) only [cS_1, crd, z_pv_some, z_wv_some, z_cv_v, z_cv_n, cwr, sgets, rc_O, ia_n, fa_n, is_n, fs_n, ↓mI_eq, lits, nI_add, nLe, nLt, nE, mI_ne, mI_ne', mI_lt, mI_le, mI_nlt, mI_nle, ne_eq, mI_addC, pk_sub, pk_mul, pk_div, Nat.reduceEqDiff, Nat.reduceAdd, Nat.reduceMul, Nat.reduceSub, reduceIte, not_true_eq_false, not_false_eq_true, true_or, or_true, if_true, if_false, and_self, and_true, true_and, and_false, false_and, or_self, or_false, false_or, decide_true, decide_false, Bool.false_eq_true, Bool.true_eq_false, bI_t, bI_f, b178, gfs0, gfs6, gfs7, hm, h1, bI_t, hu, hJ9, hk2, h2, h3]
          exact ⟨_, rfl⟩
        · simp (disch := first | omega | (simp only [sgets, reduceIte, Nat.reduceEqDiff, hJ9, hk2, h2, h3]; done) | omega) only [cS_1, crd, z_pv_some, z_wv_some, z_cv_v, z_cv_n, cwr, sgets, rc_O, ia_n, fa_n, is_n, fs_n, ↓mI_eq, lits, nI_add, nLe, nLt, nE, mI_ne, mI_ne', mI_lt, mI_le, mI_nlt, mI_nle, ne_eq, mI_addC, pk_sub, pk_mul, pk_div, Nat.reduceEqDiff, Nat.reduceAdd, Nat.reduceMul, Nat.reduceSub, reduceIte, not_true_eq_false, not_false_eq_true, true_or, or_true, if_true, if_false, and_self, and_true, true_and, and_false, false_and, or_self, or_false, false_or, decide_true, decide_false, Bool.false_eq_true, Bool.true_eq_false, bI_t, bI_f, b178, gfs0, gfs6, gfs7, hm, h1, bI_t, hu, hJ9, hk2, h2, h3]
          exact ⟨_, rfl⟩
      · have h2' : W.1 3 < W.2.2.1 7 k := Int32.not_le.mp h2
        by_cases h3 : W.2.2.1 9 k = nI b
        · have hu : uStep b k W = dropS W k := by simp [uStep, h2', h3]
          simp (disch := first | omega | (simp only [sgets, reduceIte, Nat.reduceEqDiff, hJ9, hk2, h2, h3]; done) | omega) only [cS_1, crd, z_pv_some, z_wv_some, z_cv_v, z_cv_n, cwr, sgets, rc_O, ia_n, fa_n, is_n, fs_n, ↓mI_eq, lits, nI_add, nLe, nLt, nE, mI_ne, mI_ne', mI_lt, mI_le, mI_nlt, mI_nle, ne_eq, mI_addC, pk_sub, pk_mul, pk_div, Nat.reduceEqDiff, Nat.reduceAdd, Nat.reduceMul, Nat.reduceSub, reduceIte, not_true_eq_false, not_false_eq_true, true_or, or_true, if_true, if_false, and_self, and_true, true_and, and_false, false_and, or_self, or_false, false_or, decide_true, decide_false, Bool.false_eq_true, Bool.true_eq_false, bI_t, bI_f, b178, gfs0, gfs6, gfs7, hm, hdr, h1, bI_t, hu, hJ9, hk2, h2, h3]
          exact ⟨_, rfl⟩
        · have hu : uStep b k W = W := by simp [uStep, h3]
          simp (disch := first | omega | (simp only [sgets, reduceIte, Nat.reduceEqDiff, hJ9, hk2, h2, h3]; done) | omega) only [cS_1, crd, z_pv_some, z_wv_some, z_cv_v, z_cv_n, cwr, sgets, rc_O, ia_n, fa_n, is_n, fs_n, ↓mI_eq, lits, nI_add, nLe, nLt, nE, mI_ne, mI_ne', mI_lt, mI_le, mI_nlt, mI_nle, ne_eq, mI_addC, pk_sub, pk_mul, pk_div, Nat.reduceEqDiff, Nat.reduceAdd, Nat.reduceMul, Nat.reduceSub, reduceIte, not_true_eq_false, not_false_eq_true, true_or, or_true, if_true, if_false, and_self, and_true, true_and, and_false, false_and, or_self, or_false, false_or, decide_true, decide_false, Bool.false_eq_true, Bool.true_eq_false, bI_t, bI_f, b178, gfs0, gfs6, gfs7, hm, h1, bI_t, hu, hJ9, hk2, h2, h3]
          exact ⟨_, rfl⟩
  · intro k W hk hK
    exact hK.tr (kS_u hK.1 b k)
  · intro W j hK
    have hJ9 : W.1 9 = nI J := by rw [hK.2.1 9 (by omega) (by omega)]; exact h
    rw [q178_2]
    simp (disch := first | omega | (simp only [sgets, reduceIte, Nat.reduceEqDiff, hJ9]; done) | omega) only [cS_1, crd, z_pv_some, z_wv_some, z_cv_v, z_cv_n, cwr, sgets, rc_O, ia_n, fa_n, is_n, fs_n, ↓mI_eq, lits, nI_add, nLe, nLt, nE, mI_ne, mI_ne', mI_lt, mI_le, mI_nlt, mI_nle, ne_eq, mI_addC, pk_sub, pk_mul, pk_div, Nat.reduceEqDiff, Nat.reduceAdd, Nat.reduceMul, Nat.reduceSub, reduceIte, not_true_eq_false, not_false_eq_true, true_or, or_true, if_true, if_false, and_self, and_true, true_and, and_false, false_and, or_self, or_false, false_or, decide_true, decide_false, Bool.false_eq_true, Bool.true_eq_false, bI_t, bI_f, b178, gfs0, gfs6, Nat.le_refl, hJ9]
/-- dropSurplus -/
def quietV (W : z_V) (b J : Nat) : Int32 := quietF (fun k => decide (W.2.2.1 9 k = nI b)) (W.2.2.2 0) J
def loudV (W : z_V) (b J : Nat) : Int32 := loudF (candS W b) (W.2.2.2 0) J
def surp (b J : Nat) : Nat → z_V → z_V
  | 0, W => W
  | k + 1, W => if quietV W b J = mI then W else surp b J k (dropS W (quietV W b J).toNatClampNeg)
theorem kS_surp (b J k : Nat) {W : z_V} (h : okE W) : kS W (surp b J k W) := by
  induction k generalizing W with
  | zero => exact kS.rf h
  | succ k ih =>
    unfold surp
    split
    · exact kS.rf h
    · exact (kS_drop h _).tr (ih (kS_drop h _).1)
theorem m181 (M : z_M) (c : Nat) (V : z_V) (J S : Nat) (hJ : J ≤ 20) (h : V.1 9 = nI J) (hS : S ≤ 4) (h1 : V.1 1 = nI S) (hE : okE V) (b : Nat) : z_cl 181 [.ref c, .int (nI b)] (cS M c V) = some (none, cS M c (surp b J (cnt (fun k => decide (V.2.2.1 9 k = nI b)) J - S) V)) := by
  rw [e181]
  have hm := m182 M c V J hJ h b
  have hle := cnt_le (fun k => decide (V.2.2.1 9 k = nI b)) J
  simp (disch := first | omega | (simp only [sgets, reduceIte, Nat.reduceEqDiff]; done) | omega) only [cS_1, crd, z_pv_some, z_wv_some, z_cv_v, z_cv_n, cwr, sgets, rc_O, ia_n, fa_n, is_n, fs_n, ↓mI_eq, lits, nI_add, nLe, nLt, nE, mI_ne, mI_ne', mI_lt, mI_le, mI_nlt, mI_nle, ne_eq, mI_addC, pk_sub, pk_mul, pk_div, Nat.reduceEqDiff, Nat.reduceAdd, Nat.reduceMul, Nat.reduceSub, reduceIte, not_true_eq_false, not_false_eq_true, true_or, or_true, if_true, if_false, and_self, and_true, true_and, and_false, false_and, or_self, or_false, false_or, decide_true, decide_false, Bool.false_eq_true, Bool.true_eq_false, bI_t, bI_f, b181, hm]
  generalize hn : cnt (fun k => decide (V.2.2.1 9 k = nI b)) J = n at hle ⊢
  have key : ∀ (d : Nat) (W : z_V) (n : Nat) (j : Option Value), kS V W → n ≤ 20 → n - S = d → z_ex 181 M.1 6 [some (.ref c), some (.int (nI b)), some (.int (nI n)), j] [] (cS M c W) = some (none, cS M c (surp b J d W)) := by
    intro d
    induction d with
    | zero =>
      intro W n j hK hn20 hd
      have hS1 : W.1 1 = nI S := by rw [hK.2.1 1 (by omega) (by omega)]; exact h1
      have hle2 : n ≤ S := by omega
      rw [q181_6]
      simp (disch := first | omega | (simp only [sgets, reduceIte, Nat.reduceEqDiff, hS1, hle2]; done) | omega) only [cS_1, crd, z_pv_some, z_wv_some, z_cv_v, z_cv_n, cwr, sgets, rc_O, ia_n, fa_n, is_n, fs_n, ↓mI_eq, lits, nI_add, nLe, nLt, nE, mI_ne, mI_ne', mI_lt, mI_le, mI_nlt, mI_nle, ne_eq, mI_addC, pk_sub, pk_mul, pk_div, Nat.reduceEqDiff, Nat.reduceAdd, Nat.reduceMul, Nat.reduceSub, reduceIte, not_true_eq_false, not_false_eq_true, true_or, or_true, if_true, if_false, and_self, and_true, true_and, and_false, false_and, or_self, or_false, false_or, decide_true, decide_false, Bool.false_eq_true, Bool.true_eq_false, bI_t, bI_f, b181, gfs0, gfs7, surp, hS1, hle2]
    | succ d ih =>
      intro W n j hK hn20 hd
      have hS1 : W.1 1 = nI S := by rw [hK.2.1 1 (by omega) (by omega)]; exact h1
      have hJ9 : W.1 9 = nI J := by rw [hK.2.1 9 (by omega) (by omega)]; exact h
      have hle2 : ¬ n ≤ S := by omega
      have hq := m183 M c W J hJ hJ9 b
      rw [q181_6]
      unfold surp quietV
      rcases quietF_lt (fun k => decide (W.2.2.1 9 k = nI b)) (W.2.2.2 0) J with h0 | ⟨r, hr, h0, -⟩
      · rw [h0] at hq ⊢
        simp (disch := first | omega | (simp only [sgets, reduceIte, Nat.reduceEqDiff, hS1, hle2]; done) | omega) only [cS_1, crd, z_pv_some, z_wv_some, z_cv_v, z_cv_n, cwr, sgets, rc_O, ia_n, fa_n, is_n, fs_n, ↓mI_eq, lits, nI_add, nLe, nLt, nE, mI_ne, mI_ne', mI_lt, mI_le, mI_nlt, mI_nle, ne_eq, mI_addC, pk_sub, pk_mul, pk_div, Nat.reduceEqDiff, Nat.reduceAdd, Nat.reduceMul, Nat.reduceSub, reduceIte, not_true_eq_false, not_false_eq_true, true_or, or_true, if_true, if_false, and_self, and_true, true_and, and_false, false_and, or_self, or_false, false_or, decide_true, decide_false, Bool.false_eq_true, Bool.true_eq_false, bI_t, bI_f, b181, gfs0, gfs7, hq, hS1, hle2]
      · rw [h0] at hq ⊢
        have hdr := m180 M c W r (by omega) hK.1
        have hn0 : 0 < n := by omega
        simp (disch := first | omega | (simp only [sgets, reduceIte, Nat.reduceEqDiff, hS1, hle2]; done) | omega) only [cS_1, crd, z_pv_some, z_wv_some, z_cv_v, z_cv_n, cwr, sgets, rc_O, ia_n, fa_n, is_n, fs_n, ↓mI_eq, lits, nI_add, nLe, nLt, nE, mI_ne, mI_ne', mI_lt, mI_le, mI_nlt, mI_nle, ne_eq, mI_addC, pk_sub, pk_mul, pk_div, Nat.reduceEqDiff, Nat.reduceAdd, Nat.reduceMul, Nat.reduceSub, reduceIte, not_true_eq_false, not_false_eq_true, true_or, or_true, if_true, if_false, and_self, and_true, true_and, and_false, false_and, or_self, or_false, false_or, decide_true, decide_false, Bool.false_eq_true, Bool.true_eq_false, bI_t, bI_f, b181, gfs0, gfs7, hq, hdr, nI_clamp, hS1, hle2]
        exact ih (dropS W r) (n - 1) _ (hK.tr (kS_drop hK.1 r)) (by omega) (by omega)
  exact key (n - S) V n none (kS.rf hE) (by omega) rfl
/-- fillPlaces -/
def fillP (b J : Nat) : Nat → z_V → z_V
  | 0, W => W
  | k + 1, W => if loudV W b J = mI then W else fillP b J k (chooS W b (loudV W b J).toNatClampNeg)
theorem kS_fill (b J k : Nat) {W : z_V} (h : okE W) : kS W (fillP b J k W) := by
  induction k generalizing W with
  | zero => exact kS.rf h
  | succ k ih =>
    unfold fillP
    split
    · exact kS.rf h
    · exact (kS_choo h _ _).tr (ih (kS_choo h _ _).1)
theorem m184 (M : z_M) (c : Nat) (V : z_V) (J S : Nat) (hJ : J ≤ 20) (h : V.1 9 = nI J) (hS : S ≤ 4) (h1 : V.1 1 = nI S) (hE : okE V) (b : Nat) : z_cl 184 [.ref c, .int (nI b)] (cS M c V) = some (none, cS M c (fillP b J (S - cnt (fun k => decide (V.2.2.1 9 k = nI b)) J) V)) := by
  rw [e184]
  have hm := m182 M c V J hJ h b
  have hle := cnt_le (fun k => decide (V.2.2.1 9 k = nI b)) J
  simp (disch := first | omega | (simp only [sgets, reduceIte, Nat.reduceEqDiff]; done) | omega) only [cS_1, crd, z_pv_some, z_wv_some, z_cv_v, z_cv_n, cwr, sgets, rc_O, ia_n, fa_n, is_n, fs_n, ↓mI_eq, lits, nI_add, nLe, nLt, nE, mI_ne, mI_ne', mI_lt, mI_le, mI_nlt, mI_nle, ne_eq, mI_addC, pk_sub, pk_mul, pk_div, Nat.reduceEqDiff, Nat.reduceAdd, Nat.reduceMul, Nat.reduceSub, reduceIte, not_true_eq_false, not_false_eq_true, true_or, or_true, if_true, if_false, and_self, and_true, true_and, and_false, false_and, or_self, or_false, false_or, decide_true, decide_false, Bool.false_eq_true, Bool.true_eq_false, bI_t, bI_f, b184, hm]
  generalize hn : cnt (fun k => decide (V.2.2.1 9 k = nI b)) J = n at hle ⊢
  have key : ∀ (d : Nat) (W : z_V) (n : Nat) (j : Option Value), kS V W → n ≤ 20 → S - n = d → z_ex 184 M.1 6 [some (.ref c), some (.int (nI b)), some (.int (nI n)), j] [] (cS M c W) = some (none, cS M c (fillP b J d W)) := by
    intro d
    induction d with
    | zero =>
      intro W n j hK hn20 hd
      have hS1 : W.1 1 = nI S := by rw [hK.2.1 1 (by omega) (by omega)]; exact h1
      have hle2 : S ≤ n := by omega
      rw [q184_6]
      simp (disch := first | omega | (simp only [sgets, reduceIte, Nat.reduceEqDiff, hS1, hle2]; done) | omega) only [cS_1, crd, z_pv_some, z_wv_some, z_cv_v, z_cv_n, cwr, sgets, rc_O, ia_n, fa_n, is_n, fs_n, ↓mI_eq, lits, nI_add, nLe, nLt, nE, mI_ne, mI_ne', mI_lt, mI_le, mI_nlt, mI_nle, ne_eq, mI_addC, pk_sub, pk_mul, pk_div, Nat.reduceEqDiff, Nat.reduceAdd, Nat.reduceMul, Nat.reduceSub, reduceIte, not_true_eq_false, not_false_eq_true, true_or, or_true, if_true, if_false, and_self, and_true, true_and, and_false, false_and, or_self, or_false, false_or, decide_true, decide_false, Bool.false_eq_true, Bool.true_eq_false, bI_t, bI_f, b184, gfs0, gfs7, fillP, hS1, hle2]
    | succ d ih =>
      intro W n j hK hn20 hd
      have hS1 : W.1 1 = nI S := by rw [hK.2.1 1 (by omega) (by omega)]; exact h1
      have hJ9 : W.1 9 = nI J := by rw [hK.2.1 9 (by omega) (by omega)]; exact h
      have hle2 : ¬ S ≤ n := by omega
      have hq := m185 M c W J hJ hJ9 b
      rw [q184_6]
      unfold fillP loudV
      rcases loudF_lt (candS W b) (W.2.2.2 0) J with h0 | ⟨r, hr, h0, -⟩
      · rw [h0] at hq ⊢
        simp (disch := first | omega | (simp only [sgets, reduceIte, Nat.reduceEqDiff, hS1, hle2]; done) | omega) only [cS_1, crd, z_pv_some, z_wv_some, z_cv_v, z_cv_n, cwr, sgets, rc_O, ia_n, fa_n, is_n, fs_n, ↓mI_eq, lits, nI_add, nLe, nLt, nE, mI_ne, mI_ne', mI_lt, mI_le, mI_nlt, mI_nle, ne_eq, mI_addC, pk_sub, pk_mul, pk_div, Nat.reduceEqDiff, Nat.reduceAdd, Nat.reduceMul, Nat.reduceSub, reduceIte, not_true_eq_false, not_false_eq_true, true_or, or_true, if_true, if_false, and_self, and_true, true_and, and_false, false_and, or_self, or_false, false_or, decide_true, decide_false, Bool.false_eq_true, Bool.true_eq_false, bI_t, bI_f, b184, gfs0, gfs7, hq, hS1, hle2]
      · rw [h0] at hq ⊢
        have hdr := m186 M c W b r (by omega) hK.1
        simp (disch := first | omega | (simp only [sgets, reduceIte, Nat.reduceEqDiff, hS1, hle2]; done) | omega) only [cS_1, crd, z_pv_some, z_wv_some, z_cv_v, z_cv_n, cwr, sgets, rc_O, ia_n, fa_n, is_n, fs_n, ↓mI_eq, lits, nI_add, nLe, nLt, nE, mI_ne, mI_ne', mI_lt, mI_le, mI_nlt, mI_nle, ne_eq, mI_addC, pk_sub, pk_mul, pk_div, Nat.reduceEqDiff, Nat.reduceAdd, Nat.reduceMul, Nat.reduceSub, reduceIte, not_true_eq_false, not_false_eq_true, true_or, or_true, if_true, if_false, and_self, and_true, true_and, and_false, false_and, or_self, or_false, false_or, decide_true, decide_false, Bool.false_eq_true, Bool.true_eq_false, bI_t, bI_f, b184, gfs0, gfs7, hq, hdr, nI_clamp, hS1, hle2]
        exact ih (chooS W b r) (n + 1) _ (hK.tr (kS_choo hK.1 b r)) (by omega) (by omega)
  exact key (S - n) V n none (kS.rf hE) (by omega) rfl
/-- replaceOne -/
def repl (b J : Nat) (W : z_V) : z_V := if loudV W b J = mI ∨ quietV W b J = mI then W else
  if Op.cmpValue (FP.fcmp (W.2.2.2 0 (loudV W b J).toNatClampNeg) (hysF (W.2.2.2 0 (quietV W b J).toNatClampNeg) (W.1 2))) .l ≤ nI 0 then W else chooS (dropS W (quietV W b J).toNatClampNeg) b (loudV W b J).toNatClampNeg
theorem kS_repl (b J : Nat) {W : z_V} (h : okE W) : kS W (repl b J W) := by
  unfold repl
  split
  · exact kS.rf h
  · split
    · exact kS.rf h
    · exact (kS_drop h _).tr (kS_choo (kS_drop h _).1 _ _)
theorem m187 (M : z_M) (c : Nat) (V : z_V) (J Hy : Nat) (hJ : J ≤ 20) (h : V.1 9 = nI J) (hH : Hy ≤ 16) (h2 : V.1 2 = nI Hy) (hE : okE V) (hd : ldOk V) (b : Nat) : z_cl 187 [.ref c, .int (nI b)] (cS M c V) = some (none, cS M c (repl b J V)) := by
  rw [e187]
  have hm := m185 M c V J hJ h b
  have hq := m183 M c V J hJ h b
  unfold repl loudV quietV
  rcases loudF_lt (candS V b) (V.2.2.2 0) J with h0 | ⟨r, hr, h0, -⟩
  · rw [h0] at hm ⊢
    simp (disch := first | omega | (simp only [sgets, reduceIte, Nat.reduceEqDiff]; done) | omega) only [cS_1, crd, z_pv_some, z_wv_some, z_cv_v, z_cv_n, cwr, sgets, rc_O, ia_n, fa_n, is_n, fs_n, ↓mI_eq, lits, nI_add, nLe, nLt, nE, mI_ne, mI_ne', mI_lt, mI_le, mI_nlt, mI_nle, ne_eq, mI_addC, pk_sub, pk_mul, pk_div, Nat.reduceEqDiff, Nat.reduceAdd, Nat.reduceMul, Nat.reduceSub, reduceIte, not_true_eq_false, not_false_eq_true, true_or, or_true, if_true, if_false, and_self, and_true, true_and, and_false, false_and, or_self, or_false, false_or, decide_true, decide_false, Bool.false_eq_true, Bool.true_eq_false, bI_t, bI_f, b187, hm, hq]
  · rw [h0] at hm ⊢
    rcases quietF_lt (fun k => decide (V.2.2.1 9 k = nI b)) (V.2.2.2 0) J with h3 | ⟨t, ht, h3, -⟩
    · rw [h3] at hq ⊢
      simp (disch := first | omega | (simp only [sgets, reduceIte, Nat.reduceEqDiff]; done) | omega) only [cS_1, crd, z_pv_some, z_wv_some, z_cv_v, z_cv_n, cwr, sgets, rc_O, ia_n, fa_n, is_n, fs_n, ↓mI_eq, lits, nI_add, nLe, nLt, nE, mI_ne, mI_ne', mI_lt, mI_le, mI_nlt, mI_nle, ne_eq, mI_addC, pk_sub, pk_mul, pk_div, Nat.reduceEqDiff, Nat.reduceAdd, Nat.reduceMul, Nat.reduceSub, reduceIte, not_true_eq_false, not_false_eq_true, true_or, or_true, if_true, if_false, and_self, and_true, true_and, and_false, false_and, or_self, or_false, false_or, decide_true, decide_false, Bool.false_eq_true, Bool.true_eq_false, bI_t, bI_f, b187, hm, hq]
    · rw [h3] at hq ⊢
      have hdr := m180 M c V t (by omega) hE
      have hch := m186 M c (dropS V t) b r (by omega) (kS_drop hE t).1
      obtain ⟨n1, n2⟩ := hysF_ok (hd t (by omega)) hH
      unfold hysF at n2 ⊢
      by_cases hc : Op.cmpValue (FP.fcmp (V.2.2.2 0 r) (FP.fdiv (FP.fmul (V.2.2.2 0 t) (FP.i2f (nI Hy))) 1082130432)) .l ≤ nI 0
      · simp (disch := first | omega | (simp only [sgets, reduceIte, Nat.reduceEqDiff, h2, hc]; done) | omega) only [cS_1, crd, z_pv_some, z_wv_some, z_cv_v, z_cv_n, cwr, sgets, rc_O, ia_n, fa_n, is_n, fs_n, ↓mI_eq, lits, nI_add, nLe, nLt, nE, mI_ne, mI_ne', mI_lt, mI_le, mI_nlt, mI_nle, ne_eq, mI_addC, pk_sub, pk_mul, pk_div, Nat.reduceEqDiff, Nat.reduceAdd, Nat.reduceMul, Nat.reduceSub, reduceIte, not_true_eq_false, not_false_eq_true, true_or, or_true, if_true, if_false, and_self, and_true, true_and, and_false, false_and, or_self, or_false, false_or, decide_true, decide_false, Bool.false_eq_true, Bool.true_eq_false, bI_t, bI_f, b187, gfs0, gfs6, gfs7, hm, hq, n1, n2, nI_clamp, or_self, h2, hc]
      · simp (disch := first | omega | (simp only [sgets, reduceIte, Nat.reduceEqDiff, h2, hc]; done) | omega) only [cS_1, crd, z_pv_some, z_wv_some, z_cv_v, z_cv_n, cwr, sgets, rc_O, ia_n, fa_n, is_n, fs_n, ↓mI_eq, lits, nI_add, nLe, nLt, nE, mI_ne, mI_ne', mI_lt, mI_le, mI_nlt, mI_nle, ne_eq, mI_addC, pk_sub, pk_mul, pk_div, Nat.reduceEqDiff, Nat.reduceAdd, Nat.reduceMul, Nat.reduceSub, reduceIte, not_true_eq_false, not_false_eq_true, true_or, or_true, if_true, if_false, and_self, and_true, true_and, and_false, false_and, or_self, or_false, false_or, decide_true, decide_false, Bool.false_eq_true, Bool.true_eq_false, bI_t, bI_f, b187, gfs0, gfs6, gfs7, hm, hq, n1, n2, hdr, hch, nI_clamp, or_self, h2, hc]
/-- countTalk -/
def talkS (b p : Nat) (W : z_V) : z_V := if W.2.2.1 9 p = nI b then sA W 8 (upd (W.2.2.1 8) p (W.2.2.1 8 p + nI 1)) else W
theorem kS_talk {W : z_V} (h : okE W) (b p : Nat) : kS W (talkS b p W) := by
  unfold talkS
  split
  · refine ⟨okE_sA h _ _, fun _ _ _ => rfl, rfl, fun i a b d => ?_, rfl⟩
    simp only [sgets, d, if_false]
  · exact kS.rf h
theorem m188 (M : z_M) (c : Nat) (V : z_V) (J : Nat) (hJ : J ≤ 20) (h : V.1 9 = nI J) (hE : okE V) (b : Nat) : z_cl 188 [.ref c, .int (nI b)] (cS M c V) = some (none, cS M c (it (talkS b) J V)) ∧ kS V (it (talkS b) J V) := by
  rw [e188]
  simp (disch := first | omega | (simp only [sgets, reduceIte, Nat.reduceEqDiff]; done) | omega) only [cS_1, crd, z_pv_some, z_wv_some, z_cv_v, z_cv_n, cwr, sgets, rc_O, ia_n, fa_n, is_n, fs_n, ↓mI_eq, lits, nI_add, nLe, nLt, nE, mI_ne, mI_ne', mI_lt, mI_le, mI_nlt, mI_nle, ne_eq, mI_addC, pk_sub, pk_mul, pk_div, Nat.reduceEqDiff, Nat.reduceAdd, Nat.reduceMul, Nat.reduceSub, reduceIte, not_true_eq_false, not_false_eq_true, true_or, or_true, if_true, if_false, and_self, and_true, true_and, and_false, false_and, or_self, or_false, false_or, decide_true, decide_false, Bool.false_eq_true, Bool.true_eq_false, bI_t, bI_f, b188]
  refine lp_for (fun k (W : z_V) (_ : Unit) => z_ex 188 M.1 2 [some (.ref c), some (.int (nI b)), some (.int (nI k))] [] (cS M c W)) (talkS b) (fun _ W => kS V W) J (fun W => some (none, cS M c W)) ?_ ?_ ?_ V () (kS.rf hE)
  · intro k W j hk hK
    have hk2 : ¬ J ≤ k := by omega
    have hJ9 : W.1 9 = nI J := by rw [hK.2.1 9 (by omega) (by omega)]; exact h
    rw [q188_2]
    by_cases h3 : W.2.2.1 9 k = nI b
    · have hu : talkS b k W = sA W 8 (upd (W.2.2.1 8) k (W.2.2.1 8 k + nI 1)) := by simp [talkS, h3]
      simp (disch := first | omega | (simp only [sgets, reduceIte, Nat.reduceEqDiff, hJ9, hk2, h3]; done) | omega) only [cS_1, crd, z_pv_some, z_wv_some, z_cv_v, z_cv_n, cwr, sgets, rc_O, ia_n, fa_n, is_n, fs_n, ↓mI_eq, lits, nI_add, nLe, nLt, nE, mI_ne, mI_ne', mI_lt, mI_le, mI_nlt, mI_nle, ne_eq, mI_addC, pk_sub, pk_mul, pk_div, Nat.reduceEqDiff, Nat.reduceAdd, Nat.reduceMul, Nat.reduceSub, reduceIte, not_true_eq_false, not_false_eq_true, true_or, or_true, if_true, if_false, and_self, and_true, true_and, and_false, false_and, or_self, or_false, false_or, decide_true, decide_false, Bool.false_eq_true, Bool.true_eq_false, bI_t, bI_f, b188, gfs0, gfs6, hu, hJ9, hk2, h3]
      exact ⟨(), trivial⟩
    · have hu : talkS b k W = W := by simp [talkS, h3]
      simp (disch := first | omega | (simp only [sgets, reduceIte, Nat.reduceEqDiff, hJ9, hk2, h3]; done) | omega) only [cS_1, crd, z_pv_some, z_wv_some, z_cv_v, z_cv_n, cwr, sgets, rc_O, ia_n, fa_n, is_n, fs_n, ↓mI_eq, lits, nI_add, nLe, nLt, nE, mI_ne, mI_ne', mI_lt, mI_le, mI_nlt, mI_nle, ne_eq, mI_addC, pk_sub, pk_mul, pk_div, Nat.reduceEqDiff, Nat.reduceAdd, Nat.reduceMul, Nat.reduceSub, reduceIte, not_true_eq_false, not_false_eq_true, true_or, or_true, if_true, if_false, and_self, and_true, true_and, and_false, false_and, or_self, or_false, false_or, decide_true, decide_false, Bool.false_eq_true, Bool.true_eq_false, bI_t, bI_f, b188, gfs0, gfs6, hu, hJ9, hk2, h3]
      exact ⟨(), trivial⟩
  · intro k W hk hK
    exact hK.tr (kS_talk hK.1 b k)
  · intro W j hK
    have hJ9 : W.1 9 = nI J := by rw [hK.2.1 9 (by omega) (by omega)]; exact h
    rw [q188_2]
    simp (disch := first | omega | (simp only [sgets, reduceIte, Nat.reduceEqDiff, hJ9]; done) | omega) only [cS_1, crd, z_pv_some, z_wv_some, z_cv_v, z_cv_n, cwr, sgets, rc_O, ia_n, fa_n, is_n, fs_n, ↓mI_eq, lits, nI_add, nLe, nLt, nE, mI_ne, mI_ne', mI_lt, mI_le, mI_nlt, mI_nle, ne_eq, mI_addC, pk_sub, pk_mul, pk_div, Nat.reduceEqDiff, Nat.reduceAdd, Nat.reduceMul, Nat.reduceSub, reduceIte, not_true_eq_false, not_false_eq_true, true_or, or_true, if_true, if_false, and_self, and_true, true_and, and_false, false_and, or_self, or_false, false_or, decide_true, decide_false, Bool.false_eq_true, Bool.true_eq_false, bI_t, bI_f, b188, gfs0, gfs6, Nat.le_refl, hJ9]
/-- a bridge selects -/
def selB (J S b : Nat) (W : z_V) : z_V :=
  it (talkS b) J (repl b J (fillP b J (S - cnt (fun k => decide ((surp b J (cnt (fun k => decide ((it (uStep b) J W).2.2.1 9 k = nI b)) J - S) (it (uStep b) J W)).2.2.1 9 k = nI b)) J) (surp b J (cnt (fun k => decide ((it (uStep b) J W).2.2.1 9 k = nI b)) J - S) (it (uStep b) J W))))
theorem m177 (M : z_M) (c : Nat) (V : z_V) (J S Hy B : Nat) (hJ : J ≤ 20) (h : V.1 9 = nI J) (hS : S ≤ 4) (h1 : V.1 1 = nI S) (hH : Hy ≤ 16) (h2 : V.1 2 = nI Hy) (hB : B ≤ 8) (h8 : V.1 8 = nI B) (hE : okE V) (hd : ldOk V) : z_cl 177 [.ref c] (cS M c V) = some (none, cS M c (it (selB J S) B V)) ∧ kS V (it (selB J S) B V) := by
  rw [e177]
  simp (disch := first | omega | (simp only [sgets, reduceIte, Nat.reduceEqDiff]; done) | omega) only [cS_1, crd, z_pv_some, z_wv_some, z_cv_v, z_cv_n, cwr, sgets, rc_O, ia_n, fa_n, is_n, fs_n, ↓mI_eq, lits, nI_add, nLe, nLt, nE, mI_ne, mI_ne', mI_lt, mI_le, mI_nlt, mI_nle, ne_eq, mI_addC, pk_sub, pk_mul, pk_div, Nat.reduceEqDiff, Nat.reduceAdd, Nat.reduceMul, Nat.reduceSub, reduceIte, not_true_eq_false, not_false_eq_true, true_or, or_true, if_true, if_false, and_self, and_true, true_and, and_false, false_and, or_self, or_false, false_or, decide_true, decide_false, Bool.false_eq_true, Bool.true_eq_false, bI_t, bI_f, b177]
  have stp : ∀ (W : z_V) (b : Nat), kS V W → ∃ W1, it (uStep b) J W = W1 ∧ z_cl 178 [.ref c, .int (nI b)] (cS M c W) = some (none, cS M c W1) ∧ kS V W1 := by
    intro W b hK
    have hJ9 : W.1 9 = nI J := by rw [hK.2.1 9 (by omega) (by omega)]; exact h
    obtain ⟨e1, e2⟩ := m178 M c W J hJ hJ9 hK.1 b
    exact ⟨_, rfl, e1, hK.tr e2⟩
  refine lp_for (fun k (W : z_V) (_ : Unit) => z_ex 177 M.1 2 [some (.ref c), some (.int (nI k))] [] (cS M c W)) (selB J S) (fun _ W => kS V W) B (fun W => some (none, cS M c W)) ?_ ?_ ?_ V () (kS.rf hE)
  · intro k W j hk hK
    have hk2 : ¬ B ≤ k := by omega
    have hB8 : W.1 8 = nI B := by rw [hK.2.1 8 (by omega) (by omega)]; exact h8
    obtain ⟨W1, w1, c1, k1⟩ := stp W k hK
    have hv : ∀ X, kS V X → X.1 9 = nI J ∧ X.1 1 = nI S ∧ X.1 2 = nI Hy ∧ ldOk X := fun X hX => ⟨by rw [hX.2.1 9 (by omega) (by omega)]; exact h, by rw [hX.2.1 1 (by omega) (by omega)]; exact h1, by rw [hX.2.1 2 (by omega) (by omega)]; exact h2, fun p hp => by rw [hX.2.2.2.2]; exact hd p hp⟩
    obtain ⟨a1, a2, a3, a4⟩ := hv W1 k1
    have c2 := m181 M c W1 J S hJ a1 hS a2 k1.1 k
    have k2 := k1.tr (kS_surp k J (cnt (fun i => decide (W1.2.2.1 9 i = nI k)) J - S) k1.1)
    unfold selB
    rw [w1]
    generalize hW2 : surp k J (cnt (fun i => decide (W1.2.2.1 9 i = nI k)) J - S) W1 = W2 at c2 k2 ⊢
    obtain ⟨b1, b2, b3, b4⟩ := hv W2 k2
    have c3 := m184 M c W2 J S hJ b1 hS b2 k2.1 k
    have k3 := k2.tr (kS_fill k J (S - cnt (fun i => decide (W2.2.2.1 9 i = nI k)) J) k2.1)
    generalize hW3 : fillP k J (S - cnt (fun i => decide (W2.2.2.1 9 i = nI k)) J) W2 = W3 at c3 k3 ⊢
    obtain ⟨d1, d2, d3, d4⟩ := hv W3 k3
    have c4 := m187 M c W3 J Hy hJ d1 hH d3 k3.1 d4 k
    have k4 := k3.tr (kS_repl k J k3.1)
    generalize hW4 : repl k J W3 = W4 at c4 k4 ⊢
    obtain ⟨f1, f2, f3, f4⟩ := hv W4 k4
    obtain ⟨c5, k5⟩ := m188 M c W4 J hJ f1 k4.1 k
    rw [q177_2]
    simp (disch := first | omega | (simp only [sgets, reduceIte, Nat.reduceEqDiff, hB8, hk2]; done) | omega) only [cS_1, crd, z_pv_some, z_wv_some, z_cv_v, z_cv_n, cwr, sgets, rc_O, ia_n, fa_n, is_n, fs_n, ↓mI_eq, lits, nI_add, nLe, nLt, nE, mI_ne, mI_ne', mI_lt, mI_le, mI_nlt, mI_nle, ne_eq, mI_addC, pk_sub, pk_mul, pk_div, Nat.reduceEqDiff, Nat.reduceAdd, Nat.reduceMul, Nat.reduceSub, reduceIte, not_true_eq_false, not_false_eq_true, true_or, or_true, if_true, if_false, and_self, and_true, true_and, and_false, false_and, or_self, or_false, false_or, decide_true, decide_false, Bool.false_eq_true, Bool.true_eq_false, bI_t, bI_f, b177, gfs0, gfs9, c1, c2, c3, c4, c5, hB8, hk2]
    exact ⟨(), trivial⟩
  · intro k W hk hK
    obtain ⟨W1, w1, c1, k1⟩ := stp W k hK
    have hv : ∀ X, kS V X → X.1 9 = nI J := fun X hX => by rw [hX.2.1 9 (by omega) (by omega)]; exact h
    unfold selB
    rw [w1]
    have k2 := k1.tr (kS_surp k J (cnt (fun i => decide (W1.2.2.1 9 i = nI k)) J - S) k1.1)
    generalize hW2 : surp k J (cnt (fun i => decide (W1.2.2.1 9 i = nI k)) J - S) W1 = W2 at k2 ⊢
    have k3 := k2.tr (kS_fill k J (S - cnt (fun i => decide (W2.2.2.1 9 i = nI k)) J) k2.1)
    generalize hW3 : fillP k J (S - cnt (fun i => decide (W2.2.2.1 9 i = nI k)) J) W2 = W3 at k3 ⊢
    have k4 := k3.tr (kS_repl k J k3.1)
    generalize hW4 : repl k J W3 = W4 at k4 ⊢
    exact k4.tr (m188 M c W4 J hJ (hv W4 k4) k4.1 k).2
  · intro W j hK
    have hB8 : W.1 8 = nI B := by rw [hK.2.1 8 (by omega) (by omega)]; exact h8
    rw [q177_2]
    simp (disch := first | omega | (simp only [sgets, reduceIte, Nat.reduceEqDiff, hB8]; done) | omega) only [cS_1, crd, z_pv_some, z_wv_some, z_cv_v, z_cv_n, cwr, sgets, rc_O, ia_n, fa_n, is_n, fs_n, ↓mI_eq, lits, nI_add, nLe, nLt, nE, mI_ne, mI_ne', mI_lt, mI_le, mI_nlt, mI_nle, ne_eq, mI_addC, pk_sub, pk_mul, pk_div, Nat.reduceEqDiff, Nat.reduceAdd, Nat.reduceMul, Nat.reduceSub, reduceIte, not_true_eq_false, not_false_eq_true, true_or, or_true, if_true, if_false, and_self, and_true, true_and, and_false, false_and, or_self, or_false, false_or, decide_true, decide_false, Bool.false_eq_true, Bool.true_eq_false, bI_t, bI_f, b177, gfs0, gfs9, Nat.le_refl, hB8]
