/-! Selection -/
theorem evAdd_S (V : z_V) (x y z : Int32) (i : Nat) (h1 : i ≠ 12) (h2 : i ≠ 13) : (evAdd V x y z).1 i = V.1 i := by
  unfold evAdd
  simp only [sgets, h1, h2, if_false]
theorem evAdd_T (V : z_V) (x y z : Int32) : (evAdd V x y z).2.1 = V.2.1 := rfl
theorem evAdd_A (V : z_V) (x y z : Int32) (i : Nat) (h : i < 19) : (evAdd V x y z).2.2.1 i = V.2.2.1 i := by
  unfold evAdd
  have h1 : i ≠ 19 := by omega
  have h2 : i ≠ 20 := by omega
  have h3 : i ≠ 21 := by omega
  simp only [sgets, h1, h2, h3, if_false]
theorem evAdd_F (V : z_V) (x y z : Int32) : (evAdd V x y z).2.2.2 = V.2.2.2 := rfl
def okE (V : z_V) : Prop := ∃ N K, N < 30 ∧ K ≤ 30 ∧ V.1 13 = nI N ∧ V.1 12 = nI K
theorem okE_ev {V : z_V} (h : okE V) (x y z : Int32) : okE (evAdd V x y z) := by
  obtain ⟨N, K, hN, hK, h1, h2⟩ := h
  refine ⟨if 30 ≤ N + 1 then 0 else N + 1, if 30 ≤ K then 30 else K + 1, by split <;> omega, by split <;> omega, ?_, ?_⟩
  · unfold evAdd
    rw [nV_of h1 (by omega)]
    simp only [sgets, Nat.reduceEqDiff, if_true, if_false]
  · unfold evAdd
    rw [nV_of h2 (by omega)]
    simp only [sgets, if_true]
theorem m17e (M : z_M) (c : Nat) (V : z_V) (x y z : Int32) (h : okE V) : z_cl 17 [.ref (c + 28), .int x, .int y, .int z] (cS M c V) = some (none, cS M c (evAdd V x y z)) := by
  obtain ⟨N, K, hN, hK, h1, h2⟩ := h
  exact m17 M c V x y z N K hN hK h1 h2
/-- maySpeak -/
def mayS (V : z_V) (b p : Nat) : Bool := decide (V.2.2.1 3 p = nI b ∧ V.2.2.1 6 p = nI 0 ∧ (V.1 4 = nI 0 ∨ V.2.2.1 13 p = nI 1))
theorem m179 (M : z_M) (c : Nat) (V : z_V) (b p : Nat) (hp : p < 20) : z_cl 179 [.ref c, .int (nI b), .int (nI p)] (cS M c V) = some (some (.int (bI (mayS V b p))), cS M c V) := by
  rw [e179]
  unfold mayS
  simp (disch := first | omega | (simp only [sgets, reduceIte, Nat.reduceEqDiff]; done) | omega) only [cS_1, crd, z_pv_some, z_wv_some, z_cv_v, z_cv_n, cwr, sgets, rc_O, ia_n, fa_n, is_n, fs_n, ↓mI_eq, lits, nI_add, nLe, nLt, nE, mI_ne, mI_ne', mI_lt, mI_le, mI_nlt, mI_nle, ne_eq, mI_addC, pk_sub, pk_mul, pk_div, Nat.reduceEqDiff, Nat.reduceAdd, Nat.reduceMul, Nat.reduceSub, reduceIte, not_true_eq_false, not_false_eq_true, true_or, or_true, if_true, if_false, and_self, and_true, true_and, and_false, false_and, or_self, or_false, false_or, decide_true, decide_false, Bool.false_eq_true, Bool.true_eq_false, bI_t, bI_f, b179, gfs0, gfs6, gfs7, gfs2]
  by_cases h1 : V.2.2.1 3 p = nI b <;> by_cases h2 : V.2.2.1 6 p = nI 0 <;> by_cases h3 : V.1 4 = nI 0 <;> by_cases h4 : V.2.2.1 13 p = nI 1 <;> simp [h1, h2, h3, h4, bI_t, bI_f] <;> decide
/-- drop, choose -/
def dropS (V : z_V) (p : Nat) : z_V := evAdd (sA V 9 (upd (V.2.2.1 9) p mI)) (nI 5) (nI p) (V.1 0)
def chooS (V : z_V) (b p : Nat) : z_V := evAdd (sA V 9 (upd (V.2.2.1 9) p (nI b))) (nI 1) (nI p) (V.1 0)
theorem okE_sA {V : z_V} (h : okE V) (i : Nat) (f : Nat → Int32) : okE (sA V i f) := h
theorem m180 (M : z_M) (c : Nat) (V : z_V) (p : Nat) (hp : p < 20) (h : okE V) : z_cl 180 [.ref c, .int (nI p)] (cS M c V) = some (none, cS M c (dropS V p)) := by
  rw [e180]
  have he := m17e M c (sA V 9 (upd (V.2.2.1 9) p mI)) (nI 5) (nI p) (V.1 0) (okE_sA h _ _)
  simp (disch := first | omega | (simp only [sgets, reduceIte, Nat.reduceEqDiff]; done) | omega) only [cS_1, crd, z_pv_some, z_wv_some, z_cv_v, z_cv_n, cwr, sgets, rc_O, ia_n, fa_n, is_n, fs_n, ↓mI_eq, lits, nI_add, nLe, nLt, nE, mI_ne, mI_ne', mI_lt, mI_le, mI_nlt, mI_nle, ne_eq, mI_addC, pk_sub, pk_mul, pk_div, Nat.reduceEqDiff, Nat.reduceAdd, Nat.reduceMul, Nat.reduceSub, reduceIte, not_true_eq_false, not_false_eq_true, true_or, or_true, if_true, if_false, and_self, and_true, true_and, and_false, false_and, or_self, or_false, false_or, decide_true, decide_false, Bool.false_eq_true, Bool.true_eq_false, bI_t, bI_f, b180, gfs0, gfs6, he]
  rfl
theorem m186 (M : z_M) (c : Nat) (V : z_V) (b p : Nat) (hp : p < 20) (h : okE V) : z_cl 186 [.ref c, .int (nI b), .int (nI p)] (cS M c V) = some (none, cS M c (chooS V b p)) := by
  rw [e186]
  have he := m17e M c (sA V 9 (upd (V.2.2.1 9) p (nI b))) (nI 1) (nI p) (V.1 0) (okE_sA h _ _)
  simp (disch := first | omega | (simp only [sgets, reduceIte, Nat.reduceEqDiff]; done) | omega) only [cS_1, crd, z_pv_some, z_wv_some, z_cv_v, z_cv_n, cwr, sgets, rc_O, ia_n, fa_n, is_n, fs_n, ↓mI_eq, lits, nI_add, nLe, nLt, nE, mI_ne, mI_ne', mI_lt, mI_le, mI_nlt, mI_nle, ne_eq, mI_addC, pk_sub, pk_mul, pk_div, Nat.reduceEqDiff, Nat.reduceAdd, Nat.reduceMul, Nat.reduceSub, reduceIte, not_true_eq_false, not_false_eq_true, true_or, or_true, if_true, if_false, and_self, and_true, true_and, and_false, false_and, or_self, or_false, false_or, decide_true, decide_false, Bool.false_eq_true, Bool.true_eq_false, bI_t, bI_f, b186, gfs0, gfs6, he]
  rfl
/-- speakersOf -/
theorem m182 (M : z_M) (c : Nat) (V : z_V) (J : Nat) (hJ : J ≤ 20) (h : V.1 9 = nI J) (b : Nat) : z_cl 182 [.ref c, .int (nI b)] (cS M c V) = some (some (.int (nI (cnt (fun k => decide (V.2.2.1 9 k = nI b)) J))), cS M c V) := by
  rw [e182]
  simp (disch := first | omega | (simp only [sgets, reduceIte, Nat.reduceEqDiff]; done) | omega) only [cS_1, crd, z_pv_some, z_wv_some, z_cv_v, z_cv_n, cwr, sgets, rc_O, ia_n, fa_n, is_n, fs_n, ↓mI_eq, lits, nI_add, nLe, nLt, nE, mI_ne, mI_ne', mI_lt, mI_le, mI_nlt, mI_nle, ne_eq, mI_addC, pk_sub, pk_mul, pk_div, Nat.reduceEqDiff, Nat.reduceAdd, Nat.reduceMul, Nat.reduceSub, reduceIte, not_true_eq_false, not_false_eq_true, true_or, or_true, if_true, if_false, and_self, and_true, true_and, and_false, false_and, or_self, or_false, false_or, decide_true, decide_false, Bool.false_eq_true, Bool.true_eq_false, bI_t, bI_f, b182]
  have hl := it_run (fun k n => z_ex 182 M.1 4 [some (.ref c), some (.int (nI b)), some (.int (nI n)), some (.int (nI k))] [] (cS M c V)) (fun k s => s + if decide (V.2.2.1 9 k = nI b) = true then 1 else 0) J 0 (by
    intro k n hk
    have hk2 : ¬ J ≤ k := by omega
    rw [q182_4]
    simp (disch := first | omega | (simp only [sgets, reduceIte, Nat.reduceEqDiff, h, hk2]; done) | omega) only [cS_1, crd, z_pv_some, z_wv_some, z_cv_v, z_cv_n, cwr, sgets, rc_O, ia_n, fa_n, is_n, fs_n, ↓mI_eq, lits, nI_add, nLe, nLt, nE, mI_ne, mI_ne', mI_lt, mI_le, mI_nlt, mI_nle, ne_eq, mI_addC, pk_sub, pk_mul, pk_div, Nat.reduceEqDiff, Nat.reduceAdd, Nat.reduceMul, Nat.reduceSub, reduceIte, not_true_eq_false, not_false_eq_true, true_or, or_true, if_true, if_false, and_self, and_true, true_and, and_false, false_and, or_self, or_false, false_or, decide_true, decide_false, Bool.false_eq_true, Bool.true_eq_false, bI_t, bI_f, b182, gfs0, gfs6, h, hk2]
    by_cases h1 : V.2.2.1 9 k = nI b <;> simp [h1])
  refine hl.trans ?_
  rw [q182_4]
  simp (disch := first | omega | (simp only [sgets, reduceIte, Nat.reduceEqDiff, h]; done) | omega) only [cS_1, crd, z_pv_some, z_wv_some, z_cv_v, z_cv_n, cwr, sgets, rc_O, ia_n, fa_n, is_n, fs_n, ↓mI_eq, lits, nI_add, nLe, nLt, nE, mI_ne, mI_ne', mI_lt, mI_le, mI_nlt, mI_nle, ne_eq, mI_addC, pk_sub, pk_mul, pk_div, Nat.reduceEqDiff, Nat.reduceAdd, Nat.reduceMul, Nat.reduceSub, reduceIte, not_true_eq_false, not_false_eq_true, true_or, or_true, if_true, if_false, and_self, and_true, true_and, and_false, false_and, or_self, or_false, false_or, decide_true, decide_false, Bool.false_eq_true, Bool.true_eq_false, bI_t, bI_f, b182, gfs0, gfs6, Nat.le_refl, h]
  rfl
/-- the quietest of those with P, of several the last one -/
def quietF (P : Nat → Bool) (lo : Nat → UInt32) (n : Nat) : Int32 := it (fun k f => if P k = true ∧ (f = mI ∨ Op.cmpValue (FP.fcmp (lo k) (lo f.toNatClampNeg)) .g ≤ nI 0) then nI k else f) n mI
/-- the loudest of those with P, of several the first one -/
def loudF (P : Nat → Bool) (lo : Nat → UInt32) (n : Nat) : Int32 := it (fun k f => if P k = true ∧ (f = mI ∨ nI 0 < Op.cmpValue (FP.fcmp (lo k) (lo f.toNatClampNeg)) .l) then nI k else f) n mI
theorem quietF_lt (P : Nat → Bool) (lo : Nat → UInt32) (n : Nat) : quietF P lo n = mI ∨ ∃ k, k < n ∧ quietF P lo n = nI k ∧ P k = true := by
  induction n with
  | zero => exact Or.inl rfl
  | succ n ih =>
    have e : quietF P lo (n + 1) = if P n = true ∧ (quietF P lo n = mI ∨ Op.cmpValue (FP.fcmp (lo n) (lo (quietF P lo n).toNatClampNeg)) .g ≤ nI 0) then nI n else quietF P lo n := rfl
    rw [e]
    split
    · rename_i hc
      exact Or.inr ⟨n, by omega, rfl, hc.1⟩
    · rcases ih with h | ⟨k, hk, h, hp⟩
      · exact Or.inl h
      · exact Or.inr ⟨k, by omega, h, hp⟩
theorem loudF_lt (P : Nat → Bool) (lo : Nat → UInt32) (n : Nat) : loudF P lo n = mI ∨ ∃ k, k < n ∧ loudF P lo n = nI k ∧ P k = true := by
  induction n with
  | zero => exact Or.inl rfl
  | succ n ih =>
    have e : loudF P lo (n + 1) = if P n = true ∧ (loudF P lo n = mI ∨ nI 0 < Op.cmpValue (FP.fcmp (lo n) (lo (loudF P lo n).toNatClampNeg)) .l) then nI n else loudF P lo n := rfl
    rw [e]
    split
    · rename_i hc
      exact Or.inr ⟨n, by omega, rfl, hc.1⟩
    · rcases ih with h | ⟨k, hk, h, hp⟩
      · exact Or.inl h
      · exact Or.inr ⟨k, by omega, h, hp⟩
theorem m183 (M : z_M) (c : Nat) (V : z_V) (J : Nat) (hJ : J ≤ 20) (h : V.1 9 = nI J) (b : Nat) : z_cl 183 [.ref c, .int (nI b)] (cS M c V) = some (some (.int (quietF (fun k => decide (V.2.2.1 9 k = nI b)) (V.2.2.2 0) J)), cS M c V) := by
  rw [e183]
  simp (disch := first | omega | (simp only [sgets, reduceIte, Nat.reduceEqDiff]; done) | omega) only [cS_1, crd, z_pv_some, z_wv_some, z_cv_v, z_cv_n, cwr, sgets, rc_O, ia_n, fa_n, is_n, fs_n, ↓mI_eq, lits, nI_add, nLe, nLt, nE, mI_ne, mI_ne', mI_lt, mI_le, mI_nlt, mI_nle, ne_eq, mI_addC, pk_sub, pk_mul, pk_div, Nat.reduceEqDiff, Nat.reduceAdd, Nat.reduceMul, Nat.reduceSub, reduceIte, not_true_eq_false, not_false_eq_true, true_or, or_true, if_true, if_false, and_self, and_true, true_and, and_false, false_and, or_self, or_false, false_or, decide_true, decide_false, Bool.false_eq_true, Bool.true_eq_false, bI_t, bI_f, b183, gfs0, gfs6]
  refine (it_for (fun k f => z_ex 183 M.1 13 [some (.ref c), some (.int (nI b)), some (.ref (c + 11)), some (.int f), some (.int (nI k))] [] (cS M c V)) (fun k f => if decide (V.2.2.1 9 k = nI b) = true ∧ (f = mI ∨ Op.cmpValue (FP.fcmp (V.2.2.2 0 k) (V.2.2.2 0 f.toNatClampNeg)) .g ≤ nI 0) then nI k else f) (fun k f => f = mI ∨ ∃ r, r < k ∧ f = nI r) J ?_ mI (Or.inl rfl) J (Nat.le_refl J)).1.trans ?_
  · intro k f hk hf
    have hk2 : ¬ J ≤ k := by omega
    constructor
    · rw [q183_13]
      rcases hf with rfl | ⟨r, hr, rfl⟩
      · simp (disch := first | omega | (simp only [sgets, reduceIte, Nat.reduceEqDiff, h, hk2]; done) | omega) only [cS_1, crd, z_pv_some, z_wv_some, z_cv_v, z_cv_n, cwr, sgets, rc_O, ia_n, fa_n, is_n, fs_n, ↓mI_eq, lits, nI_add, nLe, nLt, nE, mI_ne, mI_ne', mI_lt, mI_le, mI_nlt, mI_nle, ne_eq, mI_addC, pk_sub, pk_mul, pk_div, Nat.reduceEqDiff, Nat.reduceAdd, Nat.reduceMul, Nat.reduceSub, reduceIte, not_true_eq_false, not_false_eq_true, true_or, or_true, if_true, if_false, and_self, and_true, true_and, and_false, false_and, or_self, or_false, false_or, decide_true, decide_false, Bool.false_eq_true, Bool.true_eq_false, bI_t, bI_f, b183, gfs0, gfs6, true_or, and_true, h, hk2]
        by_cases h1 : V.2.2.1 9 k = nI b <;> simp [h1]
      · simp (disch := first | omega | (simp only [sgets, reduceIte, Nat.reduceEqDiff, h, hk2]; done) | omega) only [cS_1, crd, z_pv_some, z_wv_some, z_cv_v, z_cv_n, cwr, sgets, rc_O, ia_n, fa_n, is_n, fs_n, ↓mI_eq, lits, nI_add, nLe, nLt, nE, mI_ne, mI_ne', mI_lt, mI_le, mI_nlt, mI_nle, ne_eq, mI_addC, pk_sub, pk_mul, pk_div, Nat.reduceEqDiff, Nat.reduceAdd, Nat.reduceMul, Nat.reduceSub, reduceIte, not_true_eq_false, not_false_eq_true, true_or, or_true, if_true, if_false, and_self, and_true, true_and, and_false, false_and, or_self, or_false, false_or, decide_true, decide_false, Bool.false_eq_true, Bool.true_eq_false, bI_t, bI_f, b183, gfs0, gfs6, nI_clamp, false_or, h, hk2]
        by_cases h1 : V.2.2.1 9 k = nI b
        · by_cases h2 : nI 0 < Op.cmpValue (FP.fcmp (V.2.2.2 0 k) (V.2.2.2 0 r)) .g
          · have h3 : ¬ Op.cmpValue (FP.fcmp (V.2.2.2 0 k) (V.2.2.2 0 r)) .g ≤ nI 0 := Int32.not_le.mpr h2
            simp [h1, h2, h3]
          · have h3 : Op.cmpValue (FP.fcmp (V.2.2.2 0 k) (V.2.2.2 0 r)) .g ≤ nI 0 := Int32.not_lt.mp h2
            simp [h1, h2, h3]
        · simp [h1]
    · split
      · exact Or.inr ⟨k, by omega, rfl⟩
      · rcases hf with hf | ⟨r, hr, hf⟩
        · exact Or.inl hf
        · exact Or.inr ⟨r, by omega, hf⟩
  · rw [q183_13]
    simp (disch := first | omega | (simp only [sgets, reduceIte, Nat.reduceEqDiff, h]; done) | omega) only [cS_1, crd, z_pv_some, z_wv_some, z_cv_v, z_cv_n, cwr, sgets, rc_O, ia_n, fa_n, is_n, fs_n, ↓mI_eq, lits, nI_add, nLe, nLt, nE, mI_ne, mI_ne', mI_lt, mI_le, mI_nlt, mI_nle, ne_eq, mI_addC, pk_sub, pk_mul, pk_div, Nat.reduceEqDiff, Nat.reduceAdd, Nat.reduceMul, Nat.reduceSub, reduceIte, not_true_eq_false, not_false_eq_true, true_or, or_true, if_true, if_false, and_self, and_true, true_and, and_false, false_and, or_self, or_false, false_or, decide_true, decide_false, Bool.false_eq_true, Bool.true_eq_false, bI_t, bI_f, b183, gfs0, gfs6, Nat.le_refl, h]
    rfl
/-- loudestCandidate -/
def candS (V : z_V) (b k : Nat) : Bool := decide (V.2.2.1 9 k = mI ∧ ¬ Op.cmpValue (FP.fcmp (V.2.2.2 0 k) V.2.1) .l < nI 0 ∧ mayS V b k = true)
theorem m185 (M : z_M) (c : Nat) (V : z_V) (J : Nat) (hJ : J ≤ 20) (h : V.1 9 = nI J) (b : Nat) : z_cl 185 [.ref c, .int (nI b)] (cS M c V) = some (some (.int (loudF (candS V b) (V.2.2.2 0) J)), cS M c V) := by
  rw [e185]
  simp (disch := first | omega | (simp only [sgets, reduceIte, Nat.reduceEqDiff]; done) | omega) only [cS_1, crd, z_pv_some, z_wv_some, z_cv_v, z_cv_n, cwr, sgets, rc_O, ia_n, fa_n, is_n, fs_n, ↓mI_eq, lits, nI_add, nLe, nLt, nE, mI_ne, mI_ne', mI_lt, mI_le, mI_nlt, mI_nle, ne_eq, mI_addC, pk_sub, pk_mul, pk_div, Nat.reduceEqDiff, Nat.reduceAdd, Nat.reduceMul, Nat.reduceSub, reduceIte, not_true_eq_false, not_false_eq_true, true_or, or_true, if_true, if_false, and_self, and_true, true_and, and_false, false_and, or_self, or_false, false_or, decide_true, decide_false, Bool.false_eq_true, Bool.true_eq_false, bI_t, bI_f, b185, gfs0, gfs6]
  refine (lp_for (fun k f (j : Option Value) => z_ex 185 M.1 13 [some (.ref c), some (.int (nI b)), some (.ref (c + 11)), some (.int f), some (.int (nI k)), j] [] (cS M c V)) (fun k f => if candS V b k = true ∧ (f = mI ∨ nI 0 < Op.cmpValue (FP.fcmp (V.2.2.2 0 k) (V.2.2.2 0 f.toNatClampNeg)) .l) then nI k else f) (fun k f => f = mI ∨ ∃ r, r < k ∧ f = nI r) J (fun f => some (some (.int f), cS M c V)) ?_ ?_ ?_ mI none (Or.inl rfl)).1
  · intro k f j hk hf
    have hk2 : ¬ J ≤ k := by omega
    have hm := m179 M c V b k (by omega)
    rw [q185_13]
    have hcand : candS V b k = decide (V.2.2.1 9 k = mI ∧ ¬ Op.cmpValue (FP.fcmp (V.2.2.2 0 k) V.2.1) .l < nI 0 ∧ mayS V b k = true) := rfl
    by_cases h1 : V.2.2.1 9 k = mI
    · by_cases h2 : Op.cmpValue (FP.fcmp (V.2.2.2 0 k) V.2.1) .l < nI 0
      · have hc : candS V b k = false := by rw [hcand]; simp [h2]
        simp (disch := first | omega | (simp only [sgets, reduceIte, Nat.reduceEqDiff, h, hk2, h1, h2]; done) | omega) only [cS_1, crd, z_pv_some, z_wv_some, z_cv_v, z_cv_n, cwr, sgets, rc_O, ia_n, fa_n, is_n, fs_n, ↓mI_eq, lits, nI_add, nLe, nLt, nE, mI_ne, mI_ne', mI_lt, mI_le, mI_nlt, mI_nle, ne_eq, mI_addC, pk_sub, pk_mul, pk_div, Nat.reduceEqDiff, Nat.reduceAdd, Nat.reduceMul, Nat.reduceSub, reduceIte, not_true_eq_false, not_false_eq_true, true_or, or_true, if_true, if_false, and_self, and_true, true_and, and_false, false_and, or_self, or_false, false_or, decide_true, decide_false, Bool.false_eq_true, Bool.true_eq_false, bI_t, bI_f, b185, gfs0, gfs6, gfs7, hc, h, hk2, h1, h2]
        exact ⟨some (.int (nI 0)), by simp⟩
      · cases h3 : mayS V b k with
        | false =>
          have hc : candS V b k = false := by rw [hcand]; simp [h3]
          simp (disch := first | omega | (simp only [sgets, reduceIte, Nat.reduceEqDiff, h, hk2, h1, h2]; done) | omega) only [cS_1, crd, z_pv_some, z_wv_some, z_cv_v, z_cv_n, cwr, sgets, rc_O, ia_n, fa_n, is_n, fs_n, ↓mI_eq, lits, nI_add, nLe, nLt, nE, mI_ne, mI_ne', mI_lt, mI_le, mI_nlt, mI_nle, ne_eq, mI_addC, pk_sub, pk_mul, pk_div, Nat.reduceEqDiff, Nat.reduceAdd, Nat.reduceMul, Nat.reduceSub, reduceIte, not_true_eq_false, not_false_eq_true, true_or, or_true, if_true, if_false, and_self, and_true, true_and, and_false, false_and, or_self, or_false, false_or, decide_true, decide_false, Bool.false_eq_true, Bool.true_eq_false, bI_t, bI_f, b185, gfs0, gfs6, gfs7, hc, hm, h3, bI_f, h, hk2, h1, h2]
          exact ⟨some (.int (nI 0)), by simp⟩
        | true =>
          have hc : candS V b k = true := by rw [hcand]; simp [h1, h2, h3]
          rcases hf with rfl | ⟨r, hr, rfl⟩
          · simp (disch := first | omega | (simp only [sgets, reduceIte, Nat.reduceEqDiff, h, hk2, h1, h2]; done) | omega) only [cS_1, crd, z_pv_some, z_wv_some, z_cv_v, z_cv_n, cwr, sgets, rc_O, ia_n, fa_n, is_n, fs_n, ↓mI_eq, lits, nI_add, nLe, nLt, nE, mI_ne, mI_ne', mI_lt, mI_le, mI_nlt, mI_nle, ne_eq, mI_addC, pk_sub, pk_mul, pk_div, Nat.reduceEqDiff, Nat.reduceAdd, Nat.reduceMul, Nat.reduceSub, reduceIte, not_true_eq_false, not_false_eq_true, true_or, or_true, if_true, if_false, and_self, and_true, true_and, and_false, false_and, or_self, or_false, false_or, decide_true, decide_false, Bool.false_eq_true, Bool.true_eq_false, bI_t, bI_f, b185, gfs0, gfs6, gfs7, hc, hm, h3, bI_t, true_or, and_true, h, hk2, h1, h2]
            exact ⟨_, rfl⟩
          · by_cases h4 : Op.cmpValue (FP.fcmp (V.2.2.2 0 k) (V.2.2.2 0 r)) .l ≤ nI 0
            · have h5 : ¬ nI 0 < Op.cmpValue (FP.fcmp (V.2.2.2 0 k) (V.2.2.2 0 r)) .l := Int32.not_lt.mpr h4
              simp (disch := first | omega | (simp only [sgets, reduceIte, Nat.reduceEqDiff, h, hk2, h1, h2, h4, h5]; done) | omega) only [cS_1, crd, z_pv_some, z_wv_some, z_cv_v, z_cv_n, cwr, sgets, rc_O, ia_n, fa_n, is_n, fs_n, ↓mI_eq, lits, nI_add, nLe, nLt, nE, mI_ne, mI_ne', mI_lt, mI_le, mI_nlt, mI_nle, ne_eq, mI_addC, pk_sub, pk_mul, pk_div, Nat.reduceEqDiff, Nat.reduceAdd, Nat.reduceMul, Nat.reduceSub, reduceIte, not_true_eq_false, not_false_eq_true, true_or, or_true, if_true, if_false, and_self, and_true, true_and, and_false, false_and, or_self, or_false, false_or, decide_true, decide_false, Bool.false_eq_true, Bool.true_eq_false, bI_t, bI_f, b185, gfs0, gfs6, gfs7, hc, hm, h3, bI_t, nI_clamp, false_or, and_false, and_true, true_and, h, hk2, h1, h2, h4, h5]
              exact ⟨_, rfl⟩
            · have h5 : nI 0 < Op.cmpValue (FP.fcmp (V.2.2.2 0 k) (V.2.2.2 0 r)) .l := Int32.not_le.mp h4
              simp (disch := first | omega | (simp only [sgets, reduceIte, Nat.reduceEqDiff, h, hk2, h1, h2, h4, h5]; done) | omega) only [cS_1, crd, z_pv_some, z_wv_some, z_cv_v, z_cv_n, cwr, sgets, rc_O, ia_n, fa_n, is_n, fs_n, ↓mI_eq, lits, nI_add, nLe, nLt, nE, mI_ne, mI_ne', mI_lt, mI_le, mI_nlt, mI_nle, ne_eq, mI_addC, pk_sub, pk_mul, pk_div, Nat.reduceEqDiff, Nat.reduceAdd, Nat.reduceMul, Nat.reduceSub, reduceIte, not_true_eq_false, not_false_eq_true, true_or, or_true, if_true, if_false, and_self, and_true, true_and, and_false, false_and, or_self, or_false, false_or, decide_true, decide_false, Bool.false_eq_true, Bool.true_eq_false, bI_t, bI_f, b185, gfs0, gfs6, gfs7, hc, hm, h3, bI_t, nI_clamp, false_or, and_true, true_and, h, hk2, h1, h2, h4, h5]
              exact ⟨_, rfl⟩
    · have hc : candS V b k = false := by rw [hcand]; simp [h1]
      simp (disch := first | omega | (simp only [sgets, reduceIte, Nat.reduceEqDiff, h, hk2, h1]; done) | omega) only [cS_1, crd, z_pv_some, z_wv_some, z_cv_v, z_cv_n, cwr, sgets, rc_O, ia_n, fa_n, is_n, fs_n, ↓mI_eq, lits, nI_add, nLe, nLt, nE, mI_ne, mI_ne', mI_lt, mI_le, mI_nlt, mI_nle, ne_eq, mI_addC, pk_sub, pk_mul, pk_div, Nat.reduceEqDiff, Nat.reduceAdd, Nat.reduceMul, Nat.reduceSub, reduceIte, not_true_eq_false, not_false_eq_true, true_or, or_true, if_true, if_false, and_self, and_true, true_and, and_false, false_and, or_self, or_false, false_or, decide_true, decide_false, Bool.false_eq_true, Bool.true_eq_false, bI_t, bI_f, b185, gfs0, gfs6, gfs7, hc, h, hk2, h1]
      exact ⟨some (.int (nI 0)), by simp⟩
  · intro k f hk hf
    split
    · exact Or.inr ⟨k, by omega, rfl⟩
    · rcases hf with hf | ⟨r, hr, hf⟩
      · exact Or.inl hf
      · exact Or.inr ⟨r, by omega, hf⟩
  · intro f j hf
    rw [q185_13]
    simp (disch := first | omega | (simp only [sgets, reduceIte, Nat.reduceEqDiff, h]; done) | omega) only [cS_1, crd, z_pv_some, z_wv_some, z_cv_v, z_cv_n, cwr, sgets, rc_O, ia_n, fa_n, is_n, fs_n, ↓mI_eq, lits, nI_add, nLe, nLt, nE, mI_ne, mI_ne', mI_lt, mI_le, mI_nlt, mI_nle, ne_eq, mI_addC, pk_sub, pk_mul, pk_div, Nat.reduceEqDiff, Nat.reduceAdd, Nat.reduceMul, Nat.reduceSub, reduceIte, not_true_eq_false, not_false_eq_true, true_or, or_true, if_true, if_false, and_self, and_true, true_and, and_false, false_and, or_self, or_false, false_or, decide_true, decide_false, Bool.false_eq_true, Bool.true_eq_false, bI_t, bI_f, b185, gfs0, gfs6, Nat.le_refl, h]
