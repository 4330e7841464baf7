/-! Conference: one order each -/
/-- Settings.changeSelection -/
def selOk (a b c d : Int32) : Bool := decide ((nI 1 ≤ a ∧ a ≤ nI 4) ∧ (nI 1 ≤ b ∧ b ≤ nI 60) ∧ (nI 4 ≤ c ∧ c ≤ nI 16) ∧ (nI 0 ≤ d ∧ d ≤ nI 20))
theorem in_nI {x : Int32} {a b : Nat} (hb : b < 2 ^ 31) (ha : a ≤ b) (h : nI a ≤ x ∧ x ≤ nI b) : ∃ k, a ≤ k ∧ k ≤ b ∧ x = nI k := by
  have h0 : ¬ x < 0 := by
    intro hx
    have h1 := Int32.le_iff_toInt_le.mp h.1
    have h2 := Int32.lt_iff_toInt_lt.mp hx
    rw [nI_toInt (by omega)] at h1
    have h3 : (0 : Int32).toInt = 0 := by decide
    omega
  obtain ⟨k, hk, rfl⟩ := nI_of h0
  refine ⟨k, ?_, ?_, rfl⟩
  · have := h.1; rwa [nLe (by omega) hk] at this
  · have := h.2; rwa [nLe hk hb] at this
theorem m57 (M : z_M) (c : Nat) (V : z_V) (x y z w : Int32) : z_cl 57 [.ref (c + 1), .int x, .int y, .int z, .int w] (cS M c V) = if selOk x y z w then some (some (.int (V.1 1)), cS M c (sS (sS (sT (sS V 1 x) (pwr y.toNatClampNeg)) 2 z) 3 w)) else some (some (.int (-3)), cS M c V) := by
  rw [e57]
  unfold selOk
  have h74 := fun x lo hi => m74 x lo hi (cS M c V)
  by_cases h1 : nI 1 ≤ x ∧ x ≤ nI 4
  · by_cases h2 : nI 1 ≤ y ∧ y ≤ nI 60
    · by_cases h3 : nI 4 ≤ z ∧ z ≤ nI 16
      · by_cases h4 : nI 0 ≤ w ∧ w ≤ nI 20
        · obtain ⟨q, hq1, hq2, rfl⟩ := in_nI (by omega) (by omega) h2
          have hp := fun M => m72 q (by omega) M
          simp (disch := first | omega | (simp only [sgets, reduceIte, Nat.reduceEqDiff]; done) | omega) only [cS_1, crd, z_pv_some, z_wv_some, z_cv_v, z_cv_n, cwr, sgets, rc_O, ia_n, fa_n, is_n, fs_n, ↓mI_eq, lits, nI_add, nLe, nLt, nE, mI_ne, mI_ne', mI_lt, mI_le, mI_nlt, mI_nle, ne_eq, mI_addC, pk_sub, pk_mul, pk_div, Nat.reduceEqDiff, Nat.reduceAdd, Nat.reduceMul, Nat.reduceSub, reduceIte, not_true_eq_false, not_false_eq_true, true_or, or_true, if_true, if_false, and_self, and_true, true_and, and_false, false_and, or_self, or_false, false_or, decide_true, decide_false, Bool.false_eq_true, Bool.true_eq_false, bI_t, bI_f, b57, gfs7, pfs7, h74, hp, nI_clamp, h1, h2, h3, h4, decide_true, decide_false, bI_t, bI_f, and_self]
        · simp (disch := first | omega | (simp only [sgets, reduceIte, Nat.reduceEqDiff]; done) | omega) only [cS_1, crd, z_pv_some, z_wv_some, z_cv_v, z_cv_n, cwr, sgets, rc_O, ia_n, fa_n, is_n, fs_n, ↓mI_eq, lits, nI_add, nLe, nLt, nE, mI_ne, mI_ne', mI_lt, mI_le, mI_nlt, mI_nle, ne_eq, mI_addC, pk_sub, pk_mul, pk_div, Nat.reduceEqDiff, Nat.reduceAdd, Nat.reduceMul, Nat.reduceSub, reduceIte, not_true_eq_false, not_false_eq_true, true_or, or_true, if_true, if_false, and_self, and_true, true_and, and_false, false_and, or_self, or_false, false_or, decide_true, decide_false, Bool.false_eq_true, Bool.true_eq_false, bI_t, bI_f, b57, gfs7, pfs7, h74, h1, h2, h3, h4, decide_true, decide_false, bI_t, bI_f, and_self, and_false, false_and]
      · simp (disch := first | omega | (simp only [sgets, reduceIte, Nat.reduceEqDiff]; done) | omega) only [cS_1, crd, z_pv_some, z_wv_some, z_cv_v, z_cv_n, cwr, sgets, rc_O, ia_n, fa_n, is_n, fs_n, ↓mI_eq, lits, nI_add, nLe, nLt, nE, mI_ne, mI_ne', mI_lt, mI_le, mI_nlt, mI_nle, ne_eq, mI_addC, pk_sub, pk_mul, pk_div, Nat.reduceEqDiff, Nat.reduceAdd, Nat.reduceMul, Nat.reduceSub, reduceIte, not_true_eq_false, not_false_eq_true, true_or, or_true, if_true, if_false, and_self, and_true, true_and, and_false, false_and, or_self, or_false, false_or, decide_true, decide_false, Bool.false_eq_true, Bool.true_eq_false, bI_t, bI_f, b57, gfs7, pfs7, h74, h1, h2, h3, decide_true, decide_false, bI_t, bI_f, and_self, and_false, false_and]
    · simp (disch := first | omega | (simp only [sgets, reduceIte, Nat.reduceEqDiff]; done) | omega) only [cS_1, crd, z_pv_some, z_wv_some, z_cv_v, z_cv_n, cwr, sgets, rc_O, ia_n, fa_n, is_n, fs_n, ↓mI_eq, lits, nI_add, nLe, nLt, nE, mI_ne, mI_ne', mI_lt, mI_le, mI_nlt, mI_nle, ne_eq, mI_addC, pk_sub, pk_mul, pk_div, Nat.reduceEqDiff, Nat.reduceAdd, Nat.reduceMul, Nat.reduceSub, reduceIte, not_true_eq_false, not_false_eq_true, true_or, or_true, if_true, if_false, and_self, and_true, true_and, and_false, false_and, or_self, or_false, false_or, decide_true, decide_false, Bool.false_eq_true, Bool.true_eq_false, bI_t, bI_f, b57, gfs7, pfs7, h74, h1, h2, decide_true, decide_false, bI_t, bI_f, and_self, and_false, false_and]
  · simp (disch := first | omega | (simp only [sgets, reduceIte, Nat.reduceEqDiff]; done) | omega) only [cS_1, crd, z_pv_some, z_wv_some, z_cv_v, z_cv_n, cwr, sgets, rc_O, ia_n, fa_n, is_n, fs_n, ↓mI_eq, lits, nI_add, nLe, nLt, nE, mI_ne, mI_ne', mI_lt, mI_le, mI_nlt, mI_nle, ne_eq, mI_addC, pk_sub, pk_mul, pk_div, Nat.reduceEqDiff, Nat.reduceAdd, Nat.reduceMul, Nat.reduceSub, reduceIte, not_true_eq_false, not_false_eq_true, true_or, or_true, if_true, if_false, and_self, and_true, true_and, and_false, false_and, or_self, or_false, false_or, decide_true, decide_false, Bool.false_eq_true, Bool.true_eq_false, bI_t, bI_f, b57, gfs7, pfs7, h74, h1, decide_true, decide_false, bI_t, bI_f, and_self, and_false, false_and]
/-- Settings.changeFloor -/
def flrOk (b c d : Int32) : Bool := decide ((nI 1 ≤ b ∧ b ≤ nI 4) ∧ (nI 1 ≤ c ∧ c ≤ nI 50) ∧ (nI 0 ≤ d ∧ d ≤ nI 100))
theorem m58 (M : z_M) (c : Nat) (V : z_V) (o : Bool) (y z w : Int32) (f : Bool) (hf : V.1 4 = bI f) : z_cl 58 [.ref (c + 1), .int (bI o), .int y, .int z, .int w] (cS M c V) = if flrOk y z w then some (some (.int (bI f)), cS M c (sS (sS (sS (sS V 4 (bI o)) 5 y) 6 z) 7 w)) else some (some (.int (-(nI 3))), cS M c V) := by
  rw [e58]
  unfold flrOk
  have h74 := fun x lo hi => m74 x lo hi (cS M c V)
  have hbo := bI_or o
  by_cases h2 : nI 1 ≤ y ∧ y ≤ nI 4
  · by_cases h3 : nI 1 ≤ z ∧ z ≤ nI 50
    · by_cases h4 : nI 0 ≤ w ∧ w ≤ nI 100
      · cases f
        · simp (disch := first | omega | (simp only [sgets, reduceIte, Nat.reduceEqDiff, hf, hbo]; done) | omega) only [cS_1, crd, z_pv_some, z_wv_some, z_cv_v, z_cv_n, cwr, sgets, rc_O, ia_n, fa_n, is_n, fs_n, ↓mI_eq, lits, nI_add, nLe, nLt, nE, mI_ne, mI_ne', mI_lt, mI_le, mI_nlt, mI_nle, ne_eq, mI_addC, pk_sub, pk_mul, pk_div, Nat.reduceEqDiff, Nat.reduceAdd, Nat.reduceMul, Nat.reduceSub, reduceIte, not_true_eq_false, not_false_eq_true, true_or, or_true, if_true, if_false, and_self, and_true, true_and, and_false, false_and, or_self, or_false, false_or, decide_true, decide_false, Bool.false_eq_true, Bool.true_eq_false, bI_t, bI_f, b58, gfs7, pfs7, h74, h2, h3, h4, decide_true, decide_false, bI_t, bI_f, and_self, hf, hbo]
        · simp (disch := first | omega | (simp only [sgets, reduceIte, Nat.reduceEqDiff, hf, hbo]; done) | omega) only [cS_1, crd, z_pv_some, z_wv_some, z_cv_v, z_cv_n, cwr, sgets, rc_O, ia_n, fa_n, is_n, fs_n, ↓mI_eq, lits, nI_add, nLe, nLt, nE, mI_ne, mI_ne', mI_lt, mI_le, mI_nlt, mI_nle, ne_eq, mI_addC, pk_sub, pk_mul, pk_div, Nat.reduceEqDiff, Nat.reduceAdd, Nat.reduceMul, Nat.reduceSub, reduceIte, not_true_eq_false, not_false_eq_true, true_or, or_true, if_true, if_false, and_self, and_true, true_and, and_false, false_and, or_self, or_false, false_or, decide_true, decide_false, Bool.false_eq_true, Bool.true_eq_false, bI_t, bI_f, b58, gfs7, pfs7, h74, h2, h3, h4, decide_true, decide_false, bI_t, bI_f, and_self, hf, hbo]
      · simp (disch := first | omega | (simp only [sgets, reduceIte, Nat.reduceEqDiff]; done) | omega) only [cS_1, crd, z_pv_some, z_wv_some, z_cv_v, z_cv_n, cwr, sgets, rc_O, ia_n, fa_n, is_n, fs_n, ↓mI_eq, lits, nI_add, nLe, nLt, nE, mI_ne, mI_ne', mI_lt, mI_le, mI_nlt, mI_nle, ne_eq, mI_addC, pk_sub, pk_mul, pk_div, Nat.reduceEqDiff, Nat.reduceAdd, Nat.reduceMul, Nat.reduceSub, reduceIte, not_true_eq_false, not_false_eq_true, true_or, or_true, if_true, if_false, and_self, and_true, true_and, and_false, false_and, or_self, or_false, false_or, decide_true, decide_false, Bool.false_eq_true, Bool.true_eq_false, bI_t, bI_f, b58, gfs7, pfs7, h74, h2, h3, h4, decide_true, decide_false, bI_t, bI_f, and_self, and_false, false_and]
    · simp (disch := first | omega | (simp only [sgets, reduceIte, Nat.reduceEqDiff]; done) | omega) only [cS_1, crd, z_pv_some, z_wv_some, z_cv_v, z_cv_n, cwr, sgets, rc_O, ia_n, fa_n, is_n, fs_n, ↓mI_eq, lits, nI_add, nLe, nLt, nE, mI_ne, mI_ne', mI_lt, mI_le, mI_nlt, mI_nle, ne_eq, mI_addC, pk_sub, pk_mul, pk_div, Nat.reduceEqDiff, Nat.reduceAdd, Nat.reduceMul, Nat.reduceSub, reduceIte, not_true_eq_false, not_false_eq_true, true_or, or_true, if_true, if_false, and_self, and_true, true_and, and_false, false_and, or_self, or_false, false_or, decide_true, decide_false, Bool.false_eq_true, Bool.true_eq_false, bI_t, bI_f, b58, gfs7, pfs7, h74, h2, h3, decide_true, decide_false, bI_t, bI_f, and_self, and_false, false_and]
  · simp (disch := first | omega | (simp only [sgets, reduceIte, Nat.reduceEqDiff]; done) | omega) only [cS_1, crd, z_pv_some, z_wv_some, z_cv_v, z_cv_n, cwr, sgets, rc_O, ia_n, fa_n, is_n, fs_n, ↓mI_eq, lits, nI_add, nLe, nLt, nE, mI_ne, mI_ne', mI_lt, mI_le, mI_nlt, mI_nle, ne_eq, mI_addC, pk_sub, pk_mul, pk_div, Nat.reduceEqDiff, Nat.reduceAdd, Nat.reduceMul, Nat.reduceSub, reduceIte, not_true_eq_false, not_false_eq_true, true_or, or_true, if_true, if_false, and_self, and_true, true_and, and_false, false_and, or_self, or_false, false_or, decide_true, decide_false, Bool.false_eq_true, Bool.true_eq_false, bI_t, bI_f, b58, gfs7, pfs7, h74, h2, decide_true, decide_false, bI_t, bI_f, and_self, and_false, false_and]
theorem has_k {x : Int32} {B : Nat} (hB : B < 2 ^ 31) (h : 0 ≤ x ∧ x < nI B) : ∃ k, k < B ∧ x = nI k := by
  obtain ⟨k, hk, rfl⟩ := nI_of (Int32.not_lt.mpr h.1)
  have := h.2
  rw [nLt hk hB] at this
  exact ⟨k, this, rfl⟩
theorem here_k {V : z_V} {x : Int32} {J : Nat} (hJ : J ≤ 20) (hj : V.1 9 = nI J) (h : here V x = true) : ∃ k, k < J ∧ x = nI k ∧ ¬ V.2.2.1 3 k = mI := by
  unfold here at h
  have h1 := of_decide_eq_true h
  rw [hj] at h1
  obtain ⟨k, hk, rfl⟩ := has_k (by omega) ⟨h1.1, h1.2.1⟩
  refine ⟨k, hk, rfl, ?_⟩
  have := h1.2.2
  rwa [nI_clamp (by omega)] at this
/-- Conference.linkBridge -/
def hasB (V : z_V) (x : Int32) : Bool := decide (0 ≤ x ∧ x < V.1 8)
def addBr (V : z_V) (B : Nat) (x y : Int32) (z : Bool) : z_V := sS (sA (sA (sA V 0 (upd (V.2.2.1 0) B x)) 1 (upd (V.2.2.1 1) B y)) 2 (upd (V.2.2.1 2) B (bI z))) 8 (nI (B + 1))
def linkR (V : z_V) (B : Nat) (x y : Int32) (z : Bool) : Int32 × z_V := if hasB V x = false then (-(nI 2), V) else if ¬ (nI 1 ≤ y ∧ y ≤ nI 4) then (-(nI 3), V) else if 8 ≤ B then (-(nI 5), V) else (nI B, addBr V B x y z)
theorem m2 (M : z_M) (c : Nat) (V : z_V) (B : Nat) (hB : B ≤ 8) (h : V.1 8 = nI B) (x y : Int32) (z : Bool) : z_cl 2 [.ref c, .int x, .int y, .int (bI z)] (cS M c V) = some (some (.int (linkR V B x y z).1), cS M c (linkR V B x y z).2) := by
  rw [e2]
  have h65 := m65 M c V x
  have h74 := m74 y (nI 1) (nI 4) (cS M c V)
  unfold linkR
  have hh : decide (0 ≤ x ∧ x < V.1 8) = hasB V x := rfl
  rw [hh] at h65
  cases h1 : hasB V x with
  | false => simp (disch := first | omega | (simp only [sgets, reduceIte, Nat.reduceEqDiff]; done) | omega) only [cS_1, crd, z_pv_some, z_wv_some, z_cv_v, z_cv_n, cwr, sgets, rc_O, ia_n, fa_n, is_n, fs_n, ↓mI_eq, lits, nI_add, nLe, nLt, nE, mI_ne, mI_ne', mI_lt, mI_le, mI_nlt, mI_nle, ne_eq, mI_addC, pk_sub, pk_mul, pk_div, Nat.reduceEqDiff, Nat.reduceAdd, Nat.reduceMul, Nat.reduceSub, reduceIte, not_true_eq_false, not_false_eq_true, true_or, or_true, if_true, if_false, and_self, and_true, true_and, and_false, false_and, or_self, or_false, false_or, decide_true, decide_false, Bool.false_eq_true, Bool.true_eq_false, bI_t, bI_f, b2, gfs0, gfs9, h65, h1, bI_f]
  | true =>
    by_cases h2 : nI 1 ≤ y ∧ y ≤ nI 4
    · by_cases h3 : 8 ≤ B
      · have h3' : ¬ B < 8 := by omega
        simp (disch := first | omega | (simp only [sgets, reduceIte, Nat.reduceEqDiff, h, h3, h3']; done) | omega) only [cS_1, crd, z_pv_some, z_wv_some, z_cv_v, z_cv_n, cwr, sgets, rc_O, ia_n, fa_n, is_n, fs_n, ↓mI_eq, lits, nI_add, nLe, nLt, nE, mI_ne, mI_ne', mI_lt, mI_le, mI_nlt, mI_nle, ne_eq, mI_addC, pk_sub, pk_mul, pk_div, Nat.reduceEqDiff, Nat.reduceAdd, Nat.reduceMul, Nat.reduceSub, reduceIte, not_true_eq_false, not_false_eq_true, true_or, or_true, if_true, if_false, and_self, and_true, true_and, and_false, false_and, or_self, or_false, false_or, decide_true, decide_false, Bool.false_eq_true, Bool.true_eq_false, bI_t, bI_f, b2, gfs0, gfs9, h65, h74, h1, bI_t, h2, decide_true, Bool.true_eq_false, h, h3, h3']
      · have h3' : B < 8 := by omega
        have h66 := m66 M c V B h3' h x y z
        simp (disch := first | omega | (simp only [sgets, reduceIte, Nat.reduceEqDiff, h, h3, h3']; done) | omega) only [cS_1, crd, z_pv_some, z_wv_some, z_cv_v, z_cv_n, cwr, sgets, rc_O, ia_n, fa_n, is_n, fs_n, ↓mI_eq, lits, nI_add, nLe, nLt, nE, mI_ne, mI_ne', mI_lt, mI_le, mI_nlt, mI_nle, ne_eq, mI_addC, pk_sub, pk_mul, pk_div, Nat.reduceEqDiff, Nat.reduceAdd, Nat.reduceMul, Nat.reduceSub, reduceIte, not_true_eq_false, not_false_eq_true, true_or, or_true, if_true, if_false, and_self, and_true, true_and, and_false, false_and, or_self, or_false, false_or, decide_true, decide_false, Bool.false_eq_true, Bool.true_eq_false, bI_t, bI_f, b2, gfs0, gfs9, h65, h74, h66, h1, bI_t, h2, decide_true, Bool.true_eq_false, h, h3, h3']
        rfl
    · simp (disch := first | omega | (simp only [sgets, reduceIte, Nat.reduceEqDiff]; done) | omega) only [cS_1, crd, z_pv_some, z_wv_some, z_cv_v, z_cv_n, cwr, sgets, rc_O, ia_n, fa_n, is_n, fs_n, ↓mI_eq, lits, nI_add, nLe, nLt, nE, mI_ne, mI_ne', mI_lt, mI_le, mI_nlt, mI_nle, ne_eq, mI_addC, pk_sub, pk_mul, pk_div, Nat.reduceEqDiff, Nat.reduceAdd, Nat.reduceMul, Nat.reduceSub, reduceIte, not_true_eq_false, not_false_eq_true, true_or, or_true, if_true, if_false, and_self, and_true, true_and, and_false, false_and, or_self, or_false, false_or, decide_true, decide_false, Bool.false_eq_true, Bool.true_eq_false, bI_t, bI_f, b2, gfs0, gfs9, h65, h74, h1, bI_t, bI_f, h2, decide_false, Bool.true_eq_false]
/-- Conference, to let in -/
def admR (V : z_V) (J : Nat) (x y : Int32) : Int32 × z_V := if hasB V x = false then (-(nI 2), V) else if ¬ (nI 0 ≤ y ∧ y ≤ nI 1) then (-(nI 3), V) else if 20 ≤ J ∨ 6 ≤ cnt (fun k => decide (V.2.2.1 3 k = x ∧ ¬ nI k = mI)) J then (-(nI 5), V) else if y = nI 1 ∧ V.2.2.1 2 x.toNatClampNeg = nI 1 then (-(nI 6), V) else (nI J, sS (sS (sA (sA V 3 (upd (V.2.2.1 3) J x)) 4 (upd (V.2.2.1 4) J y)) 9 (nI (J + 1))) 10 (V.1 10 + nI 1))
theorem m3 (M : z_M) (c : Nat) (V : z_V) (B J : Nat) (hB : B ≤ 8) (h : V.1 8 = nI B) (hJ : J ≤ 20) (h9 : V.1 9 = nI J) (x y : Int32) : z_cl 3 [.ref c, .int x, .int y] (cS M c V) = some (some (.int (admR V J x y).1), cS M c (admR V J x y).2) := by
  rw [e3]
  have h65 := m65 M c V x
  have h74 := m74 y (nI 0) (nI 1) (cS M c V)
  have h49 := m49 M c V J hJ h9 x mI
  have hcl := cnt_le (fun k => decide (V.2.2.1 3 k = x ∧ ¬ nI k = mI)) J
  unfold admR
  have hh : decide (0 ≤ x ∧ x < V.1 8) = hasB V x := rfl
  rw [hh] at h65
  cases h1 : hasB V x with
  | false => simp (disch := first | omega | (simp only [sgets, reduceIte, Nat.reduceEqDiff]; done) | omega) only [cS_1, crd, z_pv_some, z_wv_some, z_cv_v, z_cv_n, cwr, sgets, rc_O, ia_n, fa_n, is_n, fs_n, ↓mI_eq, lits, nI_add, nLe, nLt, nE, mI_ne, mI_ne', mI_lt, mI_le, mI_nlt, mI_nle, ne_eq, mI_addC, pk_sub, pk_mul, pk_div, Nat.reduceEqDiff, Nat.reduceAdd, Nat.reduceMul, Nat.reduceSub, reduceIte, not_true_eq_false, not_false_eq_true, true_or, or_true, if_true, if_false, and_self, and_true, true_and, and_false, false_and, or_self, or_false, false_or, decide_true, decide_false, Bool.false_eq_true, Bool.true_eq_false, bI_t, bI_f, b3, gfs0, gfs9, h65, h1, bI_f]
  | true =>
    have h1' : 0 ≤ x ∧ x < nI B := by rw [← h]; exact of_decide_eq_true h1
    obtain ⟨b, hb, rfl⟩ := has_k (by omega) h1'
    by_cases h2 : nI 0 ≤ y ∧ y ≤ nI 1
    · by_cases h3 : 20 ≤ J
      · simp (disch := first | omega | (simp only [sgets, reduceIte, Nat.reduceEqDiff, h9, h3]; done) | omega) only [cS_1, crd, z_pv_some, z_wv_some, z_cv_v, z_cv_n, cwr, sgets, rc_O, ia_n, fa_n, is_n, fs_n, ↓mI_eq, lits, nI_add, nLe, nLt, nE, mI_ne, mI_ne', mI_lt, mI_le, mI_nlt, mI_nle, ne_eq, mI_addC, pk_sub, pk_mul, pk_div, Nat.reduceEqDiff, Nat.reduceAdd, Nat.reduceMul, Nat.reduceSub, reduceIte, not_true_eq_false, not_false_eq_true, true_or, or_true, if_true, if_false, and_self, and_true, true_and, and_false, false_and, or_self, or_false, false_or, decide_true, decide_false, Bool.false_eq_true, Bool.true_eq_false, bI_t, bI_f, b3, gfs0, gfs6, h65, h74, h1, bI_t, h2, decide_true, Bool.true_eq_false, true_or, h9, h3]
      · have h3' : J < 20 := by omega
        generalize cnt (fun k => decide (V.2.2.1 3 k = nI b ∧ ¬ nI k = mI)) J = n at h49 hcl ⊢
        by_cases h4 : 6 ≤ n
        · have h4' : ¬ n < 6 := by omega
          simp (disch := first | omega | (simp only [sgets, reduceIte, Nat.reduceEqDiff, h9, h3, h3', h4, h4']; done) | omega) only [cS_1, crd, z_pv_some, z_wv_some, z_cv_v, z_cv_n, cwr, sgets, rc_O, ia_n, fa_n, is_n, fs_n, ↓mI_eq, lits, nI_add, nLe, nLt, nE, mI_ne, mI_ne', mI_lt, mI_le, mI_nlt, mI_nle, ne_eq, mI_addC, pk_sub, pk_mul, pk_div, Nat.reduceEqDiff, Nat.reduceAdd, Nat.reduceMul, Nat.reduceSub, reduceIte, not_true_eq_false, not_false_eq_true, true_or, or_true, if_true, if_false, and_self, and_true, true_and, and_false, false_and, or_self, or_false, false_or, decide_true, decide_false, Bool.false_eq_true, Bool.true_eq_false, bI_t, bI_f, b3, gfs0, gfs6, h65, h74, h49, h1, bI_t, h2, decide_true, Bool.true_eq_false, or_true, h9, h3, h3', h4, h4']
        · have h4' : n < 6 := by omega
          have h67 := m67 M c V b (by omega) y
          have h50 := m50 M c V J h3' h9 (nI b) y
          by_cases h5 : y = nI 1 ∧ V.2.2.1 2 b = nI 1
          · replace h5 := eq_true h5
            simp (disch := first | omega | (simp only [sgets, reduceIte, Nat.reduceEqDiff, h9, h3, h3', h4, h4', h5]; done) | omega) only [cS_1, crd, z_pv_some, z_wv_some, z_cv_v, z_cv_n, cwr, sgets, rc_O, ia_n, fa_n, is_n, fs_n, ↓mI_eq, lits, nI_add, nLe, nLt, nE, mI_ne, mI_ne', mI_lt, mI_le, mI_nlt, mI_nle, ne_eq, mI_addC, pk_sub, pk_mul, pk_div, Nat.reduceEqDiff, Nat.reduceAdd, Nat.reduceMul, Nat.reduceSub, reduceIte, not_true_eq_false, not_false_eq_true, true_or, or_true, if_true, if_false, and_self, and_true, true_and, and_false, false_and, or_self, or_false, false_or, decide_true, decide_false, Bool.false_eq_true, Bool.true_eq_false, bI_t, bI_f, b3, gfs0, gfs6, h65, h74, h49, h67, h1, bI_t, h2, decide_true, Bool.true_eq_false, or_self, nI_clamp, h9, h3, h3', h4, h4', h5]
          · simp (disch := first | omega | (simp only [sgets, reduceIte, Nat.reduceEqDiff, h9, h3, h3', h4, h4', h5]; done) | omega) only [cS_1, crd, z_pv_some, z_wv_some, z_cv_v, z_cv_n, cwr, sgets, rc_O, ia_n, fa_n, is_n, fs_n, ↓mI_eq, lits, nI_add, nLe, nLt, nE, mI_ne, mI_ne', mI_lt, mI_le, mI_nlt, mI_nle, ne_eq, mI_addC, pk_sub, pk_mul, pk_div, Nat.reduceEqDiff, Nat.reduceAdd, Nat.reduceMul, Nat.reduceSub, reduceIte, not_true_eq_false, not_false_eq_true, true_or, or_true, if_true, if_false, and_self, and_true, true_and, and_false, false_and, or_self, or_false, false_or, decide_true, decide_false, Bool.false_eq_true, Bool.true_eq_false, bI_t, bI_f, b3, gfs0, gfs6, h65, h74, h49, h67, h50, h1, bI_t, bI_f, h2, decide_true, decide_false, Bool.true_eq_false, or_self, nI_clamp, h9, h3, h3', h4, h4', h5]
    · simp (disch := first | omega | (simp only [sgets, reduceIte, Nat.reduceEqDiff]; done) | omega) only [cS_1, crd, z_pv_some, z_wv_some, z_cv_v, z_cv_n, cwr, sgets, rc_O, ia_n, fa_n, is_n, fs_n, ↓mI_eq, lits, nI_add, nLe, nLt, nE, mI_ne, mI_ne', mI_lt, mI_le, mI_nlt, mI_nle, ne_eq, mI_addC, pk_sub, pk_mul, pk_div, Nat.reduceEqDiff, Nat.reduceAdd, Nat.reduceMul, Nat.reduceSub, reduceIte, not_true_eq_false, not_false_eq_true, true_or, or_true, if_true, if_false, and_self, and_true, true_and, and_false, false_and, or_self, or_false, false_or, decide_true, decide_false, Bool.false_eq_true, Bool.true_eq_false, bI_t, bI_f, b3, gfs0, gfs6, h65, h74, h1, bI_t, bI_f, h2, decide_false, Bool.true_eq_false]
/-- Conference.dismiss -/
def disR (V : z_V) (W : Nat) (x : Int32) : Int32 × z_V := if here V x = false then (-(nI 2), V) else (V.1 10 - nI 1, sS (sA (forg V x.toNatClampNeg W) 3 (upd (V.2.2.1 3) x.toNatClampNeg mI)) 10 (V.1 10 - nI 1))
theorem forg_S (V : z_V) (p W i : Nat) (h : i ≠ 11) : (forg V p W).1 i = V.1 i := by
  unfold forg
  split
  · rfl
  · simp only [sgets, h, if_false]
theorem forg_A (V : z_V) (p W i : Nat) (h1 : i ≠ 11) (h2 : i ≠ 13) : (forg V p W).2.2.1 i = V.2.2.1 i := by
  unfold forg
  split <;> simp only [sgets, h1, h2, if_false]
theorem forg_T (V : z_V) (p W : Nat) : (forg V p W).2.1 = V.2.1 := by unfold forg; split <;> rfl
theorem forg_F (V : z_V) (p W : Nat) : (forg V p W).2.2.2 = V.2.2.2 := by unfold forg; split <;> rfl
theorem m4 (M : z_M) (c : Nat) (V : z_V) (J W : Nat) (hJ : J ≤ 20) (h9 : V.1 9 = nI J) (hW : W ≤ 20) (h11 : V.1 11 = nI W) (x : Int32) : z_cl 4 [.ref c, .int x] (cS M c V) = some (some (.int (disR V W x).1), cS M c (disR V W x).2) := by
  rw [e4]
  have h51 := m51 M c V J hJ h9 x
  unfold disR
  cases h1 : here V x with
  | false => simp (disch := first | omega | (simp only [sgets, reduceIte, Nat.reduceEqDiff]; done) | omega) only [cS_1, crd, z_pv_some, z_wv_some, z_cv_v, z_cv_n, cwr, sgets, rc_O, ia_n, fa_n, is_n, fs_n, ↓mI_eq, lits, nI_add, nLe, nLt, nE, mI_ne, mI_ne', mI_lt, mI_le, mI_nlt, mI_nle, ne_eq, mI_addC, pk_sub, pk_mul, pk_div, Nat.reduceEqDiff, Nat.reduceAdd, Nat.reduceMul, Nat.reduceSub, reduceIte, not_true_eq_false, not_false_eq_true, true_or, or_true, if_true, if_false, and_self, and_true, true_and, and_false, false_and, or_self, or_false, false_or, decide_true, decide_false, Bool.false_eq_true, Bool.true_eq_false, bI_t, bI_f, b4, gfs0, gfs6, h51, h1, bI_f]
  | true =>
    obtain ⟨k, hk, rfl, hne⟩ := here_k hJ h9 h1
    have h21 := m21 M c V W hW h11 k (by omega)
    have s10 := forg_S V k W 10 (by omega)
    have s9 := forg_S V k W 9 (by omega)
    have a3 := forg_A V k W 3 (by omega) (by omega)
    simp (disch := first | omega | (simp only [sgets, reduceIte, Nat.reduceEqDiff, s10, s9, a3]; done) | omega) only [cS_1, crd, z_pv_some, z_wv_some, z_cv_v, z_cv_n, cwr, sgets, rc_O, ia_n, fa_n, is_n, fs_n, ↓mI_eq, lits, nI_add, nLe, nLt, nE, mI_ne, mI_ne', mI_lt, mI_le, mI_nlt, mI_nle, ne_eq, mI_addC, pk_sub, pk_mul, pk_div, Nat.reduceEqDiff, Nat.reduceAdd, Nat.reduceMul, Nat.reduceSub, reduceIte, not_true_eq_false, not_false_eq_true, true_or, or_true, if_true, if_false, and_self, and_true, true_and, and_false, false_and, or_self, or_false, false_or, decide_true, decide_false, Bool.false_eq_true, Bool.true_eq_false, bI_t, bI_f, b4, gfs0, gfs6, pfs6, h51, h21, h1, bI_t, nI_clamp, Bool.true_eq_false, s10, s9, a3]
/-- Conference.transfer -/
def trnR (V : z_V) (J : Nat) (x y : Int32) : Int32 × z_V := if here V x = false ∨ hasB V y = false then (-(nI 2), V) else if 6 ≤ cnt (fun k => decide (V.2.2.1 3 k = y ∧ ¬ nI k = x)) J then (-(nI 5), V) else if V.2.2.1 4 x.toNatClampNeg = nI 1 ∧ V.2.2.1 2 y.toNatClampNeg = nI 1 then (-(nI 6), V) else (V.2.2.1 3 x.toNatClampNeg, sA V 3 (upd (V.2.2.1 3) x.toNatClampNeg y))
theorem m5 (M : z_M) (c : Nat) (V : z_V) (B J : Nat) (hB : B ≤ 8) (h : V.1 8 = nI B) (hJ : J ≤ 20) (h9 : V.1 9 = nI J) (x y : Int32) : z_cl 5 [.ref c, .int x, .int y] (cS M c V) = some (some (.int (trnR V J x y).1), cS M c (trnR V J x y).2) := by
  rw [e5]
  have h51 := m51 M c V J hJ h9 x
  have h65 := m65 M c V y
  have hh : decide (0 ≤ y ∧ y < V.1 8) = hasB V y := rfl
  rw [hh] at h65
  have h49 := m49 M c V J hJ h9 y x
  have hcl := cnt_le (fun k => decide (V.2.2.1 3 k = y ∧ ¬ nI k = x)) J
  unfold trnR
  cases h1 : here V x with
  | false => simp (disch := first | omega | (simp only [sgets, reduceIte, Nat.reduceEqDiff]; done) | omega) only [cS_1, crd, z_pv_some, z_wv_some, z_cv_v, z_cv_n, cwr, sgets, rc_O, ia_n, fa_n, is_n, fs_n, ↓mI_eq, lits, nI_add, nLe, nLt, nE, mI_ne, mI_ne', mI_lt, mI_le, mI_nlt, mI_nle, ne_eq, mI_addC, pk_sub, pk_mul, pk_div, Nat.reduceEqDiff, Nat.reduceAdd, Nat.reduceMul, Nat.reduceSub, reduceIte, not_true_eq_false, not_false_eq_true, true_or, or_true, if_true, if_false, and_self, and_true, true_and, and_false, false_and, or_self, or_false, false_or, decide_true, decide_false, Bool.false_eq_true, Bool.true_eq_false, bI_t, bI_f, b5, gfs0, gfs6, h51, h1, bI_f, true_or]
  | true =>
    obtain ⟨k, hk, rfl, hne⟩ := here_k hJ h9 h1
    cases h2 : hasB V y with
    | false => simp (disch := first | omega | (simp only [sgets, reduceIte, Nat.reduceEqDiff]; done) | omega) only [cS_1, crd, z_pv_some, z_wv_some, z_cv_v, z_cv_n, cwr, sgets, rc_O, ia_n, fa_n, is_n, fs_n, ↓mI_eq, lits, nI_add, nLe, nLt, nE, mI_ne, mI_ne', mI_lt, mI_le, mI_nlt, mI_nle, ne_eq, mI_addC, pk_sub, pk_mul, pk_div, Nat.reduceEqDiff, Nat.reduceAdd, Nat.reduceMul, Nat.reduceSub, reduceIte, not_true_eq_false, not_false_eq_true, true_or, or_true, if_true, if_false, and_self, and_true, true_and, and_false, false_and, or_self, or_false, false_or, decide_true, decide_false, Bool.false_eq_true, Bool.true_eq_false, bI_t, bI_f, b5, gfs0, gfs6, h51, h65, h1, h2, bI_t, bI_f, or_true]
    | true =>
      have h2' : 0 ≤ y ∧ y < nI B := by rw [← h]; exact of_decide_eq_true h2
      obtain ⟨b, hb, rfl⟩ := has_k (by omega) h2'
      generalize cnt (fun i => decide (V.2.2.1 3 i = nI b ∧ ¬ nI i = nI k)) J = n at h49 hcl ⊢
      have h67 := m67 M c V b (by omega) (V.2.2.1 4 k)
      by_cases h4 : 6 ≤ n
      · have h4' : ¬ n < 6 := by omega
        simp (disch := first | omega | (simp only [sgets, reduceIte, Nat.reduceEqDiff, h4, h4']; done) | omega) only [cS_1, crd, z_pv_some, z_wv_some, z_cv_v, z_cv_n, cwr, sgets, rc_O, ia_n, fa_n, is_n, fs_n, ↓mI_eq, lits, nI_add, nLe, nLt, nE, mI_ne, mI_ne', mI_lt, mI_le, mI_nlt, mI_nle, ne_eq, mI_addC, pk_sub, pk_mul, pk_div, Nat.reduceEqDiff, Nat.reduceAdd, Nat.reduceMul, Nat.reduceSub, reduceIte, not_true_eq_false, not_false_eq_true, true_or, or_true, if_true, if_false, and_self, and_true, true_and, and_false, false_and, or_self, or_false, false_or, decide_true, decide_false, Bool.false_eq_true, Bool.true_eq_false, bI_t, bI_f, b5, gfs0, gfs6, h51, h65, h49, h1, h2, bI_t, Bool.true_eq_false, or_self, h4, h4']
      · have h4' : n < 6 := by omega
        by_cases h5 : V.2.2.1 4 k = nI 1 ∧ V.2.2.1 2 b = nI 1
        · replace h5 := eq_true h5
          simp (disch := first | omega | (simp only [sgets, reduceIte, Nat.reduceEqDiff, h4, h4', h5]; done) | omega) only [cS_1, crd, z_pv_some, z_wv_some, z_cv_v, z_cv_n, cwr, sgets, rc_O, ia_n, fa_n, is_n, fs_n, ↓mI_eq, lits, nI_add, nLe, nLt, nE, mI_ne, mI_ne', mI_lt, mI_le, mI_nlt, mI_nle, ne_eq, mI_addC, pk_sub, pk_mul, pk_div, Nat.reduceEqDiff, Nat.reduceAdd, Nat.reduceMul, Nat.reduceSub, reduceIte, not_true_eq_false, not_false_eq_true, true_or, or_true, if_true, if_false, and_self, and_true, true_and, and_false, false_and, or_self, or_false, false_or, decide_true, decide_false, Bool.false_eq_true, Bool.true_eq_false, bI_t, bI_f, b5, gfs0, gfs6, h51, h65, h49, h67, h1, h2, bI_t, decide_true, Bool.true_eq_false, or_self, nI_clamp, h4, h4', h5]
        · simp (disch := first | omega | (simp only [sgets, reduceIte, Nat.reduceEqDiff, h4, h4', h5]; done) | omega) only [cS_1, crd, z_pv_some, z_wv_some, z_cv_v, z_cv_n, cwr, sgets, rc_O, ia_n, fa_n, is_n, fs_n, ↓mI_eq, lits, nI_add, nLe, nLt, nE, mI_ne, mI_ne', mI_lt, mI_le, mI_nlt, mI_nle, ne_eq, mI_addC, pk_sub, pk_mul, pk_div, Nat.reduceEqDiff, Nat.reduceAdd, Nat.reduceMul, Nat.reduceSub, reduceIte, not_true_eq_false, not_false_eq_true, true_or, or_true, if_true, if_false, and_self, and_true, true_and, and_false, false_and, or_self, or_false, false_or, decide_true, decide_false, Bool.false_eq_true, Bool.true_eq_false, bI_t, bI_f, b5, gfs0, gfs6, h51, h65, h49, h67, h1, h2, bI_t, bI_f, decide_false, Bool.true_eq_false, or_self, nI_clamp, h4, h4', h5]
/-- Conference.changeLevel -/
def lvlR (V : z_V) (x y : Int32) : Int32 × z_V := if here V x = false then (-(nI 2), V) else if ¬ (nI 0 ≤ y ∧ y ≤ nI 60) then (-(nI 3), V) else (V.2.2.1 5 x.toNatClampNeg, sA V 5 (upd (V.2.2.1 5) x.toNatClampNeg y))
theorem m6 (M : z_M) (c : Nat) (V : z_V) (J : Nat) (hJ : J ≤ 20) (h9 : V.1 9 = nI J) (x y : Int32) : z_cl 6 [.ref c, .int x, .int y] (cS M c V) = some (some (.int (lvlR V x y).1), cS M c (lvlR V x y).2) := by
  rw [e6]
  have h51 := m51 M c V J hJ h9 x
  have h74 := m74 y (nI 0) (nI 60) (cS M c V)
  unfold lvlR
  cases h1 : here V x with
  | false => simp (disch := first | omega | (simp only [sgets, reduceIte, Nat.reduceEqDiff]; done) | omega) only [cS_1, crd, z_pv_some, z_wv_some, z_cv_v, z_cv_n, cwr, sgets, rc_O, ia_n, fa_n, is_n, fs_n, ↓mI_eq, lits, nI_add, nLe, nLt, nE, mI_ne, mI_ne', mI_lt, mI_le, mI_nlt, mI_nle, ne_eq, mI_addC, pk_sub, pk_mul, pk_div, Nat.reduceEqDiff, Nat.reduceAdd, Nat.reduceMul, Nat.reduceSub, reduceIte, not_true_eq_false, not_false_eq_true, true_or, or_true, if_true, if_false, and_self, and_true, true_and, and_false, false_and, or_self, or_false, false_or, decide_true, decide_false, Bool.false_eq_true, Bool.true_eq_false, bI_t, bI_f, b6, gfs0, gfs6, h51, h1, bI_f]
  | true =>
    obtain ⟨k, hk, rfl, hne⟩ := here_k hJ h9 h1
    by_cases h2 : nI 0 ≤ y ∧ y ≤ nI 60
    · simp (disch := first | omega | (simp only [sgets, reduceIte, Nat.reduceEqDiff]; done) | omega) only [cS_1, crd, z_pv_some, z_wv_some, z_cv_v, z_cv_n, cwr, sgets, rc_O, ia_n, fa_n, is_n, fs_n, ↓mI_eq, lits, nI_add, nLe, nLt, nE, mI_ne, mI_ne', mI_lt, mI_le, mI_nlt, mI_nle, ne_eq, mI_addC, pk_sub, pk_mul, pk_div, Nat.reduceEqDiff, Nat.reduceAdd, Nat.reduceMul, Nat.reduceSub, reduceIte, not_true_eq_false, not_false_eq_true, true_or, or_true, if_true, if_false, and_self, and_true, true_and, and_false, false_and, or_self, or_false, false_or, decide_true, decide_false, Bool.false_eq_true, Bool.true_eq_false, bI_t, bI_f, b6, gfs0, gfs6, h51, h74, h1, h2, bI_t, decide_true, Bool.true_eq_false, nI_clamp]
    · simp (disch := first | omega | (simp only [sgets, reduceIte, Nat.reduceEqDiff]; done) | omega) only [cS_1, crd, z_pv_some, z_wv_some, z_cv_v, z_cv_n, cwr, sgets, rc_O, ia_n, fa_n, is_n, fs_n, ↓mI_eq, lits, nI_add, nLe, nLt, nE, mI_ne, mI_ne', mI_lt, mI_le, mI_nlt, mI_nle, ne_eq, mI_addC, pk_sub, pk_mul, pk_div, Nat.reduceEqDiff, Nat.reduceAdd, Nat.reduceMul, Nat.reduceSub, reduceIte, not_true_eq_false, not_false_eq_true, true_or, or_true, if_true, if_false, and_self, and_true, true_and, and_false, false_and, or_self, or_false, false_or, decide_true, decide_false, Bool.false_eq_true, Bool.true_eq_false, bI_t, bI_f, b6, gfs0, gfs6, h51, h74, h1, h2, bI_t, bI_f, decide_false, Bool.true_eq_false, nI_clamp]
/-- Conference.changeMuted -/
def mutR (V : z_V) (x : Int32) (y : Bool) : Int32 × z_V := if here V x = false then (-(nI 2), V) else (V.2.2.1 6 x.toNatClampNeg, sA V 6 (upd (V.2.2.1 6) x.toNatClampNeg (bI y)))
theorem m7 (M : z_M) (c : Nat) (V : z_V) (J : Nat) (hJ : J ≤ 20) (h9 : V.1 9 = nI J) (x : Int32) (y : Bool) : z_cl 7 [.ref c, .int x, .int (bI y)] (cS M c V) = some (some (.int (mutR V x y).1), cS M c (mutR V x y).2) := by
  rw [e7]
  have h51 := m51 M c V J hJ h9 x
  unfold mutR
  cases h1 : here V x with
  | false => simp (disch := first | omega | (simp only [sgets, reduceIte, Nat.reduceEqDiff]; done) | omega) only [cS_1, crd, z_pv_some, z_wv_some, z_cv_v, z_cv_n, cwr, sgets, rc_O, ia_n, fa_n, is_n, fs_n, ↓mI_eq, lits, nI_add, nLe, nLt, nE, mI_ne, mI_ne', mI_lt, mI_le, mI_nlt, mI_nle, ne_eq, mI_addC, pk_sub, pk_mul, pk_div, Nat.reduceEqDiff, Nat.reduceAdd, Nat.reduceMul, Nat.reduceSub, reduceIte, not_true_eq_false, not_false_eq_true, true_or, or_true, if_true, if_false, and_self, and_true, true_and, and_false, false_and, or_self, or_false, false_or, decide_true, decide_false, Bool.false_eq_true, Bool.true_eq_false, bI_t, bI_f, b7, gfs0, gfs6, h51, h1, bI_f]
  | true =>
    obtain ⟨k, hk, rfl, hne⟩ := here_k hJ h9 h1
    cases y
    · simp (disch := first | omega | (simp only [sgets, reduceIte, Nat.reduceEqDiff]; done) | omega) only [cS_1, crd, z_pv_some, z_wv_some, z_cv_v, z_cv_n, cwr, sgets, rc_O, ia_n, fa_n, is_n, fs_n, ↓mI_eq, lits, nI_add, nLe, nLt, nE, mI_ne, mI_ne', mI_lt, mI_le, mI_nlt, mI_nle, ne_eq, mI_addC, pk_sub, pk_mul, pk_div, Nat.reduceEqDiff, Nat.reduceAdd, Nat.reduceMul, Nat.reduceSub, reduceIte, not_true_eq_false, not_false_eq_true, true_or, or_true, if_true, if_false, and_self, and_true, true_and, and_false, false_and, or_self, or_false, false_or, decide_true, decide_false, Bool.false_eq_true, Bool.true_eq_false, bI_t, bI_f, b7, gfs0, gfs6, h51, h1, bI_t, bI_f, Bool.true_eq_false, nI_clamp]
    · simp (disch := first | omega | (simp only [sgets, reduceIte, Nat.reduceEqDiff]; done) | omega) only [cS_1, crd, z_pv_some, z_wv_some, z_cv_v, z_cv_n, cwr, sgets, rc_O, ia_n, fa_n, is_n, fs_n, ↓mI_eq, lits, nI_add, nLe, nLt, nE, mI_ne, mI_ne', mI_lt, mI_le, mI_nlt, mI_nle, ne_eq, mI_addC, pk_sub, pk_mul, pk_div, Nat.reduceEqDiff, Nat.reduceAdd, Nat.reduceMul, Nat.reduceSub, reduceIte, not_true_eq_false, not_false_eq_true, true_or, or_true, if_true, if_false, and_self, and_true, true_and, and_false, false_and, or_self, or_false, false_or, decide_true, decide_false, Bool.false_eq_true, Bool.true_eq_false, bI_t, bI_f, b7, gfs0, gfs6, h51, h1, bI_t, bI_f, Bool.true_eq_false, nI_clamp]
/-- Conference.toggleMuted -/
theorem m14 (M : z_M) (c : Nat) (V : z_V) (J : Nat) (hJ : J ≤ 20) (h9 : V.1 9 = nI J) (x : Int32) : z_cl 14 [.ref c, .int x] (cS M c V) = some (some (.int (mutR V x (decide (here V x = false ∨ V.2.2.1 6 x.toNatClampNeg = nI 0))).1), cS M c (mutR V x (decide (here V x = false ∨ V.2.2.1 6 x.toNatClampNeg = nI 0))).2) := by
  rw [e14]
  have h51 := m51 M c V J hJ h9 x
  have h7 := m7 M c V J hJ h9 x
  have h7t := h7 true
  have h7f := h7 false
  rw [bI_t] at h7t
  rw [bI_f] at h7f
  cases h1 : here V x with
  | false => simp (disch := first | omega | (simp only [sgets, reduceIte, Nat.reduceEqDiff]; done) | omega) only [cS_1, crd, z_pv_some, z_wv_some, z_cv_v, z_cv_n, cwr, sgets, rc_O, ia_n, fa_n, is_n, fs_n, ↓mI_eq, lits, nI_add, nLe, nLt, nE, mI_ne, mI_ne', mI_lt, mI_le, mI_nlt, mI_nle, ne_eq, mI_addC, pk_sub, pk_mul, pk_div, Nat.reduceEqDiff, Nat.reduceAdd, Nat.reduceMul, Nat.reduceSub, reduceIte, not_true_eq_false, not_false_eq_true, true_or, or_true, if_true, if_false, and_self, and_true, true_and, and_false, false_and, or_self, or_false, false_or, decide_true, decide_false, Bool.false_eq_true, Bool.true_eq_false, bI_t, bI_f, b14, gfs0, gfs6, h51, h1, h7t]
  | true =>
    obtain ⟨k, hk, rfl, hne⟩ := here_k hJ h9 h1
    by_cases h2 : V.2.2.1 6 k = nI 0
    · simp (disch := first | omega | (simp only [sgets, reduceIte, Nat.reduceEqDiff, h2]; done) | omega) only [cS_1, crd, z_pv_some, z_wv_some, z_cv_v, z_cv_n, cwr, sgets, rc_O, ia_n, fa_n, is_n, fs_n, ↓mI_eq, lits, nI_add, nLe, nLt, nE, mI_ne, mI_ne', mI_lt, mI_le, mI_nlt, mI_nle, ne_eq, mI_addC, pk_sub, pk_mul, pk_div, Nat.reduceEqDiff, Nat.reduceAdd, Nat.reduceMul, Nat.reduceSub, reduceIte, not_true_eq_false, not_false_eq_true, true_or, or_true, if_true, if_false, and_self, and_true, true_and, and_false, false_and, or_self, or_false, false_or, decide_true, decide_false, Bool.false_eq_true, Bool.true_eq_false, bI_t, bI_f, b14, gfs0, gfs6, h51, h1, nI_clamp, h7t, h2]
    · simp (disch := first | omega | (simp only [sgets, reduceIte, Nat.reduceEqDiff, h2]; done) | omega) only [cS_1, crd, z_pv_some, z_wv_some, z_cv_v, z_cv_n, cwr, sgets, rc_O, ia_n, fa_n, is_n, fs_n, ↓mI_eq, lits, nI_add, nLe, nLt, nE, mI_ne, mI_ne', mI_lt, mI_le, mI_nlt, mI_nle, ne_eq, mI_addC, pk_sub, pk_mul, pk_div, Nat.reduceEqDiff, Nat.reduceAdd, Nat.reduceMul, Nat.reduceSub, reduceIte, not_true_eq_false, not_false_eq_true, true_or, or_true, if_true, if_false, and_self, and_true, true_and, and_false, false_and, or_self, or_false, false_or, decide_true, decide_false, Bool.false_eq_true, Bool.true_eq_false, bI_t, bI_f, b14, gfs0, gfs6, h51, h1, nI_clamp, h7f, h2]
