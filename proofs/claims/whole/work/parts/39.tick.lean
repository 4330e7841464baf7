/-! the floor's requests; the first three steps of a tick -/
theorem rot_eq (q : Nat → Int32) (a n k : Nat) : rot q a n k = if a ≤ k ∧ k < a + n then q (k + 1) else q k := by
  induction n generalizing k with
  | zero => rw [if_neg (by omega)]; rfl
  | succ n ih =>
    have e : rot q a (n + 1) = upd (rot q a n) (a + n) (rot q a n (a + n + 1)) := rfl
    rw [e]
    by_cases h : k = a + n
    · subst h
      rw [upd_eq, ih, if_neg (by omega), if_pos (by omega)]
    · rw [upd_ne _ _ h, ih]
      by_cases h2 : a ≤ k ∧ k < a + n
      · rw [if_pos h2, if_pos (by omega)]
      · rw [if_neg h2, if_neg (by omega)]
/-- the queue is one of participants -/
def okW (V : z_V) : Prop := ∃ W, W ≤ 20 ∧ V.1 11 = nI W ∧ qOk (V.2.2.1 11) W
theorem okW_nV {V : z_V} (h : okW V) : nV V 11 ≤ 20 ∧ V.1 11 = nI (nV V 11) ∧ qOk (V.2.2.1 11) (nV V 11) := by
  obtain ⟨W, hW, h1, h2⟩ := h
  rw [nV_of h1 (by omega)]
  exact ⟨hW, h1, h2⟩
theorem okW_forg {V : z_V} {W : Nat} (hW : W ≤ 20) (h1 : V.1 11 = nI W) (h2 : qOk (V.2.2.1 11) W) (p : Nat) : okW (forg V p W) := by
  unfold forg
  split
  · exact ⟨W, hW, h1, h2⟩
  · rcases qAt_lt (sA V 13 (upd (V.2.2.1 13) p (nI 0))) (nI p) W with h | ⟨k, hk, h⟩
    · rename_i hc; exact absurd h hc
    · refine ⟨W - 1, by omega, by simp only [sgets, if_true], ?_⟩
      simp only [sgets, if_true, h]
      rw [nI_clamp (by omega)]
      intro j hj
      rw [rot_eq]
      split
      · exact h2 _ (by omega)
      · exact h2 _ (by omega)
/-- Conference.askFloor -/
def enqR (V : z_V) (p : Nat) (y : Int32) : z_V := if 20 ≤ nV V 11 then V else enq V p (nV V 11) y
theorem m24e (M : z_M) (c : Nat) (V : z_V) (h : okW V) (p : Nat) (hp : p < 20) (x : Int32) : z_cl 24 [.ref (c + 17), .int (nI p), .int x] (cS M c V) = some (none, cS M c (enqR V p x)) := by
  obtain ⟨h1, h2, h3⟩ := okW_nV h
  unfold enqR
  by_cases hw : 20 ≤ nV V 11
  · rw [if_pos hw, e24]
    have hw2 : ¬ nV V 11 < 20 := by omega
    simp (disch := first | omega | (simp only [sgets, reduceIte, Nat.reduceEqDiff, h2, hw2]; done) | omega) only [cS_1, crd, z_pv_some, z_wv_some, z_cv_v, z_cv_n, cwr, sgets, rc_O, ia_n, fa_n, is_n, fs_n, ↓mI_eq, lits, nI_add, nLe, nLt, nE, mI_ne, mI_ne', mI_lt, mI_le, mI_nlt, mI_nle, ne_eq, mI_addC, pk_sub, pk_mul, pk_div, Nat.reduceEqDiff, Nat.reduceAdd, Nat.reduceMul, Nat.reduceSub, reduceIte, not_true_eq_false, not_false_eq_true, true_or, or_true, if_true, if_false, and_self, and_true, true_and, and_false, false_and, or_self, or_false, false_or, decide_true, decide_false, Bool.false_eq_true, Bool.true_eq_false, bI_t, bI_f, b24, gfs2, h2, hw2]
  · rw [if_neg hw]
    exact m24 M c V _ (by omega) h2 h3 p hp x
def askR (V : z_V) (x y : Int32) : Int32 × z_V := if here V x = false then (-(nI 2), V) else if ¬ (nI 0 ≤ y ∧ y ≤ nI 9) then (-(nI 3), V) else if ¬ stands V x.toNatClampNeg (nV V 11) = nI 0 then (-(nI 4), V) else ((enqR V x.toNatClampNeg y).1 11, enqR V x.toNatClampNeg y)
theorem m8 (M : z_M) (c : Nat) (V : z_V) (J : Nat) (hJ : J ≤ 20) (h9 : V.1 9 = nI J) (hw : okW V) (x y : Int32) : z_cl 8 [.ref c, .int x, .int y] (cS M c V) = some (some (.int (askR V x y).1), cS M c (askR V x y).2) := by
  rw [e8]
  obtain ⟨w1, w2, w3⟩ := okW_nV hw
  have h51 := m51 M c V J hJ h9 x
  have h74 := m74 y (nI 0) (nI 9) (cS M c V)
  unfold askR
  cases h1 : here V x with
  | false => simp (disch := first | omega | (simp only [sgets, reduceIte, Nat.reduceEqDiff]; done) | omega) only [cS_1, crd, z_pv_some, z_wv_some, z_cv_v, z_cv_n, cwr, sgets, rc_O, ia_n, fa_n, is_n, fs_n, ↓mI_eq, lits, nI_add, nLe, nLt, nE, mI_ne, mI_ne', mI_lt, mI_le, mI_nlt, mI_nle, ne_eq, mI_addC, pk_sub, pk_mul, pk_div, Nat.reduceEqDiff, Nat.reduceAdd, Nat.reduceMul, Nat.reduceSub, reduceIte, not_true_eq_false, not_false_eq_true, true_or, or_true, if_true, if_false, and_self, and_true, true_and, and_false, false_and, or_self, or_false, false_or, decide_true, decide_false, Bool.false_eq_true, Bool.true_eq_false, bI_t, bI_f, b8, gfs0, gfs6, h51, h1]
  | true =>
    obtain ⟨k, hk, rfl, hne⟩ := here_k hJ h9 h1
    have h23 := m23 M c V _ w1 w2 k (by omega)
    have h24 := m24e M c V hw k (by omega) y
    by_cases h2 : nI 0 ≤ y ∧ y ≤ nI 9
    · by_cases h3 : stands V k (nV V 11) = nI 0
      · simp (disch := first | omega | (simp only [sgets, reduceIte, Nat.reduceEqDiff, h2, h3]; done) | omega) only [cS_1, crd, z_pv_some, z_wv_some, z_cv_v, z_cv_n, cwr, sgets, rc_O, ia_n, fa_n, is_n, fs_n, ↓mI_eq, lits, nI_add, nLe, nLt, nE, mI_ne, mI_ne', mI_lt, mI_le, mI_nlt, mI_nle, ne_eq, mI_addC, pk_sub, pk_mul, pk_div, Nat.reduceEqDiff, Nat.reduceAdd, Nat.reduceMul, Nat.reduceSub, reduceIte, not_true_eq_false, not_false_eq_true, true_or, or_true, if_true, if_false, and_self, and_true, true_and, and_false, false_and, or_self, or_false, false_or, decide_true, decide_false, Bool.false_eq_true, Bool.true_eq_false, bI_t, bI_f, b8, gfs0, gfs2, h51, h74, h23, h24, h1, nI_clamp, h2, h3]
      · simp (disch := first | omega | (simp only [sgets, reduceIte, Nat.reduceEqDiff, h2, h3]; done) | omega) only [cS_1, crd, z_pv_some, z_wv_some, z_cv_v, z_cv_n, cwr, sgets, rc_O, ia_n, fa_n, is_n, fs_n, ↓mI_eq, lits, nI_add, nLe, nLt, nE, mI_ne, mI_ne', mI_lt, mI_le, mI_nlt, mI_nle, ne_eq, mI_addC, pk_sub, pk_mul, pk_div, Nat.reduceEqDiff, Nat.reduceAdd, Nat.reduceMul, Nat.reduceSub, reduceIte, not_true_eq_false, not_false_eq_true, true_or, or_true, if_true, if_false, and_self, and_true, true_and, and_false, false_and, or_self, or_false, false_or, decide_true, decide_false, Bool.false_eq_true, Bool.true_eq_false, bI_t, bI_f, b8, gfs0, gfs2, h51, h74, h23, h1, nI_clamp, h2, h3]
    · simp (disch := first | omega | (simp only [sgets, reduceIte, Nat.reduceEqDiff, h2]; done) | omega) only [cS_1, crd, z_pv_some, z_wv_some, z_cv_v, z_cv_n, cwr, sgets, rc_O, ia_n, fa_n, is_n, fs_n, ↓mI_eq, lits, nI_add, nLe, nLt, nE, mI_ne, mI_ne', mI_lt, mI_le, mI_nlt, mI_nle, ne_eq, mI_addC, pk_sub, pk_mul, pk_div, Nat.reduceEqDiff, Nat.reduceAdd, Nat.reduceMul, Nat.reduceSub, reduceIte, not_true_eq_false, not_false_eq_true, true_or, or_true, if_true, if_false, and_self, and_true, true_and, and_false, false_and, or_self, or_false, false_or, decide_true, decide_false, Bool.false_eq_true, Bool.true_eq_false, bI_t, bI_f, b8, gfs0, gfs2, h51, h74, h1, nI_clamp, h2]
/-- Conference.yieldFloor -/
def yieR (V : z_V) (x : Int32) : Int32 × z_V := if here V x = false then (-(nI 2), V) else if stands V x.toNatClampNeg (nV V 11) = nI 0 then (-(nI 4), V) else (if stands V x.toNatClampNeg (nV V 11) = nI 2 then nI 1 else nI 0, forg V x.toNatClampNeg (nV V 11))
theorem m9 (M : z_M) (c : Nat) (V : z_V) (J : Nat) (hJ : J ≤ 20) (h9 : V.1 9 = nI J) (hw : okW V) (x : Int32) : z_cl 9 [.ref c, .int x] (cS M c V) = some (some (.int (yieR V x).1), cS M c (yieR V x).2) := by
  rw [e9]
  obtain ⟨w1, w2, w3⟩ := okW_nV hw
  have h51 := m51 M c V J hJ h9 x
  unfold yieR
  cases h1 : here V x with
  | false => simp (disch := first | omega | (simp only [sgets, reduceIte, Nat.reduceEqDiff]; done) | omega) only [cS_1, crd, z_pv_some, z_wv_some, z_cv_v, z_cv_n, cwr, sgets, rc_O, ia_n, fa_n, is_n, fs_n, ↓mI_eq, lits, nI_add, nLe, nLt, nE, mI_ne, mI_ne', mI_lt, mI_le, mI_nlt, mI_nle, ne_eq, mI_addC, pk_sub, pk_mul, pk_div, Nat.reduceEqDiff, Nat.reduceAdd, Nat.reduceMul, Nat.reduceSub, reduceIte, not_true_eq_false, not_false_eq_true, true_or, or_true, if_true, if_false, and_self, and_true, true_and, and_false, false_and, or_self, or_false, false_or, decide_true, decide_false, Bool.false_eq_true, Bool.true_eq_false, bI_t, bI_f, b9, gfs0, gfs6, h51, h1]
  | true =>
    obtain ⟨k, hk, rfl, hne⟩ := here_k hJ h9 h1
    have h23 := m23 M c V _ w1 w2 k (by omega)
    have h21 := m21 M c V _ w1 w2 k (by omega)
    by_cases h3 : stands V k (nV V 11) = nI 0
    · simp (disch := first | omega | (simp only [sgets, reduceIte, Nat.reduceEqDiff, h3]; done) | omega) only [cS_1, crd, z_pv_some, z_wv_some, z_cv_v, z_cv_n, cwr, sgets, rc_O, ia_n, fa_n, is_n, fs_n, ↓mI_eq, lits, nI_add, nLe, nLt, nE, mI_ne, mI_ne', mI_lt, mI_le, mI_nlt, mI_nle, ne_eq, mI_addC, pk_sub, pk_mul, pk_div, Nat.reduceEqDiff, Nat.reduceAdd, Nat.reduceMul, Nat.reduceSub, reduceIte, not_true_eq_false, not_false_eq_true, true_or, or_true, if_true, if_false, and_self, and_true, true_and, and_false, false_and, or_self, or_false, false_or, decide_true, decide_false, Bool.false_eq_true, Bool.true_eq_false, bI_t, bI_f, b9, gfs0, gfs2, h51, h23, h1, nI_clamp, h3]
    · by_cases h4 : stands V k (nV V 11) = nI 2
      · simp (disch := first | omega | (simp only [sgets, reduceIte, Nat.reduceEqDiff, h4]; done) | omega) only [cS_1, crd, z_pv_some, z_wv_some, z_cv_v, z_cv_n, cwr, sgets, rc_O, ia_n, fa_n, is_n, fs_n, ↓mI_eq, lits, nI_add, nLe, nLt, nE, mI_ne, mI_ne', mI_lt, mI_le, mI_nlt, mI_nle, ne_eq, mI_addC, pk_sub, pk_mul, pk_div, Nat.reduceEqDiff, Nat.reduceAdd, Nat.reduceMul, Nat.reduceSub, reduceIte, not_true_eq_false, not_false_eq_true, true_or, or_true, if_true, if_false, and_self, and_true, true_and, and_false, false_and, or_self, or_false, false_or, decide_true, decide_false, Bool.false_eq_true, Bool.true_eq_false, bI_t, bI_f, b9, gfs0, gfs2, h51, h23, h21, h1, nI_clamp, h4]
      · simp (disch := first | omega | (simp only [sgets, reduceIte, Nat.reduceEqDiff, h3, h4]; done) | omega) only [cS_1, crd, z_pv_some, z_wv_some, z_cv_v, z_cv_n, cwr, sgets, rc_O, ia_n, fa_n, is_n, fs_n, ↓mI_eq, lits, nI_add, nLe, nLt, nE, mI_ne, mI_ne', mI_lt, mI_le, mI_nlt, mI_nle, ne_eq, mI_addC, pk_sub, pk_mul, pk_div, Nat.reduceEqDiff, Nat.reduceAdd, Nat.reduceMul, Nat.reduceSub, reduceIte, not_true_eq_false, not_false_eq_true, true_or, or_true, if_true, if_false, and_self, and_true, true_and, and_false, false_and, or_self, or_false, false_or, decide_true, decide_false, Bool.false_eq_true, Bool.true_eq_false, bI_t, bI_f, b9, gfs0, gfs2, h51, h23, h21, h1, nI_clamp, h3, h4]
/-- Conference.timeHolder -/
def tHa (V : z_V) (p : Nat) : z_V := sA (sA V 14 (upd (V.2.2.1 14) p (V.2.2.1 14 p + nI 1))) 15 (upd (V.2.2.1 15) p (if nI 0 ≤ Op.cmpValue (FP.fcmp (V.2.2.2 0 p) V.2.1) .g then nI 0 else V.2.2.1 15 p + nI 1))
def tH (V : z_V) (p : Nat) : z_V := if ¬ (tHa V p).2.2.1 15 p ≤ V.1 6 then evAdd (forg (tHa V p) p (nV V 11)) (nI 3) (nI p) (V.1 0) else
  if ¬ V.1 7 ≤ nI 0 ∧ ¬ (tHa V p).2.2.1 14 p < V.1 7 ∧ ¬ V.1 11 ≤ nI 0 then evAdd (forg (tHa V p) p (nV V 11)) (nI 4) (nI p) (V.1 0) else tHa V p
theorem forg_okE {V : z_V} (h : okE V) (p W : Nat) : okE (forg V p W) := by
  obtain ⟨N, K, a, b, d, e⟩ := h
  exact ⟨N, K, a, b, by rw [forg_S _ _ _ _ (by omega)]; exact d, by rw [forg_S _ _ _ _ (by omega)]; exact e⟩
theorem m12 (M : z_M) (c : Nat) (V : z_V) (hw : okW V) (hE : okE V) (p : Nat) (hp : p < 20) : z_cl 12 [.ref c, .int (nI p)] (cS M c V) = some (none, cS M c (tH V p)) := by
  rw [e12]
  obtain ⟨w1, w2, w3⟩ := okW_nV hw
  have h21 := m21 M c (tHa V p) _ w1 (show (tHa V p).1 11 = _ from w2) p hp
  have h17 := fun k => m17e M c (forg (tHa V p) p (nV V 11)) k (nI p) (V.1 0) (forg_okE (show okE (tHa V p) from hE) _ _)
  have s0 := forg_S (tHa V p) p (nV V 11) 0 (by omega)
  have t0 : (tHa V p).1 = V.1 := rfl
  rw [t0] at s0
  unfold tH
  have ha : tHa V p = sA (sA V 14 (upd (V.2.2.1 14) p (V.2.2.1 14 p + nI 1))) 15 (upd (V.2.2.1 15) p (if nI 0 ≤ Op.cmpValue (FP.fcmp (V.2.2.2 0 p) V.2.1) .g then nI 0 else V.2.2.1 15 p + nI 1)) := rfl
  have a15 : (tHa V p).2.2.1 15 p = (if nI 0 ≤ Op.cmpValue (FP.fcmp (V.2.2.2 0 p) V.2.1) .g then nI 0 else V.2.2.1 15 p + nI 1) := by rw [ha]; simp only [sgets, if_true, upd_eq]
  have a14 : (tHa V p).2.2.1 14 p = V.2.2.1 14 p + nI 1 := by rw [ha]; simp only [sgets, if_true, Nat.reduceEqDiff, if_false, upd_eq]
  by_cases hc : nI 0 ≤ Op.cmpValue (FP.fcmp (V.2.2.2 0 p) V.2.1) .g
  · rw [if_pos hc] at ha a15
    simp (disch := first | omega | (simp only [sgets, reduceIte, Nat.reduceEqDiff, hc]; done) | omega) only [cS_1, crd, z_pv_some, z_wv_some, z_cv_v, z_cv_n, cwr, sgets, rc_O, ia_n, fa_n, is_n, fs_n, ↓mI_eq, lits, nI_add, nLe, nLt, nE, mI_ne, mI_ne', mI_lt, mI_le, mI_nlt, mI_nle, ne_eq, mI_addC, pk_sub, pk_mul, pk_div, Nat.reduceEqDiff, Nat.reduceAdd, Nat.reduceMul, Nat.reduceSub, reduceIte, not_true_eq_false, not_false_eq_true, true_or, or_true, if_true, if_false, and_self, and_true, true_and, and_false, false_and, or_self, or_false, false_or, decide_true, decide_false, Bool.false_eq_true, Bool.true_eq_false, bI_t, bI_f, b12, gfs0, gfs2, gfs6, gfs7, ← ha, t0, a15, a14, h21, h17, s0, hc]
    by_cases d1 : nI 0 ≤ V.1 6 <;> by_cases d2 : V.1 7 ≤ nI 0 <;> by_cases d3 : V.2.2.1 14 p + nI 1 < V.1 7 <;> by_cases d4 : V.1 11 ≤ nI 0 <;> simp only [d1, d2, d3, d4, if_true, if_false, not_true_eq_false, not_false_eq_true, and_true, and_false, true_and, false_and, and_self]
  · rw [if_neg hc] at ha a15
    simp (disch := first | omega | (simp only [sgets, reduceIte, Nat.reduceEqDiff, hc]; done) | omega) only [cS_1, crd, z_pv_some, z_wv_some, z_cv_v, z_cv_n, cwr, sgets, rc_O, ia_n, fa_n, is_n, fs_n, ↓mI_eq, lits, nI_add, nLe, nLt, nE, mI_ne, mI_ne', mI_lt, mI_le, mI_nlt, mI_nle, ne_eq, mI_addC, pk_sub, pk_mul, pk_div, Nat.reduceEqDiff, Nat.reduceAdd, Nat.reduceMul, Nat.reduceSub, reduceIte, not_true_eq_false, not_false_eq_true, true_or, or_true, if_true, if_false, and_self, and_true, true_and, and_false, false_and, or_self, or_false, false_or, decide_true, decide_false, Bool.false_eq_true, Bool.true_eq_false, bI_t, bI_f, b12, gfs0, gfs2, gfs6, gfs7, ← ha, t0, a15, a14, h21, h17, s0, hc]
    by_cases d1 : V.2.2.1 15 p + nI 1 ≤ V.1 6 <;> by_cases d2 : V.1 7 ≤ nI 0 <;> by_cases d3 : V.2.2.1 14 p + nI 1 < V.1 7 <;> by_cases d4 : V.1 11 ≤ nI 0 <;> simp only [d1, d2, d3, d4, if_true, if_false, not_true_eq_false, not_false_eq_true, and_true, and_false, true_and, false_and, and_self]
/-- W is V but for the floor and the events -/
def kF (V W : z_V) : Prop := okE W ∧ okW W ∧ (∀ i, i ≠ 11 → i ≠ 12 → i ≠ 13 → W.1 i = V.1 i) ∧ W.2.1 = V.2.1 ∧ (∀ i, i < 11 → W.2.2.1 i = V.2.2.1 i) ∧ (∀ i, 15 < i → i < 19 → W.2.2.1 i = V.2.2.1 i) ∧ W.2.2.2 = V.2.2.2
theorem kF.rf {V : z_V} (h : okE V) (hw : okW V) : kF V V := ⟨h, hw, fun _ _ _ _ => rfl, rfl, fun _ _ => rfl, fun _ _ _ => rfl, rfl⟩
theorem kF.tr {V W X : z_V} (h1 : kF V W) (h2 : kF W X) : kF V X := ⟨h2.1, h2.2.1, fun i a b d => (h2.2.2.1 i a b d).trans (h1.2.2.1 i a b d), h2.2.2.2.1.trans h1.2.2.2.1, fun i a => (h2.2.2.2.2.1 i a).trans (h1.2.2.2.2.1 i a), fun i a b => (h2.2.2.2.2.2.1 i a b).trans (h1.2.2.2.2.2.1 i a b), h2.2.2.2.2.2.2.trans h1.2.2.2.2.2.2⟩
theorem kF_ev {V : z_V} (h : okE V) (hw : okW V) (x y z : Int32) : kF V (evAdd V x y z) := by
  refine ⟨okE_ev h _ _ _, ?_, fun i a b d => evAdd_S _ _ _ _ _ b d, rfl, fun i a => evAdd_A _ _ _ _ _ (by omega), fun i a b => evAdd_A _ _ _ _ _ (by omega), rfl⟩
  obtain ⟨W, a, b, d⟩ := hw
  exact ⟨W, a, by rw [evAdd_S _ _ _ _ _ (by omega) (by omega)]; exact b, by rw [evAdd_A _ _ _ _ _ (by omega)]; exact d⟩
theorem kF_forg {V : z_V} (h : okE V) (hw : okW V) (p : Nat) : kF V (forg V p (nV V 11)) := by
  obtain ⟨w1, w2, w3⟩ := okW_nV hw
  exact ⟨forg_okE h _ _, okW_forg w1 w2 w3 p, fun i a _ _ => forg_S _ _ _ _ a, forg_T _ _ _, fun i a => forg_A _ _ _ _ (by omega) (by omega), fun i a b => forg_A _ _ _ _ (by omega) (by omega), forg_F _ _ _⟩
theorem kF_tHa {V : z_V} (h : okE V) (hw : okW V) (p : Nat) : kF V (tHa V p) := by
  refine ⟨h, hw, fun _ _ _ _ => rfl, rfl, fun i a => ?_, fun i a b => ?_, rfl⟩
  · unfold tHa
    simp only [sgets, show i ≠ 14 by omega, show i ≠ 15 by omega, if_false]
  · unfold tHa
    simp only [sgets, show i ≠ 14 by omega, show i ≠ 15 by omega, if_false]
theorem kF_tH {V : z_V} (h : okE V) (hw : okW V) (p : Nat) : kF V (tH V p) := by
  have k1 := kF_tHa h hw p
  have k2 : kF V (forg (tHa V p) p (nV V 11)) := k1.tr (kF_forg k1.1 k1.2.1 p)
  unfold tH
  split
  · exact k2.tr (kF_ev k2.1 k2.2.1 _ _ _)
  · split
    · exact k2.tr (kF_ev k2.1 k2.2.1 _ _ _)
    · exact k1
/-- the holders are timed -/
def tHs (p : Nat) (V : z_V) : z_V := if V.2.2.1 13 p = nI 1 then tH V p else V
theorem kF_tHs {V : z_V} (h : okE V) (hw : okW V) (p : Nat) : kF V (tHs p V) := by
  unfold tHs
  split
  · exact kF_tH h hw p
  · exact kF.rf h hw
/-- Conference.grantFloor -/
def q0 (V : z_V) : Nat := (V.2.2.1 11 0).toNatClampNeg
def gF : Nat → Int32 → z_V → z_V
  | 0, _, V => V
  | k + 1, s, V => if V.1 5 ≤ s then V else gF k (s + nI 1) (evAdd (grantF V (q0 V) (k + 1)) (nI 2) (nI (q0 V)) (V.1 0))
theorem qAt_0 (V : z_V) (x : Int32) (n : Nat) (h : V.2.2.1 11 0 = x) : qAt V x (n + 1) = nI 0 := by
  induction n with
  | zero => simp only [qAt, if_true, h]
  | succ n ih =>
    rw [qAt, ih]
    rw [if_neg (by rw [mI_ne (by omega)]; exact not_false)]
theorem grant_11 (V : z_V) (p k : Nat) (hp : p < 20) (h : V.2.2.1 11 0 = nI p) : (grantF V p (k + 1)).1 11 = nI k := by
  unfold grantF
  simp only [sgets]
  unfold forg
  have hq := qAt_0 (sA V 13 (upd (V.2.2.1 13) p (nI 0))) (nI p) k (by simp only [sgets, Nat.reduceEqDiff, if_false]; exact h)
  rw [hq, if_neg (by rw [mI_ne (by omega)]; exact not_false)]
  simp only [sgets, if_true, Nat.add_sub_cancel]
theorem kF_grant {V : z_V} (h : okE V) (hw : okW V) (p : Nat) : kF V (grantF V p (nV V 11)) := by
  have k1 := kF_forg h hw p
  obtain ⟨W, a, b, d⟩ := k1.2.1
  unfold grantF
  refine ⟨k1.1, ⟨W, a, b, ?_⟩, k1.2.2.1, k1.2.2.2.1, fun i hi => ?_, fun i hi hi2 => ?_, k1.2.2.2.2.2.2⟩
  · simp only [sgets, Nat.reduceEqDiff, if_false]
    exact d
  · simp only [sgets, show i ≠ 13 by omega, show i ≠ 14 by omega, show i ≠ 15 by omega, if_false]
    exact k1.2.2.2.2.1 i hi
  · simp only [sgets, show i ≠ 13 by omega, show i ≠ 14 by omega, show i ≠ 15 by omega, if_false]
    exact k1.2.2.2.2.2.1 i hi hi2
theorem m13 (M : z_M) (c : Nat) (V : z_V) (hw : okW V) (hE : okE V) : z_cl 13 [.ref c] (cS M c V) = some (none, cS M c (gF (nV V 11) (sumI (V.2.2.1 13) 20) V)) ∧ kF V (gF (nV V 11) (sumI (V.2.2.1 13) 20) V) := by
  rw [e13]
  have h25 := m25 M c V
  simp (disch := first | omega | (simp only [sgets, reduceIte, Nat.reduceEqDiff]; done) | omega) only [cS_1, crd, z_pv_some, z_wv_some, z_cv_v, z_cv_n, cwr, sgets, rc_O, ia_n, fa_n, is_n, fs_n, ↓mI_eq, lits, nI_add, nLe, nLt, nE, mI_ne, mI_ne', mI_lt, mI_le, mI_nlt, mI_nle, ne_eq, mI_addC, pk_sub, pk_mul, pk_div, Nat.reduceEqDiff, Nat.reduceAdd, Nat.reduceMul, Nat.reduceSub, reduceIte, not_true_eq_false, not_false_eq_true, true_or, or_true, if_true, if_false, and_self, and_true, true_and, and_false, false_and, or_self, or_false, false_or, decide_true, decide_false, Bool.false_eq_true, Bool.true_eq_false, bI_t, bI_f, b13, gfs0, h25]
  have key : ∀ (k : Nat) (s : Int32) (W : z_V) (j : Option Value), kF V W → nV W 11 = k → z_ex 13 M.1 8 [some (.ref c), some (.int s), j] [] (cS M c W) = some (none, cS M c (gF k s W)) ∧ kF V (gF k s W) := by
    intro k
    induction k with
    | zero =>
      intro s W j hK hk
      obtain ⟨w1, w2, w3⟩ := okW_nV hK.2.1
      rw [hk] at w2
      constructor
      · rw [q13_8]
        unfold gF
        simp (disch := first | omega | (simp only [sgets, reduceIte, Nat.reduceEqDiff, w2]; done) | omega) only [cS_1, crd, z_pv_some, z_wv_some, z_cv_v, z_cv_n, cwr, sgets, rc_O, ia_n, fa_n, is_n, fs_n, ↓mI_eq, lits, nI_add, nLe, nLt, nE, mI_ne, mI_ne', mI_lt, mI_le, mI_nlt, mI_nle, ne_eq, mI_addC, pk_sub, pk_mul, pk_div, Nat.reduceEqDiff, Nat.reduceAdd, Nat.reduceMul, Nat.reduceSub, reduceIte, not_true_eq_false, not_false_eq_true, true_or, or_true, if_true, if_false, and_self, and_true, true_and, and_false, false_and, or_self, or_false, false_or, decide_true, decide_false, Bool.false_eq_true, Bool.true_eq_false, bI_t, bI_f, b13, gfs0, gfs2, gfs7, Nat.le_refl, if_same, w2]
      · exact hK
    | succ k ih =>
      intro s W j hK hk
      obtain ⟨w1, w2, w3⟩ := okW_nV hK.2.1
      rw [hk] at w1 w2 w3
      obtain ⟨p, hp, hq⟩ := w3 0 (by omega)
      have hq0 : q0 W = p := by unfold q0; rw [hq, nI_clamp (by omega)]
      have h26 := m26 M c W (k + 1) w1 w2 p hp
      have kg := kF_grant hK.1 hK.2.1 p
      rw [hk] at kg
      have h17 := m17e M c (grantF W p (k + 1)) (nI 2) (nI p) (W.1 0) kg.1
      have s0 := kg.2.2.1 0 (by omega) (by omega) (by omega)
      have g11 := grant_11 W p k hp hq
      unfold gF
      rw [hq0]
      by_cases hc : W.1 5 ≤ s
      · rw [if_pos hc, q13_8]
        constructor
        · simp (disch := first | omega | (simp only [sgets, reduceIte, Nat.reduceEqDiff, hc]; done) | omega) only [cS_1, crd, z_pv_some, z_wv_some, z_cv_v, z_cv_n, cwr, sgets, rc_O, ia_n, fa_n, is_n, fs_n, ↓mI_eq, lits, nI_add, nLe, nLt, nE, mI_ne, mI_ne', mI_lt, mI_le, mI_nlt, mI_nle, ne_eq, mI_addC, pk_sub, pk_mul, pk_div, Nat.reduceEqDiff, Nat.reduceAdd, Nat.reduceMul, Nat.reduceSub, reduceIte, not_true_eq_false, not_false_eq_true, true_or, or_true, if_true, if_false, and_self, and_true, true_and, and_false, false_and, or_self, or_false, false_or, decide_true, decide_false, Bool.false_eq_true, Bool.true_eq_false, bI_t, bI_f, b13, gfs0, gfs2, gfs7, hc]
        · exact hK
      · rw [if_neg hc, q13_8]
        have hk0 : ¬ k + 1 ≤ 0 := by omega
        have ke := kg.tr (kF_ev kg.1 kg.2.1 (nI 2) (nI p) (W.1 0))
        have hn : nV (evAdd (grantF W p (k + 1)) (nI 2) (nI p) (W.1 0)) 11 = k := nV_of (by rw [evAdd_S _ _ _ _ _ (by omega) (by omega)]; exact g11) (by omega)
        have hi := ih (s + nI 1) (evAdd (grantF W p (k + 1)) (nI 2) (nI p) (W.1 0)) (some (.int (nI p))) (hK.tr ke) hn
        constructor
        · simp (disch := first | omega | (simp only [sgets, reduceIte, Nat.reduceEqDiff, hc, w2, hk0, hq, s0]; done) | omega) only [cS_1, crd, z_pv_some, z_wv_some, z_cv_v, z_cv_n, cwr, sgets, rc_O, ia_n, fa_n, is_n, fs_n, ↓mI_eq, lits, nI_add, nLe, nLt, nE, mI_ne, mI_ne', mI_lt, mI_le, mI_nlt, mI_nle, ne_eq, mI_addC, pk_sub, pk_mul, pk_div, Nat.reduceEqDiff, Nat.reduceAdd, Nat.reduceMul, Nat.reduceSub, reduceIte, not_true_eq_false, not_false_eq_true, true_or, or_true, if_true, if_false, and_self, and_true, true_and, and_false, false_and, or_self, or_false, false_or, decide_true, decide_false, Bool.false_eq_true, Bool.true_eq_false, bI_t, bI_f, b13, gfs0, gfs2, gfs7, h26, h17, hi.1, hc, w2, hk0, hq, s0]
        · exact hi.2
  exact key _ _ V none (kF.rf hE hw) rfl
/-- Conference.beginTick -/
def floorV (J : Nat) (V : z_V) : z_V := gF (nV (it tHs J V) 11) (sumI ((it tHs J V).2.2.1 13) 20) (it tHs J V)
def begT (V : z_V) (J S B : Nat) : z_V :=
  it (selB J S) B (if V.1 4 = nI 0 then it (fun p W => updL W p) J (sS V 0 (V.1 0 + nI 1)) else floorV J (it (fun p W => updL W p) J (sS V 0 (V.1 0 + nI 1))))
theorem m11 (M : z_M) (c : Nat) (V : z_V) (J S Hy B : Nat) (hJ : J ≤ 20) (h : V.1 9 = nI J) (hS : S ≤ 4) (h1 : V.1 1 = nI S) (hH : Hy ≤ 16) (h2 : V.1 2 = nI Hy) (hB : B ≤ 8) (h8 : V.1 8 = nI B) (hE : okE V) (hw : okW V) (hl : lvOk V) (hd : ldOk V) : z_cl 11 [.ref c] (cS M c V) = some (none, cS M c (begT V J S B)) := by
  rw [e11]
  unfold begT
  obtain ⟨u1, u2, u3, u4, u5⟩ := m52 M c (sS V 0 (V.1 0 + nI 1)) J hJ (by simp only [sgets, Nat.reduceEqDiff, if_false]; exact h) hl hd
  generalize hW2 : it (fun p W => updL W p) J (sS V 0 (V.1 0 + nI 1)) = W2 at u1 u2 u3 u4 u5 ⊢
  replace u1 : z_cl 52 [.ref (c + 6), .float V.2.1] (cS M c (sS V 0 (V.1 0 + nI 1))) = some (none, cS M c W2) := u1
  have uS : ∀ i, i ≠ 0 → W2.1 i = V.1 i := fun i hi => by rw [u3]; simp only [sgets, hi, if_false]
  have hE2 : okE W2 := by obtain ⟨N, K, a, b, d, e⟩ := hE; exact ⟨N, K, a, b, by rw [uS 13 (by omega)]; exact d, by rw [uS 12 (by omega)]; exact e⟩
  have hw2 : okW W2 := by obtain ⟨W, a, b, d⟩ := hw; exact ⟨W, a, by rw [uS 11 (by omega)]; exact b, by rw [u5 11 (by omega)]; exact d⟩
  have fin : ∀ W, (∀ i, i ≠ 0 → i ≠ 11 → i ≠ 12 → i ≠ 13 → W.1 i = V.1 i) → okE W → ldOk W → z_cl 177 [.ref c] (cS M c W) = some (none, cS M c (it (selB J S) B W)) := fun W hs he hld => (m177 M c W J S Hy B hJ (by rw [hs 9 (by omega) (by omega) (by omega) (by omega)]; exact h) hS (by rw [hs 1 (by omega) (by omega) (by omega) (by omega)]; exact h1) hH (by rw [hs 2 (by omega) (by omega) (by omega) (by omega)]; exact h2) hB (by rw [hs 8 (by omega) (by omega) (by omega) (by omega)]; exact h8) he hld).1
  have t4 : W2.1 4 = V.1 4 := uS 4 (by omega)
  by_cases hf : V.1 4 = nI 0
  · have f1 := fin W2 (fun i a _ _ _ => uS i a) hE2 u2
    simp (disch := first | omega | (simp only [sgets, reduceIte, Nat.reduceEqDiff, t4, hf]; done) | omega) only [cS_1, crd, z_pv_some, z_wv_some, z_cv_v, z_cv_n, cwr, sgets, rc_O, ia_n, fa_n, is_n, fs_n, ↓mI_eq, lits, nI_add, nLe, nLt, nE, mI_ne, mI_ne', mI_lt, mI_le, mI_nlt, mI_nle, ne_eq, mI_addC, pk_sub, pk_mul, pk_div, Nat.reduceEqDiff, Nat.reduceAdd, Nat.reduceMul, Nat.reduceSub, reduceIte, not_true_eq_false, not_false_eq_true, true_or, or_true, if_true, if_false, and_self, and_true, true_and, and_false, false_and, or_self, or_false, false_or, decide_true, decide_false, Bool.false_eq_true, Bool.true_eq_false, bI_t, bI_f, b11, gfs0, pfs0, gfs7, u1, f1, t4, hf]
  · obtain ⟨l1, l2⟩ := lp_for (fun k (W : z_V) (_ : Unit) => z_ex 11 M.1 36 [some (.ref c), some (.int (nI k))] [] (cS M c W)) tHs (fun _ W => kF W2 W) J (fun W => z_ex 11 M.1 71 [some (.ref c), some (.int (nI J))] [] (cS M c W)) (by
      intro k W j hk hK
      have hk2 : ¬ J ≤ k := by omega
      have hJ9 : W.1 9 = nI J := by rw [hK.2.2.1 9 (by omega) (by omega) (by omega), uS 9 (by omega)]; exact h
      have h12 := m12 M c W hK.2.1 hK.1 k (by omega)
      rw [q11_36]
      by_cases h3 : W.2.2.1 13 k = nI 1
      · have hu : tHs k W = tH W k := by simp [tHs, h3]
        simp (disch := first | omega | (simp only [sgets, reduceIte, Nat.reduceEqDiff, hJ9, hk2, h3]; done) | omega) only [cS_1, crd, z_pv_some, z_wv_some, z_cv_v, z_cv_n, cwr, sgets, rc_O, ia_n, fa_n, is_n, fs_n, ↓mI_eq, lits, nI_add, nLe, nLt, nE, mI_ne, mI_ne', mI_lt, mI_le, mI_nlt, mI_nle, ne_eq, mI_addC, pk_sub, pk_mul, pk_div, Nat.reduceEqDiff, Nat.reduceAdd, Nat.reduceMul, Nat.reduceSub, reduceIte, not_true_eq_false, not_false_eq_true, true_or, or_true, if_true, if_false, and_self, and_true, true_and, and_false, false_and, or_self, or_false, false_or, decide_true, decide_false, Bool.false_eq_true, Bool.true_eq_false, bI_t, bI_f, b11, gfs0, gfs2, gfs6, h12, hu, hJ9, hk2, h3]
        exact ⟨(), trivial⟩
      · have hu : tHs k W = W := by simp [tHs, h3]
        simp (disch := first | omega | (simp only [sgets, reduceIte, Nat.reduceEqDiff, hJ9, hk2, h3]; done) | omega) only [cS_1, crd, z_pv_some, z_wv_some, z_cv_v, z_cv_n, cwr, sgets, rc_O, ia_n, fa_n, is_n, fs_n, ↓mI_eq, lits, nI_add, nLe, nLt, nE, mI_ne, mI_ne', mI_lt, mI_le, mI_nlt, mI_nle, ne_eq, mI_addC, pk_sub, pk_mul, pk_div, Nat.reduceEqDiff, Nat.reduceAdd, Nat.reduceMul, Nat.reduceSub, reduceIte, not_true_eq_false, not_false_eq_true, true_or, or_true, if_true, if_false, and_self, and_true, true_and, and_false, false_and, or_self, or_false, false_or, decide_true, decide_false, Bool.false_eq_true, Bool.true_eq_false, bI_t, bI_f, b11, gfs0, gfs2, gfs6, hu, hJ9, hk2, h3]
        exact ⟨(), trivial⟩) (fun k W hk hK => hK.tr (kF_tHs hK.1 hK.2.1 k)) (by
      intro W j hK
      have hJ9 : W.1 9 = nI J := by rw [hK.2.2.1 9 (by omega) (by omega) (by omega), uS 9 (by omega)]; exact h
      rw [q11_36]
      simp (disch := first | omega | (simp only [sgets, reduceIte, Nat.reduceEqDiff, hJ9]; done) | omega) only [cS_1, crd, z_pv_some, z_wv_some, z_cv_v, z_cv_n, cwr, sgets, rc_O, ia_n, fa_n, is_n, fs_n, ↓mI_eq, lits, nI_add, nLe, nLt, nE, mI_ne, mI_ne', mI_lt, mI_le, mI_nlt, mI_nle, ne_eq, mI_addC, pk_sub, pk_mul, pk_div, Nat.reduceEqDiff, Nat.reduceAdd, Nat.reduceMul, Nat.reduceSub, reduceIte, not_true_eq_false, not_false_eq_true, true_or, or_true, if_true, if_false, and_self, and_true, true_and, and_false, false_and, or_self, or_false, false_or, decide_true, decide_false, Bool.false_eq_true, Bool.true_eq_false, bI_t, bI_f, gfs0, gfs6, Nat.le_refl, q11_37, q11_38, q11_41, q11_44, hJ9]) W2 () (kF.rf hE2 hw2)
    have ht : (if V.1 4 = nI 0 then W2 else floorV J W2) = floorV J W2 := if_neg hf
    rw [ht]
    unfold floorV
    generalize hW3 : it tHs J W2 = W3 at l1 l2 ⊢
    obtain ⟨g1, g2⟩ := m13 M c W3 l2.2.1 l2.1
    have k4 := l2.tr g2
    have f1 := fin (gF (nV W3 11) (sumI (W3.2.2.1 13) 20) W3) (fun i a b d e => by rw [k4.2.2.1 i b d e, uS i a]) k4.1 (fun p hp => by rw [k4.2.2.2.2.2.2]; exact u2 p hp)
    simp (disch := first | omega | (simp only [sgets, reduceIte, Nat.reduceEqDiff, t4, hf]; done) | omega) only [cS_1, crd, z_pv_some, z_wv_some, z_cv_v, z_cv_n, cwr, sgets, rc_O, ia_n, fa_n, is_n, fs_n, ↓mI_eq, lits, nI_add, nLe, nLt, nE, mI_ne, mI_ne', mI_lt, mI_le, mI_nlt, mI_nle, ne_eq, mI_addC, pk_sub, pk_mul, pk_div, Nat.reduceEqDiff, Nat.reduceAdd, Nat.reduceMul, Nat.reduceSub, reduceIte, not_true_eq_false, not_false_eq_true, true_or, or_true, if_true, if_false, and_self, and_true, true_and, and_false, false_and, or_self, or_false, false_or, decide_true, decide_false, Bool.false_eq_true, Bool.true_eq_false, bI_t, bI_f, b11, gfs0, pfs0, gfs7, u1, l1, g1, f1, t4, hf]
