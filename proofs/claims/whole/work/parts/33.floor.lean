/-! the floor: writes -/
/-- Floor.enqueue: the place, behind all of the same priority -/
def insQ (pr : Nat → Int32) (x : Int32) : Nat → (Nat → Int32) → (Nat → Int32) × Nat
  | 0, q => (q, 0)
  | n + 1, q => if pr (q n).toNatClampNeg < x then insQ pr x n (upd q (n + 1) (q n)) else (q, n + 1)
theorem insQ_le (pr : Nat → Int32) (x : Int32) (n : Nat) (q : Nat → Int32) : (insQ pr x n q).2 ≤ n := by
  induction n generalizing q with
  | zero => exact Nat.le_refl _
  | succ n ih =>
    unfold insQ
    split
    · exact Nat.le_succ_of_le (ih _)
    · exact Nat.le_refl _
def enq (V : z_V) (p W : Nat) (x : Int32) : z_V :=
  sS (sA (sA V 11 (upd (insQ (V.2.2.1 12) x W (V.2.2.1 11)).1 (insQ (V.2.2.1 12) x W (V.2.2.1 11)).2 (nI p))) 12 (upd (V.2.2.1 12) p x)) 11 (nI (W + 1))
/-- the queue's first W places hold participants -/
def qOk (q : Nat → Int32) (W : Nat) : Prop := ∀ k, k < W → ∃ p, p < 20 ∧ q k = nI p
theorem sA_sA (V : z_V) (i : Nat) (f g : Nat → Int32) : sA (sA V i f) i g = sA V i g := by
  unfold sA
  congr 3
  funext j
  by_cases h : j = i <;> simp [h]
theorem sS_sS (V : z_V) (i : Nat) (x y : Int32) : sS (sS V i x) i y = sS V i y := by
  unfold sS
  congr 1
  funext j
  by_cases h : j = i <;> simp [h, upd]
theorem sF_sF (V : z_V) (i : Nat) (f g : Nat → UInt32) : sF (sF V i f) i g = sF V i g := by
  unfold sF
  congr 3
  funext j
  by_cases h : j = i <;> simp [h]
theorem m24 (M : z_M) (c : Nat) (V : z_V) (W : Nat) (hW : W < 20) (h : V.1 11 = nI W) (hq : qOk (V.2.2.1 11) W) (p : Nat) (hp : p < 20) (x : Int32) : z_cl 24 [.ref (c + 17), .int (nI p), .int x] (cS M c V) = some (none, cS M c (enq V p W x)) := by
  rw [e24]
  simp (disch := first | omega | (simp only [sgets, reduceIte, Nat.reduceEqDiff, h, hW]; done) | omega) only [cS_1, crd, z_pv_some, z_wv_some, z_cv_v, z_cv_n, cwr, sgets, rc_O, ia_n, fa_n, is_n, fs_n, ↓mI_eq, lits, nI_add, nLe, nLt, nE, mI_ne, mI_ne', mI_lt, mI_le, mI_nlt, mI_nle, ne_eq, mI_addC, pk_sub, pk_mul, pk_div, Nat.reduceEqDiff, Nat.reduceAdd, Nat.reduceMul, Nat.reduceSub, reduceIte, not_true_eq_false, not_false_eq_true, true_or, or_true, if_true, if_false, and_self, and_true, true_and, and_false, false_and, or_self, or_false, false_or, decide_true, decide_false, Bool.false_eq_true, Bool.true_eq_false, bI_t, bI_f, b24, gfs2, h, hW]
  have hl : ∀ (n : Nat) (q : Nat → Int32), n ≤ W → qOk q n → z_ex 24 M.1 15 [some (.ref (c + 17)), some (.int (nI p)), some (.int x), some (.int (nI n))] [] (cS M c (sA V 11 q)) = some (none, cS M c (sS (sA (sA V 11 (upd (insQ (V.2.2.1 12) x n q).1 (insQ (V.2.2.1 12) x n q).2 (nI p))) 12 (upd (V.2.2.1 12) p x)) 11 (nI (W + 1)))) := by
    intro n
    induction n with
    | zero =>
      intro q hn hq
      rw [q24_15]
      simp (disch := first | omega | (simp only [sgets, reduceIte, Nat.reduceEqDiff, h]; done) | omega) only [cS_1, crd, z_pv_some, z_wv_some, z_cv_v, z_cv_n, cwr, sgets, rc_O, ia_n, fa_n, is_n, fs_n, ↓mI_eq, lits, nI_add, nLe, nLt, nE, mI_ne, mI_ne', mI_lt, mI_le, mI_nlt, mI_nle, ne_eq, mI_addC, pk_sub, pk_mul, pk_div, Nat.reduceEqDiff, Nat.reduceAdd, Nat.reduceMul, Nat.reduceSub, reduceIte, not_true_eq_false, not_false_eq_true, true_or, or_true, if_true, if_false, and_self, and_true, true_and, and_false, false_and, or_self, or_false, false_or, decide_true, decide_false, Bool.false_eq_true, Bool.true_eq_false, bI_t, bI_f, b24, gfs2, pfs2, insQ, Nat.le_refl, sA_sA, h]
    | succ n ih =>
      intro q hn hq
      obtain ⟨r, hr, hqr⟩ := hq n (by omega)
      have h1 : ¬ n + 1 ≤ 0 := by omega
      have h2 : n + 1 - 1 = n := by omega
      rw [q24_15]
      simp (disch := first | omega | (simp only [sgets, reduceIte, Nat.reduceEqDiff, h, h1, h2, hqr]; done) | omega) only [cS_1, crd, z_pv_some, z_wv_some, z_cv_v, z_cv_n, cwr, sgets, rc_O, ia_n, fa_n, is_n, fs_n, ↓mI_eq, lits, nI_add, nLe, nLt, nE, mI_ne, mI_ne', mI_lt, mI_le, mI_nlt, mI_nle, ne_eq, mI_addC, pk_sub, pk_mul, pk_div, Nat.reduceEqDiff, Nat.reduceAdd, Nat.reduceMul, Nat.reduceSub, reduceIte, not_true_eq_false, not_false_eq_true, true_or, or_true, if_true, if_false, and_self, and_true, true_and, and_false, false_and, or_self, or_false, false_or, decide_true, decide_false, Bool.false_eq_true, Bool.true_eq_false, bI_t, bI_f, b24, gfs2, pfs2, Nat.add_sub_cancel, h, h1, h2, hqr]
      by_cases h3 : V.2.2.1 12 r < x
      · have h4 : ¬ x ≤ V.2.2.1 12 r := Int32.not_le.mpr h3
        have h5 : qOk (upd q (n + 1) (nI r)) n := fun k hk => by rw [upd_ne _ _ (by omega)]; exact hq k (by omega)
        simp (disch := first | omega | (simp only [sgets, reduceIte, Nat.reduceEqDiff, h3, h4, hqr]; done) | omega) only [cS_1, crd, z_pv_some, z_wv_some, z_cv_v, z_cv_n, cwr, sgets, rc_O, ia_n, fa_n, is_n, fs_n, ↓mI_eq, lits, nI_add, nLe, nLt, nE, mI_ne, mI_ne', mI_lt, mI_le, mI_nlt, mI_nle, ne_eq, mI_addC, pk_sub, pk_mul, pk_div, Nat.reduceEqDiff, Nat.reduceAdd, Nat.reduceMul, Nat.reduceSub, reduceIte, not_true_eq_false, not_false_eq_true, true_or, or_true, if_true, if_false, and_self, and_true, true_and, and_false, false_and, or_self, or_false, false_or, decide_true, decide_false, Bool.false_eq_true, Bool.true_eq_false, bI_t, bI_f, sA_sA, insQ, nI_clamp, ih (upd q (n + 1) (nI r)) (by omega) h5, h3, h4, hqr]
      · have h4 : x ≤ V.2.2.1 12 r := Int32.not_lt.mp h3
        simp (disch := first | omega | (simp only [sgets, reduceIte, Nat.reduceEqDiff, h3, h4, hqr]; done) | omega) only [cS_1, crd, z_pv_some, z_wv_some, z_cv_v, z_cv_n, cwr, sgets, rc_O, ia_n, fa_n, is_n, fs_n, ↓mI_eq, lits, nI_add, nLe, nLt, nE, mI_ne, mI_ne', mI_lt, mI_le, mI_nlt, mI_nle, ne_eq, mI_addC, pk_sub, pk_mul, pk_div, Nat.reduceEqDiff, Nat.reduceAdd, Nat.reduceMul, Nat.reduceSub, reduceIte, not_true_eq_false, not_false_eq_true, true_or, or_true, if_true, if_false, and_self, and_true, true_and, and_false, false_and, or_self, or_false, false_or, decide_true, decide_false, Bool.false_eq_true, Bool.true_eq_false, bI_t, bI_f, sA_sA, insQ, nI_clamp, h3, h4, hqr]
  have hid : sA V 11 (V.2.2.1 11) = V := by
    unfold sA
    obtain ⟨a, b, f, g⟩ := V
    congr 3
    funext j
    by_cases hj : j = 11 <;> simp [hj]
  have := hl W (V.2.2.1 11) (Nat.le_refl W) hq
  rw [hid] at this
  exact this
/-- Floor.forget -/
def rot (q : Nat → Int32) (a n : Nat) : Nat → Int32 := it (fun i f => upd f (a + i) (f (a + i + 1))) n q
def forg (V : z_V) (p W : Nat) : z_V :=
  if qAt (sA V 13 (upd (V.2.2.1 13) p (nI 0))) (nI p) W = mI then sA V 13 (upd (V.2.2.1 13) p (nI 0)) else sS (sA (sA V 13 (upd (V.2.2.1 13) p (nI 0))) 11 (rot (V.2.2.1 11) (qAt (sA V 13 (upd (V.2.2.1 13) p (nI 0))) (nI p) W).toNatClampNeg (W - 1 - (qAt (sA V 13 (upd (V.2.2.1 13) p (nI 0))) (nI p) W).toNatClampNeg))) 11 (nI (W - 1))
theorem qAt_lt (V : z_V) (x : Int32) (n : Nat) : qAt V x n = mI ∨ ∃ k, k < n ∧ qAt V x n = nI k := by
  induction n with
  | zero => exact Or.inl rfl
  | succ n ih =>
    unfold qAt
    rcases ih with h | ⟨k, hk, h⟩
    · rw [if_pos h]
      split
      · exact Or.inr ⟨n, by omega, rfl⟩
      · exact Or.inl rfl
    · by_cases h2 : qAt V x n = mI
      · rw [if_pos h2]
        split
        · exact Or.inr ⟨n, by omega, rfl⟩
        · exact Or.inl rfl
      · rw [if_neg h2]
        exact Or.inr ⟨k, by omega, h⟩
theorem m21 (M : z_M) (c : Nat) (V : z_V) (W : Nat) (hW : W ≤ 20) (h : V.1 11 = nI W) (p : Nat) (hp : p < 20) : z_cl 21 [.ref (c + 17), .int (nI p)] (cS M c V) = some (none, cS M c (forg V p W)) := by
  rw [e21]
  have hq := m22 M c (sA V 13 (upd (V.2.2.1 13) p (nI 0))) W hW (by simp only [sgets]; exact h) (nI p)
  simp (disch := first | omega | (simp only [sgets, reduceIte, Nat.reduceEqDiff, h]; done) | omega) only [cS_1, crd, z_pv_some, z_wv_some, z_cv_v, z_cv_n, cwr, sgets, rc_O, ia_n, fa_n, is_n, fs_n, ↓mI_eq, lits, nI_add, nLe, nLt, nE, mI_ne, mI_ne', mI_lt, mI_le, mI_nlt, mI_nle, ne_eq, mI_addC, pk_sub, pk_mul, pk_div, Nat.reduceEqDiff, Nat.reduceAdd, Nat.reduceMul, Nat.reduceSub, reduceIte, not_true_eq_false, not_false_eq_true, true_or, or_true, if_true, if_false, and_self, and_true, true_and, and_false, false_and, or_self, or_false, false_or, decide_true, decide_false, Bool.false_eq_true, Bool.true_eq_false, bI_t, bI_f, b21, gfs2, hq, h]
  unfold forg
  generalize hA : qAt (sA V 13 (upd (V.2.2.1 13) p (nI 0))) (nI p) W = a
  rcases qAt_lt (sA V 13 (upd (V.2.2.1 13) p (nI 0))) (nI p) W with h1 | ⟨k, hk, h1⟩
  · rw [hA] at h1
    subst h1
    simp (disch := first | omega | (simp only [sgets, reduceIte, Nat.reduceEqDiff]; done) | omega) only [cS_1, crd, z_pv_some, z_wv_some, z_cv_v, z_cv_n, cwr, sgets, rc_O, ia_n, fa_n, is_n, fs_n, ↓mI_eq, lits, nI_add, nLe, nLt, nE, mI_ne, mI_ne', mI_lt, mI_le, mI_nlt, mI_nle, ne_eq, mI_addC, pk_sub, pk_mul, pk_div, Nat.reduceEqDiff, Nat.reduceAdd, Nat.reduceMul, Nat.reduceSub, reduceIte, not_true_eq_false, not_false_eq_true, true_or, or_true, if_true, if_false, and_self, and_true, true_and, and_false, false_and, or_self, or_false, false_or, decide_true, decide_false, Bool.false_eq_true, Bool.true_eq_false, bI_t, bI_f, b21]
  · rw [hA] at h1
    subst h1
    simp (disch := first | omega | (simp only [sgets, reduceIte, Nat.reduceEqDiff, h]; done) | omega) only [cS_1, crd, z_pv_some, z_wv_some, z_cv_v, z_cv_n, cwr, sgets, rc_O, ia_n, fa_n, is_n, fs_n, ↓mI_eq, lits, nI_add, nLe, nLt, nE, mI_ne, mI_ne', mI_lt, mI_le, mI_nlt, mI_nle, ne_eq, mI_addC, pk_sub, pk_mul, pk_div, Nat.reduceEqDiff, Nat.reduceAdd, Nat.reduceMul, Nat.reduceSub, reduceIte, not_true_eq_false, not_false_eq_true, true_or, or_true, if_true, if_false, and_self, and_true, true_and, and_false, false_and, or_self, or_false, false_or, decide_true, decide_false, Bool.false_eq_true, Bool.true_eq_false, bI_t, bI_f, b21, gfs2, nI_clamp, h]
    have hl := it_run (fun i (q : Nat → Int32) => z_ex 21 M.1 23 [some (.ref (c + 17)), some (.int (nI p)), some (.int (nI k)), some (.int (nI (k + 1 + i)))] [] (cS M c (sA (sA V 13 (upd (V.2.2.1 13) p (nI 0))) 11 q))) (fun i f => upd f (k + i) (f (k + i + 1))) (W - 1 - k) (V.2.2.1 11) (by
      intro i q hi
      have hi2 : ¬ W ≤ k + 1 + i := by omega
      have hi3 : k + 1 + i - 1 = k + i := by omega
      have hi4 : k + i + 1 = k + 1 + i := by omega
      rw [q21_23]
      simp (disch := first | omega | (simp only [sgets, reduceIte, Nat.reduceEqDiff, h, hi2, hi3, hi4]; done) | omega) only [cS_1, crd, z_pv_some, z_wv_some, z_cv_v, z_cv_n, cwr, sgets, rc_O, ia_n, fa_n, is_n, fs_n, ↓mI_eq, lits, nI_add, nLe, nLt, nE, mI_ne, mI_ne', mI_lt, mI_le, mI_nlt, mI_nle, ne_eq, mI_addC, pk_sub, pk_mul, pk_div, Nat.reduceEqDiff, Nat.reduceAdd, Nat.reduceMul, Nat.reduceSub, reduceIte, not_true_eq_false, not_false_eq_true, true_or, or_true, if_true, if_false, and_self, and_true, true_and, and_false, false_and, or_self, or_false, false_or, decide_true, decide_false, Bool.false_eq_true, Bool.true_eq_false, bI_t, bI_f, b21, gfs2, sA_sA, h, hi2, hi3, hi4]
      rfl)
    have hid : sA (sA V 13 (upd (V.2.2.1 13) p (nI 0))) 11 (V.2.2.1 11) = sA V 13 (upd (V.2.2.1 13) p (nI 0)) := by
      unfold sA
      congr 3
      funext j
      by_cases hj : j = 11 <;> simp [hj]
    simp only [hid, Nat.add_zero] at hl
    rw [hl, q21_23]
    have h2 : W ≤ k + 1 + (W - 1 - k) := by omega
    simp (disch := first | omega | (simp only [sgets, reduceIte, Nat.reduceEqDiff, h, h2]; done) | omega) only [cS_1, crd, z_pv_some, z_wv_some, z_cv_v, z_cv_n, cwr, sgets, rc_O, ia_n, fa_n, is_n, fs_n, ↓mI_eq, lits, nI_add, nLe, nLt, nE, mI_ne, mI_ne', mI_lt, mI_le, mI_nlt, mI_nle, ne_eq, mI_addC, pk_sub, pk_mul, pk_div, Nat.reduceEqDiff, Nat.reduceAdd, Nat.reduceMul, Nat.reduceSub, reduceIte, not_true_eq_false, not_false_eq_true, true_or, or_true, if_true, if_false, and_self, and_true, true_and, and_false, false_and, or_self, or_false, false_or, decide_true, decide_false, Bool.false_eq_true, Bool.true_eq_false, bI_t, bI_f, b21, gfs2, pfs2, h, h2]
    rfl
/-- Floor.grant -/
def grantF (V : z_V) (p W : Nat) : z_V := sA (sA (sA (forg V p W) 13 (upd ((forg V p W).2.2.1 13) p (nI 1))) 14 (upd ((forg V p W).2.2.1 14) p (nI 0))) 15 (upd ((forg V p W).2.2.1 15) p (nI 0))
theorem m26 (M : z_M) (c : Nat) (V : z_V) (W : Nat) (hW : W ≤ 20) (h : V.1 11 = nI W) (p : Nat) (hp : p < 20) : z_cl 26 [.ref (c + 17), .int (nI p)] (cS M c V) = some (none, cS M c (grantF V p W)) := by
  rw [e26]
  have hq := m21 M c V W hW h p hp
  unfold grantF
  simp (disch := first | omega | (simp only [sgets, reduceIte, Nat.reduceEqDiff]; done) | omega) only [cS_1, crd, z_pv_some, z_wv_some, z_cv_v, z_cv_n, cwr, sgets, rc_O, ia_n, fa_n, is_n, fs_n, ↓mI_eq, lits, nI_add, nLe, nLt, nE, mI_ne, mI_ne', mI_lt, mI_le, mI_nlt, mI_nle, ne_eq, mI_addC, pk_sub, pk_mul, pk_div, Nat.reduceEqDiff, Nat.reduceAdd, Nat.reduceMul, Nat.reduceSub, reduceIte, not_true_eq_false, not_false_eq_true, true_or, or_true, if_true, if_false, and_self, and_true, true_and, and_false, false_and, or_self, or_false, false_or, decide_true, decide_false, Bool.false_eq_true, Bool.true_eq_false, bI_t, bI_f, b26, gfs2, hq]
