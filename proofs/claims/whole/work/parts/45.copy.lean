/-! copyFrom; the history -/
theorem V_ext {V W : z_V} (h1 : V.1 = W.1) (h2 : V.2.1 = W.2.1) (h3 : V.2.2.1 = W.2.2.1) (h4 : V.2.2.2 = W.2.2.2) : V = W := by
  obtain ⟨a, b, d, e⟩ := V
  obtain ⟨a', b', d', e'⟩ := W
  simp only at h1 h2 h3 h4
  subst h1; subst h2; subst h3; subst h4
  rfl
theorem m56 (M : z_M) (c d : Nat) (h : c + 32 ≤ d ∨ d + 32 ≤ c) (V W : z_V) (f : Bool) (hf : W.1 4 = bI f) : z_cl 56 [.ref (c + 1), .ref (d + 1)] (cS (cS M d W) c V) = some (none, cS (cS M d W) c (sS (sS (sS (sS (sS (sS (sT (sS V 1 (W.1 1)) W.2.1) 2 (W.1 2)) 3 (W.1 3)) 4 (bI f)) 5 (W.1 5)) 6 (W.1 6)) 7 (W.1 7))) := by
  rw [e56]
  have hbo := bI_or f
  simp (disch := first | omega | (simp only [sgets, reduceIte, Nat.reduceEqDiff, hf, hbo]; done) | omega) only [cS_1, crd, z_pv_some, z_wv_some, z_cv_v, z_cv_n, cwr, sgets, rc_O, ia_n, fa_n, is_n, fs_n, ↓mI_eq, lits, nI_add, nLe, nLt, nE, mI_ne, mI_ne', mI_lt, mI_le, mI_nlt, mI_nle, ne_eq, mI_addC, pk_sub, pk_mul, pk_div, Nat.reduceEqDiff, Nat.reduceAdd, Nat.reduceMul, Nat.reduceSub, reduceIte, not_true_eq_false, not_false_eq_true, true_or, or_true, if_true, if_false, and_self, and_true, true_and, and_false, false_and, or_self, or_false, false_or, decide_true, decide_false, Bool.false_eq_true, Bool.true_eq_false, bI_t, bI_f, b56, cS_out, cS_wr_out, gfs7, pfs7, hf, hbo]
theorem m64 (M : z_M) (c d : Nat) (h : c + 32 ≤ d ∨ d + 32 ≤ c) (V W : z_V) : z_cl 64 [.ref (c + 2), .ref (d + 2)] (cS (cS M d W) c V) = some (none, cS (cS M d W) c (sA (sA (sA (sS V 8 (W.1 8)) 0 (W.2.2.1 0)) 1 (W.2.2.1 1)) 2 (W.2.2.1 2))) := by
  rw [e64]
  simp (disch := first | omega | (simp only [sgets, reduceIte, Nat.reduceEqDiff]; done) | omega) only [cS_1, crd, z_pv_some, z_wv_some, z_cv_v, z_cv_n, cwr, sgets, rc_O, ia_n, fa_n, is_n, fs_n, ↓mI_eq, lits, nI_add, nLe, nLt, nE, mI_ne, mI_ne', mI_lt, mI_le, mI_nlt, mI_nle, ne_eq, mI_addC, pk_sub, pk_mul, pk_div, Nat.reduceEqDiff, Nat.reduceAdd, Nat.reduceMul, Nat.reduceSub, reduceIte, not_true_eq_false, not_false_eq_true, true_or, or_true, if_true, if_false, and_self, and_true, true_and, and_false, false_and, or_self, or_false, false_or, decide_true, decide_false, Bool.false_eq_true, Bool.true_eq_false, bI_t, bI_f, b64, cS_out, cS_wr_out, gfs9, pfs9, cpy_I]
theorem m48 (M : z_M) (c d : Nat) (h : c + 32 ≤ d ∨ d + 32 ≤ c) (V W : z_V) : z_cl 48 [.ref (c + 6), .ref (d + 6)] (cS (cS M d W) c V) = some (none, cS (cS M d W) c (sF (sA (sA (sA (sA (sF (sA (sA (sA (sA (sS (sS V 9 (W.1 9)) 10 (W.1 10)) 3 (W.2.2.1 3)) 4 (W.2.2.1 4)) 5 (W.2.2.1 5)) 6 (W.2.2.1 6)) 0 (W.2.2.2 0)) 7 (W.2.2.1 7)) 8 (W.2.2.1 8)) 9 (W.2.2.1 9)) 10 (W.2.2.1 10)) 1 (W.2.2.2 1))) := by
  rw [e48]
  simp (disch := first | omega | (simp only [sgets, reduceIte, Nat.reduceEqDiff]; done) | omega) only [cS_1, crd, z_pv_some, z_wv_some, z_cv_v, z_cv_n, cwr, sgets, rc_O, ia_n, fa_n, is_n, fs_n, ↓mI_eq, lits, nI_add, nLe, nLt, nE, mI_ne, mI_ne', mI_lt, mI_le, mI_nlt, mI_nle, ne_eq, mI_addC, pk_sub, pk_mul, pk_div, Nat.reduceEqDiff, Nat.reduceAdd, Nat.reduceMul, Nat.reduceSub, reduceIte, not_true_eq_false, not_false_eq_true, true_or, or_true, if_true, if_false, and_self, and_true, true_and, and_false, false_and, or_self, or_false, false_or, decide_true, decide_false, Bool.false_eq_true, Bool.true_eq_false, bI_t, bI_f, b48, cS_out, cS_wr_out, gfs6, pfs6, cpy_I, cpy_F]
theorem m20 (M : z_M) (c d : Nat) (h : c + 32 ≤ d ∨ d + 32 ≤ c) (V W : z_V) : z_cl 20 [.ref (c + 17), .ref (d + 17)] (cS (cS M d W) c V) = some (none, cS (cS M d W) c (sA (sA (sA (sA (sA (sS V 11 (W.1 11)) 11 (W.2.2.1 11)) 12 (W.2.2.1 12)) 13 (W.2.2.1 13)) 14 (W.2.2.1 14)) 15 (W.2.2.1 15))) := by
  rw [e20]
  simp (disch := first | omega | (simp only [sgets, reduceIte, Nat.reduceEqDiff]; done) | omega) only [cS_1, crd, z_pv_some, z_wv_some, z_cv_v, z_cv_n, cwr, sgets, rc_O, ia_n, fa_n, is_n, fs_n, ↓mI_eq, lits, nI_add, nLe, nLt, nE, mI_ne, mI_ne', mI_lt, mI_le, mI_nlt, mI_nle, ne_eq, mI_addC, pk_sub, pk_mul, pk_div, Nat.reduceEqDiff, Nat.reduceAdd, Nat.reduceMul, Nat.reduceSub, reduceIte, not_true_eq_false, not_false_eq_true, true_or, or_true, if_true, if_false, and_self, and_true, true_and, and_false, false_and, or_self, or_false, false_or, decide_true, decide_false, Bool.false_eq_true, Bool.true_eq_false, bI_t, bI_f, b20, cS_out, cS_wr_out, gfs2, pfs2, cpy_I]
theorem m60 (M : z_M) (c d : Nat) (h : c + 32 ≤ d ∨ d + 32 ≤ c) (V W : z_V) : z_cl 60 [.ref (c + 23), .ref (d + 23)] (cS (cS M d W) c V) = some (none, cS (cS M d W) c (sF (sA (sA (sA V 16 (W.2.2.1 16)) 17 (W.2.2.1 17)) 18 (W.2.2.1 18)) 2 (W.2.2.2 2))) := by
  rw [e60]
  simp (disch := first | omega | (simp only [sgets, reduceIte, Nat.reduceEqDiff]; done) | omega) only [cS_1, crd, z_pv_some, z_wv_some, z_cv_v, z_cv_n, cwr, sgets, rc_O, ia_n, fa_n, is_n, fs_n, ↓mI_eq, lits, nI_add, nLe, nLt, nE, mI_ne, mI_ne', mI_lt, mI_le, mI_nlt, mI_nle, ne_eq, mI_addC, pk_sub, pk_mul, pk_div, Nat.reduceEqDiff, Nat.reduceAdd, Nat.reduceMul, Nat.reduceSub, reduceIte, not_true_eq_false, not_false_eq_true, true_or, or_true, if_true, if_false, and_self, and_true, true_and, and_false, false_and, or_self, or_false, false_or, decide_true, decide_false, Bool.false_eq_true, Bool.true_eq_false, bI_t, bI_f, b60, cS_out, cS_wr_out, gfs8, cpy_I, cpy_F, lI64]
theorem m16 (M : z_M) (c d : Nat) (h : c + 32 ≤ d ∨ d + 32 ≤ c) (V W : z_V) : z_cl 16 [.ref (c + 28), .ref (d + 28)] (cS (cS M d W) c V) = some (none, cS (cS M d W) c (sA (sA (sA (sS (sS V 12 (W.1 12)) 13 (W.1 13)) 19 (W.2.2.1 19)) 20 (W.2.2.1 20)) 21 (W.2.2.1 21))) := by
  rw [e16]
  simp (disch := first | omega | (simp only [sgets, reduceIte, Nat.reduceEqDiff]; done) | omega) only [cS_1, crd, z_pv_some, z_wv_some, z_cv_v, z_cv_n, cwr, sgets, rc_O, ia_n, fa_n, is_n, fs_n, ↓mI_eq, lits, nI_add, nLe, nLt, nE, mI_ne, mI_ne', mI_lt, mI_le, mI_nlt, mI_nle, ne_eq, mI_addC, pk_sub, pk_mul, pk_div, Nat.reduceEqDiff, Nat.reduceAdd, Nat.reduceMul, Nat.reduceSub, reduceIte, not_true_eq_false, not_false_eq_true, true_or, or_true, if_true, if_false, and_self, and_true, true_and, and_false, false_and, or_self, or_false, false_or, decide_true, decide_false, Bool.false_eq_true, Bool.true_eq_false, bI_t, bI_f, b16, cS_out, cS_wr_out, gfs1, pfs1, cpy_I]
/-- what a conference holds: no more than its cells -/
theorem cC_congr {c : Nat} {V W : z_V} (h1 : ∀ i, i < 14 → V.1 i = W.1 i) (h2 : V.2.1 = W.2.1) (h3 : ∀ i, i < 22 → V.2.2.1 i = W.2.2.1 i) (h4 : ∀ i, i < 3 → V.2.2.2 i = W.2.2.2 i) (M : z_M) : cS M c V = cS M c W := by
  refine rg_congr (fun k hk => ?_)
  have s := fun i hi => h1 i hi
  match k, hk with
  | 0, _ => simp only [cC, h1 0 (by omega)]
  | 1, _ => simp only [cC, h1 1 (by omega), h1 2 (by omega), h1 3 (by omega), h1 4 (by omega), h1 5 (by omega), h1 6 (by omega), h1 7 (by omega), h2]
  | 2, _ => simp only [cC, h1 8 (by omega)]
  | 3, _ => simp only [cC, h3 0 (by omega)]
  | 4, _ => simp only [cC, h3 1 (by omega)]
  | 5, _ => simp only [cC, h3 2 (by omega)]
  | 6, _ => simp only [cC, h1 9 (by omega), h1 10 (by omega)]
  | 7, _ => simp only [cC, h3 3 (by omega)]
  | 8, _ => simp only [cC, h3 4 (by omega)]
  | 9, _ => simp only [cC, h3 5 (by omega)]
  | 10, _ => simp only [cC, h3 6 (by omega)]
  | 11, _ => simp only [cC, h4 0 (by omega)]
  | 12, _ => simp only [cC, h3 7 (by omega)]
  | 13, _ => simp only [cC, h3 8 (by omega)]
  | 14, _ => simp only [cC, h3 9 (by omega)]
  | 15, _ => simp only [cC, h3 10 (by omega)]
  | 16, _ => simp only [cC, h4 1 (by omega)]
  | 17, _ => simp only [cC, h1 11 (by omega)]
  | 18, _ => simp only [cC, h3 11 (by omega)]
  | 19, _ => simp only [cC, h3 12 (by omega)]
  | 20, _ => simp only [cC, h3 13 (by omega)]
  | 21, _ => simp only [cC, h3 14 (by omega)]
  | 22, _ => simp only [cC, h3 15 (by omega)]
  | 23, _ => rfl
  | 24, _ => simp only [cC, h3 16 (by omega)]
  | 25, _ => simp only [cC, h3 17 (by omega)]
  | 26, _ => simp only [cC, h3 18 (by omega)]
  | 27, _ => simp only [cC, h4 2 (by omega)]
  | 28, _ => simp only [cC, h1 12 (by omega), h1 13 (by omega)]
  | 29, _ => simp only [cC, h3 19 (by omega)]
  | 30, _ => simp only [cC, h3 20 (by omega)]
  | 31, _ => simp only [cC, h3 21 (by omega)]
  | n + 32, h => exact absurd h (by omega)
theorem m1 (M : z_M) (c d : Nat) (h : c + 32 ≤ d ∨ d + 32 ≤ c) (V W : z_V) (f : Bool) (hf : W.1 4 = bI f) : z_cl 1 [.ref c, .ref d] (cS (cS M d W) c V) = some (none, cS (cS M d W) c W) := by
  rw [e1]
  have h56 := fun V => m56 M c d h V W f hf
  have h64 := fun V => m64 M c d h V W
  have h48 := fun V => m48 M c d h V W
  have h20 := fun V => m20 M c d h V W
  have h60 := fun V => m60 M c d h V W
  have h16 := fun V => m16 M c d h V W
  simp (disch := first | omega | (simp only [sgets, reduceIte, Nat.reduceEqDiff]; done) | omega) only [cS_1, crd, z_pv_some, z_wv_some, z_cv_v, z_cv_n, cwr, sgets, rc_O, ia_n, fa_n, is_n, fs_n, ↓mI_eq, lits, nI_add, nLe, nLt, nE, mI_ne, mI_ne', mI_lt, mI_le, mI_nlt, mI_nle, ne_eq, mI_addC, pk_sub, pk_mul, pk_div, Nat.reduceEqDiff, Nat.reduceAdd, Nat.reduceMul, Nat.reduceSub, reduceIte, not_true_eq_false, not_false_eq_true, true_or, or_true, if_true, if_false, and_self, and_true, true_and, and_false, false_and, or_self, or_false, false_or, decide_true, decide_false, Bool.false_eq_true, Bool.true_eq_false, bI_t, bI_f, b1, cS_out, cS_wr_out, gfs0, pfs0, h56, h64, h48, h20, h60, h16]
  refine congrArg (fun X => some (none, X)) ?_
  refine cC_congr (fun i hi => ?_) (by simp only [sgets]) (fun i hi => ?_) (fun i hi => ?_) _
  · simp only [sgets]
    rw [← hf]
    rcases (show i = 0 ∨ i = 1 ∨ i = 2 ∨ i = 3 ∨ i = 4 ∨ i = 5 ∨ i = 6 ∨ i = 7 ∨ i = 8 ∨ i = 9 ∨ i = 10 ∨ i = 11 ∨ i = 12 ∨ i = 13 by omega) with rfl | rfl | rfl | rfl | rfl | rfl | rfl | rfl | rfl | rfl | rfl | rfl | rfl | rfl <;> rfl
  · simp only [sgets]
    rcases (show i = 0 ∨ i = 1 ∨ i = 2 ∨ i = 3 ∨ i = 4 ∨ i = 5 ∨ i = 6 ∨ i = 7 ∨ i = 8 ∨ i = 9 ∨ i = 10 ∨ i = 11 ∨ i = 12 ∨ i = 13 ∨ i = 14 ∨ i = 15 ∨ i = 16 ∨ i = 17 ∨ i = 18 ∨ i = 19 ∨ i = 20 ∨ i = 21 by omega) with rfl | rfl | rfl | rfl | rfl | rfl | rfl | rfl | rfl | rfl | rfl | rfl | rfl | rfl | rfl | rfl | rfl | rfl | rfl | rfl | rfl | rfl <;> rfl
  · simp only [sgets]
    rcases (show i = 0 ∨ i = 1 ∨ i = 2 by omega) with rfl | rfl | rfl <;> rfl
theorem cS_comm {M : z_M} {c d : Nat} {V W : z_V} (h : c + 32 ≤ d ∨ d + 32 ≤ c) : cS (cS M c V) d W = cS (cS M d W) c V := rg_comm (by omega)
theorem hS_comm {M : z_M} {c r : Nat} {V H : z_V} (h : c + 32 ≤ r ∨ r + 2 ≤ c) : hS (cS M c V) r H = cS (hS M r H) c V := rg_comm (by omega)
theorem qa_n {k n : Nat} {f : Nat → Option Nat} {b : Nat} (h : k < n) (hn : n < 2 ^ 31) (hb : f k = some b) : z_qa (some (.inl (n, .inr (.inr (.inr (.inr f)))))) (nI k) = some (.ref b) := by
  simp only [z_qa, ixb_n h hn, nI_clamp (show k < 2 ^ 31 by omega), if_true, hb, Option.map_some]
/-- History.draft -/
theorem m28 (M : z_M) (c r k : Nat) (hk : k < 6) (hc : c + 32 ≤ r) (H V W : z_V) (h1 : H.1 1 = nI k) (f : Bool) (hf : V.1 4 = bI f) : z_cl 28 [.ref r, .ref c] (cS (cS (hS M r H) (r + 2 + 32 * k) W) c V) = some (none, cS (cS (hS M r H) (r + 2 + 32 * k) V) c V) := by
  rw [e28]
  have hd : c + 32 ≤ r + 2 + 32 * k ∨ r + 2 + 32 * k + 32 ≤ c := by omega
  have hcp := m1 (hS M r H) (r + 2 + 32 * k) c (by omega) W V f hf
  replace hcp : z_cl 1 [.ref (r + 2 + 32 * k), .ref c] (cS (cS (hS M r H) (r + 2 + 32 * k) W) c V) = some (none, cS (cS (hS M r H) (r + 2 + 32 * k) V) c V) := by
    rw [cS_comm (c := r + 2 + 32 * k) (d := c) (V := W) (W := V) (by omega), hcp, cS_comm (c := c) (d := r + 2 + 32 * k) (V := V) (W := V) (by omega)]
  have hq : z_qa (some (.inl (6, .inr (.inr (.inr (.inr (fun j => if j < 6 then some (r + 2 + 32 * j) else none))))))) (nI k) = some (.ref (r + 2 + 32 * k)) := qa_n hk (by omega) (if_pos hk)
  simp (disch := first | omega | (simp only [sgets, reduceIte, Nat.reduceEqDiff, h1]; done) | omega) only [cS_1, crd, z_pv_some, z_wv_some, z_cv_v, z_cv_n, cwr, sgets, rc_O, ia_n, fa_n, is_n, fs_n, ↓mI_eq, lits, nI_add, nLe, nLt, nE, mI_ne, mI_ne', mI_lt, mI_le, mI_nlt, mI_nle, ne_eq, mI_addC, pk_sub, pk_mul, pk_div, Nat.reduceEqDiff, Nat.reduceAdd, Nat.reduceMul, Nat.reduceSub, reduceIte, not_true_eq_false, not_false_eq_true, true_or, or_true, if_true, if_false, and_self, and_true, true_and, and_false, false_and, or_self, or_false, false_or, decide_true, decide_false, Bool.false_eq_true, Bool.true_eq_false, bI_t, bI_f, b28, cS_out, hS_1, hrd, gfs3, hq, hcp, h1]
/-- History.settle -/
def setR (H : z_V) (a : Int32) : z_V := if a < nI 0 then H else sS (sS H 1 (nI ((nV H 1 + 1) % 6))) 0 (nI (if 5 ≤ nV H 0 then 5 else nV H 0 + 1))
theorem m29 (M : z_M) (c r : Nat) (hc : c + 32 ≤ r) (H V : z_V) (k n : Nat) (hk : k < 6) (hn : n ≤ 5) (h1 : H.1 1 = nI k) (h0 : H.1 0 = nI n) (a : Int32) : z_cl 29 [.ref r, .int a] (cS (hS M r H) c V) = some (some (.int a), cS (hS M r (setR H a)) c V) := by
  rw [e29]
  unfold setR
  rw [nV_of h1 (by omega), nV_of h0 (by omega)]
  have h6 : k + 1 - (k + 1) / 6 * 6 = (k + 1) % 6 := by omega
  by_cases ha : a < nI 0
  · simp (disch := first | omega | (simp only [sgets, reduceIte, Nat.reduceEqDiff, ha]; done) | omega) only [cS_1, crd, z_pv_some, z_wv_some, z_cv_v, z_cv_n, cwr, sgets, rc_O, ia_n, fa_n, is_n, fs_n, ↓mI_eq, lits, nI_add, nLe, nLt, nE, mI_ne, mI_ne', mI_lt, mI_le, mI_nlt, mI_nle, ne_eq, mI_addC, pk_sub, pk_mul, pk_div, Nat.reduceEqDiff, Nat.reduceAdd, Nat.reduceMul, Nat.reduceSub, reduceIte, not_true_eq_false, not_false_eq_true, true_or, or_true, if_true, if_false, and_self, and_true, true_and, and_false, false_and, or_self, or_false, false_or, decide_true, decide_false, Bool.false_eq_true, Bool.true_eq_false, bI_t, bI_f, b29, cS_out, hS_1, hrd, gfs3, pfs3, ha]
  · by_cases h5 : 5 ≤ n
    · simp (disch := first | omega | (simp only [sgets, reduceIte, Nat.reduceEqDiff, h1, h0, h6, ha, h5]; done) | omega) only [cS_1, crd, z_pv_some, z_wv_some, z_cv_v, z_cv_n, cwr, sgets, rc_O, ia_n, fa_n, is_n, fs_n, ↓mI_eq, lits, nI_add, nLe, nLt, nE, mI_ne, mI_ne', mI_lt, mI_le, mI_nlt, mI_nle, ne_eq, mI_addC, pk_sub, pk_mul, pk_div, Nat.reduceEqDiff, Nat.reduceAdd, Nat.reduceMul, Nat.reduceSub, reduceIte, not_true_eq_false, not_false_eq_true, true_or, or_true, if_true, if_false, and_self, and_true, true_and, and_false, false_and, or_self, or_false, false_or, decide_true, decide_false, Bool.false_eq_true, Bool.true_eq_false, bI_t, bI_f, b29, cS_out, cS_wr_out, hS_1, hrd, hwr, gfs3, pfs3, h1, h0, h6, ha, h5]
    · simp (disch := first | omega | (simp only [sgets, reduceIte, Nat.reduceEqDiff, h1, h0, h6, ha, h5]; done) | omega) only [cS_1, crd, z_pv_some, z_wv_some, z_cv_v, z_cv_n, cwr, sgets, rc_O, ia_n, fa_n, is_n, fs_n, ↓mI_eq, lits, nI_add, nLe, nLt, nE, mI_ne, mI_ne', mI_lt, mI_le, mI_nlt, mI_nle, ne_eq, mI_addC, pk_sub, pk_mul, pk_div, Nat.reduceEqDiff, Nat.reduceAdd, Nat.reduceMul, Nat.reduceSub, reduceIte, not_true_eq_false, not_false_eq_true, true_or, or_true, if_true, if_false, and_self, and_true, true_and, and_false, false_and, or_self, or_false, false_or, decide_true, decide_false, Bool.false_eq_true, Bool.true_eq_false, bI_t, bI_f, b29, cS_out, cS_wr_out, hS_1, hrd, hwr, gfs3, pfs3, h1, h0, h6, ha, h5]
/-- History.restore -/
theorem m30n (M : z_M) (c r : Nat) (hc : c + 32 ≤ r) (H V : z_V) (h0 : H.1 0 = nI 0) : z_cl 30 [.ref r, .ref c] (cS (hS M r H) c V) = some (some (.int (-(nI 4))), cS (hS M r H) c V) := by
  rw [e30]
  simp (disch := first | omega | (simp only [sgets, reduceIte, Nat.reduceEqDiff, h0]; done) | omega) only [cS_1, crd, z_pv_some, z_wv_some, z_cv_v, z_cv_n, cwr, sgets, rc_O, ia_n, fa_n, is_n, fs_n, ↓mI_eq, lits, nI_add, nLe, nLt, nE, mI_ne, mI_ne', mI_lt, mI_le, mI_nlt, mI_nle, ne_eq, mI_addC, pk_sub, pk_mul, pk_div, Nat.reduceEqDiff, Nat.reduceAdd, Nat.reduceMul, Nat.reduceSub, reduceIte, not_true_eq_false, not_false_eq_true, true_or, or_true, if_true, if_false, and_self, and_true, true_and, and_false, false_and, or_self, or_false, false_or, decide_true, decide_false, Bool.false_eq_true, Bool.true_eq_false, bI_t, bI_f, b30, cS_out, hS_1, hrd, gfs3, h0]
theorem m30 (M : z_M) (c r : Nat) (hc : c + 32 ≤ r) (H V W : z_V) (k n j : Nat) (hk : k < 6) (hj : j = (k + 5) % 6) (hn : n < 5) (h1 : H.1 1 = nI k) (h0 : H.1 0 = nI (n + 1)) (f : Bool) (hf : W.1 4 = bI f) : z_cl 30 [.ref r, .ref c] (cS (cS (hS M r H) (r + 2 + 32 * j) W) c V) = some (some (.int (nI n)), cS (cS (hS M r (sS (sS H 1 (nI j)) 0 (nI n))) (r + 2 + 32 * j) W) c W) := by
  rw [e30]
  have hj6 : j < 6 := by omega
  have hd : c + 32 ≤ r + 2 + 32 * j ∨ r + 2 + 32 * j + 32 ≤ c := by omega
  have hcp := m1 (hS M r (sS H 1 (nI j))) c (r + 2 + 32 * j) (by omega) V W f hf
  have hq : z_qa (some (.inl (6, .inr (.inr (.inr (.inr (fun j => if j < 6 then some (r + 2 + 32 * j) else none))))))) (nI j) = some (.ref (r + 2 + 32 * j)) := qa_n hj6 (by omega) (if_pos hj6)
  have e6 : k + 6 - 1 - (k + 6 - 1) / 6 * 6 = j := by omega
  have hn1 : n + 1 - 1 = n := by omega
  have hn0 : ¬ n + 1 = 0 := by omega
  simp (disch := first | omega | (simp only [sgets, reduceIte, Nat.reduceEqDiff, h1, h0, e6, hn1, hn0]; done) | omega) only [cS_1, crd, z_pv_some, z_wv_some, z_cv_v, z_cv_n, cwr, sgets, rc_O, ia_n, fa_n, is_n, fs_n, ↓mI_eq, lits, nI_add, nLe, nLt, nE, mI_ne, mI_ne', mI_lt, mI_le, mI_nlt, mI_nle, ne_eq, mI_addC, pk_sub, pk_mul, pk_div, Nat.reduceEqDiff, Nat.reduceAdd, Nat.reduceMul, Nat.reduceSub, reduceIte, not_true_eq_false, not_false_eq_true, true_or, or_true, if_true, if_false, and_self, and_true, true_and, and_false, false_and, or_self, or_false, false_or, decide_true, decide_false, Bool.false_eq_true, Bool.true_eq_false, bI_t, bI_f, b30, cS_out, cS_wr_out, hS_1, hrd, hwr, gfs3, pfs3, hq, hcp, h1, h0, e6, hn1, hn0]
