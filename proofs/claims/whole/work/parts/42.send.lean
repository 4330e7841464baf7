/-! the mixer sends -/
/-- Streams.clear, of the streams that are sent -/
def clr (w : Nat) (U : z_V) : z_V := sA U 1 (upd (U.2.2.1 1) w (nI 0))
theorem m61 (M : z_M) (c x : Nat) (hx : c + 32 ≤ x) (V U : z_V) : z_cl 61 [.ref (x + 3)] (cS (xS M x U) c V) = some (none, cS (xS M x (it clr 16 U)) c V) := by
  rw [e61]
  simp (disch := first | omega | (simp only [sgets, reduceIte, Nat.reduceEqDiff]; done) | omega) only [cS_1, crd, z_pv_some, z_wv_some, z_cv_v, z_cv_n, cwr, sgets, rc_O, ia_n, fa_n, is_n, fs_n, ↓mI_eq, lits, nI_add, nLe, nLt, nE, mI_ne, mI_ne', mI_lt, mI_le, mI_nlt, mI_nle, ne_eq, mI_addC, pk_sub, pk_mul, pk_div, Nat.reduceEqDiff, Nat.reduceAdd, Nat.reduceMul, Nat.reduceSub, reduceIte, not_true_eq_false, not_false_eq_true, true_or, or_true, if_true, if_false, and_self, and_true, true_and, and_false, false_and, or_self, or_false, false_or, decide_true, decide_false, Bool.false_eq_true, Bool.true_eq_false, bI_t, bI_f, cS_out, cS_wr_out, xS_1, xrd, xwr, gfs4, gfs8, gfs0, gfs6, gfs9, b61]
  have hl := it_run (fun k (W : z_V) => z_ex 61 M.1 2 [some (.ref (x + 3)), some (.int (nI k))] [] (cS (xS M x W) c V)) clr 16 U (by
    intro k W hk
    have hk2 : ¬ 16 ≤ k := by omega
    have hu : clr k W = sA W 1 (upd (W.2.2.1 1) k (nI 0)) := rfl
    rw [q61_2]
    simp (disch := first | omega | (simp only [sgets, reduceIte, Nat.reduceEqDiff, hk2]; done) | omega) only [cS_1, crd, z_pv_some, z_wv_some, z_cv_v, z_cv_n, cwr, sgets, rc_O, ia_n, fa_n, is_n, fs_n, ↓mI_eq, lits, nI_add, nLe, nLt, nE, mI_ne, mI_ne', mI_lt, mI_le, mI_nlt, mI_nle, ne_eq, mI_addC, pk_sub, pk_mul, pk_div, Nat.reduceEqDiff, Nat.reduceAdd, Nat.reduceMul, Nat.reduceSub, reduceIte, not_true_eq_false, not_false_eq_true, true_or, or_true, if_true, if_false, and_self, and_true, true_and, and_false, false_and, or_self, or_false, false_or, decide_true, decide_false, Bool.false_eq_true, Bool.true_eq_false, bI_t, bI_f, cS_out, cS_wr_out, xS_1, xrd, xwr, gfs4, gfs8, gfs0, gfs6, gfs9, b61, hu, hk2])
  rw [hl, q61_2]
  simp (disch := first | omega | (simp only [sgets, reduceIte, Nat.reduceEqDiff]; done) | omega) only [cS_1, crd, z_pv_some, z_wv_some, z_cv_v, z_cv_n, cwr, sgets, rc_O, ia_n, fa_n, is_n, fs_n, ↓mI_eq, lits, nI_add, nLe, nLt, nE, mI_ne, mI_ne', mI_lt, mI_le, mI_nlt, mI_nle, ne_eq, mI_addC, pk_sub, pk_mul, pk_div, Nat.reduceEqDiff, Nat.reduceAdd, Nat.reduceMul, Nat.reduceSub, reduceIte, not_true_eq_false, not_false_eq_true, true_or, or_true, if_true, if_false, and_self, and_true, true_and, and_false, false_and, or_self, or_false, false_or, decide_true, decide_false, Bool.false_eq_true, Bool.true_eq_false, bI_t, bI_f, cS_out, cS_wr_out, xS_1, xrd, xwr, gfs4, gfs8, gfs0, gfs6, gfs9, b61, Nat.le_refl]
/-- Streams.add, of the streams that are sent -/
def addSt (U : z_V) (w : Nat) (s a : Int32) (l : UInt32) : z_V := if 4 ≤ (U.2.2.1 1 w).toNatClampNeg then U else
  sA (sF (sA (sA U 2 (upd (U.2.2.1 2) (w * 4 + (U.2.2.1 1 w).toNatClampNeg) s)) 3 (upd (U.2.2.1 3) (w * 4 + (U.2.2.1 1 w).toNatClampNeg) a)) 1 (vf_upd (U.2.2.2 1) (w * 4 + (U.2.2.1 1 w).toNatClampNeg) l)) 1 (upd (U.2.2.1 1) w (nI ((U.2.2.1 1 w).toNatClampNeg + 1)))
theorem m62 (M : z_M) (c x : Nat) (hx : c + 32 ≤ x) (V U : z_V) (w n : Nat) (hw : w < 16) (hn : n ≤ 4) (hz : U.2.2.1 1 w = nI n) (s a : Int32) (l : UInt32) : z_cl 62 [.ref (x + 3), .int (nI w), .int s, .int a, .float l] (cS (xS M x U) c V) = some (none, cS (xS M x (addSt U w s a l)) c V) := by
  rw [e62]
  unfold addSt
  rw [hz, nI_clamp (by omega)]
  by_cases h4 : 4 ≤ n
  · have h4' : ¬ n < 4 := by omega
    simp (disch := first | omega | (simp only [sgets, reduceIte, Nat.reduceEqDiff, hz, h4, h4']; done) | omega) only [cS_1, crd, z_pv_some, z_wv_some, z_cv_v, z_cv_n, cwr, sgets, rc_O, ia_n, fa_n, is_n, fs_n, ↓mI_eq, lits, nI_add, nLe, nLt, nE, mI_ne, mI_ne', mI_lt, mI_le, mI_nlt, mI_nle, ne_eq, mI_addC, pk_sub, pk_mul, pk_div, Nat.reduceEqDiff, Nat.reduceAdd, Nat.reduceMul, Nat.reduceSub, reduceIte, not_true_eq_false, not_false_eq_true, true_or, or_true, if_true, if_false, and_self, and_true, true_and, and_false, false_and, or_self, or_false, false_or, decide_true, decide_false, Bool.false_eq_true, Bool.true_eq_false, bI_t, bI_f, cS_out, cS_wr_out, xS_1, xrd, xwr, gfs4, gfs8, gfs0, gfs6, gfs9, b62, hz, h4, h4']
  · have h4' : n < 4 := by omega
    simp (disch := first | omega | (simp only [sgets, reduceIte, Nat.reduceEqDiff, hz, h4, h4']; done) | omega) only [cS_1, crd, z_pv_some, z_wv_some, z_cv_v, z_cv_n, cwr, sgets, rc_O, ia_n, fa_n, is_n, fs_n, ↓mI_eq, lits, nI_add, nLe, nLt, nE, mI_ne, mI_ne', mI_lt, mI_le, mI_nlt, mI_nle, ne_eq, mI_addC, pk_sub, pk_mul, pk_div, Nat.reduceEqDiff, Nat.reduceAdd, Nat.reduceMul, Nat.reduceSub, reduceIte, not_true_eq_false, not_false_eq_true, true_or, or_true, if_true, if_false, and_self, and_true, true_and, and_false, false_and, or_self, or_false, false_or, decide_true, decide_false, Bool.false_eq_true, Bool.true_eq_false, bI_t, bI_f, cS_out, cS_wr_out, xS_1, xrd, xwr, gfs4, gfs8, gfs0, gfs6, gfs9, b62, hz, h4, h4']
/-- Mixer.sendLoudest -/
def mLoud (U : z_V) (J : Nat) : Int32 := loudF (fun k => decide (¬ U.2.2.1 0 k = mI)) (U.2.2.2 0) J
def sendL (w J : Nat) : Nat → z_V → z_V
  | 0, U => U
  | k + 1, U => if mLoud U J = mI then U else sendL w J k (sA (addSt U w (mLoud U J) (U.2.2.1 0 (mLoud U J).toNatClampNeg + nI 1) (U.2.2.2 0 (mLoud U J).toNatClampNeg)) 0 (upd (U.2.2.1 0) (mLoud U J).toNatClampNeg mI))
theorem addSt_A (U : z_V) (w : Nat) (s a : Int32) (l : UInt32) : (addSt U w s a l).2.2.1 0 = U.2.2.1 0 := by
  unfold addSt
  split
  · rfl
  · simp only [sgets, Nat.reduceEqDiff, if_false]
/-- what is sent lies in its places -/
def seOk (U : z_V) (J : Nat) : Prop := ∀ w, w < 16 → ∃ n, n ≤ 4 ∧ U.2.2.1 1 w = nI n ∧ ∀ i, i < n → nn (U.2.2.2 1 (w * 4 + i)) ∧ ∃ s, s < J ∧ U.2.2.1 2 (w * 4 + i) = nI s
theorem seOk_add {U : z_V} {J w r : Nat} {a : Int32} {l : UInt32} (h : seOk U J) (hw : w < 16) (hr : r < J) (hl : nn l) : seOk (addSt U w (nI r) a l) J := by
  obtain ⟨n, hn, hz, hs⟩ := h w hw
  unfold addSt
  rw [hz, nI_clamp (by omega)]
  split
  · exact h
  · intro v hv
    obtain ⟨m, a1, a2, a3⟩ := h v hv
    simp only [sgets, Nat.reduceEqDiff, if_true, if_false]
    by_cases hvw : v = w
    · subst hvw
      refine ⟨n + 1, by omega, by rw [upd_eq], fun i hi => ?_⟩
      by_cases hin : i = n
      · subst hin
        rw [updF_eq, upd_eq]
        exact ⟨hl, r, hr, rfl⟩
      · rw [updF_ne _ _ (by omega), upd_ne _ _ (by omega)]
        exact hs i (by omega)
    · refine ⟨m, a1, by rw [upd_ne _ _ hvw]; exact a2, fun i hi => ?_⟩
      rw [updF_ne _ _ (by omega), upd_ne _ _ (by omega)]
      exact a3 i hi
theorem m37 (M : z_M) (c x : Nat) (hx : c + 32 ≤ x) (V : z_V) (J w P : Nat) (hJ : J ≤ 20) (hw : w < 16) (hP : P ≤ 4) (U : z_V) (hm : mlOk U J) (hs : seOk U J) : z_cl 37 [.ref x, .int (nI w), .int (nI P), .int (nI J)] (cS (xS M x U) c V) = some (none, cS (xS M x (sendL w J P U)) c V) ∧ seOk (sendL w J P U) J := by
  rw [e37]
  simp (disch := first | omega | (simp only [sgets, reduceIte, Nat.reduceEqDiff]; done) | omega) only [cS_1, crd, z_pv_some, z_wv_some, z_cv_v, z_cv_n, cwr, sgets, rc_O, ia_n, fa_n, is_n, fs_n, ↓mI_eq, lits, nI_add, nLe, nLt, nE, mI_ne, mI_ne', mI_lt, mI_le, mI_nlt, mI_nle, ne_eq, mI_addC, pk_sub, pk_mul, pk_div, Nat.reduceEqDiff, Nat.reduceAdd, Nat.reduceMul, Nat.reduceSub, reduceIte, not_true_eq_false, not_false_eq_true, true_or, or_true, if_true, if_false, and_self, and_true, true_and, and_false, false_and, or_self, or_false, false_or, decide_true, decide_false, Bool.false_eq_true, Bool.true_eq_false, bI_t, bI_f, cS_out, cS_wr_out, xS_1, xrd, xwr, gfs4, gfs8, gfs0, gfs6, gfs9, b37]
  have key : ∀ (d k : Nat) (W : z_V) (j1 j2 : Option Value), d + k = P → mlOk W J → seOk W J → z_ex 37 M.1 3 [some (.ref x), some (.int (nI w)), some (.int (nI P)), some (.int (nI J)), some (.int (nI k)), j1, j2] [] (cS (xS M x W) c V) = some (none, cS (xS M x (sendL w J d W)) c V) ∧ seOk (sendL w J d W) J := by
    intro d
    induction d with
    | zero =>
      intro k W j1 j2 hk hmW hsW
      have hk2 : k = P := by omega
      subst hk2
      constructor
      · rw [q37_3]
        simp (disch := first | omega | (simp only [sgets, reduceIte, Nat.reduceEqDiff]; done) | omega) only [cS_1, crd, z_pv_some, z_wv_some, z_cv_v, z_cv_n, cwr, sgets, rc_O, ia_n, fa_n, is_n, fs_n, ↓mI_eq, lits, nI_add, nLe, nLt, nE, mI_ne, mI_ne', mI_lt, mI_le, mI_nlt, mI_nle, ne_eq, mI_addC, pk_sub, pk_mul, pk_div, Nat.reduceEqDiff, Nat.reduceAdd, Nat.reduceMul, Nat.reduceSub, reduceIte, not_true_eq_false, not_false_eq_true, true_or, or_true, if_true, if_false, and_self, and_true, true_and, and_false, false_and, or_self, or_false, false_or, decide_true, decide_false, Bool.false_eq_true, Bool.true_eq_false, bI_t, bI_f, cS_out, cS_wr_out, xS_1, xrd, xwr, gfs4, gfs8, gfs0, gfs6, gfs9, b37, Nat.le_refl, sendL]
      · exact hsW
    | succ d ih =>
      intro k W j1 j2 hk hmW hsW
      have hk2 : ¬ P ≤ k := by omega
      have hl := it_for (fun i f => z_ex 37 M.1 15 [some (.ref x), some (.int (nI w)), some (.int (nI P)), some (.int (nI J)), some (.int (nI k)), some (.int f), some (.int (nI i))] [] (cS (xS M x W) c V)) (fun i f => if decide (¬ W.2.2.1 0 i = mI) = true ∧ (f = mI ∨ nI 0 < Op.cmpValue (FP.fcmp (W.2.2.2 0 i) (W.2.2.2 0 f.toNatClampNeg)) .l) then nI i else f) (fun i f => f = mI ∨ ∃ r, r < i ∧ f = nI r) J (by
        intro i f hi hf
        have hi2 : ¬ J ≤ i := by omega
        constructor
        · rw [q37_15]
          by_cases a1 : W.2.2.1 0 i = mI
          · simp (disch := first | omega | (simp only [sgets, reduceIte, Nat.reduceEqDiff, hi2, a1]; done) | omega) only [cS_1, crd, z_pv_some, z_wv_some, z_cv_v, z_cv_n, cwr, sgets, rc_O, ia_n, fa_n, is_n, fs_n, ↓mI_eq, lits, nI_add, nLe, nLt, nE, mI_ne, mI_ne', mI_lt, mI_le, mI_nlt, mI_nle, ne_eq, mI_addC, pk_sub, pk_mul, pk_div, Nat.reduceEqDiff, Nat.reduceAdd, Nat.reduceMul, Nat.reduceSub, reduceIte, not_true_eq_false, not_false_eq_true, true_or, or_true, if_true, if_false, and_self, and_true, true_and, and_false, false_and, or_self, or_false, false_or, decide_true, decide_false, Bool.false_eq_true, Bool.true_eq_false, bI_t, bI_f, cS_out, cS_wr_out, xS_1, xrd, xwr, gfs4, gfs8, gfs0, gfs6, gfs9, b37, hi2, a1]
          · rcases hf with rfl | ⟨r, hr, rfl⟩
            · simp (disch := first | omega | (simp only [sgets, reduceIte, Nat.reduceEqDiff, hi2, a1]; done) | omega) only [cS_1, crd, z_pv_some, z_wv_some, z_cv_v, z_cv_n, cwr, sgets, rc_O, ia_n, fa_n, is_n, fs_n, ↓mI_eq, lits, nI_add, nLe, nLt, nE, mI_ne, mI_ne', mI_lt, mI_le, mI_nlt, mI_nle, ne_eq, mI_addC, pk_sub, pk_mul, pk_div, Nat.reduceEqDiff, Nat.reduceAdd, Nat.reduceMul, Nat.reduceSub, reduceIte, not_true_eq_false, not_false_eq_true, true_or, or_true, if_true, if_false, and_self, and_true, true_and, and_false, false_and, or_self, or_false, false_or, decide_true, decide_false, Bool.false_eq_true, Bool.true_eq_false, bI_t, bI_f, cS_out, cS_wr_out, xS_1, xrd, xwr, gfs4, gfs8, gfs0, gfs6, gfs9, b37, hi2, a1]
            · by_cases h4 : Op.cmpValue (FP.fcmp (W.2.2.2 0 i) (W.2.2.2 0 r)) .l ≤ nI 0
              · have h5 : ¬ nI 0 < Op.cmpValue (FP.fcmp (W.2.2.2 0 i) (W.2.2.2 0 r)) .l := Int32.not_lt.mpr h4
                simp (disch := first | omega | (simp only [sgets, reduceIte, Nat.reduceEqDiff, hi2, a1, h4, h5]; done) | omega) only [cS_1, crd, z_pv_some, z_wv_some, z_cv_v, z_cv_n, cwr, sgets, rc_O, ia_n, fa_n, is_n, fs_n, ↓mI_eq, lits, nI_add, nLe, nLt, nE, mI_ne, mI_ne', mI_lt, mI_le, mI_nlt, mI_nle, ne_eq, mI_addC, pk_sub, pk_mul, pk_div, Nat.reduceEqDiff, Nat.reduceAdd, Nat.reduceMul, Nat.reduceSub, reduceIte, not_true_eq_false, not_false_eq_true, true_or, or_true, if_true, if_false, and_self, and_true, true_and, and_false, false_and, or_self, or_false, false_or, decide_true, decide_false, Bool.false_eq_true, Bool.true_eq_false, bI_t, bI_f, cS_out, cS_wr_out, xS_1, xrd, xwr, gfs4, gfs8, gfs0, gfs6, gfs9, b37, nI_clamp, hi2, a1, h4, h5]
              · have h5 : nI 0 < Op.cmpValue (FP.fcmp (W.2.2.2 0 i) (W.2.2.2 0 r)) .l := Int32.not_le.mp h4
                simp (disch := first | omega | (simp only [sgets, reduceIte, Nat.reduceEqDiff, hi2, a1, h4, h5]; done) | omega) only [cS_1, crd, z_pv_some, z_wv_some, z_cv_v, z_cv_n, cwr, sgets, rc_O, ia_n, fa_n, is_n, fs_n, ↓mI_eq, lits, nI_add, nLe, nLt, nE, mI_ne, mI_ne', mI_lt, mI_le, mI_nlt, mI_nle, ne_eq, mI_addC, pk_sub, pk_mul, pk_div, Nat.reduceEqDiff, Nat.reduceAdd, Nat.reduceMul, Nat.reduceSub, reduceIte, not_true_eq_false, not_false_eq_true, true_or, or_true, if_true, if_false, and_self, and_true, true_and, and_false, false_and, or_self, or_false, false_or, decide_true, decide_false, Bool.false_eq_true, Bool.true_eq_false, bI_t, bI_f, cS_out, cS_wr_out, xS_1, xrd, xwr, gfs4, gfs8, gfs0, gfs6, gfs9, b37, nI_clamp, hi2, a1, h4, h5]
        · split
          · exact Or.inr ⟨i, by omega, rfl⟩
          · rcases hf with hf | ⟨r, hr, hf⟩
            · exact Or.inl hf
            · exact Or.inr ⟨r, by omega, hf⟩) mI (Or.inl rfl) J (Nat.le_refl J)
      have hl1 := hl.1
      have he : it (fun i f => if decide (¬ W.2.2.1 0 i = mI) = true ∧ (f = mI ∨ nI 0 < Op.cmpValue (FP.fcmp (W.2.2.2 0 i) (W.2.2.2 0 f.toNatClampNeg)) .l) then nI i else f) J mI = mLoud W J := rfl
      rw [he] at hl1
      rw [q37_3]
      unfold sendL
      rcases loudF_lt (fun k => decide (¬ W.2.2.1 0 k = mI)) (W.2.2.2 0) J with h0 | ⟨r, hr, h0, -⟩
      · replace h0 : mLoud W J = mI := h0
        rw [h0] at hl1 ⊢
        constructor
        · simp (disch := first | omega | (simp only [sgets, reduceIte, Nat.reduceEqDiff, hk2]; done) | omega) only [cS_1, crd, z_pv_some, z_wv_some, z_cv_v, z_cv_n, cwr, sgets, rc_O, ia_n, fa_n, is_n, fs_n, ↓mI_eq, lits, nI_add, nLe, nLt, nE, mI_ne, mI_ne', mI_lt, mI_le, mI_nlt, mI_nle, ne_eq, mI_addC, pk_sub, pk_mul, pk_div, Nat.reduceEqDiff, Nat.reduceAdd, Nat.reduceMul, Nat.reduceSub, reduceIte, not_true_eq_false, not_false_eq_true, true_or, or_true, if_true, if_false, and_self, and_true, true_and, and_false, false_and, or_self, or_false, false_or, decide_true, decide_false, Bool.false_eq_true, Bool.true_eq_false, bI_t, bI_f, cS_out, cS_wr_out, xS_1, xrd, xwr, gfs4, gfs8, gfs0, gfs6, gfs9, b37, hl1, q37_15, Nat.le_refl, hk2]
        · simp only [if_true]; exact hsW
      · replace h0 : mLoud W J = nI r := h0
        rw [h0] at hl1 ⊢
        obtain ⟨n, hn, hz, hss⟩ := hsW w hw
        have h62 := m62 M c x hx V W w n hw hn hz (nI r) (W.2.2.1 0 r + nI 1) (W.2.2.2 0 r)
        have a0 := addSt_A W w (nI r) (W.2.2.1 0 r + nI 1) (W.2.2.2 0 r)
        rw [if_neg (by rw [mI_ne (by omega)]; exact not_false), nI_clamp (by omega)]
        have hs2 := seOk_add (a := W.2.2.1 0 r + nI 1) hsW hw hr (hmW r hr)
        have hm2 : mlOk (sA (addSt W w (nI r) (W.2.2.1 0 r + nI 1) (W.2.2.2 0 r)) 0 (upd (W.2.2.1 0) r mI)) J := by
          intro p hp
          simp only [sgets]
          unfold addSt
          split
          · exact hmW p hp
          · simp only [sgets, Nat.reduceEqDiff, if_false]; exact hmW p hp
        have hs3 : seOk (sA (addSt W w (nI r) (W.2.2.1 0 r + nI 1) (W.2.2.2 0 r)) 0 (upd (W.2.2.1 0) r mI)) J := by
          intro v hv
          simp only [sgets, Nat.reduceEqDiff, if_false]
          exact hs2 v hv
        have hi := ih (k + 1) (sA (addSt W w (nI r) (W.2.2.1 0 r + nI 1) (W.2.2.2 0 r)) 0 (upd (W.2.2.1 0) r mI)) (some (.int (nI r))) (some (.int (nI J))) (by omega) hm2 hs3
        constructor
        · simp (disch := first | omega | (simp only [sgets, reduceIte, Nat.reduceEqDiff, hk2, a0]; done) | omega) only [cS_1, crd, z_pv_some, z_wv_some, z_cv_v, z_cv_n, cwr, sgets, rc_O, ia_n, fa_n, is_n, fs_n, ↓mI_eq, lits, nI_add, nLe, nLt, nE, mI_ne, mI_ne', mI_lt, mI_le, mI_nlt, mI_nle, ne_eq, mI_addC, pk_sub, pk_mul, pk_div, Nat.reduceEqDiff, Nat.reduceAdd, Nat.reduceMul, Nat.reduceSub, reduceIte, not_true_eq_false, not_false_eq_true, true_or, or_true, if_true, if_false, and_self, and_true, true_and, and_false, false_and, or_self, or_false, false_or, decide_true, decide_false, Bool.false_eq_true, Bool.true_eq_false, bI_t, bI_f, cS_out, cS_wr_out, xS_1, xrd, xwr, gfs4, gfs8, gfs0, gfs6, gfs9, b37, hl1, q37_15, Nat.le_refl, h62, hi.1, hk2, a0]
        · exact hi.2
  exact key P 0 U none none (by omega) hm hs
