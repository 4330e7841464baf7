/-! the mixer -/
theorem eta2 {α β : Type} (p : α × β) : (p.1, p.2) = p := rfl
/-- Mixer.hear: what is heard -/
def hearS (U : z_V) (l : Int32) (k : Nat) (s : UInt32 × Int32) : UInt32 × Int32 := if ¬ U.2.2.1 0 k = mI ∧ ¬ nI k = l then (FP.fadd s.1 (U.2.2.2 0 k), s.2 ||| (nI 1 <<< (nI k &&& nI 31))) else s
def mlOk (U : z_V) (J : Nat) : Prop := ∀ p, p < J → nn (U.2.2.2 0 p)
theorem hear_sb {U : z_V} {J : Nat} (h : mlOk U J) (hJ : J ≤ 20) (l : Int32) : ∀ k, k ≤ J → (it (hearS U l) k (0, nI 0)).1 ≤ sb k := by
  intro k
  induction k with
  | zero => intro _; show (0 : UInt32) ≤ _; decide +kernel
  | succ k ih =>
    intro hk
    have h1 := ih (by omega)
    show (hearS U l k (it (hearS U l) k (0, nI 0))).1 ≤ _
    unfold hearS
    split
    · exact (sb_step (by omega) h1 (h k (by omega))).2
    · exact UInt32.le_trans h1 (sb_mono (by omega))
theorem m35 (M : z_M) (c x : Nat) (hx : c + 32 ≤ x) (V U : z_V) (J : Nat) (hJ : J ≤ 20) (h : V.1 9 = nI J) (hm : mlOk U J) (l : Nat) (hl : l < 20) : z_cl 35 [.ref x, .ref (c + 6), .int (nI l)] (cS (xS M x U) c V) = some (none, cS (xS M x U) c (sA (sF V 1 (vf_upd (V.2.2.2 1) l (it (hearS U (nI l)) J (0, nI 0)).1)) 10 (upd (V.2.2.1 10) l (it (hearS U (nI l)) J (0, nI 0)).2))) := by
  rw [e35]
  simp (disch := first | omega | (simp only [sgets, reduceIte, Nat.reduceEqDiff]; done) | omega) only [cS_1, crd, z_pv_some, z_wv_some, z_cv_v, z_cv_n, cwr, sgets, rc_O, ia_n, fa_n, is_n, fs_n, ↓mI_eq, lits, nI_add, nLe, nLt, nE, mI_ne, mI_ne', mI_lt, mI_le, mI_nlt, mI_nle, ne_eq, mI_addC, pk_sub, pk_mul, pk_div, Nat.reduceEqDiff, Nat.reduceAdd, Nat.reduceMul, Nat.reduceSub, reduceIte, not_true_eq_false, not_false_eq_true, true_or, or_true, if_true, if_false, and_self, and_true, true_and, and_false, false_and, or_self, or_false, false_or, decide_true, decide_false, Bool.false_eq_true, Bool.true_eq_false, bI_t, bI_f, cS_out, cS_wr_out, xS_1, xrd, xwr, gfs4, gfs8, gfs0, gfs6, gfs9, b35]
  obtain ⟨h1, h2⟩ := it_for (fun k (s : UInt32 × Int32) => z_ex 35 M.1 8 [some (.ref x), some (.ref (c + 6)), some (.int (nI l)), some (.float s.1), some (.int s.2), some (.int (nI k))] [] (cS (xS M x U) c V)) (hearS U (nI l)) (fun k s => s.1 ≤ sb k) J (by
    intro k s hk hs
    have hk2 : ¬ J ≤ k := by omega
    obtain ⟨n1, n2⟩ := sb_step (show k < 20 by omega) hs (hm k hk)
    refine ⟨?_, ?_⟩
    · rw [q35_8]
      unfold hearS
      by_cases a1 : U.2.2.1 0 k = mI
      · simp (disch := first | omega | (simp only [sgets, reduceIte, Nat.reduceEqDiff, h, hk2, a1]; done) | omega) only [cS_1, crd, z_pv_some, z_wv_some, z_cv_v, z_cv_n, cwr, sgets, rc_O, ia_n, fa_n, is_n, fs_n, ↓mI_eq, lits, nI_add, nLe, nLt, nE, mI_ne, mI_ne', mI_lt, mI_le, mI_nlt, mI_nle, ne_eq, mI_addC, pk_sub, pk_mul, pk_div, Nat.reduceEqDiff, Nat.reduceAdd, Nat.reduceMul, Nat.reduceSub, reduceIte, not_true_eq_false, not_false_eq_true, true_or, or_true, if_true, if_false, and_self, and_true, true_and, and_false, false_and, or_self, or_false, false_or, decide_true, decide_false, Bool.false_eq_true, Bool.true_eq_false, bI_t, bI_f, cS_out, cS_wr_out, xS_1, xrd, xwr, gfs4, gfs8, gfs0, gfs6, gfs9, b35, h, hk2, a1]
      · by_cases a2 : k = l
        · subst a2
          simp (disch := first | omega | (simp only [sgets, reduceIte, Nat.reduceEqDiff, h, hk2, a1]; done) | omega) only [cS_1, crd, z_pv_some, z_wv_some, z_cv_v, z_cv_n, cwr, sgets, rc_O, ia_n, fa_n, is_n, fs_n, ↓mI_eq, lits, nI_add, nLe, nLt, nE, mI_ne, mI_ne', mI_lt, mI_le, mI_nlt, mI_nle, ne_eq, mI_addC, pk_sub, pk_mul, pk_div, Nat.reduceEqDiff, Nat.reduceAdd, Nat.reduceMul, Nat.reduceSub, reduceIte, not_true_eq_false, not_false_eq_true, true_or, or_true, if_true, if_false, and_self, and_true, true_and, and_false, false_and, or_self, or_false, false_or, decide_true, decide_false, Bool.false_eq_true, Bool.true_eq_false, bI_t, bI_f, cS_out, cS_wr_out, xS_1, xrd, xwr, gfs4, gfs8, gfs0, gfs6, gfs9, b35, h, hk2, a1]
        · simp (disch := first | omega | (simp only [sgets, reduceIte, Nat.reduceEqDiff, h, hk2, a1, a2]; done) | omega) only [cS_1, crd, z_pv_some, z_wv_some, z_cv_v, z_cv_n, cwr, sgets, rc_O, ia_n, fa_n, is_n, fs_n, ↓mI_eq, lits, nI_add, nLe, nLt, nE, mI_ne, mI_ne', mI_lt, mI_le, mI_nlt, mI_nle, ne_eq, mI_addC, pk_sub, pk_mul, pk_div, Nat.reduceEqDiff, Nat.reduceAdd, Nat.reduceMul, Nat.reduceSub, reduceIte, not_true_eq_false, not_false_eq_true, true_or, or_true, if_true, if_false, and_self, and_true, true_and, and_false, false_and, or_self, or_false, false_or, decide_true, decide_false, Bool.false_eq_true, Bool.true_eq_false, bI_t, bI_f, cS_out, cS_wr_out, xS_1, xrd, xwr, gfs4, gfs8, gfs0, gfs6, gfs9, b35, n1, h, hk2, a1, a2]
    · unfold hearS
      split
      · exact n2
      · exact UInt32.le_trans hs (sb_mono (by omega))) (0, nI 0) (by show (0 : UInt32) ≤ _; decide +kernel) J (Nat.le_refl J)
  refine h1.trans ?_
  generalize it (hearS U (nI l)) J (0, nI 0) = s
  rw [q35_8]
  simp (disch := first | omega | (simp only [sgets, reduceIte, Nat.reduceEqDiff, h]; done) | omega) only [cS_1, crd, z_pv_some, z_wv_some, z_cv_v, z_cv_n, cwr, sgets, rc_O, ia_n, fa_n, is_n, fs_n, ↓mI_eq, lits, nI_add, nLe, nLt, nE, mI_ne, mI_ne', mI_lt, mI_le, mI_nlt, mI_nle, ne_eq, mI_addC, pk_sub, pk_mul, pk_div, Nat.reduceEqDiff, Nat.reduceAdd, Nat.reduceMul, Nat.reduceSub, reduceIte, not_true_eq_false, not_false_eq_true, true_or, or_true, if_true, if_false, and_self, and_true, true_and, and_false, false_and, or_self, or_false, false_or, decide_true, decide_false, Bool.false_eq_true, Bool.true_eq_false, bI_t, bI_f, cS_out, cS_wr_out, xS_1, xrd, xwr, gfs4, gfs8, gfs0, gfs6, gfs9, b35, Nat.le_refl, h]
/-- Mixer.gatherWay -/
def stOk (V : z_V) (J : Nat) : Prop := ∀ w, w < 16 → ∃ n, n ≤ 4 ∧ V.2.2.1 16 w = nI n ∧ ∀ i, i < n → nn (V.2.2.2 2 (w * 4 + i)) ∧ ∃ s, s < J ∧ V.2.2.1 17 (w * 4 + i) = nI s
def gatW (V : z_V) (w k : Nat) (U : z_V) : z_V := if U.2.2.1 0 (V.2.2.1 17 (w * 4 + k)).toNatClampNeg = mI ∨ V.2.2.1 18 (w * 4 + k) < U.2.2.1 0 (V.2.2.1 17 (w * 4 + k)).toNatClampNeg then
  sF (sA U 0 (upd (U.2.2.1 0) (V.2.2.1 17 (w * 4 + k)).toNatClampNeg (V.2.2.1 18 (w * 4 + k)))) 0 (vf_upd (U.2.2.2 0) (V.2.2.1 17 (w * 4 + k)).toNatClampNeg (V.2.2.2 2 (w * 4 + k))) else U
theorem m34 (M : z_M) (c x : Nat) (hx : c + 32 ≤ x) (V U : z_V) (J : Nat) (hJ : J ≤ 20) (hst : stOk V J) (w : Nat) (hw : w < 16) (hm : mlOk U J) : z_cl 34 [.ref x, .ref (c + 23), .int (nI w)] (cS (xS M x U) c V) = some (none, cS (xS M x (it (gatW V w) (V.2.2.1 16 w).toNatClampNeg U)) c V) ∧ mlOk (it (gatW V w) (V.2.2.1 16 w).toNatClampNeg U) J := by
  rw [e34]
  obtain ⟨n, hn, hz, hs⟩ := hst w hw
  rw [hz, nI_clamp (by omega)]
  simp (disch := first | omega | (simp only [sgets, reduceIte, Nat.reduceEqDiff]; done) | omega) only [cS_1, crd, z_pv_some, z_wv_some, z_cv_v, z_cv_n, cwr, sgets, rc_O, ia_n, fa_n, is_n, fs_n, ↓mI_eq, lits, nI_add, nLe, nLt, nE, mI_ne, mI_ne', mI_lt, mI_le, mI_nlt, mI_nle, ne_eq, mI_addC, pk_sub, pk_mul, pk_div, Nat.reduceEqDiff, Nat.reduceAdd, Nat.reduceMul, Nat.reduceSub, reduceIte, not_true_eq_false, not_false_eq_true, true_or, or_true, if_true, if_false, and_self, and_true, true_and, and_false, false_and, or_self, or_false, false_or, decide_true, decide_false, Bool.false_eq_true, Bool.true_eq_false, bI_t, bI_f, cS_out, cS_wr_out, xS_1, xrd, xwr, gfs4, gfs8, gfs0, gfs6, gfs9, b34]
  refine lp_for (fun k (W : z_V) (j : Option Value × Option Value) => z_ex 34 M.1 2 [some (.ref x), some (.ref (c + 23)), some (.int (nI w)), some (.int (nI k)), j.1, j.2] [] (cS (xS M x W) c V)) (gatW V w) (fun _ W => mlOk W J) n (fun W => some (none, cS (xS M x W) c V)) ?_ ?_ ?_ U (none, none) hm
  · rintro k W ⟨ja, jb⟩ hk hK
    have hk2 : ¬ n ≤ k := by omega
    obtain ⟨n1, s, s1, s2⟩ := hs k hk
    rw [q34_2]
    unfold gatW
    rw [s2, nI_clamp (by omega)]
    by_cases a1 : W.2.2.1 0 s = mI
    · simp (disch := first | omega | (simp only [sgets, reduceIte, Nat.reduceEqDiff, hz, hk2, s2, a1]; done) | omega) only [cS_1, crd, z_pv_some, z_wv_some, z_cv_v, z_cv_n, cwr, sgets, rc_O, ia_n, fa_n, is_n, fs_n, ↓mI_eq, lits, nI_add, nLe, nLt, nE, mI_ne, mI_ne', mI_lt, mI_le, mI_nlt, mI_nle, ne_eq, mI_addC, pk_sub, pk_mul, pk_div, Nat.reduceEqDiff, Nat.reduceAdd, Nat.reduceMul, Nat.reduceSub, reduceIte, not_true_eq_false, not_false_eq_true, true_or, or_true, if_true, if_false, and_self, and_true, true_and, and_false, false_and, or_self, or_false, false_or, decide_true, decide_false, Bool.false_eq_true, Bool.true_eq_false, bI_t, bI_f, cS_out, cS_wr_out, xS_1, xrd, xwr, gfs4, gfs8, gfs0, gfs6, gfs9, b34, hz, hk2, s2, a1]
      exact ⟨(some (.int (nI (w * 4 + k))), some (.int (nI s))), rfl⟩
    · by_cases a2 : W.2.2.1 0 s ≤ V.2.2.1 18 (w * 4 + k)
      · have a3 : ¬ V.2.2.1 18 (w * 4 + k) < W.2.2.1 0 s := Int32.not_lt.mpr a2
        simp (disch := first | omega | (simp only [sgets, reduceIte, Nat.reduceEqDiff, hz, hk2, s2, a1, a2, a3]; done) | omega) only [cS_1, crd, z_pv_some, z_wv_some, z_cv_v, z_cv_n, cwr, sgets, rc_O, ia_n, fa_n, is_n, fs_n, ↓mI_eq, lits, nI_add, nLe, nLt, nE, mI_ne, mI_ne', mI_lt, mI_le, mI_nlt, mI_nle, ne_eq, mI_addC, pk_sub, pk_mul, pk_div, Nat.reduceEqDiff, Nat.reduceAdd, Nat.reduceMul, Nat.reduceSub, reduceIte, not_true_eq_false, not_false_eq_true, true_or, or_true, if_true, if_false, and_self, and_true, true_and, and_false, false_and, or_self, or_false, false_or, decide_true, decide_false, Bool.false_eq_true, Bool.true_eq_false, bI_t, bI_f, cS_out, cS_wr_out, xS_1, xrd, xwr, gfs4, gfs8, gfs0, gfs6, gfs9, b34, hz, hk2, s2, a1, a2, a3]
        exact ⟨(some (.int (nI (w * 4 + k))), some (.int (nI s))), rfl⟩
      · have a3 : V.2.2.1 18 (w * 4 + k) < W.2.2.1 0 s := Int32.not_le.mp a2
        simp (disch := first | omega | (simp only [sgets, reduceIte, Nat.reduceEqDiff, hz, hk2, s2, a1, a2, a3]; done) | omega) only [cS_1, crd, z_pv_some, z_wv_some, z_cv_v, z_cv_n, cwr, sgets, rc_O, ia_n, fa_n, is_n, fs_n, ↓mI_eq, lits, nI_add, nLe, nLt, nE, mI_ne, mI_ne', mI_lt, mI_le, mI_nlt, mI_nle, ne_eq, mI_addC, pk_sub, pk_mul, pk_div, Nat.reduceEqDiff, Nat.reduceAdd, Nat.reduceMul, Nat.reduceSub, reduceIte, not_true_eq_false, not_false_eq_true, true_or, or_true, if_true, if_false, and_self, and_true, true_and, and_false, false_and, or_self, or_false, false_or, decide_true, decide_false, Bool.false_eq_true, Bool.true_eq_false, bI_t, bI_f, cS_out, cS_wr_out, xS_1, xrd, xwr, gfs4, gfs8, gfs0, gfs6, gfs9, b34, hz, hk2, s2, a1, a2, a3]
        exact ⟨(some (.int (nI (w * 4 + k))), some (.int (nI s))), rfl⟩
  · intro k W hk hK p hp
    unfold gatW
    obtain ⟨n1, s, s1, s2⟩ := hs k hk
    split
    · simp only [sgets, if_true]
      rw [s2, nI_clamp (by omega)]
      by_cases hps : p = s
      · subst hps; rw [updF_eq]; exact n1
      · rw [updF_ne _ _ hps]; exact hK p hp
    · exact hK p hp
  · rintro W ⟨ja, jb⟩ hK
    rw [q34_2]
    simp (disch := first | omega | (simp only [sgets, reduceIte, Nat.reduceEqDiff, hz]; done) | omega) only [cS_1, crd, z_pv_some, z_wv_some, z_cv_v, z_cv_n, cwr, sgets, rc_O, ia_n, fa_n, is_n, fs_n, ↓mI_eq, lits, nI_add, nLe, nLt, nE, mI_ne, mI_ne', mI_lt, mI_le, mI_nlt, mI_nle, ne_eq, mI_addC, pk_sub, pk_mul, pk_div, Nat.reduceEqDiff, Nat.reduceAdd, Nat.reduceMul, Nat.reduceSub, reduceIte, not_true_eq_false, not_false_eq_true, true_or, or_true, if_true, if_false, and_self, and_true, true_and, and_false, false_and, or_self, or_false, false_or, decide_true, decide_false, Bool.false_eq_true, Bool.true_eq_false, bI_t, bI_f, cS_out, cS_wr_out, xS_1, xrd, xwr, gfs4, gfs8, gfs0, gfs6, gfs9, b34, Nat.le_refl, hz]
/-- Mixer.gather -/
def gInit (V : z_V) (b p : Nat) (U : z_V) : z_V := sF (sA U 0 (upd (U.2.2.1 0) p (if V.2.2.1 9 p = nI b then nI 0 else mI))) 0 (vf_upd (U.2.2.2 0) p (V.2.2.2 0 p))
def gN (V : z_V) (b : Nat) (e : Int32) (n : Nat) (U : z_V) : z_V := if way V b n = mI ∨ nI n = e then U else it (gatW V (way V b n).toNatClampNeg) (V.2.2.1 16 (way V b n).toNatClampNeg).toNatClampNeg U
def gath (V : z_V) (b : Nat) (e : Int32) (J B : Nat) (U : z_V) : z_V := it (gN V b e) B (it (gInit V b) J U)
theorem way_lt (V : z_V) {b n : Nat} (hb : b < 8) (hn : n < 8) : way V b n = mI ∨ ∃ w, w < 16 ∧ way V b n = nI w := by
  unfold way
  split
  · exact Or.inr ⟨b, by omega, rfl⟩
  · split
    · exact Or.inr ⟨8 + n, by omega, rfl⟩
    · exact Or.inl rfl
theorem m33 (M : z_M) (c x : Nat) (hx : c + 32 ≤ x) (V U : z_V) (J B : Nat) (hJ : J ≤ 20) (h9 : V.1 9 = nI J) (hB : B ≤ 8) (h8 : V.1 8 = nI B) (hd : ldOk V) (hst : stOk V J) (b : Nat) (hb : b < 8) (e : Int32) : z_cl 33 [.ref x, .ref c, .int (nI b), .int e] (cS (xS M x U) c V) = some (none, cS (xS M x (gath V b e J B U)) c V) ∧ mlOk (gath V b e J B U) J := by
  rw [e33]
  simp (disch := first | omega | (simp only [sgets, reduceIte, Nat.reduceEqDiff]; done) | omega) only [cS_1, crd, z_pv_some, z_wv_some, z_cv_v, z_cv_n, cwr, sgets, rc_O, ia_n, fa_n, is_n, fs_n, ↓mI_eq, lits, nI_add, nLe, nLt, nE, mI_ne, mI_ne', mI_lt, mI_le, mI_nlt, mI_nle, ne_eq, mI_addC, pk_sub, pk_mul, pk_div, Nat.reduceEqDiff, Nat.reduceAdd, Nat.reduceMul, Nat.reduceSub, reduceIte, not_true_eq_false, not_false_eq_true, true_or, or_true, if_true, if_false, and_self, and_true, true_and, and_false, false_and, or_self, or_false, false_or, decide_true, decide_false, Bool.false_eq_true, Bool.true_eq_false, bI_t, bI_f, cS_out, cS_wr_out, xS_1, xrd, xwr, gfs4, gfs8, gfs0, gfs6, gfs9, b33]
  have l1 := lp_for (fun k (W : z_V) (_ : Unit) => z_ex 33 M.1 3 [some (.ref x), some (.ref c), some (.int (nI b)), some (.int e), some (.int (nI k)), none] [] (cS (xS M x W) c V)) (gInit V b) (fun k W => ∀ p, p < k → nn (W.2.2.2 0 p)) J (fun W => z_ex 33 M.1 67 [some (.ref x), some (.ref c), some (.int (nI b)), some (.int e), some (.int (nI 0)), none] [] (cS (xS M x W) c V)) (by
    intro k W j hk hK
    have hk2 : ¬ J ≤ k := by omega
    rw [q33_3]
    by_cases a1 : V.2.2.1 9 k = nI b
    · have hu : gInit V b k W = sF (sA W 0 (upd (W.2.2.1 0) k (nI 0))) 0 (vf_upd (W.2.2.2 0) k (V.2.2.2 0 k)) := by unfold gInit; rw [if_pos a1]
      simp (disch := first | omega | (simp only [sgets, reduceIte, Nat.reduceEqDiff, h9, hk2, a1]; done) | omega) only [cS_1, crd, z_pv_some, z_wv_some, z_cv_v, z_cv_n, cwr, sgets, rc_O, ia_n, fa_n, is_n, fs_n, ↓mI_eq, lits, nI_add, nLe, nLt, nE, mI_ne, mI_ne', mI_lt, mI_le, mI_nlt, mI_nle, ne_eq, mI_addC, pk_sub, pk_mul, pk_div, Nat.reduceEqDiff, Nat.reduceAdd, Nat.reduceMul, Nat.reduceSub, reduceIte, not_true_eq_false, not_false_eq_true, true_or, or_true, if_true, if_false, and_self, and_true, true_and, and_false, false_and, or_self, or_false, false_or, decide_true, decide_false, Bool.false_eq_true, Bool.true_eq_false, bI_t, bI_f, cS_out, cS_wr_out, xS_1, xrd, xwr, gfs4, gfs8, gfs0, gfs6, gfs9, b33, hu, h9, hk2, a1]
      exact ⟨(), trivial⟩
    · have hu : gInit V b k W = sF (sA W 0 (upd (W.2.2.1 0) k mI)) 0 (vf_upd (W.2.2.2 0) k (V.2.2.2 0 k)) := by unfold gInit; rw [if_neg a1]
      simp (disch := first | omega | (simp only [sgets, reduceIte, Nat.reduceEqDiff, h9, hk2, a1]; done) | omega) only [cS_1, crd, z_pv_some, z_wv_some, z_cv_v, z_cv_n, cwr, sgets, rc_O, ia_n, fa_n, is_n, fs_n, ↓mI_eq, lits, nI_add, nLe, nLt, nE, mI_ne, mI_ne', mI_lt, mI_le, mI_nlt, mI_nle, ne_eq, mI_addC, pk_sub, pk_mul, pk_div, Nat.reduceEqDiff, Nat.reduceAdd, Nat.reduceMul, Nat.reduceSub, reduceIte, not_true_eq_false, not_false_eq_true, true_or, or_true, if_true, if_false, and_self, and_true, true_and, and_false, false_and, or_self, or_false, false_or, decide_true, decide_false, Bool.false_eq_true, Bool.true_eq_false, bI_t, bI_f, cS_out, cS_wr_out, xS_1, xrd, xwr, gfs4, gfs8, gfs0, gfs6, gfs9, b33, hu, h9, hk2, a1]
      exact ⟨(), trivial⟩) (by
    intro k W hk hK p hp
    unfold gInit
    simp only [sgets, if_true]
    by_cases hps : p = k
    · subst hps; rw [updF_eq]; exact hd p (by omega)
    · rw [updF_ne _ _ hps]; exact hK p (by omega)) (by
    intro W j hK
    rw [q33_3]
    simp (disch := first | omega | (simp only [sgets, reduceIte, Nat.reduceEqDiff, h9]; done) | omega) only [cS_1, crd, z_pv_some, z_wv_some, z_cv_v, z_cv_n, cwr, sgets, rc_O, ia_n, fa_n, is_n, fs_n, ↓mI_eq, lits, nI_add, nLe, nLt, nE, mI_ne, mI_ne', mI_lt, mI_le, mI_nlt, mI_nle, ne_eq, mI_addC, pk_sub, pk_mul, pk_div, Nat.reduceEqDiff, Nat.reduceAdd, Nat.reduceMul, Nat.reduceSub, reduceIte, not_true_eq_false, not_false_eq_true, true_or, or_true, if_true, if_false, and_self, and_true, true_and, and_false, false_and, or_self, or_false, false_or, decide_true, decide_false, Bool.false_eq_true, Bool.true_eq_false, bI_t, bI_f, cS_out, cS_wr_out, xS_1, xrd, xwr, gfs4, gfs8, gfs0, gfs6, gfs9, b33, Nat.le_refl, h9]) U () (fun p hp => absurd hp (by omega))
  obtain ⟨l1, l2⟩ := l1
  rw [l1]
  unfold gath
  generalize it (gInit V b) J U = U1 at l2 ⊢
  refine lp_for (fun k (W : z_V) (j : Option Value) => z_ex 33 M.1 67 [some (.ref x), some (.ref c), some (.int (nI b)), some (.int e), some (.int (nI k)), j] [] (cS (xS M x W) c V)) (gN V b e) (fun _ W => mlOk W J) B (fun W => some (none, cS (xS M x W) c V)) ?_ ?_ ?_ U1 none l2
  · intro k W j hk hK
    have hk2 : ¬ B ≤ k := by omega
    have h68 := m68 (xS M x W) c V b k hb (by omega)
    rw [q33_67]
    unfold gN
    rcases way_lt V hb (show k < 8 by omega) with hw | ⟨w, hw, hw2⟩
    · rw [hw] at h68 ⊢
      simp (disch := first | omega | (simp only [sgets, reduceIte, Nat.reduceEqDiff, h8, hk2]; done) | omega) only [cS_1, crd, z_pv_some, z_wv_some, z_cv_v, z_cv_n, cwr, sgets, rc_O, ia_n, fa_n, is_n, fs_n, ↓mI_eq, lits, nI_add, nLe, nLt, nE, mI_ne, mI_ne', mI_lt, mI_le, mI_nlt, mI_nle, ne_eq, mI_addC, pk_sub, pk_mul, pk_div, Nat.reduceEqDiff, Nat.reduceAdd, Nat.reduceMul, Nat.reduceSub, reduceIte, not_true_eq_false, not_false_eq_true, true_or, or_true, if_true, if_false, and_self, and_true, true_and, and_false, false_and, or_self, or_false, false_or, decide_true, decide_false, Bool.false_eq_true, Bool.true_eq_false, bI_t, bI_f, cS_out, cS_wr_out, xS_1, xrd, xwr, gfs4, gfs8, gfs0, gfs6, gfs9, b33, h68, h8, hk2]
      exact ⟨some (.int mI), rfl⟩
    · rw [hw2] at h68 ⊢
      by_cases a1 : nI k = e
      · have a1' : (nI k = e) = True := eq_true a1
        simp (disch := first | omega | (simp only [sgets, reduceIte, Nat.reduceEqDiff, h8, hk2, a1']; done) | omega) only [cS_1, crd, z_pv_some, z_wv_some, z_cv_v, z_cv_n, cwr, sgets, rc_O, ia_n, fa_n, is_n, fs_n, ↓mI_eq, lits, nI_add, nLe, nLt, nE, mI_ne, mI_ne', mI_lt, mI_le, mI_nlt, mI_nle, ne_eq, mI_addC, pk_sub, pk_mul, pk_div, Nat.reduceEqDiff, Nat.reduceAdd, Nat.reduceMul, Nat.reduceSub, reduceIte, not_true_eq_false, not_false_eq_true, true_or, or_true, if_true, if_false, and_self, and_true, true_and, and_false, false_and, or_self, or_false, false_or, decide_true, decide_false, Bool.false_eq_true, Bool.true_eq_false, bI_t, bI_f, cS_out, cS_wr_out, xS_1, xrd, xwr, gfs4, gfs8, gfs0, gfs6, gfs9, b33, h68, h8, hk2, a1']
        exact ⟨some (.int (nI w)), rfl⟩
      · have h34 := (m34 M c x hx V W J hJ hst w hw hK).1
        simp (disch := first | omega | (simp only [sgets, reduceIte, Nat.reduceEqDiff, h8, hk2, a1]; done) | omega) only [cS_1, crd, z_pv_some, z_wv_some, z_cv_v, z_cv_n, cwr, sgets, rc_O, ia_n, fa_n, is_n, fs_n, ↓mI_eq, lits, nI_add, nLe, nLt, nE, mI_ne, mI_ne', mI_lt, mI_le, mI_nlt, mI_nle, ne_eq, mI_addC, pk_sub, pk_mul, pk_div, Nat.reduceEqDiff, Nat.reduceAdd, Nat.reduceMul, Nat.reduceSub, reduceIte, not_true_eq_false, not_false_eq_true, true_or, or_true, if_true, if_false, and_self, and_true, true_and, and_false, false_and, or_self, or_false, false_or, decide_true, decide_false, Bool.false_eq_true, Bool.true_eq_false, bI_t, bI_f, cS_out, cS_wr_out, xS_1, xrd, xwr, gfs4, gfs8, gfs0, gfs6, gfs9, b33, h68, h34, nI_clamp, h8, hk2, a1]
        exact ⟨some (.int (nI w)), rfl⟩
  · intro k W hk hK
    unfold gN
    split
    · exact hK
    · rcases way_lt V hb (show k < 8 by omega) with hw | ⟨w, hw, hw2⟩
      · rename_i hc; exact absurd (Or.inl hw) hc
      · rw [hw2, nI_clamp (by omega)]
        exact (m34 M c x hx V W J hJ hst w hw hK).2
  · intro W j hK
    rw [q33_67]
    simp (disch := first | omega | (simp only [sgets, reduceIte, Nat.reduceEqDiff, h8]; done) | omega) only [cS_1, crd, z_pv_some, z_wv_some, z_cv_v, z_cv_n, cwr, sgets, rc_O, ia_n, fa_n, is_n, fs_n, ↓mI_eq, lits, nI_add, nLe, nLt, nE, mI_ne, mI_ne', mI_lt, mI_le, mI_nlt, mI_nle, ne_eq, mI_addC, pk_sub, pk_mul, pk_div, Nat.reduceEqDiff, Nat.reduceAdd, Nat.reduceMul, Nat.reduceSub, reduceIte, not_true_eq_false, not_false_eq_true, true_or, or_true, if_true, if_false, and_self, and_true, true_and, and_false, false_and, or_self, or_false, false_or, decide_true, decide_false, Bool.false_eq_true, Bool.true_eq_false, bI_t, bI_f, cS_out, cS_wr_out, xS_1, xrd, xwr, gfs4, gfs8, gfs0, gfs6, gfs9, b33, Nat.le_refl, h8]
/-- Mixer.letHear -/
def hearV (V U : z_V) (J l : Nat) : z_V := sA (sF V 1 (vf_upd (V.2.2.2 1) l (it (hearS U (nI l)) J (0, nI 0)).1)) 10 (upd (V.2.2.1 10) l (it (hearS U (nI l)) J (0, nI 0)).2)
def hearP (U : z_V) (J b p : Nat) (V : z_V) : z_V := if V.2.2.1 3 p = nI b then hearV V U J p else V
def letH (J B b : Nat) (s : z_V × z_V) : z_V × z_V := (gath s.2 b mI J B s.1, it (hearP (gath s.2 b mI J B s.1) J b) J s.2)
/-- W is V but for what is heard -/
def kM (V W : z_V) : Prop := W.1 = V.1 ∧ W.2.1 = V.2.1 ∧ (∀ i, i ≠ 10 → W.2.2.1 i = V.2.2.1 i) ∧ (∀ i, i ≠ 1 → W.2.2.2 i = V.2.2.2 i) ∧ ∀ p, p < 20 → W.2.2.2 1 p ≤ sb 20 ∨ W.2.2.2 1 p = V.2.2.2 1 p
theorem sb_le : ∀ k, k < 21 → sb k ≤ sb 20 := by decide +kernel
theorem kM_hear {V U : z_V} {J : Nat} (hm : mlOk U J) (hJ : J ≤ 20) (b p : Nat) : kM V (hearP U J b p V) := by
  unfold hearP
  split
  · unfold hearV
    refine ⟨rfl, rfl, fun i hi => ?_, fun i hi => ?_, fun q hq => ?_⟩
    · simp only [sgets, hi, if_false]
    · simp only [sgets, hi, if_false]
    · simp only [sgets, if_true]
      by_cases hqp : q = p
      · subst hqp
        rw [updF_eq]
        exact Or.inl (UInt32.le_trans (hear_sb hm hJ _ J (Nat.le_refl J)) (sb_le J (by omega)))
      · rw [updF_ne _ _ hqp]
        exact Or.inr rfl
  · exact ⟨rfl, rfl, fun _ _ => rfl, fun _ _ => rfl, fun _ _ => Or.inr rfl⟩
theorem kM.tr {V W X : z_V} (h1 : kM V W) (h2 : kM W X) : kM V X := ⟨h2.1.trans h1.1, h2.2.1.trans h1.2.1, fun i a => (h2.2.2.1 i a).trans (h1.2.2.1 i a), fun i a => (h2.2.2.2.1 i a).trans (h1.2.2.2.1 i a), fun p hp => by
  rcases h2.2.2.2.2 p hp with h | h
  · exact Or.inl h
  · rw [h]; exact h1.2.2.2.2 p hp⟩
theorem kM.rf (V : z_V) : kM V V := ⟨rfl, rfl, fun _ _ => rfl, fun _ _ => rfl, fun _ _ => Or.inr rfl⟩
theorem kM_ok {V W : z_V} {J : Nat} (h : kM V W) (hd : ldOk V) (hst : stOk V J) : ldOk W ∧ stOk W J := by
  refine ⟨fun p hp => by rw [h.2.2.2.1 0 (by omega)]; exact hd p hp, fun w hw => ?_⟩
  obtain ⟨n, a, b, d⟩ := hst w hw
  exact ⟨n, a, by rw [h.2.2.1 16 (by omega)]; exact b, fun i hi => by rw [h.2.2.2.1 2 (by omega), h.2.2.1 17 (by omega)]; exact d i hi⟩
theorem m32 (M : z_M) (c x : Nat) (hx : c + 32 ≤ x) (V U : z_V) (J B : Nat) (hJ : J ≤ 20) (h9 : V.1 9 = nI J) (hB : B ≤ 8) (h8 : V.1 8 = nI B) (hd : ldOk V) (hst : stOk V J) : z_cl 32 [.ref x, .ref c] (cS (xS M x U) c V) = some (none, cS (xS M x (it (letH J B) B (U, V)).1) c (it (letH J B) B (U, V)).2) ∧ kM V (it (letH J B) B (U, V)).2 := by
  rw [e32]
  simp (disch := first | omega | (simp only [sgets, reduceIte, Nat.reduceEqDiff]; done) | omega) only [cS_1, crd, z_pv_some, z_wv_some, z_cv_v, z_cv_n, cwr, sgets, rc_O, ia_n, fa_n, is_n, fs_n, ↓mI_eq, lits, nI_add, nLe, nLt, nE, mI_ne, mI_ne', mI_lt, mI_le, mI_nlt, mI_nle, ne_eq, mI_addC, pk_sub, pk_mul, pk_div, Nat.reduceEqDiff, Nat.reduceAdd, Nat.reduceMul, Nat.reduceSub, reduceIte, not_true_eq_false, not_false_eq_true, true_or, or_true, if_true, if_false, and_self, and_true, true_and, and_false, false_and, or_self, or_false, false_or, decide_true, decide_false, Bool.false_eq_true, Bool.true_eq_false, bI_t, bI_f, cS_out, cS_wr_out, xS_1, xrd, xwr, gfs4, gfs8, gfs0, gfs6, gfs9, b32]
  refine lp_for (fun k (s : z_V × z_V) (j : Option Value) => z_ex 32 M.1 2 [some (.ref x), some (.ref c), some (.int (nI k)), j] [] (cS (xS M x s.1) c s.2)) (letH J B) (fun _ s => kM V s.2) B (fun s => some (none, cS (xS M x s.1) c s.2)) ?_ ?_ ?_ (U, V) none (kM.rf V)
  · rintro k ⟨U1, V1⟩ j hk hK
    replace hK : kM V V1 := hK
    have hk2 : ¬ B ≤ k := by omega
    obtain ⟨o1, o2⟩ := kM_ok hK hd hst
    have g9 : V1.1 9 = nI J := by rw [hK.1]; exact h9
    have g8 : V1.1 8 = nI B := by rw [hK.1]; exact h8
    obtain ⟨g1, g2⟩ := m33 M c x hx V1 U1 J B hJ g9 hB g8 o1 o2 k (by omega) mI
    show ∃ j', z_ex 32 M.1 2 [some (.ref x), some (.ref c), some (.int (nI k)), j] [] (cS (xS M x U1) c V1) = z_ex 32 M.1 2 [some (.ref x), some (.ref c), some (.int (nI (k + 1))), j'] [] (cS (xS M x (gath V1 k mI J B U1)) c (it (hearP (gath V1 k mI J B U1) J k) J V1))
    generalize gath V1 k mI J B U1 = U2 at g1 g2 ⊢
    obtain ⟨l1, l2⟩ := lp_for (fun p (W : z_V) (_ : Unit) => z_ex 32 M.1 22 [some (.ref x), some (.ref c), some (.int (nI k)), some (.int (nI p))] [] (cS (xS M x U2) c W)) (hearP U2 J k) (fun _ W => kM V1 W) J (fun W => z_ex 32 M.1 2 [some (.ref x), some (.ref c), some (.int (nI (k + 1))), some (.int (nI J))] [] (cS (xS M x U2) c W)) (by
      intro p W jj hp hKW
      have hp2 : ¬ J ≤ p := by omega
      have w9 : W.1 9 = nI J := by rw [hKW.1]; exact g9
      have h35 := m35 M c x hx W U2 J hJ w9 g2 p (by omega)
      rw [q32_22]
      by_cases a1 : W.2.2.1 3 p = nI k
      · have hu : hearP U2 J k p W = hearV W U2 J p := by unfold hearP; rw [if_pos a1]
        simp (disch := first | omega | (simp only [sgets, reduceIte, Nat.reduceEqDiff, w9, hp2, a1]; done) | omega) only [cS_1, crd, z_pv_some, z_wv_some, z_cv_v, z_cv_n, cwr, sgets, rc_O, ia_n, fa_n, is_n, fs_n, ↓mI_eq, lits, nI_add, nLe, nLt, nE, mI_ne, mI_ne', mI_lt, mI_le, mI_nlt, mI_nle, ne_eq, mI_addC, pk_sub, pk_mul, pk_div, Nat.reduceEqDiff, Nat.reduceAdd, Nat.reduceMul, Nat.reduceSub, reduceIte, not_true_eq_false, not_false_eq_true, true_or, or_true, if_true, if_false, and_self, and_true, true_and, and_false, false_and, or_self, or_false, false_or, decide_true, decide_false, Bool.false_eq_true, Bool.true_eq_false, bI_t, bI_f, cS_out, cS_wr_out, xS_1, xrd, xwr, gfs4, gfs8, gfs0, gfs6, gfs9, b32, h35, hu, w9, hp2, a1]
        exact ⟨(), rfl⟩
      · have hu : hearP U2 J k p W = W := by unfold hearP; rw [if_neg a1]
        simp (disch := first | omega | (simp only [sgets, reduceIte, Nat.reduceEqDiff, w9, hp2, a1]; done) | omega) only [cS_1, crd, z_pv_some, z_wv_some, z_cv_v, z_cv_n, cwr, sgets, rc_O, ia_n, fa_n, is_n, fs_n, ↓mI_eq, lits, nI_add, nLe, nLt, nE, mI_ne, mI_ne', mI_lt, mI_le, mI_nlt, mI_nle, ne_eq, mI_addC, pk_sub, pk_mul, pk_div, Nat.reduceEqDiff, Nat.reduceAdd, Nat.reduceMul, Nat.reduceSub, reduceIte, not_true_eq_false, not_false_eq_true, true_or, or_true, if_true, if_false, and_self, and_true, true_and, and_false, false_and, or_self, or_false, false_or, decide_true, decide_false, Bool.false_eq_true, Bool.true_eq_false, bI_t, bI_f, cS_out, cS_wr_out, xS_1, xrd, xwr, gfs4, gfs8, gfs0, gfs6, gfs9, b32, hu, w9, hp2, a1]
        exact ⟨(), trivial⟩) (fun p W hp hKW => hKW.tr (kM_hear g2 hJ k p)) (by
      intro W jj hKW
      have w9 : W.1 9 = nI J := by rw [hKW.1]; exact g9
      rw [q32_22]
      simp (disch := first | omega | (simp only [sgets, reduceIte, Nat.reduceEqDiff, w9]; done) | omega) only [cS_1, crd, z_pv_some, z_wv_some, z_cv_v, z_cv_n, cwr, sgets, rc_O, ia_n, fa_n, is_n, fs_n, ↓mI_eq, lits, nI_add, nLe, nLt, nE, mI_ne, mI_ne', mI_lt, mI_le, mI_nlt, mI_nle, ne_eq, mI_addC, pk_sub, pk_mul, pk_div, Nat.reduceEqDiff, Nat.reduceAdd, Nat.reduceMul, Nat.reduceSub, reduceIte, not_true_eq_false, not_false_eq_true, true_or, or_true, if_true, if_false, and_self, and_true, true_and, and_false, false_and, or_self, or_false, false_or, decide_true, decide_false, Bool.false_eq_true, Bool.true_eq_false, bI_t, bI_f, cS_out, cS_wr_out, xS_1, xrd, xwr, gfs4, gfs8, gfs0, gfs6, gfs9, b32, Nat.le_refl, w9]) V1 () (kM.rf V1)
    rw [q32_2]
    simp (disch := first | omega | (simp only [sgets, reduceIte, Nat.reduceEqDiff, g8, hk2]; done) | omega) only [cS_1, crd, z_pv_some, z_wv_some, z_cv_v, z_cv_n, cwr, sgets, rc_O, ia_n, fa_n, is_n, fs_n, ↓mI_eq, lits, nI_add, nLe, nLt, nE, mI_ne, mI_ne', mI_lt, mI_le, mI_nlt, mI_nle, ne_eq, mI_addC, pk_sub, pk_mul, pk_div, Nat.reduceEqDiff, Nat.reduceAdd, Nat.reduceMul, Nat.reduceSub, reduceIte, not_true_eq_false, not_false_eq_true, true_or, or_true, if_true, if_false, and_self, and_true, true_and, and_false, false_and, or_self, or_false, false_or, decide_true, decide_false, Bool.false_eq_true, Bool.true_eq_false, bI_t, bI_f, cS_out, cS_wr_out, xS_1, xrd, xwr, gfs4, gfs8, gfs0, gfs6, gfs9, b32, g1, l1, g8, hk2]
    exact ⟨_, rfl⟩
  · rintro k ⟨U1, V1⟩ hk hK
    replace hK : kM V V1 := hK
    obtain ⟨o1, o2⟩ := kM_ok hK hd hst
    have g9 : V1.1 9 = nI J := by rw [hK.1]; exact h9
    have g8 : V1.1 8 = nI B := by rw [hK.1]; exact h8
    obtain ⟨g1, g2⟩ := m33 M c x hx V1 U1 J B hJ g9 hB g8 o1 o2 k (by omega) mI
    show kM V (it (hearP (gath V1 k mI J B U1) J k) J V1)
    refine hK.tr ?_
    have : ∀ n, kM V1 (it (hearP (gath V1 k mI J B U1) J k) n V1) := by
      intro n
      induction n with
      | zero => exact kM.rf V1
      | succ n ih => exact ih.tr (kM_hear g2 hJ k n)
    exact this J
  · rintro ⟨U1, V1⟩ j hK
    replace hK : kM V V1 := hK
    have g8 : V1.1 8 = nI B := by rw [hK.1]; exact h8
    show z_ex 32 M.1 2 [some (.ref x), some (.ref c), some (.int (nI B)), j] [] (cS (xS M x U1) c V1) = some (none, cS (xS M x U1) c V1)
    rw [q32_2]
    simp (disch := first | omega | (simp only [sgets, reduceIte, Nat.reduceEqDiff, g8]; done) | omega) only [cS_1, crd, z_pv_some, z_wv_some, z_cv_v, z_cv_n, cwr, sgets, rc_O, ia_n, fa_n, is_n, fs_n, ↓mI_eq, lits, nI_add, nLe, nLt, nE, mI_ne, mI_ne', mI_lt, mI_le, mI_nlt, mI_nle, ne_eq, mI_addC, pk_sub, pk_mul, pk_div, Nat.reduceEqDiff, Nat.reduceAdd, Nat.reduceMul, Nat.reduceSub, reduceIte, not_true_eq_false, not_false_eq_true, true_or, or_true, if_true, if_false, and_self, and_true, true_and, and_false, false_and, or_self, or_false, false_or, decide_true, decide_false, Bool.false_eq_true, Bool.true_eq_false, bI_t, bI_f, cS_out, cS_wr_out, xS_1, xrd, xwr, gfs4, gfs8, gfs0, gfs6, gfs9, b32, Nat.le_refl, g8]
