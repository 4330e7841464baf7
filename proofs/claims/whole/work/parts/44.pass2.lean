/-! passTicks -/
def mxOk (V : z_V) : Prop := ∀ p, p < 20 → V.2.2.2 1 p ≤ sb 20
def okC (V : z_V) (J S Hy B : Nat) : Prop := (J ≤ 20 ∧ V.1 9 = nI J) ∧ (S ≤ 4 ∧ V.1 1 = nI S) ∧ (Hy ≤ 16 ∧ V.1 2 = nI Hy) ∧ (B ≤ 8 ∧ V.1 8 = nI B) ∧ okE V ∧ okW V ∧ lvOk V ∧ ldOk V ∧ stOk V J ∧ plOk V ∧ mxOk V
/-- what the first three steps of a tick leave as it was -/
def kB (V W : z_V) : Prop := (∀ i, i ≠ 0 → i ≠ 11 → i ≠ 12 → i ≠ 13 → W.1 i = V.1 i) ∧ W.2.1 = V.2.1 ∧ (∀ i, i < 7 ∨ i = 10 ∨ (15 < i ∧ i < 19) → W.2.2.1 i = V.2.2.1 i) ∧ (∀ i, i ≠ 0 → W.2.2.2 i = V.2.2.2 i)
theorem updL_F (V : z_V) (p i : Nat) (h : i ≠ 0) : (updL V p).2.2.2 i = V.2.2.2 i := by
  unfold updL
  split
  · rfl
  · simp only [sgets, h, if_false]
theorem begT_ok {M : z_M} {c : Nat} {V : z_V} {J S Hy B : Nat} (h : okC V J S Hy B) : kB V (begT V J S B) ∧ okE (begT V J S B) ∧ okW (begT V J S B) ∧ ldOk (begT V J S B) := by
  obtain ⟨⟨hJ, h9⟩, ⟨hS, h1⟩, ⟨hH, h2⟩, ⟨hB, h8⟩, hE, hw, hl, hd, hst, hpl, hmx⟩ := h
  unfold begT
  obtain ⟨-, u2, u3, u4, u5⟩ := m52 M c (sS V 0 (V.1 0 + nI 1)) J hJ (by simp only [sgets, Nat.reduceEqDiff, if_false]; exact h9) hl hd
  have u6 : ∀ n, ∀ i, i ≠ 0 → (it (fun p W => updL W p) n (sS V 0 (V.1 0 + nI 1))).2.2.2 i = V.2.2.2 i := by
    intro n
    induction n with
    | zero => intro i _; rfl
    | succ n ih => intro i hi; exact (updL_F _ _ i hi).trans (ih i hi)
  have u6J := u6 J
  generalize hW2 : it (fun p W => updL W p) J (sS V 0 (V.1 0 + nI 1)) = W2 at u2 u3 u4 u5 u6J ⊢
  have uS : ∀ i, i ≠ 0 → W2.1 i = V.1 i := fun i hi => by rw [u3]; simp only [sgets, hi, if_false]
  have hE2 : okE W2 := by obtain ⟨N, K, a, b, d, e⟩ := hE; exact ⟨N, K, a, b, by rw [uS 13 (by omega)]; exact d, by rw [uS 12 (by omega)]; exact e⟩
  have hw2 : okW W2 := by obtain ⟨W, a, b, d⟩ := hw; exact ⟨W, a, by rw [uS 11 (by omega)]; exact b, by rw [u5 11 (by omega)]; exact d⟩
  have k2 : kB V W2 := ⟨fun i a _ _ _ => uS i a, u4, fun i hi => u5 i (by omega), u6J⟩
  have key : ∀ W, kB V W → okE W → okW W → ldOk W → kB V (it (selB J S) B W) ∧ okE (it (selB J S) B W) ∧ okW (it (selB J S) B W) ∧ ldOk (it (selB J S) B W) := by
    intro W hk he hww hld
    have g := fun i a b d e => hk.1 i a b d e
    obtain ⟨-, ks⟩ := m177 M c W J S Hy B hJ (by rw [g 9 (by omega) (by omega) (by omega) (by omega)]; exact h9) hS (by rw [g 1 (by omega) (by omega) (by omega) (by omega)]; exact h1) hH (by rw [g 2 (by omega) (by omega) (by omega) (by omega)]; exact h2) hB (by rw [g 8 (by omega) (by omega) (by omega) (by omega)]; exact h8) he hld
    obtain ⟨Wn, w1, w2, w3⟩ := hww
    refine ⟨⟨fun i a b d e => (ks.2.1 i d e).trans (g i a b d e), ks.2.2.1.trans hk.2.1, fun i hi => (ks.2.2.2.1 i (by omega) (by omega) (by omega)).trans (hk.2.2.1 i hi), fun i hi => by rw [ks.2.2.2.2]; exact hk.2.2.2 i hi⟩, ks.1, ⟨Wn, w1, by rw [ks.2.1 11 (by omega) (by omega)]; exact w2, by rw [ks.2.2.2.1 11 (by omega) (by omega) (by omega)]; exact w3⟩, fun p hp => by rw [ks.2.2.2.2]; exact hld p hp⟩
  split
  · exact key W2 k2 hE2 hw2 u2
  · unfold floorV
    have kt : ∀ n, kF W2 (it tHs n W2) := by
      intro n
      induction n with
      | zero => exact kF.rf hE2 hw2
      | succ n ih => exact ih.tr (kF_tHs ih.1 ih.2.1 n)
    have kJ := kt J
    generalize it tHs J W2 = W3 at kJ ⊢
    have kg := (m13 M c W3 kJ.2.1 kJ.1).2
    have k4 := kJ.tr kg
    generalize gF (nV W3 11) (sumI (W3.2.2.1 13) 20) W3 = W4 at k4 ⊢
    refine key W4 ⟨fun i a b d e => (k4.2.2.1 i b d e).trans (uS i a), k4.2.2.2.1.trans u4, fun i hi => ?_, fun i hi => by rw [k4.2.2.2.2.2.2]; exact u6J i hi⟩ k4.1 k4.2.1 (fun p hp => by rw [k4.2.2.2.2.2.2]; exact u2 p hp)
    rcases hi with hi | hi | hi
    · exact (k4.2.2.2.2.1 i (by omega)).trans (u5 i (by omega))
    · exact (k4.2.2.2.2.1 i (by omega)).trans (u5 i (by omega))
    · exact (k4.2.2.2.2.2.1 i hi.1 hi.2).trans (u5 i (by omega))
theorem okC_beg {M : z_M} {c : Nat} {V : z_V} {J S Hy B : Nat} (h : okC V J S Hy B) : okC (begT V J S B) J S Hy B := by
  obtain ⟨k, e, w, l⟩ := begT_ok (M := M) (c := c) h
  obtain ⟨⟨hJ, h9⟩, ⟨hS, h1⟩, ⟨hH, h2⟩, ⟨hB, h8⟩, hE, hw, hl, hd, hst, hpl, hmx⟩ := h
  refine ⟨⟨hJ, by rw [k.1 9 (by omega) (by omega) (by omega) (by omega)]; exact h9⟩, ⟨hS, by rw [k.1 1 (by omega) (by omega) (by omega) (by omega)]; exact h1⟩, ⟨hH, by rw [k.1 2 (by omega) (by omega) (by omega) (by omega)]; exact h2⟩, ⟨hB, by rw [k.1 8 (by omega) (by omega) (by omega) (by omega)]; exact h8⟩, e, w, fun p hp => by rw [k.2.2.1 5 (by omega)]; exact hl p hp, l, fun v hv => ?_, fun b hb => by rw [k.2.2.1 1 (by omega)]; exact hpl b hb, fun p hp => by rw [k.2.2.2 1 (by omega)]; exact hmx p hp⟩
  obtain ⟨n, a1, a2, a3⟩ := hst v hv
  exact ⟨n, a1, by rw [k.2.2.1 16 (by omega)]; exact a2, fun i hi => by rw [k.2.2.2 2 (by omega), k.2.2.1 17 (by omega)]; exact a3 i hi⟩
theorem okC_hear {V W : z_V} {J S Hy B : Nat} (h : okC V J S Hy B) (k : kM V W) : okC W J S Hy B := by
  obtain ⟨⟨hJ, h9⟩, ⟨hS, h1⟩, ⟨hH, h2⟩, ⟨hB, h8⟩, hE, hw, hl, hd, hst, hpl, hmx⟩ := h
  obtain ⟨o1, o2⟩ := kM_ok k hd hst
  obtain ⟨Wn, w1, w2, w3⟩ := hw
  refine ⟨⟨hJ, by rw [k.1]; exact h9⟩, ⟨hS, by rw [k.1]; exact h1⟩, ⟨hH, by rw [k.1]; exact h2⟩, ⟨hB, by rw [k.1]; exact h8⟩, by unfold okE; rw [k.1]; exact hE, ⟨Wn, w1, by rw [k.1]; exact w2, by rw [k.2.2.1 11 (by omega)]; exact w3⟩, fun p hp => by rw [k.2.2.1 5 (by omega)]; exact hl p hp, o1, o2, fun b hb => by rw [k.2.2.1 1 (by omega)]; exact hpl b hb, fun p hp => ?_⟩
  rcases k.2.2.2.2 p hp with q | q
  · exact q
  · rw [q]; exact hmx p hp
theorem okC_send {V U : z_V} {J S Hy B : Nat} (h : okC V J S Hy B) (hs : seOk U J) : okC (arrV' V U) J S Hy B := by
  obtain ⟨⟨hJ, h9⟩, ⟨hS, h1⟩, ⟨hH, h2⟩, ⟨hB, h8⟩, hE, hw, hl, hd, hst, hpl, hmx⟩ := h
  refine ⟨⟨hJ, h9⟩, ⟨hS, h1⟩, ⟨hH, h2⟩, ⟨hB, h8⟩, hE, hw, hl, hd, fun v hv => ?_, hpl, hmx⟩
  obtain ⟨n, a1, a2, a3⟩ := hs v hv
  unfold arrV'
  simp only [sgets, Nat.reduceEqDiff, if_true, if_false]
  exact ⟨n, a1, a2, a3⟩
theorem m10 (M : z_M) (c x : Nat) (hx : c + 32 ≤ x) (V U : z_V) (J S Hy B : Nat) (h : okC V J S Hy B) (y : Int32) : z_cl 10 [.ref c, .int y, .ref x] (cS (xS M x U) c V) = (if ¬ (nI 1 ≤ y ∧ y ≤ nI 99) then some (some (.int (-(nI 3))), cS (xS M x U) c V) else some (some (.int (nI (cnt (fun k => decide (¬ (it (fun _ s => tick1 J S B s) y.toNatClampNeg (U, V)).2.2.2.1 9 k = mI)) J))), cS (xS M x (it (fun _ s => tick1 J S B s) y.toNatClampNeg (U, V)).1) c (it (fun _ s => tick1 J S B s) y.toNatClampNeg (U, V)).2)) ∧ okC (it (fun _ s => tick1 J S B s) y.toNatClampNeg (U, V)).2 J S Hy B := by
  have hone : ∀ U V, okC V J S Hy B → okC (tick1 J S B (U, V)).2 J S Hy B ∧ z_cl 11 [.ref c] (cS (xS M x U) c V) = some (none, cS (xS M x U) c (begT V J S B)) ∧ z_cl 32 [.ref x, .ref c] (cS (xS M x U) c (begT V J S B)) = some (none, cS (xS M x (it (letH J B) B (U, begT V J S B)).1) c (it (letH J B) B (U, begT V J S B)).2) ∧ z_cl 36 [.ref x, .ref c] (cS (xS M x (it (letH J B) B (U, begT V J S B)).1) c (it (letH J B) B (U, begT V J S B)).2) = some (none, cS (xS M x (tick1 J S B (U, V)).1) c (tick1 J S B (U, V)).2) := by
    intro U V h
    have hb := okC_beg (M := M) (c := c) h
    obtain ⟨⟨hJ, h9⟩, ⟨hS, h1⟩, ⟨hH, h2⟩, ⟨hB, h8⟩, hE, hw, hl, hd, hst, hpl, hmx⟩ := h
    have e11 := m11 (xS M x U) c V J S Hy B hJ h9 hS h1 hH h2 hB h8 hE hw hl hd
    have hb' := hb
    obtain ⟨⟨-, b9⟩, -, -, ⟨-, b8⟩, -, -, -, bd, bst, -, -⟩ := hb'
    obtain ⟨e32, k32⟩ := m32 M c x hx (begT V J S B) U J B hJ b9 hB b8 bd bst
    have hh := okC_hear hb k32
    have hh' := hh
    obtain ⟨⟨-, c9⟩, -, -, ⟨-, c8⟩, -, -, -, cd, cst, cpl, -⟩ := hh'
    obtain ⟨e36, k36⟩ := m36 M c x hx (it (letH J B) B (U, begT V J S B)).2 (it (letH J B) B (U, begT V J S B)).1 J B hJ c9 hB c8 cd cst cpl
    exact ⟨okC_send hh k36, e11, e32, e36⟩
  have hokn : ∀ n, okC (it (fun _ s => tick1 J S B s) n (U, V)).2 J S Hy B := by
    intro n
    induction n with
    | zero => exact h
    | succ n ih => exact (hone (it (fun _ s => tick1 J S B s) n (U, V)).1 (it (fun _ s => tick1 J S B s) n (U, V)).2 ih).1
  refine ⟨?_, hokn _⟩
  rw [e10]
  have h74 := m74 y (nI 1) (nI 99) (cS (xS M x U) c V)
  by_cases hy : nI 1 ≤ y ∧ y ≤ nI 99
  · have hy' := eq_true hy
    obtain ⟨n, hn1, hn2, rfl⟩ := in_nI (by omega) (by omega) hy
    rw [nI_clamp (by omega)]
    obtain ⟨l1, l2⟩ := lp_for (fun k (s : z_V × z_V) (_ : Unit) => z_ex 10 M.1 15 [some (.ref c), some (.int (nI n)), some (.ref x), some (.int (nI k))] [] (cS (xS M x s.1) c s.2)) (fun _ s => tick1 J S B s) (fun _ s => okC s.2 J S Hy B) n (fun s => some (some (.int (nI (cnt (fun k => decide (¬ s.2.2.2.1 9 k = mI)) J))), cS (xS M x s.1) c s.2)) (by
      rintro k ⟨U1, V1⟩ j hk hK
      have hk2 : ¬ n ≤ k := by omega
      obtain ⟨-, q1, q2, q3⟩ := hone U1 V1 hK
      refine ⟨(), ?_⟩
      show z_ex 10 M.1 15 [some (.ref c), some (.int (nI n)), some (.ref x), some (.int (nI k))] [] (cS (xS M x U1) c V1) = z_ex 10 M.1 15 [some (.ref c), some (.int (nI n)), some (.ref x), some (.int (nI (k + 1)))] [] (cS (xS M x (tick1 J S B (U1, V1)).1) c (tick1 J S B (U1, V1)).2)
      rw [q10_15]
      simp (disch := first | omega | (simp only [sgets, reduceIte, Nat.reduceEqDiff, hk2]; done) | omega) only [cS_1, crd, z_pv_some, z_wv_some, z_cv_v, z_cv_n, cwr, sgets, rc_O, ia_n, fa_n, is_n, fs_n, ↓mI_eq, lits, nI_add, nLe, nLt, nE, mI_ne, mI_ne', mI_lt, mI_le, mI_nlt, mI_nle, ne_eq, mI_addC, pk_sub, pk_mul, pk_div, Nat.reduceEqDiff, Nat.reduceAdd, Nat.reduceMul, Nat.reduceSub, reduceIte, not_true_eq_false, not_false_eq_true, true_or, or_true, if_true, if_false, and_self, and_true, true_and, and_false, false_and, or_self, or_false, false_or, decide_true, decide_false, Bool.false_eq_true, Bool.true_eq_false, bI_t, bI_f, cS_out, cS_wr_out, xS_1, xrd, xwr, gfs4, gfs8, gfs0, gfs6, gfs9, b10, q1, q2, q3, hk2]) (fun k s hk hK => (hone s.1 s.2 hK).1) (by
      rintro ⟨U1, V1⟩ j hK
      replace hK : okC V1 J S Hy B := hK
      have h54 := m54 (xS M x U1) c V1 J hK.1.1 hK.1.2
      show z_ex 10 M.1 15 [some (.ref c), some (.int (nI n)), some (.ref x), some (.int (nI n))] [] (cS (xS M x U1) c V1) = some (some (.int (nI (cnt (fun k => decide (¬ V1.2.2.1 9 k = mI)) J))), cS (xS M x U1) c V1)
      rw [q10_15]
      simp (disch := first | omega | (simp only [sgets, reduceIte, Nat.reduceEqDiff]; done) | omega) only [cS_1, crd, z_pv_some, z_wv_some, z_cv_v, z_cv_n, cwr, sgets, rc_O, ia_n, fa_n, is_n, fs_n, ↓mI_eq, lits, nI_add, nLe, nLt, nE, mI_ne, mI_ne', mI_lt, mI_le, mI_nlt, mI_nle, ne_eq, mI_addC, pk_sub, pk_mul, pk_div, Nat.reduceEqDiff, Nat.reduceAdd, Nat.reduceMul, Nat.reduceSub, reduceIte, not_true_eq_false, not_false_eq_true, true_or, or_true, if_true, if_false, and_self, and_true, true_and, and_false, false_and, or_self, or_false, false_or, decide_true, decide_false, Bool.false_eq_true, Bool.true_eq_false, bI_t, bI_f, cS_out, cS_wr_out, xS_1, xrd, xwr, gfs4, gfs8, gfs0, gfs6, gfs9, b10, h54, Nat.le_refl]) (U, V) () h
    simp (disch := first | omega | (simp only [sgets, reduceIte, Nat.reduceEqDiff, hn1, hn2]; done) | omega) only [cS_1, crd, z_pv_some, z_wv_some, z_cv_v, z_cv_n, cwr, sgets, rc_O, ia_n, fa_n, is_n, fs_n, ↓mI_eq, lits, nI_add, nLe, nLt, nE, mI_ne, mI_ne', mI_lt, mI_le, mI_nlt, mI_nle, ne_eq, mI_addC, pk_sub, pk_mul, pk_div, Nat.reduceEqDiff, Nat.reduceAdd, Nat.reduceMul, Nat.reduceSub, reduceIte, not_true_eq_false, not_false_eq_true, true_or, or_true, if_true, if_false, and_self, and_true, true_and, and_false, false_and, or_self, or_false, false_or, decide_true, decide_false, Bool.false_eq_true, Bool.true_eq_false, bI_t, bI_f, cS_out, cS_wr_out, xS_1, xrd, xwr, gfs4, gfs8, gfs0, gfs6, gfs9, b10, h74, l1, hn1, hn2]
  · simp (disch := first | omega | (simp only [sgets, reduceIte, Nat.reduceEqDiff, hy]; done) | omega) only [cS_1, crd, z_pv_some, z_wv_some, z_cv_v, z_cv_n, cwr, sgets, rc_O, ia_n, fa_n, is_n, fs_n, ↓mI_eq, lits, nI_add, nLe, nLt, nE, mI_ne, mI_ne', mI_lt, mI_le, mI_nlt, mI_nle, ne_eq, mI_addC, pk_sub, pk_mul, pk_div, Nat.reduceEqDiff, Nat.reduceAdd, Nat.reduceMul, Nat.reduceSub, reduceIte, not_true_eq_false, not_false_eq_true, true_or, or_true, if_true, if_false, and_self, and_true, true_and, and_false, false_and, or_self, or_false, false_or, decide_true, decide_false, Bool.false_eq_true, Bool.true_eq_false, bI_t, bI_f, cS_out, cS_wr_out, xS_1, xrd, xwr, gfs4, gfs8, gfs0, gfs6, gfs9, b10, h74, hy]
