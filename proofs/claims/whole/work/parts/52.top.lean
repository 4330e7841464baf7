/-! the class's own methods: orders -/
/-- the class's state: conference now, sizes -/
def okG (V H T : z_V) (J S Hy B k m L : Nat) : Prop := okC V J S Hy B ∧ (∃ f, V.1 4 = bI f) ∧ okH H k m ∧ (L ≤ 100 ∧ T.1 0 = nI L)
def selR (V : z_V) (x y z w : Int32) : Int32 × z_V := if selOk x y z w = true then (V.1 1, sS (sS (sT (sS V 1 x) (pwr y.toNatClampNeg)) 2 z) 3 w) else (-(nI 3), V)
theorem m57r (M : z_M) (c : Nat) (V : z_V) (x y z w : Int32) : z_cl 57 [.ref (c + 1), .int x, .int y, .int z, .int w] (cS M c V) = some (some (.int (selR V x y z w).1), cS M c (selR V x y z w).2) := by
  rw [m57]
  unfold selR
  by_cases h : selOk x y z w = true
  · rw [if_pos h, if_pos h]
  · rw [if_neg h, if_neg h]; rfl
def flrR (V : z_V) (o : Bool) (y z w : Int32) : Int32 × z_V := if flrOk y z w = true then (V.1 4, sS (sS (sS (sS V 4 (bI o)) 5 y) 6 z) 7 w) else (-(nI 3), V)
theorem m58r (M : z_M) (c : Nat) (V : z_V) (o : Bool) (y z w : Int32) (f : Bool) (hf : V.1 4 = bI f) : z_cl 58 [.ref (c + 1), .int (bI o), .int y, .int z, .int w] (cS M c V) = some (some (.int (flrR V o y z w).1), cS M c (flrR V o y z w).2) := by
  rw [m58 M c V o y z w f hf]
  unfold flrR
  by_cases h : flrOk y z w = true
  · rw [if_pos h, if_pos h, hf]
  · rw [if_neg h, if_neg h]

theorem g73 (M : z_M) (n : Nat) (V Vt U H T : z_V) (Hs : Nat → z_V) (J S Hy B k m L : Nat) (hG : okG V H T J S Hy B k m L) (x y : Int32) (z : Bool) : z_cl 73 [.ref n, .int x, .int y, .int (bI z)] (gM M n V Vt U H T Hs) = some (some (.int (linkR V B x y z).1), gM M n (linkR V B x y z).2 Vt U (setR H (linkR V B x y z).1) T (upH Hs k V)) := by
  rw [e73]
  obtain ⟨hC, ⟨f, hf⟩, hH, hL, hT⟩ := hG
  obtain ⟨⟨hJ, h9⟩, ⟨hS, h1⟩, ⟨hHy, h2⟩, ⟨hB, h8⟩, hE, hw, hl, hd, hst, hpl, hmx⟩ := hC
  obtain ⟨w1, w2, w3⟩ := okW_nV hw
  have d1 := g28 M n V Vt U H T Hs k m hH f hf
  have d2 : z_cl 2 [.ref (n + 1), .int x, .int y, .int (bI z)] (gM M n V Vt U H T (upH Hs k V)) = some (some (.int (linkR V B x y z).1), gM M n (linkR V B x y z).2 Vt U H T (upH Hs k V)) := m2 _ (n + 1) V B hB h8 x y z
  have d3 := g29 M n (linkR V B x y z).2 Vt U H T (upH Hs k V) k m hH (linkR V B x y z).1
  cases z
  · rw [bI_f] at d2
    simp (disch := first | omega | (simp only [sgets, reduceIte, Nat.reduceEqDiff]; done) | omega) only [cS_1, crd, z_pv_some, z_wv_some, z_cv_v, z_cv_n, cwr, sgets, rc_O, ia_n, fa_n, is_n, fs_n, ↓mI_eq, lits, nI_add, nLe, nLt, nE, mI_ne, mI_ne', mI_lt, mI_le, mI_nlt, mI_nle, ne_eq, mI_addC, pk_sub, pk_mul, pk_div, Nat.reduceEqDiff, Nat.reduceAdd, Nat.reduceMul, Nat.reduceSub, reduceIte, not_true_eq_false, not_false_eq_true, true_or, or_true, if_true, if_false, and_self, and_true, true_and, and_false, false_and, or_self, or_false, false_or, decide_true, decide_false, Bool.false_eq_true, Bool.true_eq_false, bI_t, bI_f, grd, gM_1, gfs10, gfs0, gfs3, gfs5, gfs6, gfs9, gfs2, gfs7, gfs8, gfs1, b73, d1, d2, d3]
  · rw [bI_t] at d2
    simp (disch := first | omega | (simp only [sgets, reduceIte, Nat.reduceEqDiff]; done) | omega) only [cS_1, crd, z_pv_some, z_wv_some, z_cv_v, z_cv_n, cwr, sgets, rc_O, ia_n, fa_n, is_n, fs_n, ↓mI_eq, lits, nI_add, nLe, nLt, nE, mI_ne, mI_ne', mI_lt, mI_le, mI_nlt, mI_nle, ne_eq, mI_addC, pk_sub, pk_mul, pk_div, Nat.reduceEqDiff, Nat.reduceAdd, Nat.reduceMul, Nat.reduceSub, reduceIte, not_true_eq_false, not_false_eq_true, true_or, or_true, if_true, if_false, and_self, and_true, true_and, and_false, false_and, or_self, or_false, false_or, decide_true, decide_false, Bool.false_eq_true, Bool.true_eq_false, bI_t, bI_f, grd, gM_1, gfs10, gfs0, gfs3, gfs5, gfs6, gfs9, gfs2, gfs7, gfs8, gfs1, b73, d1, d2, d3]

theorem g75 (M : z_M) (n : Nat) (V Vt U H T : z_V) (Hs : Nat → z_V) (J S Hy B k m L : Nat) (hG : okG V H T J S Hy B k m L) (x y : Int32) : z_cl 75 [.ref n, .int x, .int y] (gM M n V Vt U H T Hs) = some (some (.int (admR V J x y).1), gM M n (admR V J x y).2 Vt U (setR H (admR V J x y).1) T (upH Hs k V)) := by
  rw [e75]
  obtain ⟨hC, ⟨f, hf⟩, hH, hL, hT⟩ := hG
  obtain ⟨⟨hJ, h9⟩, ⟨hS, h1⟩, ⟨hHy, h2⟩, ⟨hB, h8⟩, hE, hw, hl, hd, hst, hpl, hmx⟩ := hC
  obtain ⟨w1, w2, w3⟩ := okW_nV hw
  have d1 := g28 M n V Vt U H T Hs k m hH f hf
  have d2 : z_cl 3 [.ref (n + 1), .int x, .int y] (gM M n V Vt U H T (upH Hs k V)) = some (some (.int (admR V J x y).1), gM M n (admR V J x y).2 Vt U H T (upH Hs k V)) := m3 _ (n + 1) V B J hB h8 hJ h9 x y
  have d3 := g29 M n (admR V J x y).2 Vt U H T (upH Hs k V) k m hH (admR V J x y).1
  simp (disch := first | omega | (simp only [sgets, reduceIte, Nat.reduceEqDiff]; done) | omega) only [cS_1, crd, z_pv_some, z_wv_some, z_cv_v, z_cv_n, cwr, sgets, rc_O, ia_n, fa_n, is_n, fs_n, ↓mI_eq, lits, nI_add, nLe, nLt, nE, mI_ne, mI_ne', mI_lt, mI_le, mI_nlt, mI_nle, ne_eq, mI_addC, pk_sub, pk_mul, pk_div, Nat.reduceEqDiff, Nat.reduceAdd, Nat.reduceMul, Nat.reduceSub, reduceIte, not_true_eq_false, not_false_eq_true, true_or, or_true, if_true, if_false, and_self, and_true, true_and, and_false, false_and, or_self, or_false, false_or, decide_true, decide_false, Bool.false_eq_true, Bool.true_eq_false, bI_t, bI_f, grd, gM_1, gfs10, gfs0, gfs3, gfs5, gfs6, gfs9, gfs2, gfs7, gfs8, gfs1, b75, d1, d2, d3]

theorem g76 (M : z_M) (n : Nat) (V Vt U H T : z_V) (Hs : Nat → z_V) (J S Hy B k m L : Nat) (hG : okG V H T J S Hy B k m L) (x : Int32) : z_cl 76 [.ref n, .int x] (gM M n V Vt U H T Hs) = some (some (.int (disR V (nV V 11) x).1), gM M n (disR V (nV V 11) x).2 Vt U (setR H (disR V (nV V 11) x).1) T (upH Hs k V)) := by
  rw [e76]
  obtain ⟨hC, ⟨f, hf⟩, hH, hL, hT⟩ := hG
  obtain ⟨⟨hJ, h9⟩, ⟨hS, h1⟩, ⟨hHy, h2⟩, ⟨hB, h8⟩, hE, hw, hl, hd, hst, hpl, hmx⟩ := hC
  obtain ⟨w1, w2, w3⟩ := okW_nV hw
  have d1 := g28 M n V Vt U H T Hs k m hH f hf
  have d2 : z_cl 4 [.ref (n + 1), .int x] (gM M n V Vt U H T (upH Hs k V)) = some (some (.int (disR V (nV V 11) x).1), gM M n (disR V (nV V 11) x).2 Vt U H T (upH Hs k V)) := m4 _ (n + 1) V J (nV V 11) hJ h9 w1 w2 x
  have d3 := g29 M n (disR V (nV V 11) x).2 Vt U H T (upH Hs k V) k m hH (disR V (nV V 11) x).1
  simp (disch := first | omega | (simp only [sgets, reduceIte, Nat.reduceEqDiff]; done) | omega) only [cS_1, crd, z_pv_some, z_wv_some, z_cv_v, z_cv_n, cwr, sgets, rc_O, ia_n, fa_n, is_n, fs_n, ↓mI_eq, lits, nI_add, nLe, nLt, nE, mI_ne, mI_ne', mI_lt, mI_le, mI_nlt, mI_nle, ne_eq, mI_addC, pk_sub, pk_mul, pk_div, Nat.reduceEqDiff, Nat.reduceAdd, Nat.reduceMul, Nat.reduceSub, reduceIte, not_true_eq_false, not_false_eq_true, true_or, or_true, if_true, if_false, and_self, and_true, true_and, and_false, false_and, or_self, or_false, false_or, decide_true, decide_false, Bool.false_eq_true, Bool.true_eq_false, bI_t, bI_f, grd, gM_1, gfs10, gfs0, gfs3, gfs5, gfs6, gfs9, gfs2, gfs7, gfs8, gfs1, b76, d1, d2, d3]

theorem g77 (M : z_M) (n : Nat) (V Vt U H T : z_V) (Hs : Nat → z_V) (J S Hy B k m L : Nat) (hG : okG V H T J S Hy B k m L) (x y : Int32) : z_cl 77 [.ref n, .int x, .int y] (gM M n V Vt U H T Hs) = some (some (.int (trnR V J x y).1), gM M n (trnR V J x y).2 Vt U (setR H (trnR V J x y).1) T (upH Hs k V)) := by
  rw [e77]
  obtain ⟨hC, ⟨f, hf⟩, hH, hL, hT⟩ := hG
  obtain ⟨⟨hJ, h9⟩, ⟨hS, h1⟩, ⟨hHy, h2⟩, ⟨hB, h8⟩, hE, hw, hl, hd, hst, hpl, hmx⟩ := hC
  obtain ⟨w1, w2, w3⟩ := okW_nV hw
  have d1 := g28 M n V Vt U H T Hs k m hH f hf
  have d2 : z_cl 5 [.ref (n + 1), .int x, .int y] (gM M n V Vt U H T (upH Hs k V)) = some (some (.int (trnR V J x y).1), gM M n (trnR V J x y).2 Vt U H T (upH Hs k V)) := m5 _ (n + 1) V B J hB h8 hJ h9 x y
  have d3 := g29 M n (trnR V J x y).2 Vt U H T (upH Hs k V) k m hH (trnR V J x y).1
  simp (disch := first | omega | (simp only [sgets, reduceIte, Nat.reduceEqDiff]; done) | omega) only [cS_1, crd, z_pv_some, z_wv_some, z_cv_v, z_cv_n, cwr, sgets, rc_O, ia_n, fa_n, is_n, fs_n, ↓mI_eq, lits, nI_add, nLe, nLt, nE, mI_ne, mI_ne', mI_lt, mI_le, mI_nlt, mI_nle, ne_eq, mI_addC, pk_sub, pk_mul, pk_div, Nat.reduceEqDiff, Nat.reduceAdd, Nat.reduceMul, Nat.reduceSub, reduceIte, not_true_eq_false, not_false_eq_true, true_or, or_true, if_true, if_false, and_self, and_true, true_and, and_false, false_and, or_self, or_false, false_or, decide_true, decide_false, Bool.false_eq_true, Bool.true_eq_false, bI_t, bI_f, grd, gM_1, gfs10, gfs0, gfs3, gfs5, gfs6, gfs9, gfs2, gfs7, gfs8, gfs1, b77, d1, d2, d3]

theorem g78 (M : z_M) (n : Nat) (V Vt U H T : z_V) (Hs : Nat → z_V) (J S Hy B k m L : Nat) (hG : okG V H T J S Hy B k m L) (x y : Int32) : z_cl 78 [.ref n, .int x, .int y] (gM M n V Vt U H T Hs) = some (some (.int (lvlR V x y).1), gM M n (lvlR V x y).2 Vt U (setR H (lvlR V x y).1) T (upH Hs k V)) := by
  rw [e78]
  obtain ⟨hC, ⟨f, hf⟩, hH, hL, hT⟩ := hG
  obtain ⟨⟨hJ, h9⟩, ⟨hS, h1⟩, ⟨hHy, h2⟩, ⟨hB, h8⟩, hE, hw, hl, hd, hst, hpl, hmx⟩ := hC
  obtain ⟨w1, w2, w3⟩ := okW_nV hw
  have d1 := g28 M n V Vt U H T Hs k m hH f hf
  have d2 : z_cl 6 [.ref (n + 1), .int x, .int y] (gM M n V Vt U H T (upH Hs k V)) = some (some (.int (lvlR V x y).1), gM M n (lvlR V x y).2 Vt U H T (upH Hs k V)) := m6 _ (n + 1) V J hJ h9 x y
  have d3 := g29 M n (lvlR V x y).2 Vt U H T (upH Hs k V) k m hH (lvlR V x y).1
  simp (disch := first | omega | (simp only [sgets, reduceIte, Nat.reduceEqDiff]; done) | omega) only [cS_1, crd, z_pv_some, z_wv_some, z_cv_v, z_cv_n, cwr, sgets, rc_O, ia_n, fa_n, is_n, fs_n, ↓mI_eq, lits, nI_add, nLe, nLt, nE, mI_ne, mI_ne', mI_lt, mI_le, mI_nlt, mI_nle, ne_eq, mI_addC, pk_sub, pk_mul, pk_div, Nat.reduceEqDiff, Nat.reduceAdd, Nat.reduceMul, Nat.reduceSub, reduceIte, not_true_eq_false, not_false_eq_true, true_or, or_true, if_true, if_false, and_self, and_true, true_and, and_false, false_and, or_self, or_false, false_or, decide_true, decide_false, Bool.false_eq_true, Bool.true_eq_false, bI_t, bI_f, grd, gM_1, gfs10, gfs0, gfs3, gfs5, gfs6, gfs9, gfs2, gfs7, gfs8, gfs1, b78, d1, d2, d3]

theorem g79 (M : z_M) (n : Nat) (V Vt U H T : z_V) (Hs : Nat → z_V) (J S Hy B k m L : Nat) (hG : okG V H T J S Hy B k m L) (x : Int32) (z : Bool) : z_cl 79 [.ref n, .int x, .int (bI z)] (gM M n V Vt U H T Hs) = some (some (.int (mutR V x z).1), gM M n (mutR V x z).2 Vt U (setR H (mutR V x z).1) T (upH Hs k V)) := by
  rw [e79]
  obtain ⟨hC, ⟨f, hf⟩, hH, hL, hT⟩ := hG
  obtain ⟨⟨hJ, h9⟩, ⟨hS, h1⟩, ⟨hHy, h2⟩, ⟨hB, h8⟩, hE, hw, hl, hd, hst, hpl, hmx⟩ := hC
  obtain ⟨w1, w2, w3⟩ := okW_nV hw
  have d1 := g28 M n V Vt U H T Hs k m hH f hf
  have d2 : z_cl 7 [.ref (n + 1), .int x, .int (bI z)] (gM M n V Vt U H T (upH Hs k V)) = some (some (.int (mutR V x z).1), gM M n (mutR V x z).2 Vt U H T (upH Hs k V)) := m7 _ (n + 1) V J hJ h9 x z
  have d3 := g29 M n (mutR V x z).2 Vt U H T (upH Hs k V) k m hH (mutR V x z).1
  cases z
  · rw [bI_f] at d2
    simp (disch := first | omega | (simp only [sgets, reduceIte, Nat.reduceEqDiff]; done) | omega) only [cS_1, crd, z_pv_some, z_wv_some, z_cv_v, z_cv_n, cwr, sgets, rc_O, ia_n, fa_n, is_n, fs_n, ↓mI_eq, lits, nI_add, nLe, nLt, nE, mI_ne, mI_ne', mI_lt, mI_le, mI_nlt, mI_nle, ne_eq, mI_addC, pk_sub, pk_mul, pk_div, Nat.reduceEqDiff, Nat.reduceAdd, Nat.reduceMul, Nat.reduceSub, reduceIte, not_true_eq_false, not_false_eq_true, true_or, or_true, if_true, if_false, and_self, and_true, true_and, and_false, false_and, or_self, or_false, false_or, decide_true, decide_false, Bool.false_eq_true, Bool.true_eq_false, bI_t, bI_f, grd, gM_1, gfs10, gfs0, gfs3, gfs5, gfs6, gfs9, gfs2, gfs7, gfs8, gfs1, b79, d1, d2, d3]
  · rw [bI_t] at d2
    simp (disch := first | omega | (simp only [sgets, reduceIte, Nat.reduceEqDiff]; done) | omega) only [cS_1, crd, z_pv_some, z_wv_some, z_cv_v, z_cv_n, cwr, sgets, rc_O, ia_n, fa_n, is_n, fs_n, ↓mI_eq, lits, nI_add, nLe, nLt, nE, mI_ne, mI_ne', mI_lt, mI_le, mI_nlt, mI_nle, ne_eq, mI_addC, pk_sub, pk_mul, pk_div, Nat.reduceEqDiff, Nat.reduceAdd, Nat.reduceMul, Nat.reduceSub, reduceIte, not_true_eq_false, not_false_eq_true, true_or, or_true, if_true, if_false, and_self, and_true, true_and, and_false, false_and, or_self, or_false, false_or, decide_true, decide_false, Bool.false_eq_true, Bool.true_eq_false, bI_t, bI_f, grd, gM_1, gfs10, gfs0, gfs3, gfs5, gfs6, gfs9, gfs2, gfs7, gfs8, gfs1, b79, d1, d2, d3]

theorem g80 (M : z_M) (n : Nat) (V Vt U H T : z_V) (Hs : Nat → z_V) (J S Hy B k m L : Nat) (hG : okG V H T J S Hy B k m L) (x y z w : Int32) : z_cl 80 [.ref n, .int x, .int y, .int z, .int w] (gM M n V Vt U H T Hs) = some (some (.int (selR V x y z w).1), gM M n (selR V x y z w).2 Vt U (setR H (selR V x y z w).1) T (upH Hs k V)) := by
  rw [e80]
  obtain ⟨hC, ⟨f, hf⟩, hH, hL, hT⟩ := hG
  obtain ⟨⟨hJ, h9⟩, ⟨hS, h1⟩, ⟨hHy, h2⟩, ⟨hB, h8⟩, hE, hw, hl, hd, hst, hpl, hmx⟩ := hC
  obtain ⟨w1, w2, w3⟩ := okW_nV hw
  have d1 := g28 M n V Vt U H T Hs k m hH f hf
  have d2 : z_cl 57 [.ref (n + 1 + 1), .int x, .int y, .int z, .int w] (gM M n V Vt U H T (upH Hs k V)) = some (some (.int (selR V x y z w).1), gM M n (selR V x y z w).2 Vt U H T (upH Hs k V)) := m57r _ (n + 1) V x y z w
  have d3 := g29 M n (selR V x y z w).2 Vt U H T (upH Hs k V) k m hH (selR V x y z w).1
  simp (disch := first | omega | (simp only [sgets, reduceIte, Nat.reduceEqDiff]; done) | omega) only [cS_1, crd, z_pv_some, z_wv_some, z_cv_v, z_cv_n, cwr, sgets, rc_O, ia_n, fa_n, is_n, fs_n, ↓mI_eq, lits, nI_add, nLe, nLt, nE, mI_ne, mI_ne', mI_lt, mI_le, mI_nlt, mI_nle, ne_eq, mI_addC, pk_sub, pk_mul, pk_div, Nat.reduceEqDiff, Nat.reduceAdd, Nat.reduceMul, Nat.reduceSub, reduceIte, not_true_eq_false, not_false_eq_true, true_or, or_true, if_true, if_false, and_self, and_true, true_and, and_false, false_and, or_self, or_false, false_or, decide_true, decide_false, Bool.false_eq_true, Bool.true_eq_false, bI_t, bI_f, grd, gM_1, gfs10, gfs0, gfs3, gfs5, gfs6, gfs9, gfs2, gfs7, gfs8, gfs1, b80, d1, d2, d3]

theorem g81 (M : z_M) (n : Nat) (V Vt U H T : z_V) (Hs : Nat → z_V) (J S Hy B k m L : Nat) (hG : okG V H T J S Hy B k m L) (z : Bool) (x y w : Int32) : z_cl 81 [.ref n, .int (bI z), .int x, .int y, .int w] (gM M n V Vt U H T Hs) = some (some (.int (flrR V z x y w).1), gM M n (flrR V z x y w).2 Vt U (setR H (flrR V z x y w).1) T (upH Hs k V)) := by
  rw [e81]
  obtain ⟨hC, ⟨f, hf⟩, hH, hL, hT⟩ := hG
  obtain ⟨⟨hJ, h9⟩, ⟨hS, h1⟩, ⟨hHy, h2⟩, ⟨hB, h8⟩, hE, hw, hl, hd, hst, hpl, hmx⟩ := hC
  obtain ⟨w1, w2, w3⟩ := okW_nV hw
  have d1 := g28 M n V Vt U H T Hs k m hH f hf
  have d2 : z_cl 58 [.ref (n + 1 + 1), .int (bI z), .int x, .int y, .int w] (gM M n V Vt U H T (upH Hs k V)) = some (some (.int (flrR V z x y w).1), gM M n (flrR V z x y w).2 Vt U H T (upH Hs k V)) := m58r _ (n + 1) V z x y w f hf
  have d3 := g29 M n (flrR V z x y w).2 Vt U H T (upH Hs k V) k m hH (flrR V z x y w).1
  cases z
  · rw [bI_f] at d2
    simp (disch := first | omega | (simp only [sgets, reduceIte, Nat.reduceEqDiff]; done) | omega) only [cS_1, crd, z_pv_some, z_wv_some, z_cv_v, z_cv_n, cwr, sgets, rc_O, ia_n, fa_n, is_n, fs_n, ↓mI_eq, lits, nI_add, nLe, nLt, nE, mI_ne, mI_ne', mI_lt, mI_le, mI_nlt, mI_nle, ne_eq, mI_addC, pk_sub, pk_mul, pk_div, Nat.reduceEqDiff, Nat.reduceAdd, Nat.reduceMul, Nat.reduceSub, reduceIte, not_true_eq_false, not_false_eq_true, true_or, or_true, if_true, if_false, and_self, and_true, true_and, and_false, false_and, or_self, or_false, false_or, decide_true, decide_false, Bool.false_eq_true, Bool.true_eq_false, bI_t, bI_f, grd, gM_1, gfs10, gfs0, gfs3, gfs5, gfs6, gfs9, gfs2, gfs7, gfs8, gfs1, b81, d1, d2, d3]
  · rw [bI_t] at d2
    simp (disch := first | omega | (simp only [sgets, reduceIte, Nat.reduceEqDiff]; done) | omega) only [cS_1, crd, z_pv_some, z_wv_some, z_cv_v, z_cv_n, cwr, sgets, rc_O, ia_n, fa_n, is_n, fs_n, ↓mI_eq, lits, nI_add, nLe, nLt, nE, mI_ne, mI_ne', mI_lt, mI_le, mI_nlt, mI_nle, ne_eq, mI_addC, pk_sub, pk_mul, pk_div, Nat.reduceEqDiff, Nat.reduceAdd, Nat.reduceMul, Nat.reduceSub, reduceIte, not_true_eq_false, not_false_eq_true, true_or, or_true, if_true, if_false, and_self, and_true, true_and, and_false, false_and, or_self, or_false, false_or, decide_true, decide_false, Bool.false_eq_true, Bool.true_eq_false, bI_t, bI_f, grd, gM_1, gfs10, gfs0, gfs3, gfs5, gfs6, gfs9, gfs2, gfs7, gfs8, gfs1, b81, d1, d2, d3]

theorem g82 (M : z_M) (n : Nat) (V Vt U H T : z_V) (Hs : Nat → z_V) (J S Hy B k m L : Nat) (hG : okG V H T J S Hy B k m L) (x y : Int32) : z_cl 82 [.ref n, .int x, .int y] (gM M n V Vt U H T Hs) = some (some (.int (askR V x y).1), gM M n (askR V x y).2 Vt U (setR H (askR V x y).1) T (upH Hs k V)) := by
  rw [e82]
  obtain ⟨hC, ⟨f, hf⟩, hH, hL, hT⟩ := hG
  obtain ⟨⟨hJ, h9⟩, ⟨hS, h1⟩, ⟨hHy, h2⟩, ⟨hB, h8⟩, hE, hw, hl, hd, hst, hpl, hmx⟩ := hC
  obtain ⟨w1, w2, w3⟩ := okW_nV hw
  have d1 := g28 M n V Vt U H T Hs k m hH f hf
  have d2 : z_cl 8 [.ref (n + 1), .int x, .int y] (gM M n V Vt U H T (upH Hs k V)) = some (some (.int (askR V x y).1), gM M n (askR V x y).2 Vt U H T (upH Hs k V)) := m8 _ (n + 1) V J hJ h9 hw x y
  have d3 := g29 M n (askR V x y).2 Vt U H T (upH Hs k V) k m hH (askR V x y).1
  simp (disch := first | omega | (simp only [sgets, reduceIte, Nat.reduceEqDiff]; done) | omega) only [cS_1, crd, z_pv_some, z_wv_some, z_cv_v, z_cv_n, cwr, sgets, rc_O, ia_n, fa_n, is_n, fs_n, ↓mI_eq, lits, nI_add, nLe, nLt, nE, mI_ne, mI_ne', mI_lt, mI_le, mI_nlt, mI_nle, ne_eq, mI_addC, pk_sub, pk_mul, pk_div, Nat.reduceEqDiff, Nat.reduceAdd, Nat.reduceMul, Nat.reduceSub, reduceIte, not_true_eq_false, not_false_eq_true, true_or, or_true, if_true, if_false, and_self, and_true, true_and, and_false, false_and, or_self, or_false, false_or, decide_true, decide_false, Bool.false_eq_true, Bool.true_eq_false, bI_t, bI_f, grd, gM_1, gfs10, gfs0, gfs3, gfs5, gfs6, gfs9, gfs2, gfs7, gfs8, gfs1, b82, d1, d2, d3]

theorem g83 (M : z_M) (n : Nat) (V Vt U H T : z_V) (Hs : Nat → z_V) (J S Hy B k m L : Nat) (hG : okG V H T J S Hy B k m L) (x : Int32) : z_cl 83 [.ref n, .int x] (gM M n V Vt U H T Hs) = some (some (.int (yieR V x).1), gM M n (yieR V x).2 Vt U (setR H (yieR V x).1) T (upH Hs k V)) := by
  rw [e83]
  obtain ⟨hC, ⟨f, hf⟩, hH, hL, hT⟩ := hG
  obtain ⟨⟨hJ, h9⟩, ⟨hS, h1⟩, ⟨hHy, h2⟩, ⟨hB, h8⟩, hE, hw, hl, hd, hst, hpl, hmx⟩ := hC
  obtain ⟨w1, w2, w3⟩ := okW_nV hw
  have d1 := g28 M n V Vt U H T Hs k m hH f hf
  have d2 : z_cl 9 [.ref (n + 1), .int x] (gM M n V Vt U H T (upH Hs k V)) = some (some (.int (yieR V x).1), gM M n (yieR V x).2 Vt U H T (upH Hs k V)) := m9 _ (n + 1) V J hJ h9 hw x
  have d3 := g29 M n (yieR V x).2 Vt U H T (upH Hs k V) k m hH (yieR V x).1
  simp (disch := first | omega | (simp only [sgets, reduceIte, Nat.reduceEqDiff]; done) | omega) only [cS_1, crd, z_pv_some, z_wv_some, z_cv_v, z_cv_n, cwr, sgets, rc_O, ia_n, fa_n, is_n, fs_n, ↓mI_eq, lits, nI_add, nLe, nLt, nE, mI_ne, mI_ne', mI_lt, mI_le, mI_nlt, mI_nle, ne_eq, mI_addC, pk_sub, pk_mul, pk_div, Nat.reduceEqDiff, Nat.reduceAdd, Nat.reduceMul, Nat.reduceSub, reduceIte, not_true_eq_false, not_false_eq_true, true_or, or_true, if_true, if_false, and_self, and_true, true_and, and_false, false_and, or_self, or_false, false_or, decide_true, decide_false, Bool.false_eq_true, Bool.true_eq_false, bI_t, bI_f, grd, gM_1, gfs10, gfs0, gfs3, gfs5, gfs6, gfs9, gfs2, gfs7, gfs8, gfs1, b83, d1, d2, d3]

/-- ConferenceBridges.tick -/
def tckR (V U : z_V) (J S B : Nat) (y : Int32) : Int32 × z_V × z_V := if ¬ (nI 1 ≤ y ∧ y ≤ nI 99) then (-(nI 3), U, V) else (nI (cnt (fun k => decide (¬ (it (fun _ s => tick1 J S B s) y.toNatClampNeg (U, V)).2.2.2.1 9 k = mI)) J), it (fun _ s => tick1 J S B s) y.toNatClampNeg (U, V))
theorem m10r (M : z_M) (n : Nat) (V Vt U H T : z_V) (Hs : Nat → z_V) (J S Hy B : Nat) (h : okC V J S Hy B) (y : Int32) : z_cl 10 [.ref (n + 1), .int y, .ref (n + 65)] (gM M n V Vt U H T Hs) = some (some (.int (tckR V U J S B y).1), gM M n (tckR V U J S B y).2.2 Vt (tckR V U J S B y).2.1 H T Hs) ∧ okC (tckR V U J S B y).2.2 J S Hy B := by
  obtain ⟨q1, q2⟩ := m10 (gX M n Vt H T Hs) (n + 1) (n + 65) (by omega) V U J S Hy B h y
  rw [← gM_x, ← gM_x] at q1
  unfold tckR
  by_cases hy : ¬ (nI 1 ≤ y ∧ y ≤ nI 99)
  · rw [if_pos hy] at q1 ⊢
    exact ⟨q1, h⟩
  · rw [if_neg hy] at q1 ⊢
    exact ⟨q1, q2⟩
theorem g84 (M : z_M) (n : Nat) (V Vt U H T : z_V) (Hs : Nat → z_V) (J S Hy B k m L : Nat) (hG : okG V H T J S Hy B k m L) (y : Int32) : z_cl 84 [.ref n, .int y] (gM M n V Vt U H T Hs) = some (some (.int (tckR V U J S B y).1), gM M n (tckR V U J S B y).2.2 Vt (tckR V U J S B y).2.1 (setR H (tckR V U J S B y).1) T (upH Hs k V)) := by
  rw [e84]
  obtain ⟨hC, ⟨f, hf⟩, hH, hL, hT⟩ := hG
  have d1 := g28 M n V Vt U H T Hs k m hH f hf
  have d2 := (m10r M n V Vt U H T (upH Hs k V) J S Hy B hC y).1
  have d3 := g29 M n (tckR V U J S B y).2.2 Vt (tckR V U J S B y).2.1 H T (upH Hs k V) k m hH (tckR V U J S B y).1
  simp (disch := first | omega | (simp only [sgets, reduceIte, Nat.reduceEqDiff]; done) | omega) only [cS_1, crd, z_pv_some, z_wv_some, z_cv_v, z_cv_n, cwr, sgets, rc_O, ia_n, fa_n, is_n, fs_n, ↓mI_eq, lits, nI_add, nLe, nLt, nE, mI_ne, mI_ne', mI_lt, mI_le, mI_nlt, mI_nle, ne_eq, mI_addC, pk_sub, pk_mul, pk_div, Nat.reduceEqDiff, Nat.reduceAdd, Nat.reduceMul, Nat.reduceSub, reduceIte, not_true_eq_false, not_false_eq_true, true_or, or_true, if_true, if_false, and_self, and_true, true_and, and_false, false_and, or_self, or_false, false_or, decide_true, decide_false, Bool.false_eq_true, Bool.true_eq_false, bI_t, bI_f, grd, gM_1, gfs10, gfs0, gfs3, gfs5, gfs6, gfs9, gfs2, gfs7, gfs8, gfs1, b84, d1, d2, d3]
/-- ConferenceBridges.undo -/
theorem g85n (M : z_M) (n : Nat) (V Vt U H T : z_V) (Hs : Nat → z_V) (h0 : H.1 0 = nI 0) : z_cl 85 [.ref n] (gM M n V Vt U H T Hs) = some (some (.int (-(nI 4))), gM M n V Vt U H T Hs) := by
  rw [e85]
  have d := m30n (gH M n Vt U T Hs) (n + 1) (n + 73) (by omega) H V h0
  rw [← gM_h] at d
  simp (disch := first | omega | (simp only [sgets, reduceIte, Nat.reduceEqDiff]; done) | omega) only [cS_1, crd, z_pv_some, z_wv_some, z_cv_v, z_cv_n, cwr, sgets, rc_O, ia_n, fa_n, is_n, fs_n, ↓mI_eq, lits, nI_add, nLe, nLt, nE, mI_ne, mI_ne', mI_lt, mI_le, mI_nlt, mI_nle, ne_eq, mI_addC, pk_sub, pk_mul, pk_div, Nat.reduceEqDiff, Nat.reduceAdd, Nat.reduceMul, Nat.reduceSub, reduceIte, not_true_eq_false, not_false_eq_true, true_or, or_true, if_true, if_false, and_self, and_true, true_and, and_false, false_and, or_self, or_false, false_or, decide_true, decide_false, Bool.false_eq_true, Bool.true_eq_false, bI_t, bI_f, grd, gM_1, gfs10, gfs0, gfs3, gfs5, gfs6, gfs9, gfs2, gfs7, gfs8, gfs1, b85, d]
theorem g85 (M : z_M) (n : Nat) (V Vt U H T : z_V) (Hs : Nat → z_V) (k m j : Nat) (hH : okH H k (m + 1)) (hj : j = (k + 5) % 6) (f : Bool) (hf : (Hs j).1 4 = bI f) : z_cl 85 [.ref n] (gM M n V Vt U H T Hs) = some (some (.int (nI m)), gM M n (Hs j) Vt U (sS (sS H 1 (nI j)) 0 (nI m)) T Hs) := by
  rw [e85]
  obtain ⟨hk, hm, h1, h0⟩ := hH
  have hj6 : j < 6 := by omega
  have d := m30 (gH M n Vt U T Hs) (n + 1) (n + 73) (by omega) H V (Hs j) k m j hk hj (by omega) h1 h0 f hf
  rw [← gM_k M n V Vt U H T Hs j hj6 (Hs j), ← gM_k M n (Hs j) Vt U (sS (sS H 1 (nI j)) 0 (nI m)) T Hs j hj6 (Hs j), upH_id] at d
  simp (disch := first | omega | (simp only [sgets, reduceIte, Nat.reduceEqDiff]; done) | omega) only [cS_1, crd, z_pv_some, z_wv_some, z_cv_v, z_cv_n, cwr, sgets, rc_O, ia_n, fa_n, is_n, fs_n, ↓mI_eq, lits, nI_add, nLe, nLt, nE, mI_ne, mI_ne', mI_lt, mI_le, mI_nlt, mI_nle, ne_eq, mI_addC, pk_sub, pk_mul, pk_div, Nat.reduceEqDiff, Nat.reduceAdd, Nat.reduceMul, Nat.reduceSub, reduceIte, not_true_eq_false, not_false_eq_true, true_or, or_true, if_true, if_false, and_self, and_true, true_and, and_false, false_and, or_self, or_false, false_or, decide_true, decide_false, Bool.false_eq_true, Bool.true_eq_false, bI_t, bI_f, grd, gM_1, gfs10, gfs0, gfs3, gfs5, gfs6, gfs9, gfs2, gfs7, gfs8, gfs1, b85, d]
/-- the text's orders -/
theorem g86 (M : z_M) (n : Nat) (V Vt U H T : z_V) (Hs : Nat → z_V) (L : Nat) (hL : L ≤ 100) (h0 : T.1 0 = nI L) (y : Int32) : z_cl 86 [.ref n, .int y] (gM M n V Vt U H T Hs) = some (some (.int (appR T L y).1), gM M n V Vt U H (appR T L y).2 Hs) := by
  rw [e86]
  have d := m39 (gT M n V Vt U H Hs) (n + 267) T L hL h0 y
  rw [← gM_t, ← gM_t] at d
  simp (disch := first | omega | (simp only [sgets, reduceIte, Nat.reduceEqDiff]; done) | omega) only [cS_1, crd, z_pv_some, z_wv_some, z_cv_v, z_cv_n, cwr, sgets, rc_O, ia_n, fa_n, is_n, fs_n, ↓mI_eq, lits, nI_add, nLe, nLt, nE, mI_ne, mI_ne', mI_lt, mI_le, mI_nlt, mI_nle, ne_eq, mI_addC, pk_sub, pk_mul, pk_div, Nat.reduceEqDiff, Nat.reduceAdd, Nat.reduceMul, Nat.reduceSub, reduceIte, not_true_eq_false, not_false_eq_true, true_or, or_true, if_true, if_false, and_self, and_true, true_and, and_false, false_and, or_self, or_false, false_or, decide_true, decide_false, Bool.false_eq_true, Bool.true_eq_false, bI_t, bI_f, grd, gM_1, gfs10, gfs0, gfs3, gfs5, gfs6, gfs9, gfs2, gfs7, gfs8, gfs1, b86, d]
theorem g87 (M : z_M) (n : Nat) (V Vt U H T : z_V) (Hs : Nat → z_V) : z_cl 87 [.ref n] (gM M n V Vt U H T Hs) = some (some (.int (T.1 0)), gM M n V Vt U H (sS T 0 (nI 0)) Hs) := by
  rw [e87]
  have d := m40 (gT M n V Vt U H Hs) (n + 267) T
  rw [← gM_t, ← gM_t] at d
  simp (disch := first | omega | (simp only [sgets, reduceIte, Nat.reduceEqDiff]; done) | omega) only [cS_1, crd, z_pv_some, z_wv_some, z_cv_v, z_cv_n, cwr, sgets, rc_O, ia_n, fa_n, is_n, fs_n, ↓mI_eq, lits, nI_add, nLe, nLt, nE, mI_ne, mI_ne', mI_lt, mI_le, mI_nlt, mI_nle, ne_eq, mI_addC, pk_sub, pk_mul, pk_div, Nat.reduceEqDiff, Nat.reduceAdd, Nat.reduceMul, Nat.reduceSub, reduceIte, not_true_eq_false, not_false_eq_true, true_or, or_true, if_true, if_false, and_self, and_true, true_and, and_false, false_and, or_self, or_false, false_or, decide_true, decide_false, Bool.false_eq_true, Bool.true_eq_false, bI_t, bI_f, grd, gM_1, gfs10, gfs0, gfs3, gfs5, gfs6, gfs9, gfs2, gfs7, gfs8, gfs1, b87, d]
theorem g41 (M : z_M) (n : Nat) (V Vt U H T : z_V) (Hs : Nat → z_V) (L : Nat) (hL : L ≤ 100) (h0 : T.1 0 = nI L) : z_cl 41 [.ref (n + 267)] (gM M n V Vt U H T Hs) = some (some (.int ((scnR T L).1 2)), gM M n V Vt U H (scnR T L) Hs) := by
  have d := (m41 (gT M n V Vt U H Hs) (n + 267) T L hL h0).1
  rw [← gM_t, ← gM_t] at d
  exact d
theorem g88 (M : z_M) (n : Nat) (V Vt U H T : z_V) (Hs : Nat → z_V) (L : Nat) (hL : L ≤ 100) (h0 : T.1 0 = nI L) : z_cl 88 [.ref n] (gM M n V Vt U H T Hs) = some (some (.int ((scnR T L).1 2)), gM M n V Vt U H (scnR T L) Hs) := by
  rw [e88]
  have d := g41 M n V Vt U H T Hs L hL h0
  simp (disch := first | omega | (simp only [sgets, reduceIte, Nat.reduceEqDiff]; done) | omega) only [cS_1, crd, z_pv_some, z_wv_some, z_cv_v, z_cv_n, cwr, sgets, rc_O, ia_n, fa_n, is_n, fs_n, ↓mI_eq, lits, nI_add, nLe, nLt, nE, mI_ne, mI_ne', mI_lt, mI_le, mI_nlt, mI_nle, ne_eq, mI_addC, pk_sub, pk_mul, pk_div, Nat.reduceEqDiff, Nat.reduceAdd, Nat.reduceMul, Nat.reduceSub, reduceIte, not_true_eq_false, not_false_eq_true, true_or, or_true, if_true, if_false, and_self, and_true, true_and, and_false, false_and, or_self, or_false, false_or, decide_true, decide_false, Bool.false_eq_true, Bool.true_eq_false, bI_t, bI_f, grd, gM_1, gfs10, gfs0, gfs3, gfs5, gfs6, gfs9, gfs2, gfs7, gfs8, gfs1, b88, d]
