/-! run: an order carried out, on both sides -/
def exR (J S B : Nat) (l x y : Int32) (U V : z_V) : Int32 × z_V × z_V :=
  if l = nI 76 then ((lvlR V x y).1, U, (lvlR V x y).2) else if l = nI 77 then ((trnR V J x y).1, U, (trnR V J x y).2) else if l = nI 82 then ((askR V x y).1, U, (askR V x y).2) else if l = nI 84 then tckR V U J S B x else if l = nI 70 then ((yieR V x).1, U, (yieR V x).2) else ((mutR V x (decide (here V x = false ∨ V.2.2.1 6 x.toNatClampNeg = nI 0))).1, U, (mutR V x (decide (here V x = false ∨ V.2.2.1 6 x.toNatClampNeg = nI 0))).2)
theorem gM_ta {M : z_M} {n : Nat} {V Vt U H T : z_V} {Hs : Nat → z_V} : (gM M n V Vt U H T Hs).2 (n + 267 + 1) = some (z_I 100 (T.2.2.1 0)) ∧ (gM M n V Vt U H T Hs).2 (n + 267 + 2) = some (z_I 100 (T.2.2.1 1)) ∧ (gM M n V Vt U H T Hs).2 (n + 267 + 3) = some (z_I 100 (T.2.2.1 2)) ∧ (gM M n V Vt U H T Hs).2 (n + 267 + 4) = some (z_I 100 (T.2.2.1 3)) := by
  rw [gM_t]
  exact ⟨trd1 _ _ _, trd2 _ _ _, trd3 _ _ _, trd4 _ _ _⟩
theorem six {l : Int32} (h : ¬ numA l = 0) : l = nI 76 ∨ l = nI 77 ∨ l = nI 82 ∨ l = nI 84 ∨ l = nI 70 ∨ l = nI 85 := by
  unfold numA at h
  by_cases c1 : l = nI 76 ∨ l = nI 77 ∨ l = nI 82
  · rcases c1 with c | c | c
    · exact Or.inl c
    · exact Or.inr (Or.inl c)
    · exact Or.inr (Or.inr (Or.inl c))
  · rw [if_neg c1] at h
    by_cases c2 : l = nI 84 ∨ l = nI 70 ∨ l = nI 85
    · rcases c2 with c | c | c
      · exact Or.inr (Or.inr (Or.inr (Or.inl c)))
      · exact Or.inr (Or.inr (Or.inr (Or.inr (Or.inl c))))
      · exact Or.inr (Or.inr (Or.inr (Or.inr (Or.inr c))))
    · rw [if_neg c2] at h; exact absurd rfl h
theorem g90 (M : z_M) (n : Nat) (V Vt U H T : z_V) (Hs : Nat → z_V) {J S Hy B : Nat} (hC : okC V J S Hy B) {i : Nat} (hi : i < 100) (hl : ¬ numA (T.2.2.1 1 i) = 0) : z_cl 90 [.ref n, .int (nI i)] (gM M n V Vt U H T Hs) = some (some (.int (exR J S B (T.2.2.1 1 i) (T.2.2.1 2 i) (T.2.2.1 3 i) U V).1), gM M n (exR J S B (T.2.2.1 1 i) (T.2.2.1 2 i) (T.2.2.1 3 i) U V).2.2 Vt (exR J S B (T.2.2.1 1 i) (T.2.2.1 2 i) (T.2.2.1 3 i) U V).2.1 H T Hs) := by
  have hC' := hC
  obtain ⟨⟨hJ, h9⟩, ⟨hS, h1⟩, ⟨hHy, h2⟩, ⟨hB, h8⟩, hE, hw, hlv, hd, hst, hpl, hmx⟩ := hC
  obtain ⟨ta0, ta1, ta2, ta3⟩ := gM_ta (M := M) (n := n) (V := V) (Vt := Vt) (U := U) (H := H) (T := T) (Hs := Hs)
  rw [e90]
  have a6 : ∀ x y, z_cl 6 [.ref (n + 1), .int x, .int y] (gM M n V Vt U H T Hs) = some (some (.int (lvlR V x y).1), gM M n (lvlR V x y).2 Vt U H T Hs) := fun x y => m6 _ (n + 1) V J hJ h9 x y
  have a5 : ∀ x y, z_cl 5 [.ref (n + 1), .int x, .int y] (gM M n V Vt U H T Hs) = some (some (.int (trnR V J x y).1), gM M n (trnR V J x y).2 Vt U H T Hs) := fun x y => m5 _ (n + 1) V B J hB h8 hJ h9 x y
  have a8 : ∀ x y, z_cl 8 [.ref (n + 1), .int x, .int y] (gM M n V Vt U H T Hs) = some (some (.int (askR V x y).1), gM M n (askR V x y).2 Vt U H T Hs) := fun x y => m8 _ (n + 1) V J hJ h9 hw x y
  have a9 : ∀ x, z_cl 9 [.ref (n + 1), .int x] (gM M n V Vt U H T Hs) = some (some (.int (yieR V x).1), gM M n (yieR V x).2 Vt U H T Hs) := fun x => m9 _ (n + 1) V J hJ h9 hw x
  have a14 : ∀ x, z_cl 14 [.ref (n + 1), .int x] (gM M n V Vt U H T Hs) = some (some (.int (mutR V x (decide (here V x = false ∨ V.2.2.1 6 x.toNatClampNeg = nI 0))).1), gM M n (mutR V x (decide (here V x = false ∨ V.2.2.1 6 x.toNatClampNeg = nI 0))).2 Vt U H T Hs) := fun x => m14 _ (n + 1) V J hJ h9 x
  have a10 := fun y => (m10r M n V Vt U H T Hs J S Hy B hC' y).1
  have pre : z_ex 90 (gM M n V Vt U H T Hs).1 0 [some (.ref n), some (.int (nI i)), none, none] [] (gM M n V Vt U H T Hs) = z_ex 90 (gM M n V Vt U H T Hs).1 29 [some (.ref n), some (.int (nI i)), some (.int (T.2.2.1 2 i)), some (.int (T.2.2.1 3 i))] [.int (T.2.2.1 1 i)] (gM M n V Vt U H T Hs) := by
    simp (disch := first | omega | (simp only [sgets, reduceIte, Nat.reduceEqDiff]; done) | omega) only [cS_1, crd, z_pv_some, z_wv_some, z_cv_v, z_cv_n, cwr, sgets, rc_O, ia_n, fa_n, is_n, fs_n, ↓mI_eq, lits, nI_add, nLe, nLt, nE, mI_ne, mI_ne', mI_lt, mI_le, mI_nlt, mI_nle, ne_eq, mI_addC, pk_sub, pk_mul, pk_div, Nat.reduceEqDiff, Nat.reduceAdd, Nat.reduceMul, Nat.reduceSub, reduceIte, not_true_eq_false, not_false_eq_true, true_or, or_true, if_true, if_false, and_self, and_true, true_and, and_false, false_and, or_self, or_false, false_or, decide_true, decide_false, Bool.false_eq_true, Bool.true_eq_false, bI_t, bI_f, grd, gM_1, gfs10, gfs0, gfs3, gfs5, gfs6, gfs9, gfs2, gfs7, gfs8, gfs1, q90_0, q90_1, q90_4, q90_7, q90_8, q90_9, q90_10, q90_11, q90_14, q90_17, q90_18, q90_19, q90_20, q90_21, q90_24, q90_27, q90_28, ta0, ta1, ta2, ta3]
  rw [pre]
  clear pre ta0 ta1 ta2 ta3
  generalize T.2.2.1 2 i = x
  generalize T.2.2.1 3 i = y
  unfold exR
  rcases six hl with e | e | e | e | e | e
  · rw [e, if_pos rfl]
    refine (q90_29_76 _ _ _ _ _ _ _).trans ?_
    simp (disch := first | omega | (simp only [sgets, reduceIte, Nat.reduceEqDiff]; done) | omega) only [cS_1, crd, z_pv_some, z_wv_some, z_cv_v, z_cv_n, cwr, sgets, rc_O, ia_n, fa_n, is_n, fs_n, ↓mI_eq, lits, nI_add, nLe, nLt, nE, mI_ne, mI_ne', mI_lt, mI_le, mI_nlt, mI_nle, ne_eq, mI_addC, pk_sub, pk_mul, pk_div, Nat.reduceEqDiff, Nat.reduceAdd, Nat.reduceMul, Nat.reduceSub, reduceIte, not_true_eq_false, not_false_eq_true, true_or, or_true, if_true, if_false, and_self, and_true, true_and, and_false, false_and, or_self, or_false, false_or, decide_true, decide_false, Bool.false_eq_true, Bool.true_eq_false, bI_t, bI_f, grd, gM_1, gfs10, gfs0, gfs3, gfs5, gfs6, gfs9, gfs2, gfs7, gfs8, gfs1, q90_104, q90_105, q90_108, q90_109, q90_110, q90_113, q90_114, q90_115, q90_118, q90_119, q90_120, q90_123, q90_124, q90_125, q90_128, q90_129, q90_130, q90_133, q90_134, q90_135, q90_138, q90_139, q90_140, q90_143, q90_146, q90_147, q90_148, q90_151, q90_152, q90_155, q90_156, q90_157, q90_160, q90_161, q90_164, a6]
  · rw [e, if_neg (by decide), if_pos rfl]
    refine (q90_29_77 _ _ _ _ _ _ _).trans ?_
    simp (disch := first | omega | (simp only [sgets, reduceIte, Nat.reduceEqDiff]; done) | omega) only [cS_1, crd, z_pv_some, z_wv_some, z_cv_v, z_cv_n, cwr, sgets, rc_O, ia_n, fa_n, is_n, fs_n, ↓mI_eq, lits, nI_add, nLe, nLt, nE, mI_ne, mI_ne', mI_lt, mI_le, mI_nlt, mI_nle, ne_eq, mI_addC, pk_sub, pk_mul, pk_div, Nat.reduceEqDiff, Nat.reduceAdd, Nat.reduceMul, Nat.reduceSub, reduceIte, not_true_eq_false, not_false_eq_true, true_or, or_true, if_true, if_false, and_self, and_true, true_and, and_false, false_and, or_self, or_false, false_or, decide_true, decide_false, Bool.false_eq_true, Bool.true_eq_false, bI_t, bI_f, grd, gM_1, gfs10, gfs0, gfs3, gfs5, gfs6, gfs9, gfs2, gfs7, gfs8, gfs1, q90_104, q90_105, q90_108, q90_109, q90_110, q90_113, q90_114, q90_115, q90_118, q90_119, q90_120, q90_123, q90_124, q90_125, q90_128, q90_129, q90_130, q90_133, q90_134, q90_135, q90_138, q90_139, q90_140, q90_143, q90_146, q90_147, q90_148, q90_151, q90_152, q90_155, q90_156, q90_157, q90_160, q90_161, q90_164, a5]
  · rw [e, if_neg (by decide), if_neg (by decide), if_pos rfl]
    refine (q90_29_82 _ _ _ _ _ _ _).trans ?_
    simp (disch := first | omega | (simp only [sgets, reduceIte, Nat.reduceEqDiff]; done) | omega) only [cS_1, crd, z_pv_some, z_wv_some, z_cv_v, z_cv_n, cwr, sgets, rc_O, ia_n, fa_n, is_n, fs_n, ↓mI_eq, lits, nI_add, nLe, nLt, nE, mI_ne, mI_ne', mI_lt, mI_le, mI_nlt, mI_nle, ne_eq, mI_addC, pk_sub, pk_mul, pk_div, Nat.reduceEqDiff, Nat.reduceAdd, Nat.reduceMul, Nat.reduceSub, reduceIte, not_true_eq_false, not_false_eq_true, true_or, or_true, if_true, if_false, and_self, and_true, true_and, and_false, false_and, or_self, or_false, false_or, decide_true, decide_false, Bool.false_eq_true, Bool.true_eq_false, bI_t, bI_f, grd, gM_1, gfs10, gfs0, gfs3, gfs5, gfs6, gfs9, gfs2, gfs7, gfs8, gfs1, q90_104, q90_105, q90_108, q90_109, q90_110, q90_113, q90_114, q90_115, q90_118, q90_119, q90_120, q90_123, q90_124, q90_125, q90_128, q90_129, q90_130, q90_133, q90_134, q90_135, q90_138, q90_139, q90_140, q90_143, q90_146, q90_147, q90_148, q90_151, q90_152, q90_155, q90_156, q90_157, q90_160, q90_161, q90_164, a8]
  · rw [e, if_neg (by decide), if_neg (by decide), if_neg (by decide), if_pos rfl]
    refine (q90_29_84 _ _ _ _ _ _ _).trans ?_
    simp (disch := first | omega | (simp only [sgets, reduceIte, Nat.reduceEqDiff]; done) | omega) only [cS_1, crd, z_pv_some, z_wv_some, z_cv_v, z_cv_n, cwr, sgets, rc_O, ia_n, fa_n, is_n, fs_n, ↓mI_eq, lits, nI_add, nLe, nLt, nE, mI_ne, mI_ne', mI_lt, mI_le, mI_nlt, mI_nle, ne_eq, mI_addC, pk_sub, pk_mul, pk_div, Nat.reduceEqDiff, Nat.reduceAdd, Nat.reduceMul, Nat.reduceSub, reduceIte, not_true_eq_false, not_false_eq_true, true_or, or_true, if_true, if_false, and_self, and_true, true_and, and_false, false_and, or_self, or_false, false_or, decide_true, decide_false, Bool.false_eq_true, Bool.true_eq_false, bI_t, bI_f, grd, gM_1, gfs10, gfs0, gfs3, gfs5, gfs6, gfs9, gfs2, gfs7, gfs8, gfs1, q90_104, q90_105, q90_108, q90_109, q90_110, q90_113, q90_114, q90_115, q90_118, q90_119, q90_120, q90_123, q90_124, q90_125, q90_128, q90_129, q90_130, q90_133, q90_134, q90_135, q90_138, q90_139, q90_140, q90_143, q90_146, q90_147, q90_148, q90_151, q90_152, q90_155, q90_156, q90_157, q90_160, q90_161, q90_164, a10]
  · rw [e, if_neg (by decide), if_neg (by decide), if_neg (by decide), if_neg (by decide), if_pos rfl]
    refine (q90_29_70 _ _ _ _ _ _ _).trans ?_
    simp (disch := first | omega | (simp only [sgets, reduceIte, Nat.reduceEqDiff]; done) | omega) only [cS_1, crd, z_pv_some, z_wv_some, z_cv_v, z_cv_n, cwr, sgets, rc_O, ia_n, fa_n, is_n, fs_n, ↓mI_eq, lits, nI_add, nLe, nLt, nE, mI_ne, mI_ne', mI_lt, mI_le, mI_nlt, mI_nle, ne_eq, mI_addC, pk_sub, pk_mul, pk_div, Nat.reduceEqDiff, Nat.reduceAdd, Nat.reduceMul, Nat.reduceSub, reduceIte, not_true_eq_false, not_false_eq_true, true_or, or_true, if_true, if_false, and_self, and_true, true_and, and_false, false_and, or_self, or_false, false_or, decide_true, decide_false, Bool.false_eq_true, Bool.true_eq_false, bI_t, bI_f, grd, gM_1, gfs10, gfs0, gfs3, gfs5, gfs6, gfs9, gfs2, gfs7, gfs8, gfs1, q90_104, q90_105, q90_108, q90_109, q90_110, q90_113, q90_114, q90_115, q90_118, q90_119, q90_120, q90_123, q90_124, q90_125, q90_128, q90_129, q90_130, q90_133, q90_134, q90_135, q90_138, q90_139, q90_140, q90_143, q90_146, q90_147, q90_148, q90_151, q90_152, q90_155, q90_156, q90_157, q90_160, q90_161, q90_164, a9]
  · rw [e, if_neg (by decide), if_neg (by decide), if_neg (by decide), if_neg (by decide), if_neg (by decide)]
    refine (q90_29_d _ _ _ _ _ _ _ _ (Or.inr (by rw [nI_toInt (by omega)]; omega))).trans ?_
    simp (disch := first | omega | (simp only [sgets, reduceIte, Nat.reduceEqDiff]; done) | omega) only [cS_1, crd, z_pv_some, z_wv_some, z_cv_v, z_cv_n, cwr, sgets, rc_O, ia_n, fa_n, is_n, fs_n, ↓mI_eq, lits, nI_add, nLe, nLt, nE, mI_ne, mI_ne', mI_lt, mI_le, mI_nlt, mI_nle, ne_eq, mI_addC, pk_sub, pk_mul, pk_div, Nat.reduceEqDiff, Nat.reduceAdd, Nat.reduceMul, Nat.reduceSub, reduceIte, not_true_eq_false, not_false_eq_true, true_or, or_true, if_true, if_false, and_self, and_true, true_and, and_false, false_and, or_self, or_false, false_or, decide_true, decide_false, Bool.false_eq_true, Bool.true_eq_false, bI_t, bI_f, grd, gM_1, gfs10, gfs0, gfs3, gfs5, gfs6, gfs9, gfs2, gfs7, gfs8, gfs1, q90_104, q90_105, q90_108, q90_109, q90_110, q90_113, q90_114, q90_115, q90_118, q90_119, q90_120, q90_123, q90_124, q90_125, q90_128, q90_129, q90_130, q90_133, q90_134, q90_135, q90_138, q90_139, q90_140, q90_143, q90_146, q90_147, q90_148, q90_151, q90_152, q90_155, q90_156, q90_157, q90_160, q90_161, q90_164, a14]
section
variable (M : z_M) (o : Nat) (w : Int64)
theorem sv_si {Y : z_V} (h : Y.1 14 = nI 1) : svY Y = Y := by
  unfold svY
  rw [if_neg (by rw [h, nE (by omega) (by omega)]; omega)]
theorem m158t {c J S Hy B : Nat} {V Y : z_V} {L a : Nat} (h : Rl c J S Hy B V Y) (hc : c < 2 ^ 30) (hX : okX Y) (hb : okb Y) (h14 : Y.1 14 = nI 1) (U : z_V) (hL : L ≤ 100) (ha : a ≤ L) (h15 : Y.1 15 = nI L) (h16 : Y.1 16 = nI a) (hok : tOk (Y.2.2.1 28) L a = true) (y3 : Int32) (hy3 : tN (Y.2.2.1 28) L a = 2 → y3 = numV (Y.2.2.1 28) L (tK (Y.2.2.1 28) L a)) : ∃ Z, z_cl 158 [.ref o, .int (nI 1)] (yS M o Y w) = some (some (.int (exR J S B (Y.2.2.1 28 (tP (Y.2.2.1 28) L a)) (numV (Y.2.2.1 28) L (tA (Y.2.2.1 28) L a)) y3 U V).1), yS M o Z w) ∧ (∃ J' S' Hy' B', Rl (c + 1) J' S' Hy' B' (exR J S B (Y.2.2.1 28 (tP (Y.2.2.1 28) L a)) (numV (Y.2.2.1 28) L (tA (Y.2.2.1 28) L a)) y3 U V).2.2 Z) ∧ kY (sS (sS Y 16 (nI (tE (Y.2.2.1 28) L a))) 17 (nI 1)) Z := by
  obtain ⟨x4, x5, e, he⟩ := ord_go M o w hL ha h15 h16 (.int (nI 1)) ⟨true, rfl⟩
  obtain ⟨e4, e5⟩ := he hok
  obtain ⟨b1, -⟩ := tOk_bd ha hok
  rw [hok, if_pos rfl, bI_t] at e
  have hlt : tLt (Y.2.2.1 28) L a = Y.2.2.1 28 (tP (Y.2.2.1 28) L a) := by unfold tLt; rw [if_pos b1]
  have hnz : ¬ numA (Y.2.2.1 28 (tP (Y.2.2.1 28) L a)) = 0 := by
    rw [← hlt, tLt_n]
    exact (of_decide_eq_true hok).1
  have hn2 : tN (Y.2.2.1 28) L a = numA (Y.2.2.1 28 (tP (Y.2.2.1 28) L a)) := by rw [← hlt, tLt_n]
  rw [hlt] at e
  rw [hn2] at e5 hy3 e
  rw [← e4]
  have h55 : numA (Y.2.2.1 28 (tP (Y.2.2.1 28) L a)) = 2 → x5 = y3 := fun q => (e5 q).trans (hy3 q).symm
  clear e4 e5 hy3 hn2 hlt he
  have hR : Rl c J S Hy B V (sS (sS Y 16 (nI (tE (Y.2.2.1 28) L a))) 17 (nI 1)) := Rl_Y (fun i hi => by simp only [sgets, show i ≠ 16 by omega, show i ≠ 17 by omega, if_false]) (fun _ _ => rfl) (fun _ _ => rfl) h
  have hX2 : okX (sS (sS Y 16 (nI (tE (Y.2.2.1 28) L a))) 17 (nI 1)) := hX
  have hb2 : okb (sS (sS Y 16 (nI (tE (Y.2.2.1 28) L a))) 17 (nI 1)) := hb
  have h142 : (sS (sS Y 16 (nI (tE (Y.2.2.1 28) L a))) 17 (nI 1)).1 14 = nI 1 := h14
  have h17 : (sS (sS Y 16 (nI (tE (Y.2.2.1 28) L a))) 17 (nI 1)).1 17 = nI 1 := rfl
  generalize sS (sS Y 16 (nI (tE (Y.2.2.1 28) L a))) 17 (nI 1) = Y1 at e hR hX2 hb2 h142 h17 ⊢
  generalize Y.2.2.1 28 (tP (Y.2.2.1 28) L a) = l at e hnz h55 ⊢
  rw [e]
  have fin : ∀ (mid : Nat) (As : List Value) (R : Int32 × z_V) (d : Nat), d ≤ c + 1 → sim M o w mid As Y1 R d → ∃ Z, z_cl mid (.ref o :: As) (yS M o Y1 w) = some (some (.int R.1), yS M o Z w) ∧ (∃ J' S' Hy' B', Rl (c + 1) J' S' Hy' B' R.2 Z) ∧ kY Y1 Z := by
    intro mid As R d hd hs
    obtain ⟨Z, z1, ⟨J', S', Hy', B', z2⟩, z3, z4⟩ := hs
    refine ⟨Z, z1, ⟨J', S', Hy', B', Rl_le hd z2⟩, ?_⟩
    by_cases hr : R.1 < nI 0
    · rw [z3 hr]; exact kY.rf Y1
    · have := z4 hr
      rw [sv_si h142] at this
      exact this
  generalize some (Value.int (bI (decide (numA l = 2)))) = x3
  have pre : z_ex 158 M.1 108 [some (.ref o), some (.int (nI 1)), some (.int l), x3, some (.int x4), some (.int x5)] [] (yS M o Y1 w) = z_ex 158 M.1 122 [some (.ref o), some (.int (nI 1)), some (.int l), x3, some (.int x4), some (.int x5)] [.int l] (yS M o Y1 w) := by
    simp (disch := first | omega | (simp only [sgets, reduceIte, Nat.reduceEqDiff, h17, dec_S, Nat.reduceAdd]; done) | omega) only [cS_1, crd, z_pv_some, z_wv_some, z_cv_v, z_cv_n, cwr, sgets, rc_O, ia_n, fa_n, is_n, fs_n, ↓mI_eq, lits, nI_add, nLe, nLt, nE, mI_ne, mI_ne', mI_lt, mI_le, mI_nlt, mI_nle, ne_eq, mI_addC, pk_sub, pk_mul, pk_div, Nat.reduceEqDiff, Nat.reduceAdd, Nat.reduceMul, Nat.reduceSub, reduceIte, not_true_eq_false, not_false_eq_true, true_or, or_true, if_true, if_false, and_self, and_true, true_and, and_false, false_and, or_self, or_false, false_or, decide_true, decide_false, Bool.false_eq_true, Bool.true_eq_false, bI_t, bI_f, oS_1, ord, owA0, owF0, owF1, owA1, owF2, owA2, owF3, owA3, ywo, gfs11, pfs11, yrd, ywr, q158_108, q158_109, q158_112, q158_115, q158_116, q158_119, q158_120, q158_121, h17, dec_S, Nat.reduceAdd]
  rw [pre]
  clear pre e
  unfold exR
  rcases six hnz with e | e | e | e | e | e
  · subst e
    have e5 := h55 (by decide)
    subst e5
    rw [if_pos rfl]
    obtain ⟨Z, z1, z2, z3⟩ := fin 123 [.int x4, .int x5] _ c (by omega) (s123 M o w hR hX2 x4 x5)
    refine ⟨Z, ?_, z2, z3⟩
    refine (q158_122_76 _ _ _ _ _ _ _ _ _).trans ?_
    simp (disch := first | omega | (simp only [sgets, reduceIte, Nat.reduceEqDiff, dec_S, Nat.reduceAdd]; done) | omega) only [cS_1, crd, z_pv_some, z_wv_some, z_cv_v, z_cv_n, cwr, sgets, rc_O, ia_n, fa_n, is_n, fs_n, ↓mI_eq, lits, nI_add, nLe, nLt, nE, mI_ne, mI_ne', mI_lt, mI_le, mI_nlt, mI_nle, ne_eq, mI_addC, pk_sub, pk_mul, pk_div, Nat.reduceEqDiff, Nat.reduceAdd, Nat.reduceMul, Nat.reduceSub, reduceIte, not_true_eq_false, not_false_eq_true, true_or, or_true, if_true, if_false, and_self, and_true, true_and, and_false, false_and, or_self, or_false, false_or, decide_true, decide_false, Bool.false_eq_true, Bool.true_eq_false, bI_t, bI_f, oS_1, ord, owA0, owF0, owF1, owA1, owF2, owA2, owF3, owA3, ywo, gfs11, pfs11, yrd, ywr, q158_196, q158_197, q158_199, q158_201, q158_204, q158_205, q158_206, q158_208, q158_210, q158_213, q158_214, q158_215, q158_217, q158_219, q158_222, q158_223, q158_224, q158_226, q158_229, q158_230, q158_231, q158_233, q158_236, q158_237, q158_238, q158_240, q158_241, q158_243, q158_246, q158_249, q158_250, q158_252, q158_253, q158_256, q158_259, q158_260, q158_263, q158_264, q158_267, z1, dec_S, Nat.reduceAdd]
  · subst e
    have e5 := h55 (by decide)
    subst e5
    rw [if_neg (by decide), if_pos rfl]
    obtain ⟨Z, z1, z2, z3⟩ := fin 122 [.int x4, .int x5] _ c (by omega) (s122 M o w hR hX2 x4 x5)
    refine ⟨Z, ?_, z2, z3⟩
    refine (q158_122_77 _ _ _ _ _ _ _ _ _).trans ?_
    simp (disch := first | omega | (simp only [sgets, reduceIte, Nat.reduceEqDiff, dec_S, Nat.reduceAdd]; done) | omega) only [cS_1, crd, z_pv_some, z_wv_some, z_cv_v, z_cv_n, cwr, sgets, rc_O, ia_n, fa_n, is_n, fs_n, ↓mI_eq, lits, nI_add, nLe, nLt, nE, mI_ne, mI_ne', mI_lt, mI_le, mI_nlt, mI_nle, ne_eq, mI_addC, pk_sub, pk_mul, pk_div, Nat.reduceEqDiff, Nat.reduceAdd, Nat.reduceMul, Nat.reduceSub, reduceIte, not_true_eq_false, not_false_eq_true, true_or, or_true, if_true, if_false, and_self, and_true, true_and, and_false, false_and, or_self, or_false, false_or, decide_true, decide_false, Bool.false_eq_true, Bool.true_eq_false, bI_t, bI_f, oS_1, ord, owA0, owF0, owF1, owA1, owF2, owA2, owF3, owA3, ywo, gfs11, pfs11, yrd, ywr, q158_196, q158_197, q158_199, q158_201, q158_204, q158_205, q158_206, q158_208, q158_210, q158_213, q158_214, q158_215, q158_217, q158_219, q158_222, q158_223, q158_224, q158_226, q158_229, q158_230, q158_231, q158_233, q158_236, q158_237, q158_238, q158_240, q158_241, q158_243, q158_246, q158_249, q158_250, q158_252, q158_253, q158_256, q158_259, q158_260, q158_263, q158_264, q158_267, z1, dec_S, Nat.reduceAdd]
  · subst e
    have e5 := h55 (by decide)
    subst e5
    rw [if_neg (by decide), if_neg (by decide), if_pos rfl]
    obtain ⟨Z, z1, z2, z3⟩ := fin 127 [.int x4, .int x5] _ (c + 1) (by omega) (s127 M o w hR hc hX2 x4 x5)
    refine ⟨Z, ?_, z2, z3⟩
    refine (q158_122_82 _ _ _ _ _ _ _ _ _).trans ?_
    simp (disch := first | omega | (simp only [sgets, reduceIte, Nat.reduceEqDiff, dec_S, Nat.reduceAdd]; done) | omega) only [cS_1, crd, z_pv_some, z_wv_some, z_cv_v, z_cv_n, cwr, sgets, rc_O, ia_n, fa_n, is_n, fs_n, ↓mI_eq, lits, nI_add, nLe, nLt, nE, mI_ne, mI_ne', mI_lt, mI_le, mI_nlt, mI_nle, ne_eq, mI_addC, pk_sub, pk_mul, pk_div, Nat.reduceEqDiff, Nat.reduceAdd, Nat.reduceMul, Nat.reduceSub, reduceIte, not_true_eq_false, not_false_eq_true, true_or, or_true, if_true, if_false, and_self, and_true, true_and, and_false, false_and, or_self, or_false, false_or, decide_true, decide_false, Bool.false_eq_true, Bool.true_eq_false, bI_t, bI_f, oS_1, ord, owA0, owF0, owF1, owA1, owF2, owA2, owF3, owA3, ywo, gfs11, pfs11, yrd, ywr, q158_196, q158_197, q158_199, q158_201, q158_204, q158_205, q158_206, q158_208, q158_210, q158_213, q158_214, q158_215, q158_217, q158_219, q158_222, q158_223, q158_224, q158_226, q158_229, q158_230, q158_231, q158_233, q158_236, q158_237, q158_238, q158_240, q158_241, q158_243, q158_246, q158_249, q158_250, q158_252, q158_253, q158_256, q158_259, q158_260, q158_263, q158_264, q158_267, z1, dec_S, Nat.reduceAdd]
  · subst e
    rw [if_neg (by decide), if_neg (by decide), if_neg (by decide), if_pos rfl]
    obtain ⟨Z, z1, z2, z3⟩ := fin 130 [.int x4] _ c (by omega) (s130 M o w hR hX2 hb2 (by omega) U x4)
    refine ⟨Z, ?_, z2, z3⟩
    refine (q158_122_84 _ _ _ _ _ _ _ _ _).trans ?_
    simp (disch := first | omega | (simp only [sgets, reduceIte, Nat.reduceEqDiff, dec_S, Nat.reduceAdd]; done) | omega) only [cS_1, crd, z_pv_some, z_wv_some, z_cv_v, z_cv_n, cwr, sgets, rc_O, ia_n, fa_n, is_n, fs_n, ↓mI_eq, lits, nI_add, nLe, nLt, nE, mI_ne, mI_ne', mI_lt, mI_le, mI_nlt, mI_nle, ne_eq, mI_addC, pk_sub, pk_mul, pk_div, Nat.reduceEqDiff, Nat.reduceAdd, Nat.reduceMul, Nat.reduceSub, reduceIte, not_true_eq_false, not_false_eq_true, true_or, or_true, if_true, if_false, and_self, and_true, true_and, and_false, false_and, or_self, or_false, false_or, decide_true, decide_false, Bool.false_eq_true, Bool.true_eq_false, bI_t, bI_f, oS_1, ord, owA0, owF0, owF1, owA1, owF2, owA2, owF3, owA3, ywo, gfs11, pfs11, yrd, ywr, q158_196, q158_197, q158_199, q158_201, q158_204, q158_205, q158_206, q158_208, q158_210, q158_213, q158_214, q158_215, q158_217, q158_219, q158_222, q158_223, q158_224, q158_226, q158_229, q158_230, q158_231, q158_233, q158_236, q158_237, q158_238, q158_240, q158_241, q158_243, q158_246, q158_249, q158_250, q158_252, q158_253, q158_256, q158_259, q158_260, q158_263, q158_264, q158_267, z1, dec_S, Nat.reduceAdd]
  · subst e
    rw [if_neg (by decide), if_neg (by decide), if_neg (by decide), if_neg (by decide), if_pos rfl]
    obtain ⟨Z, z1, z2, z3⟩ := fin 129 [.int x4] _ c (by omega) (s129 M o w hR hX2 x4)
    refine ⟨Z, ?_, z2, z3⟩
    refine (q158_122_70 _ _ _ _ _ _ _ _ _).trans ?_
    simp (disch := first | omega | (simp only [sgets, reduceIte, Nat.reduceEqDiff, dec_S, Nat.reduceAdd]; done) | omega) only [cS_1, crd, z_pv_some, z_wv_some, z_cv_v, z_cv_n, cwr, sgets, rc_O, ia_n, fa_n, is_n, fs_n, ↓mI_eq, lits, nI_add, nLe, nLt, nE, mI_ne, mI_ne', mI_lt, mI_le, mI_nlt, mI_nle, ne_eq, mI_addC, pk_sub, pk_mul, pk_div, Nat.reduceEqDiff, Nat.reduceAdd, Nat.reduceMul, Nat.reduceSub, reduceIte, not_true_eq_false, not_false_eq_true, true_or, or_true, if_true, if_false, and_self, and_true, true_and, and_false, false_and, or_self, or_false, false_or, decide_true, decide_false, Bool.false_eq_true, Bool.true_eq_false, bI_t, bI_f, oS_1, ord, owA0, owF0, owF1, owA1, owF2, owA2, owF3, owA3, ywo, gfs11, pfs11, yrd, ywr, q158_196, q158_197, q158_199, q158_201, q158_204, q158_205, q158_206, q158_208, q158_210, q158_213, q158_214, q158_215, q158_217, q158_219, q158_222, q158_223, q158_224, q158_226, q158_229, q158_230, q158_231, q158_233, q158_236, q158_237, q158_238, q158_240, q158_241, q158_243, q158_246, q158_249, q158_250, q158_252, q158_253, q158_256, q158_259, q158_260, q158_263, q158_264, q158_267, z1, dec_S, Nat.reduceAdd]
  · subst e
    rw [if_neg (by decide), if_neg (by decide), if_neg (by decide), if_neg (by decide), if_neg (by decide)]
    obtain ⟨Z, z1, z2, z3⟩ := fin 124 [.int x4, .int (bI (decide (here V x4 = false ∨ V.2.2.1 6 x4.toNatClampNeg = nI 0)))] _ c (by omega) (s124 M o w hR hX2 x4 (decide (here V x4 = false ∨ V.2.2.1 6 x4.toNatClampNeg = nI 0)))
    refine ⟨Z, ?_, z2, z3⟩
    refine (q158_122_d _ _ _ _ _ _ _ _ _ _ (Or.inr (by rw [nI_toInt (by omega)]; omega))).trans ?_
    have h120 := m120 M o w hR x4
    by_cases hh : here V x4 = false
    · rw [show decide (here V x4 = false ∨ V.2.2.1 6 x4.toNatClampNeg = nI 0) = true by simp [hh]] at z1 ⊢
      rw [hh] at h120
      rw [bI_t] at z1
      simp (disch := first | omega | (simp only [sgets, reduceIte, Nat.reduceEqDiff, dec_S, Nat.reduceAdd]; done) | omega) only [cS_1, crd, z_pv_some, z_wv_some, z_cv_v, z_cv_n, cwr, sgets, rc_O, ia_n, fa_n, is_n, fs_n, ↓mI_eq, lits, nI_add, nLe, nLt, nE, mI_ne, mI_ne', mI_lt, mI_le, mI_nlt, mI_nle, ne_eq, mI_addC, pk_sub, pk_mul, pk_div, Nat.reduceEqDiff, Nat.reduceAdd, Nat.reduceMul, Nat.reduceSub, reduceIte, not_true_eq_false, not_false_eq_true, true_or, or_true, if_true, if_false, and_self, and_true, true_and, and_false, false_and, or_self, or_false, false_or, decide_true, decide_false, Bool.false_eq_true, Bool.true_eq_false, bI_t, bI_f, oS_1, ord, owA0, owF0, owF1, owA1, owF2, owA2, owF3, owA3, ywo, gfs11, pfs11, yrd, ywr, q158_196, q158_197, q158_199, q158_201, q158_204, q158_205, q158_206, q158_208, q158_210, q158_213, q158_214, q158_215, q158_217, q158_219, q158_222, q158_223, q158_224, q158_226, q158_229, q158_230, q158_231, q158_233, q158_236, q158_237, q158_238, q158_240, q158_241, q158_243, q158_246, q158_249, q158_250, q158_252, q158_253, q158_256, q158_259, q158_260, q158_263, q158_264, q158_267, h120, z1, dec_S, Nat.reduceAdd]
    · have hh := bool_f hh
      rw [hh] at h120
      obtain ⟨k, hk, rfl, hp⟩ := here_k (Rl_J hR).1 (Rl_J hR).2 hh
      have hJ := (Rl_J hR).1
      have g4 := m116 M o Y1 w k 4 (by omega) (by omega)
      have e8 : Y1.2.2.1 8 k = V.2.2.1 6 k := by rw [hR.2.2.2.2.1.2.2.1]
      rw [nI_clamp (by omega)] at z1 ⊢
      by_cases hm : V.2.2.1 6 k = nI 0
      · rw [show decide (here V (nI k) = false ∨ V.2.2.1 6 k = nI 0) = true by simp [hm]] at z1 ⊢
        rw [bI_t] at z1
        simp (disch := first | omega | (simp only [sgets, reduceIte, Nat.reduceEqDiff, e8, hm, dec_S, Nat.reduceAdd]; done) | omega) only [cS_1, crd, z_pv_some, z_wv_some, z_cv_v, z_cv_n, cwr, sgets, rc_O, ia_n, fa_n, is_n, fs_n, ↓mI_eq, lits, nI_add, nLe, nLt, nE, mI_ne, mI_ne', mI_lt, mI_le, mI_nlt, mI_nle, ne_eq, mI_addC, pk_sub, pk_mul, pk_div, Nat.reduceEqDiff, Nat.reduceAdd, Nat.reduceMul, Nat.reduceSub, reduceIte, not_true_eq_false, not_false_eq_true, true_or, or_true, if_true, if_false, and_self, and_true, true_and, and_false, false_and, or_self, or_false, false_or, decide_true, decide_false, Bool.false_eq_true, Bool.true_eq_false, bI_t, bI_f, oS_1, ord, owA0, owF0, owF1, owA1, owF2, owA2, owF3, owA3, ywo, gfs11, pfs11, yrd, ywr, q158_196, q158_197, q158_199, q158_201, q158_204, q158_205, q158_206, q158_208, q158_210, q158_213, q158_214, q158_215, q158_217, q158_219, q158_222, q158_223, q158_224, q158_226, q158_229, q158_230, q158_231, q158_233, q158_236, q158_237, q158_238, q158_240, q158_241, q158_243, q158_246, q158_249, q158_250, q158_252, q158_253, q158_256, q158_259, q158_260, q158_263, q158_264, q158_267, h120, g4, z1, e8, hm, dec_S, Nat.reduceAdd]
      · rw [show decide (here V (nI k) = false ∨ V.2.2.1 6 k = nI 0) = false by simp [hm, hh]] at z1 ⊢
        rw [bI_f] at z1
        simp (disch := first | omega | (simp only [sgets, reduceIte, Nat.reduceEqDiff, e8, hm, dec_S, Nat.reduceAdd]; done) | omega) only [cS_1, crd, z_pv_some, z_wv_some, z_cv_v, z_cv_n, cwr, sgets, rc_O, ia_n, fa_n, is_n, fs_n, ↓mI_eq, lits, nI_add, nLe, nLt, nE, mI_ne, mI_ne', mI_lt, mI_le, mI_nlt, mI_nle, ne_eq, mI_addC, pk_sub, pk_mul, pk_div, Nat.reduceEqDiff, Nat.reduceAdd, Nat.reduceMul, Nat.reduceSub, reduceIte, not_true_eq_false, not_false_eq_true, true_or, or_true, if_true, if_false, and_self, and_true, true_and, and_false, false_and, or_self, or_false, false_or, decide_true, decide_false, Bool.false_eq_true, Bool.true_eq_false, bI_t, bI_f, oS_1, ord, owA0, owF0, owF1, owA1, owF2, owA2, owF3, owA3, ywo, gfs11, pfs11, yrd, ywr, q158_196, q158_197, q158_199, q158_201, q158_204, q158_205, q158_206, q158_208, q158_210, q158_213, q158_214, q158_215, q158_217, q158_219, q158_222, q158_223, q158_224, q158_226, q158_229, q158_230, q158_231, q158_233, q158_236, q158_237, q158_238, q158_240, q158_241, q158_243, q158_246, q158_249, q158_250, q158_252, q158_253, q158_256, q158_259, q158_260, q158_263, q158_264, q158_267, h120, g4, z1, e8, hm, dec_S, Nat.reduceAdd]
end
