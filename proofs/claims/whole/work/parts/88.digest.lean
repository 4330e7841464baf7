/-! digest on both sides -/
def nt (h : Int64) (x : Int32) : Int64 := 31 * h + x.toInt64
def bcV (V : z_V) (p : Nat) : Int32 := nI (sumB (V.2.2.1 10 p).toNatClampNeg 20)
def dgC (V : z_V) (h : Int64) : Int64 := it (fun k h => nt h (cntA V k)) 7 h
def dgP1 (V : z_V) (p : Nat) (h : Int64) : Int64 := it (fun k h => nt h (prpA V p k (bcV V p))) 9 h
def dgP (V : z_V) (p : Nat) (h : Int64) : Int64 := if here V (nI p) = true then nt (nt (dgP1 V p h) (nI (V.2.2.2 0 p).toNat)) (nI (V.2.2.2 1 p).toNat) else h
def dgS (V : z_V) (y x : Nat) (h : Int64) : Int64 := if way V y x = mI then h else it (fun k h => nt h (V.2.2.1 17 ((way V y x).toNatClampNeg * 4 + k))) (V.2.2.1 16 (way V y x).toNatClampNeg).toNatClampNeg h
def dgE (V : z_V) (N K j : Nat) (h : Int64) : Int64 := nt (nt (nt h (V.2.2.1 19 ((N + 30 - K + j) % 30))) (V.2.2.1 20 ((N + 30 - K + j) % 30))) (V.2.2.1 21 ((N + 30 - K + j) % 30))
def dgA (V : z_V) (J B N K : Nat) : Int64 := it (dgE V N K) K (it (fun y h => it (dgS V y) B h) B (it (dgP V) J (dgC V 17)))
section
variable (M : z_M) (n : Nat) (V Vt U H T : z_V) (Hs : Nat → z_V) (M' : z_M) (o : Nat) (w : Int64) {c J S Hy B : Nat} {Y : z_V}
theorem c93 (h : Rl c J S Hy B V Y) {p : Nat} (hp : p < J) (hh : here V (nI p) = true) : z_cl 93 [.ref n, .int (nI p)] (gM M n V Vt U H T Hs) = some (some (.int (nI (V.2.2.2 0 p).toNat)), gM M n V Vt U H T Hs) ∧ z_cl 95 [.ref n, .int (nI p)] (gM M n V Vt U H T Hs) = some (some (.int (nI (V.2.2.2 1 p).toNat)), gM M n V Vt U H T Hs) ∧ z_cl 166 [.ref o, .int (nI p)] (yS M' o Y w) = some (some (.int (nI (V.2.2.2 0 p).toNat)), yS M' o Y w) ∧ z_cl 167 [.ref o, .int (nI p)] (yS M' o Y w) = some (some (.int (nI (V.2.2.2 1 p).toNat)), yS M' o Y w) := by
  have h51 := g51 M n V Vt U H T Hs h (nI p)
  have h120 := m120 M' o w h (nI p)
  rw [hh] at h51 h120
  have hJ := (Rl_J h).1
  have hl := nn_200 (h.1.2.2.2.2.2.2.2.1 p (by omega))
  have eF : Y.2.2.2 0 p = V.2.2.2 0 p := by rw [h.2.2.2.2.1.2.2.2.2.2.2.2.2.2.2.2.1]
  have c1 := fun X => m94 hl X
  have c2 := fun X => m189 (show (V.2.2.2 0 p).toNat < 2139095040 by omega) X
  have hl' := sb_200 (h.1.2.2.2.2.2.2.2.2.2.2 p (by omega))
  have eF' : Y.2.2.2 1 p = V.2.2.2 1 p := by rw [h.2.2.2.2.1.2.2.2.2.2.2.2.2.2.2.2.2]
  have c1' := fun X => m94 hl' X
  have c2' := fun X => m189 (show (V.2.2.2 1 p).toNat < 2139095040 by omega) X
  refine ⟨?_, ?_, ?_, ?_⟩
  · rw [e93]
    simp (disch := first | omega | (simp only [sgets, reduceIte, Nat.reduceEqDiff]; done) | omega) only [cS_1, crd, z_pv_some, z_wv_some, z_cv_v, z_cv_n, cwr, sgets, rc_O, ia_n, fa_n, is_n, fs_n, ↓mI_eq, lits, nI_add, nLe, nLt, nE, mI_ne, mI_ne', mI_lt, mI_le, mI_nlt, mI_nle, ne_eq, mI_addC, pk_sub, pk_mul, pk_div, Nat.reduceEqDiff, Nat.reduceAdd, Nat.reduceMul, Nat.reduceSub, reduceIte, not_true_eq_false, not_false_eq_true, true_or, or_true, if_true, if_false, and_self, and_true, true_and, and_false, false_and, or_self, or_false, false_or, decide_true, decide_false, Bool.false_eq_true, Bool.true_eq_false, bI_t, bI_f, grd, gM_1, gfs10, gfs0, gfs3, gfs5, gfs6, gfs9, gfs2, gfs7, gfs8, gfs1, b93, h51, c1]
  · rw [e95]
    simp (disch := first | omega | (simp only [sgets, reduceIte, Nat.reduceEqDiff]; done) | omega) only [cS_1, crd, z_pv_some, z_wv_some, z_cv_v, z_cv_n, cwr, sgets, rc_O, ia_n, fa_n, is_n, fs_n, ↓mI_eq, lits, nI_add, nLe, nLt, nE, mI_ne, mI_ne', mI_lt, mI_le, mI_nlt, mI_nle, ne_eq, mI_addC, pk_sub, pk_mul, pk_div, Nat.reduceEqDiff, Nat.reduceAdd, Nat.reduceMul, Nat.reduceSub, reduceIte, not_true_eq_false, not_false_eq_true, true_or, or_true, if_true, if_false, and_self, and_true, true_and, and_false, false_and, or_self, or_false, false_or, decide_true, decide_false, Bool.false_eq_true, Bool.true_eq_false, bI_t, bI_f, grd, gM_1, gfs10, gfs0, gfs3, gfs5, gfs6, gfs9, gfs2, gfs7, gfs8, gfs1, b95, h51, c1']
  · rw [e166]
    simp (disch := first | omega | (simp only [sgets, reduceIte, Nat.reduceEqDiff, eF, dec_S, Nat.reduceAdd]; done) | omega) only [cS_1, crd, z_pv_some, z_wv_some, z_cv_v, z_cv_n, cwr, sgets, rc_O, ia_n, fa_n, is_n, fs_n, ↓mI_eq, lits, nI_add, nLe, nLt, nE, mI_ne, mI_ne', mI_lt, mI_le, mI_nlt, mI_nle, ne_eq, mI_addC, pk_sub, pk_mul, pk_div, Nat.reduceEqDiff, Nat.reduceAdd, Nat.reduceMul, Nat.reduceSub, reduceIte, not_true_eq_false, not_false_eq_true, true_or, or_true, if_true, if_false, and_self, and_true, true_and, and_false, false_and, or_self, or_false, false_or, decide_true, decide_false, Bool.false_eq_true, Bool.true_eq_false, bI_t, bI_f, oS_1, ord, owA0, owF0, owF1, owA1, owF2, owA2, owF3, owA3, ywo, gfs11, pfs11, yrd, ywr, b166, h120, c2, eF, dec_S, Nat.reduceAdd]
  · rw [e167]
    simp (disch := first | omega | (simp only [sgets, reduceIte, Nat.reduceEqDiff, eF', dec_S, Nat.reduceAdd]; done) | omega) only [cS_1, crd, z_pv_some, z_wv_some, z_cv_v, z_cv_n, cwr, sgets, rc_O, ia_n, fa_n, is_n, fs_n, ↓mI_eq, lits, nI_add, nLe, nLt, nE, mI_ne, mI_ne', mI_lt, mI_le, mI_nlt, mI_nle, ne_eq, mI_addC, pk_sub, pk_mul, pk_div, Nat.reduceEqDiff, Nat.reduceAdd, Nat.reduceMul, Nat.reduceSub, reduceIte, not_true_eq_false, not_false_eq_true, true_or, or_true, if_true, if_false, and_self, and_true, true_and, and_false, false_and, or_self, or_false, false_or, decide_true, decide_false, Bool.false_eq_true, Bool.true_eq_false, bI_t, bI_f, oS_1, ord, owA0, owF0, owF1, owA1, owF2, owA2, owF3, owA3, ywo, gfs11, pfs11, yrd, ywr, b167, h120, c2', eF', dec_S, Nat.reduceAdd]
theorem bc_ok (hd : hdOk V) {p : Nat} (hp : p < 20) : (∀ X, z_cl 191 [.int (V.2.2.1 10 p)] X = some (some (.int (bcV V p)), X)) ∧ ∀ X, z_cl 165 [.int (V.2.2.1 10 p)] X = some (some (.int (bcV V p)), X) := by
  obtain ⟨b, hb, eb⟩ := hd p hp
  have e : bcV V p = nI (sumB b 20) := by unfold bcV; rw [eb, nI_clamp (by omega)]
  rw [e, eb]
  exact ⟨fun X => by rw [m191 hb, bcN_eq hb], fun X => m165 hb X⟩
theorem c104 (h : Rl c J S Hy B V Y) (hd : hdOk V) (h0 : Int64) : z_cl 104 [.ref n, .long h0] (gM M n V Vt U H T Hs) = some (some (.long (it (dgP V) J h0)), gM M n V Vt U H T Hs) := by
  obtain ⟨hJ, h9⟩ := Rl_J h
  have lout := lp_for (fun p (a : Int64) (j : Option Value) => z_ex 104 M.1 5 [some (.ref n), some (.long h0), none, some (.long a), none, some (.int (nI p)), j] [] (gM M n V Vt U H T Hs)) (dgP V) (fun _ _ => True) J (fun a => some (some (.long a), gM M n V Vt U H T Hs)) (by
    intro p a j hp _
    have hp2 : ¬ J ≤ p := by omega
    have h51 := g51 M n V Vt U H T Hs h (nI p)
    unfold dgP
    cases hh : here V (nI p) with
    | false =>
      rw [hh] at h51
      refine ⟨j, ?_⟩
      rw [if_neg (by decide), q104_5]
      simp (disch := first | omega | (simp only [sgets, reduceIte, Nat.reduceEqDiff, h9, hp2]; done) | omega) only [cS_1, crd, z_pv_some, z_wv_some, z_cv_v, z_cv_n, cwr, sgets, rc_O, ia_n, fa_n, is_n, fs_n, ↓mI_eq, lits, nI_add, nLe, nLt, nE, mI_ne, mI_ne', mI_lt, mI_le, mI_nlt, mI_nle, ne_eq, mI_addC, pk_sub, pk_mul, pk_div, Nat.reduceEqDiff, Nat.reduceAdd, Nat.reduceMul, Nat.reduceSub, reduceIte, not_true_eq_false, not_false_eq_true, true_or, or_true, if_true, if_false, and_self, and_true, true_and, and_false, false_and, or_self, or_false, false_or, decide_true, decide_false, Bool.false_eq_true, Bool.true_eq_false, bI_t, bI_f, grd, gM_1, gfs10, gfs0, gfs3, gfs5, gfs6, gfs9, gfs2, gfs7, gfs8, gfs1, q104_7, q104_8, q104_11, q104_14, q104_17, q104_20, q104_21, q104_24, q104_27, q104_29, q104_32, q104_35, q104_36, q104_95, q104_98, h51, h9, hp2]
    | true =>
      rw [hh] at h51
      rw [if_pos rfl]
      obtain ⟨x1, x2, -, -⟩ := c93 M n V Vt U H T Hs (0, fun _ => none) 0 0 h hp hh
      have lin := it_run (fun k (a : Int64) => z_ex 104 M.1 38 [some (.ref n), some (.long h0), none, some (.long a), none, some (.int (nI p)), some (.int (nI k))] [] (gM M n V Vt U H T Hs)) (fun k h => nt h (prpA V p k (bcV V p))) 9 a (by
        intro k a hk
        have hk2 : ¬ 8 < k := by omega
        have c := c92 M n V Vt U H T Hs h.1 hp hh (show k ≤ 8 by omega) (bc_ok V hd (show p < 20 by omega)).1
        rw [q104_38]
        simp (disch := first | omega | (simp only [sgets, reduceIte, Nat.reduceEqDiff, hk2]; done) | omega) only [cS_1, crd, z_pv_some, z_wv_some, z_cv_v, z_cv_n, cwr, sgets, rc_O, ia_n, fa_n, is_n, fs_n, ↓mI_eq, lits, nI_add, nLe, nLt, nE, mI_ne, mI_ne', mI_lt, mI_le, mI_nlt, mI_nle, ne_eq, mI_addC, pk_sub, pk_mul, pk_div, Nat.reduceEqDiff, Nat.reduceAdd, Nat.reduceMul, Nat.reduceSub, reduceIte, not_true_eq_false, not_false_eq_true, true_or, or_true, if_true, if_false, and_self, and_true, true_and, and_false, false_and, or_self, or_false, false_or, decide_true, decide_false, Bool.false_eq_true, Bool.true_eq_false, bI_t, bI_f, grd, gM_1, gfs10, gfs0, gfs3, gfs5, gfs6, gfs9, gfs2, gfs7, gfs8, gfs1, q104_40, q104_42, q104_45, q104_48, q104_49, q104_50, q104_51, q104_53, q104_55, q104_58, q104_59, q104_60, q104_61, q104_64, c, hk2]
        rfl)
      refine ⟨some (.int (nI 9)), ?_⟩
      rw [q104_5]
      refine Eq.trans ?_ (lin.trans ?_)
      · simp (disch := first | omega | (simp only [sgets, reduceIte, Nat.reduceEqDiff, h9, hp2]; done) | omega) only [cS_1, crd, z_pv_some, z_wv_some, z_cv_v, z_cv_n, cwr, sgets, rc_O, ia_n, fa_n, is_n, fs_n, ↓mI_eq, lits, nI_add, nLe, nLt, nE, mI_ne, mI_ne', mI_lt, mI_le, mI_nlt, mI_nle, ne_eq, mI_addC, pk_sub, pk_mul, pk_div, Nat.reduceEqDiff, Nat.reduceAdd, Nat.reduceMul, Nat.reduceSub, reduceIte, not_true_eq_false, not_false_eq_true, true_or, or_true, if_true, if_false, and_self, and_true, true_and, and_false, false_and, or_self, or_false, false_or, decide_true, decide_false, Bool.false_eq_true, Bool.true_eq_false, bI_t, bI_f, grd, gM_1, gfs10, gfs0, gfs3, gfs5, gfs6, gfs9, gfs2, gfs7, gfs8, gfs1, q104_7, q104_8, q104_11, q104_14, q104_17, q104_20, q104_21, q104_24, q104_27, q104_29, q104_32, q104_35, q104_36, h51, h9, hp2]
      · rw [q104_38]
        have h89 : (8 : Nat) < 9 := by omega
        show z_ex 104 M.1 40 _ _ _ = z_ex 104 M.1 5 [some (.ref n), some (.long h0), none, some (.long (nt (nt (dgP1 V p a) (nI (V.2.2.2 0 p).toNat)) (nI (V.2.2.2 1 p).toNat))), none, some (.int (nI (p + 1))), some (.int (nI 9))] [] (gM M n V Vt U H T Hs)
        have ed : it (fun k h => nt h (prpA V p k (bcV V p))) 9 a = dgP1 V p a := rfl
        rw [ed]
        unfold nt
        simp (disch := first | omega | (simp only [sgets, reduceIte, Nat.reduceEqDiff, h89]; done) | omega) only [cS_1, crd, z_pv_some, z_wv_some, z_cv_v, z_cv_n, cwr, sgets, rc_O, ia_n, fa_n, is_n, fs_n, ↓mI_eq, lits, nI_add, nLe, nLt, nE, mI_ne, mI_ne', mI_lt, mI_le, mI_nlt, mI_nle, ne_eq, mI_addC, pk_sub, pk_mul, pk_div, Nat.reduceEqDiff, Nat.reduceAdd, Nat.reduceMul, Nat.reduceSub, reduceIte, not_true_eq_false, not_false_eq_true, true_or, or_true, if_true, if_false, and_self, and_true, true_and, and_false, false_and, or_self, or_false, false_or, decide_true, decide_false, Bool.false_eq_true, Bool.true_eq_false, bI_t, bI_f, grd, gM_1, gfs10, gfs0, gfs3, gfs5, gfs6, gfs9, gfs2, gfs7, gfs8, gfs1, q104_40, q104_42, q104_45, q104_48, q104_49, q104_50, q104_51, q104_53, q104_55, q104_58, q104_59, q104_60, q104_61, q104_64, q104_67, q104_70, q104_71, q104_72, q104_73, q104_75, q104_78, q104_79, q104_80, q104_81, q104_84, q104_85, q104_86, q104_87, q104_89, q104_92, q104_93, q104_94, q104_95, q104_98, x1, x2, h89]) (fun _ _ _ _ => trivial) (by
    intro a j _
    rw [q104_5]
    simp (disch := first | omega | (simp only [sgets, reduceIte, Nat.reduceEqDiff, h9]; done) | omega) only [cS_1, crd, z_pv_some, z_wv_some, z_cv_v, z_cv_n, cwr, sgets, rc_O, ia_n, fa_n, is_n, fs_n, ↓mI_eq, lits, nI_add, nLe, nLt, nE, mI_ne, mI_ne', mI_lt, mI_le, mI_nlt, mI_nle, ne_eq, mI_addC, pk_sub, pk_mul, pk_div, Nat.reduceEqDiff, Nat.reduceAdd, Nat.reduceMul, Nat.reduceSub, reduceIte, not_true_eq_false, not_false_eq_true, true_or, or_true, if_true, if_false, and_self, and_true, true_and, and_false, false_and, or_self, or_false, false_or, decide_true, decide_false, Bool.false_eq_true, Bool.true_eq_false, bI_t, bI_f, grd, gM_1, gfs10, gfs0, gfs3, gfs5, gfs6, gfs9, gfs2, gfs7, gfs8, gfs1, q104_7, q104_8, q104_11, q104_14, q104_17, q104_101, q104_102, Nat.le_refl, h9]) h0 none trivial
  rw [e104]
  refine Eq.trans ?_ lout.1
  simp (disch := first | omega | (simp only [sgets, reduceIte, Nat.reduceEqDiff]; done) | omega) only [cS_1, crd, z_pv_some, z_wv_some, z_cv_v, z_cv_n, cwr, sgets, rc_O, ia_n, fa_n, is_n, fs_n, ↓mI_eq, lits, nI_add, nLe, nLt, nE, mI_ne, mI_ne', mI_lt, mI_le, mI_nlt, mI_nle, ne_eq, mI_addC, pk_sub, pk_mul, pk_div, Nat.reduceEqDiff, Nat.reduceAdd, Nat.reduceMul, Nat.reduceSub, reduceIte, not_true_eq_false, not_false_eq_true, true_or, or_true, if_true, if_false, and_self, and_true, true_and, and_false, false_and, or_self, or_false, false_or, decide_true, decide_false, Bool.false_eq_true, Bool.true_eq_false, bI_t, bI_f, grd, gM_1, gfs10, gfs0, gfs3, gfs5, gfs6, gfs9, gfs2, gfs7, gfs8, gfs1, q104_0, q104_1, q104_2, q104_3]
theorem c105 (h : Rl c J S Hy B V Y) (h0 : Int64) : z_cl 105 [.ref n, .long h0] (gM M n V Vt U H T Hs) = some (some (.long (it (fun y h => it (dgS V y) B h) B h0)), gM M n V Vt U H T Hs) := by
  obtain ⟨hB, h8⟩ := h.1.2.2.2.1
  have hst := h.1.2.2.2.2.2.2.2.2.1
  have lout := lp_for (fun y (a : Int64) (j : Option Value × Option Value × Option Value × Option Value) => z_ex 105 M.1 5 [some (.ref n), some (.long h0), none, some (.long a), none, some (.int (nI y)), j.1, j.2.1, j.2.2.1, j.2.2.2] [] (gM M n V Vt U H T Hs)) (fun y h => it (dgS V y) B h) (fun _ _ => True) B (fun a => some (some (.long a), gM M n V Vt U H T Hs)) (by
    rintro y a ⟨j6, j7, j8, j9⟩ hy _
    have hy2 : ¬ B ≤ y := by omega
    obtain ⟨⟨⟨j7', j8', j9'⟩, lin⟩, -⟩ := lp_ex (fun x (a : Int64) (j : Option Value × Option Value × Option Value) => z_ex 105 M.1 23 [some (.ref n), some (.long h0), none, some (.long a), none, some (.int (nI y)), some (.int (nI x)), j.1, j.2.1, j.2.2] [] (gM M n V Vt U H T Hs)) (dgS V y) (fun _ _ => True) B (by
      rintro x a ⟨j7, j8, j9⟩ hx _
      have hx2 : ¬ B ≤ x := by omega
      have h68 : z_cl 68 [.ref (n + 1 + 2), .int (nI y), .int (nI x)] (gM M n V Vt U H T Hs) = some (some (.int (way V y x)), gM M n V Vt U H T Hs) := m68 _ (n + 1) V y x (by omega) (by omega)
      unfold dgS
      rcases way_lt V (show y < 8 by omega) (show x < 8 by omega) with hw | ⟨v, hv, hw⟩
      · rw [hw] at h68
        rw [if_pos hw]
        refine ⟨(some (.int mI), some (.int (nI 0)), some (.int (nI 0))), ?_⟩
        rw [q105_23]
        simp (disch := first | omega | (simp only [sgets, reduceIte, Nat.reduceEqDiff, h8, hx2]; done) | omega) only [cS_1, crd, z_pv_some, z_wv_some, z_cv_v, z_cv_n, cwr, sgets, rc_O, ia_n, fa_n, is_n, fs_n, ↓mI_eq, lits, nI_add, nLe, nLt, nE, mI_ne, mI_ne', mI_lt, mI_le, mI_nlt, mI_nle, ne_eq, mI_addC, pk_sub, pk_mul, pk_div, Nat.reduceEqDiff, Nat.reduceAdd, Nat.reduceMul, Nat.reduceSub, reduceIte, not_true_eq_false, not_false_eq_true, true_or, or_true, if_true, if_false, and_self, and_true, true_and, and_false, false_and, or_self, or_false, false_or, decide_true, decide_false, Bool.false_eq_true, Bool.true_eq_false, bI_t, bI_f, grd, gM_1, gfs10, gfs0, gfs3, gfs5, gfs6, gfs9, gfs2, gfs7, gfs8, gfs1, q105_25, q105_26, q105_29, q105_32, q105_35, q105_38, q105_39, q105_42, q105_45, q105_47, q105_49, q105_52, q105_54, q105_56, q105_57, q105_60, q105_61, q105_64, q105_65, q105_68, q105_71, q105_74, q105_76, q105_77, q105_79, q105_80, h68, q105_82, q105_84, q105_86, q105_121, q105_124, Nat.le_refl, h8, hx2]
      · rw [hw] at h68
        rw [hw, if_neg (by rw [mI_ne (by omega)]; exact not_false), nI_clamp (by omega)]
        obtain ⟨m, hm, hz, hs⟩ := hst v hv
        rw [hz, nI_clamp (by omega)]
        have lk := it_run (fun k (a : Int64) => z_ex 105 M.1 82 [some (.ref n), some (.long h0), none, some (.long a), none, some (.int (nI y)), some (.int (nI x)), some (.int (nI v)), some (.int (nI m)), some (.int (nI k))] [] (gM M n V Vt U H T Hs)) (fun k h => nt h (V.2.2.1 17 (v * 4 + k))) m a (by
          intro k a hk
          have hk2 : ¬ m ≤ k := by omega
          rw [q105_82]
          unfold nt
          simp (disch := first | omega | (simp only [sgets, reduceIte, Nat.reduceEqDiff, hk2]; done) | omega) only [cS_1, crd, z_pv_some, z_wv_some, z_cv_v, z_cv_n, cwr, sgets, rc_O, ia_n, fa_n, is_n, fs_n, ↓mI_eq, lits, nI_add, nLe, nLt, nE, mI_ne, mI_ne', mI_lt, mI_le, mI_nlt, mI_nle, ne_eq, mI_addC, pk_sub, pk_mul, pk_div, Nat.reduceEqDiff, Nat.reduceAdd, Nat.reduceMul, Nat.reduceSub, reduceIte, not_true_eq_false, not_false_eq_true, true_or, or_true, if_true, if_false, and_self, and_true, true_and, and_false, false_and, or_self, or_false, false_or, decide_true, decide_false, Bool.false_eq_true, Bool.true_eq_false, bI_t, bI_f, grd, gM_1, gfs10, gfs0, gfs3, gfs5, gfs6, gfs9, gfs2, gfs7, gfs8, gfs1, q105_84, q105_86, q105_89, q105_92, q105_93, q105_94, q105_95, q105_98, q105_101, q105_104, q105_106, q105_107, q105_108, q105_110, q105_111, q105_112, q105_113, q105_114, q105_115, q105_118, hk2])
        refine ⟨(some (.int (nI v)), some (.int (nI m)), some (.int (nI m))), ?_⟩
        rw [q105_23]
        refine Eq.trans ?_ (lk.trans ?_)
        · simp (disch := first | omega | (simp only [sgets, reduceIte, Nat.reduceEqDiff, h8, hx2, hz]; done) | omega) only [cS_1, crd, z_pv_some, z_wv_some, z_cv_v, z_cv_n, cwr, sgets, rc_O, ia_n, fa_n, is_n, fs_n, ↓mI_eq, lits, nI_add, nLe, nLt, nE, mI_ne, mI_ne', mI_lt, mI_le, mI_nlt, mI_nle, ne_eq, mI_addC, pk_sub, pk_mul, pk_div, Nat.reduceEqDiff, Nat.reduceAdd, Nat.reduceMul, Nat.reduceSub, reduceIte, not_true_eq_false, not_false_eq_true, true_or, or_true, if_true, if_false, and_self, and_true, true_and, and_false, false_and, or_self, or_false, false_or, decide_true, decide_false, Bool.false_eq_true, Bool.true_eq_false, bI_t, bI_f, grd, gM_1, gfs10, gfs0, gfs3, gfs5, gfs6, gfs9, gfs2, gfs7, gfs8, gfs1, q105_25, q105_26, q105_29, q105_32, q105_35, q105_38, q105_39, q105_42, q105_45, q105_47, q105_49, q105_52, q105_54, q105_56, q105_57, q105_60, q105_61, q105_64, q105_65, q105_68, q105_71, q105_74, q105_76, q105_77, q105_79, q105_80, h68, h8, hx2, hz]
        · rw [q105_82]
          simp (disch := first | omega | (simp only [sgets, reduceIte, Nat.reduceEqDiff]; done) | omega) only [cS_1, crd, z_pv_some, z_wv_some, z_cv_v, z_cv_n, cwr, sgets, rc_O, ia_n, fa_n, is_n, fs_n, ↓mI_eq, lits, nI_add, nLe, nLt, nE, mI_ne, mI_ne', mI_lt, mI_le, mI_nlt, mI_nle, ne_eq, mI_addC, pk_sub, pk_mul, pk_div, Nat.reduceEqDiff, Nat.reduceAdd, Nat.reduceMul, Nat.reduceSub, reduceIte, not_true_eq_false, not_false_eq_true, true_or, or_true, if_true, if_false, and_self, and_true, true_and, and_false, false_and, or_self, or_false, false_or, decide_true, decide_false, Bool.false_eq_true, Bool.true_eq_false, bI_t, bI_f, grd, gM_1, gfs10, gfs0, gfs3, gfs5, gfs6, gfs9, gfs2, gfs7, gfs8, gfs1, q105_84, q105_86, q105_121, q105_124, Nat.le_refl]) (fun _ _ _ _ => trivial) a (j7, j8, j9) trivial
    refine ⟨(some (.int (nI B)), j7', j8', j9'), ?_⟩
    rw [q105_5]
    refine Eq.trans ?_ (lin.trans ?_)
    · simp (disch := first | omega | (simp only [sgets, reduceIte, Nat.reduceEqDiff, h8, hy2]; done) | omega) only [cS_1, crd, z_pv_some, z_wv_some, z_cv_v, z_cv_n, cwr, sgets, rc_O, ia_n, fa_n, is_n, fs_n, ↓mI_eq, lits, nI_add, nLe, nLt, nE, mI_ne, mI_ne', mI_lt, mI_le, mI_nlt, mI_nle, ne_eq, mI_addC, pk_sub, pk_mul, pk_div, Nat.reduceEqDiff, Nat.reduceAdd, Nat.reduceMul, Nat.reduceSub, reduceIte, not_true_eq_false, not_false_eq_true, true_or, or_true, if_true, if_false, and_self, and_true, true_and, and_false, false_and, or_self, or_false, false_or, decide_true, decide_false, Bool.false_eq_true, Bool.true_eq_false, bI_t, bI_f, grd, gM_1, gfs10, gfs0, gfs3, gfs5, gfs6, gfs9, gfs2, gfs7, gfs8, gfs1, q105_7, q105_8, q105_11, q105_14, q105_17, q105_20, q105_21, h8, hy2]
    · rw [q105_23]
      simp (disch := first | omega | (simp only [sgets, reduceIte, Nat.reduceEqDiff, h8]; done) | omega) only [cS_1, crd, z_pv_some, z_wv_some, z_cv_v, z_cv_n, cwr, sgets, rc_O, ia_n, fa_n, is_n, fs_n, ↓mI_eq, lits, nI_add, nLe, nLt, nE, mI_ne, mI_ne', mI_lt, mI_le, mI_nlt, mI_nle, ne_eq, mI_addC, pk_sub, pk_mul, pk_div, Nat.reduceEqDiff, Nat.reduceAdd, Nat.reduceMul, Nat.reduceSub, reduceIte, not_true_eq_false, not_false_eq_true, true_or, or_true, if_true, if_false, and_self, and_true, true_and, and_false, false_and, or_self, or_false, false_or, decide_true, decide_false, Bool.false_eq_true, Bool.true_eq_false, bI_t, bI_f, grd, gM_1, gfs10, gfs0, gfs3, gfs5, gfs6, gfs9, gfs2, gfs7, gfs8, gfs1, q105_25, q105_26, q105_29, q105_32, q105_35, q105_127, q105_130, Nat.le_refl, h8]) (fun _ _ _ _ => trivial) (by
    rintro a ⟨j6, j7, j8, j9⟩ _
    rw [q105_5]
    simp (disch := first | omega | (simp only [sgets, reduceIte, Nat.reduceEqDiff, h8]; done) | omega) only [cS_1, crd, z_pv_some, z_wv_some, z_cv_v, z_cv_n, cwr, sgets, rc_O, ia_n, fa_n, is_n, fs_n, ↓mI_eq, lits, nI_add, nLe, nLt, nE, mI_ne, mI_ne', mI_lt, mI_le, mI_nlt, mI_nle, ne_eq, mI_addC, pk_sub, pk_mul, pk_div, Nat.reduceEqDiff, Nat.reduceAdd, Nat.reduceMul, Nat.reduceSub, reduceIte, not_true_eq_false, not_false_eq_true, true_or, or_true, if_true, if_false, and_self, and_true, true_and, and_false, false_and, or_self, or_false, false_or, decide_true, decide_false, Bool.false_eq_true, Bool.true_eq_false, bI_t, bI_f, grd, gM_1, gfs10, gfs0, gfs3, gfs5, gfs6, gfs9, gfs2, gfs7, gfs8, gfs1, q105_7, q105_8, q105_11, q105_14, q105_17, q105_133, q105_134, Nat.le_refl, h8]) h0 (none, none, none, none) trivial
  rw [e105]
  refine Eq.trans ?_ lout.1
  simp (disch := first | omega | (simp only [sgets, reduceIte, Nat.reduceEqDiff]; done) | omega) only [cS_1, crd, z_pv_some, z_wv_some, z_cv_v, z_cv_n, cwr, sgets, rc_O, ia_n, fa_n, is_n, fs_n, ↓mI_eq, lits, nI_add, nLe, nLt, nE, mI_ne, mI_ne', mI_lt, mI_le, mI_nlt, mI_nle, ne_eq, mI_addC, pk_sub, pk_mul, pk_div, Nat.reduceEqDiff, Nat.reduceAdd, Nat.reduceMul, Nat.reduceSub, reduceIte, not_true_eq_false, not_false_eq_true, true_or, or_true, if_true, if_false, and_self, and_true, true_and, and_false, false_and, or_self, or_false, false_or, decide_true, decide_false, Bool.false_eq_true, Bool.true_eq_false, bI_t, bI_f, grd, gM_1, gfs10, gfs0, gfs3, gfs5, gfs6, gfs9, gfs2, gfs7, gfs8, gfs1, q105_0, q105_1, q105_2, q105_3]
theorem c106 {N K : Nat} (hN : N < 30) (hK : K ≤ 30) (a1 : V.1 13 = nI N) (a2 : V.1 12 = nI K) (h0 : Int64) : z_cl 106 [.ref n, .long h0] (gM M n V Vt U H T Hs) = some (some (.long (it (dgE V N K) K h0)), gM M n V Vt U H T Hs) := by
  have lout := lp_for (fun j (a : Int64) (x : Option Value) => z_ex 106 M.1 16 [some (.ref n), some (.long h0), none, some (.long a), none, some (.int (if j < K then nI (K - 1 - j) else mI)), x] [] (gM M n V Vt U H T Hs)) (dgE V N K) (fun _ _ => True) K (fun a => some (some (.long a), gM M n V Vt U H T Hs)) (by
    intro j a x hj _
    have hi : ¬ K - 1 - j < 0 := by omega
    have c := fun k (hk : k ≤ 2) => c102 M n V Vt U H T Hs hN hK a1 a2 (show K - 1 - j < K by omega) hk
    rw [show N + 29 - (K - 1 - j) = N + 30 - K + j by omega] at c
    have lin := it_run (fun k (a : Int64) => z_ex 106 M.1 24 [some (.ref n), some (.long h0), none, some (.long a), none, some (.int (nI (K - 1 - j))), some (.int (nI k))] [] (gM M n V Vt U H T Hs)) (fun k h => nt h (V.2.2.1 (19 + k) ((N + 30 - K + j) % 30))) 3 a (by
      intro k a hk
      have hk2 : ¬ 2 < k := by omega
      have ck := c k (by omega)
      rw [q106_24]
      unfold nt
      simp (disch := first | omega | (simp only [sgets, reduceIte, Nat.reduceEqDiff, hk2]; done) | omega) only [cS_1, crd, z_pv_some, z_wv_some, z_cv_v, z_cv_n, cwr, sgets, rc_O, ia_n, fa_n, is_n, fs_n, ↓mI_eq, lits, nI_add, nLe, nLt, nE, mI_ne, mI_ne', mI_lt, mI_le, mI_nlt, mI_nle, ne_eq, mI_addC, pk_sub, pk_mul, pk_div, Nat.reduceEqDiff, Nat.reduceAdd, Nat.reduceMul, Nat.reduceSub, reduceIte, not_true_eq_false, not_false_eq_true, true_or, or_true, if_true, if_false, and_self, and_true, true_and, and_false, false_and, or_self, or_false, false_or, decide_true, decide_false, Bool.false_eq_true, Bool.true_eq_false, bI_t, bI_f, grd, gM_1, gfs10, gfs0, gfs3, gfs5, gfs6, gfs9, gfs2, gfs7, gfs8, gfs1, q106_26, q106_27, q106_30, q106_33, q106_34, q106_35, q106_36, q106_38, q106_40, q106_43, q106_44, q106_45, q106_46, q106_49, ck, hk2])
    refine ⟨some (.int (nI 3)), ?_⟩
    rw [if_pos hj, q106_16]
    refine Eq.trans ?_ (lin.trans ?_)
    · simp (disch := first | omega | (simp only [sgets, reduceIte, Nat.reduceEqDiff]; done) | omega) only [cS_1, crd, z_pv_some, z_wv_some, z_cv_v, z_cv_n, cwr, sgets, rc_O, ia_n, fa_n, is_n, fs_n, ↓mI_eq, lits, nI_add, nLe, nLt, nE, mI_ne, mI_ne', mI_lt, mI_le, mI_nlt, mI_nle, ne_eq, mI_addC, pk_sub, pk_mul, pk_div, Nat.reduceEqDiff, Nat.reduceAdd, Nat.reduceMul, Nat.reduceSub, reduceIte, not_true_eq_false, not_false_eq_true, true_or, or_true, if_true, if_false, and_self, and_true, true_and, and_false, false_and, or_self, or_false, false_or, decide_true, decide_false, Bool.false_eq_true, Bool.true_eq_false, bI_t, bI_f, grd, gM_1, gfs10, gfs0, gfs3, gfs5, gfs6, gfs9, gfs2, gfs7, gfs8, gfs1, q106_18, q106_21, q106_22, Nat.not_lt_zero]
    · have h23 : (2 : Nat) < 3 := by omega
      rw [q106_24]
      by_cases hl : j + 1 < K
      · rw [if_pos hl]
        have hpos : 0 < K - 1 - j := by omega
        have he : K - 1 - j - 1 = K - 1 - (j + 1) := by omega
        simp (disch := first | omega | (simp only [sgets, reduceIte, Nat.reduceEqDiff, h23, hpos, he]; done) | omega) only [cS_1, crd, z_pv_some, z_wv_some, z_cv_v, z_cv_n, cwr, sgets, rc_O, ia_n, fa_n, is_n, fs_n, ↓mI_eq, lits, nI_add, nLe, nLt, nE, mI_ne, mI_ne', mI_lt, mI_le, mI_nlt, mI_nle, ne_eq, mI_addC, pk_sub, pk_mul, pk_div, Nat.reduceEqDiff, Nat.reduceAdd, Nat.reduceMul, Nat.reduceSub, reduceIte, not_true_eq_false, not_false_eq_true, true_or, or_true, if_true, if_false, and_self, and_true, true_and, and_false, false_and, or_self, or_false, false_or, decide_true, decide_false, Bool.false_eq_true, Bool.true_eq_false, bI_t, bI_f, grd, gM_1, gfs10, gfs0, gfs3, gfs5, gfs6, gfs9, gfs2, gfs7, gfs8, gfs1, q106_26, q106_27, q106_52, q106_55, h23, hpos, he]
        rfl
      · rw [if_neg hl]
        have he : K - 1 - j = 0 := by omega
        have hm : nI 0 + mI = mI := by decide
        simp (disch := first | omega | (simp only [sgets, reduceIte, Nat.reduceEqDiff, h23, he]; done) | omega) only [cS_1, crd, z_pv_some, z_wv_some, z_cv_v, z_cv_n, cwr, sgets, rc_O, ia_n, fa_n, is_n, fs_n, ↓mI_eq, lits, nI_add, nLe, nLt, nE, mI_ne, mI_ne', mI_lt, mI_le, mI_nlt, mI_nle, ne_eq, mI_addC, pk_sub, pk_mul, pk_div, Nat.reduceEqDiff, Nat.reduceAdd, Nat.reduceMul, Nat.reduceSub, reduceIte, not_true_eq_false, not_false_eq_true, true_or, or_true, if_true, if_false, and_self, and_true, true_and, and_false, false_and, or_self, or_false, false_or, decide_true, decide_false, Bool.false_eq_true, Bool.true_eq_false, bI_t, bI_f, grd, gM_1, gfs10, gfs0, gfs3, gfs5, gfs6, gfs9, gfs2, gfs7, gfs8, gfs1, q106_26, q106_27, q106_52, q106_55, hm, h23, he]
        rfl) (fun _ _ _ _ => trivial) (by
    intro a x _
    have hm : mI < nI 0 := by decide
    rw [if_neg (Nat.lt_irrefl _), q106_16]
    simp (disch := first | omega | (simp only [sgets, reduceIte, Nat.reduceEqDiff, hm]; done) | omega) only [cS_1, crd, z_pv_some, z_wv_some, z_cv_v, z_cv_n, cwr, sgets, rc_O, ia_n, fa_n, is_n, fs_n, ↓mI_eq, lits, nI_add, nLe, nLt, nE, mI_ne, mI_ne', mI_lt, mI_le, mI_nlt, mI_nle, ne_eq, mI_addC, pk_sub, pk_mul, pk_div, Nat.reduceEqDiff, Nat.reduceAdd, Nat.reduceMul, Nat.reduceSub, reduceIte, not_true_eq_false, not_false_eq_true, true_or, or_true, if_true, if_false, and_self, and_true, true_and, and_false, false_and, or_self, or_false, false_or, decide_true, decide_false, Bool.false_eq_true, Bool.true_eq_false, bI_t, bI_f, grd, gM_1, gfs10, gfs0, gfs3, gfs5, gfs6, gfs9, gfs2, gfs7, gfs8, gfs1, q106_18, q106_58, q106_59, hm]) h0 none trivial
  rw [e106]
  refine Eq.trans ?_ lout.1
  by_cases hK0 : K = 0
  · subst hK0
    have hm : nI 0 - nI 1 = mI := by decide
    rw [if_neg (by omega)]
    simp (disch := first | omega | (simp only [sgets, reduceIte, Nat.reduceEqDiff, a2]; done) | omega) only [cS_1, crd, z_pv_some, z_wv_some, z_cv_v, z_cv_n, cwr, sgets, rc_O, ia_n, fa_n, is_n, fs_n, ↓mI_eq, lits, nI_add, nLe, nLt, nE, mI_ne, mI_ne', mI_lt, mI_le, mI_nlt, mI_nle, ne_eq, mI_addC, pk_sub, pk_mul, pk_div, Nat.reduceEqDiff, Nat.reduceAdd, Nat.reduceMul, Nat.reduceSub, reduceIte, not_true_eq_false, not_false_eq_true, true_or, or_true, if_true, if_false, and_self, and_true, true_and, and_false, false_and, or_self, or_false, false_or, decide_true, decide_false, Bool.false_eq_true, Bool.true_eq_false, bI_t, bI_f, grd, gM_1, gfs10, gfs0, gfs3, gfs5, gfs6, gfs9, gfs2, gfs7, gfs8, gfs1, q106_0, q106_1, q106_2, q106_3, q106_6, q106_9, q106_12, q106_13, q106_14, hm, a2]
  · have h1 : 1 ≤ K := by omega
    rw [if_pos (by omega), Nat.sub_zero]
    simp (disch := first | omega | (simp only [sgets, reduceIte, Nat.reduceEqDiff, a2, h1]; done) | omega) only [cS_1, crd, z_pv_some, z_wv_some, z_cv_v, z_cv_n, cwr, sgets, rc_O, ia_n, fa_n, is_n, fs_n, ↓mI_eq, lits, nI_add, nLe, nLt, nE, mI_ne, mI_ne', mI_lt, mI_le, mI_nlt, mI_nle, ne_eq, mI_addC, pk_sub, pk_mul, pk_div, Nat.reduceEqDiff, Nat.reduceAdd, Nat.reduceMul, Nat.reduceSub, reduceIte, not_true_eq_false, not_false_eq_true, true_or, or_true, if_true, if_false, and_self, and_true, true_and, and_false, false_and, or_self, or_false, false_or, decide_true, decide_false, Bool.false_eq_true, Bool.true_eq_false, bI_t, bI_f, grd, gM_1, gfs10, gfs0, gfs3, gfs5, gfs6, gfs9, gfs2, gfs7, gfs8, gfs1, q106_0, q106_1, q106_2, q106_3, q106_6, q106_9, q106_12, q106_13, q106_14, a2, h1]
theorem c103 (h : Rl c J S Hy B V Y) (hd : hdOk V) {N K : Nat} (hN : N < 30) (hK : K ≤ 30) (a1 : V.1 13 = nI N) (a2 : V.1 12 = nI K) : z_cl 103 [.ref n] (gM M n V Vt U H T Hs) = some (some (.long (dgA V J B N K)), gM M n V Vt U H T Hs) := by
  have l1 := it_run (fun k (a : Int64) => z_ex 103 M.1 6 [some (.ref n), some (.long a), none, some (.int (nI k))] [] (gM M n V Vt U H T Hs)) (fun k h => nt h (cntA V k)) 7 17 (by
    intro k a hk
    have hk2 : ¬ 6 < k := by omega
    have ck := c91 M n V Vt U H T Hs (show k ≤ 6 by omega)
    rw [q103_6]
    unfold nt
    simp (disch := first | omega | (simp only [sgets, reduceIte, Nat.reduceEqDiff, hk2]; done) | omega) only [cS_1, crd, z_pv_some, z_wv_some, z_cv_v, z_cv_n, cwr, sgets, rc_O, ia_n, fa_n, is_n, fs_n, ↓mI_eq, lits, nI_add, nLe, nLt, nE, mI_ne, mI_ne', mI_lt, mI_le, mI_nlt, mI_nle, ne_eq, mI_addC, pk_sub, pk_mul, pk_div, Nat.reduceEqDiff, Nat.reduceAdd, Nat.reduceMul, Nat.reduceSub, reduceIte, not_true_eq_false, not_false_eq_true, true_or, or_true, if_true, if_false, and_self, and_true, true_and, and_false, false_and, or_self, or_false, false_or, decide_true, decide_false, Bool.false_eq_true, Bool.true_eq_false, bI_t, bI_f, grd, gM_1, gfs10, gfs0, gfs3, gfs5, gfs6, gfs9, gfs2, gfs7, gfs8, gfs1, q103_7, q103_9, q103_12, q103_15, q103_16, q103_17, q103_18, q103_19, q103_22, q103_23, q103_24, q103_25, q103_28, ck, hk2])
  have p1 := c104 M n V Vt U H T Hs h hd (dgC V 17)
  have p2 := c105 M n V Vt U H T Hs h (it (dgP V) J (dgC V 17))
  have p3 := c106 M n V Vt U H T Hs hN hK a1 a2 (it (fun y h => it (dgS V y) B h) B (it (dgP V) J (dgC V 17)))
  rw [e103]
  refine Eq.trans ?_ (l1.trans ?_)
  · simp (disch := first | omega | (simp only [sgets, reduceIte, Nat.reduceEqDiff]; done) | omega) only [cS_1, crd, z_pv_some, z_wv_some, z_cv_v, z_cv_n, cwr, sgets, rc_O, ia_n, fa_n, is_n, fs_n, ↓mI_eq, lits, nI_add, nLe, nLt, nE, mI_ne, mI_ne', mI_lt, mI_le, mI_nlt, mI_nle, ne_eq, mI_addC, pk_sub, pk_mul, pk_div, Nat.reduceEqDiff, Nat.reduceAdd, Nat.reduceMul, Nat.reduceSub, reduceIte, not_true_eq_false, not_false_eq_true, true_or, or_true, if_true, if_false, and_self, and_true, true_and, and_false, false_and, or_self, or_false, false_or, decide_true, decide_false, Bool.false_eq_true, Bool.true_eq_false, bI_t, bI_f, grd, gM_1, gfs10, gfs0, gfs3, gfs5, gfs6, gfs9, gfs2, gfs7, gfs8, gfs1, q103_0, q103_3, q103_4, q103_5]
  · have ed : it (fun k h => nt h (cntA V k)) 7 17 = dgC V 17 := rfl
    have h67 : (6 : Nat) < 7 := by omega
    rw [ed, q103_6]
    simp (disch := first | omega | (simp only [sgets, reduceIte, Nat.reduceEqDiff, h67]; done) | omega) only [cS_1, crd, z_pv_some, z_wv_some, z_cv_v, z_cv_n, cwr, sgets, rc_O, ia_n, fa_n, is_n, fs_n, ↓mI_eq, lits, nI_add, nLe, nLt, nE, mI_ne, mI_ne', mI_lt, mI_le, mI_nlt, mI_nle, ne_eq, mI_addC, pk_sub, pk_mul, pk_div, Nat.reduceEqDiff, Nat.reduceAdd, Nat.reduceMul, Nat.reduceSub, reduceIte, not_true_eq_false, not_false_eq_true, true_or, or_true, if_true, if_false, and_self, and_true, true_and, and_false, false_and, or_self, or_false, false_or, decide_true, decide_false, Bool.false_eq_true, Bool.true_eq_false, bI_t, bI_f, grd, gM_1, gfs10, gfs0, gfs3, gfs5, gfs6, gfs9, gfs2, gfs7, gfs8, gfs1, q103_7, q103_9, q103_31, q103_32, q103_33, q103_34, q103_35, q103_38, q103_41, q103_44, p1, p2, p3, h67]
    rfl
end
