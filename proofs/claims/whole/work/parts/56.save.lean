/-! the model's saved states -/
theorem dw_cI {Y : z_V} {a b : Nat} (h : 971 ≤ b) : sA (dec Y) 0 (cpI (enc Y) a b 971) = dec (sA Y 23 (cpI (enc Y) a b 971)) := by
  refine dw_A0 _ _ _ (funext fun j => ?_) (fun _ _ => rfl) (fun c hc => by simp only [sgets, show c ≠ 23 by omega, if_false]) rfl
  by_cases c : j < 971
  · have e : cpI (enc Y) a b 971 j = enc Y j := by unfold cpI; rw [if_neg (by omega)]
    rw [e]
    unfold enc
    simp only [sgets, Nat.reduceEqDiff, if_false, c, if_true, show ¬ (j - 13) % 4 = 23 by omega, show ¬ 4 + (j - 45) % 13 = 23 by omega, show ¬ 17 + (j - 305) % 3 = 23 by omega]
  · have e : enc (sA Y 23 (cpI (enc Y) a b 971)) j = cpI (enc Y) a b 971 j := by
      rw [enc.eq_def]
      rw [if_neg (by omega), if_neg (by omega), if_neg (by omega), if_neg (by omega), if_neg (by omega)]
      simp only [sgets, if_true]
    exact e.symm
theorem dw_cF {Y : z_V} {a b : Nat} (h : 296 ≤ b) : sF (dec Y) 0 (cpF (encF Y) a b 296) = dec (sF Y 3 (cpF (encF Y) a b 296)) := by
  refine dw_F0 _ _ _ (funext fun j => ?_) rfl rfl (fun c hc => by simp only [sgets, show c ≠ 3 by omega, if_false])
  by_cases c : j < 296
  · have e : cpF (encF Y) a b 296 j = encF Y j := by unfold cpF; rw [if_neg (by omega)]
    rw [e]
    unfold encF
    simp only [sgets, Nat.reduceEqDiff, if_false, c, if_true]
  · have e : encF (sF Y 3 (cpF (encF Y) a b 296)) j = cpF (encF Y) a b 296 j := by
      rw [encF.eq_def]
      rw [if_neg (by omega), if_neg (by omega), if_neg (by omega)]
      simp only [sgets, if_true]
    exact e.symm
/-- state a copied to the place of state b -/
def cpY (Y : z_V) (a b : Nat) : z_V := sF (sA Y 23 (cpI (enc Y) (971 * a) (971 * b) 971)) 3 (cpF (encF Y) (296 * a) (296 * b) 296)
theorem m112y (M : z_M) (o : Nat) (Y : z_V) (w : Int64) (a b : Nat) (ha : a < 7) (hb : b < 7) (h0 : 0 < b) (h : a ≠ b) : z_cl 112 [.ref o, .int (nI (971 * a)), .int (nI (971 * b)), .int (nI (296 * a)), .int (nI (296 * b))] (yS M o Y w) = some (none, yS M o (cpY Y a b) w) := by
  rw [m112 M o (dec Y) w _ _ _ _ (by omega) (by omega) (by omega) (by omega) (by omega) (by omega), dec_A0, dec_F0, dw_cI (by omega)]
  unfold cpY
  have e := dw_cF (Y := sA Y 23 (cpI (enc Y) (971 * a) (971 * b) 971)) (a := 296 * a) (b := 296 * b) (by omega)
  rw [encF_kp (Y := sA Y 23 (cpI (enc Y) (971 * a) (971 * b) 971)) (Z := Y) (fun _ _ => rfl)] at e
  rw [e]
/-- the state k is Z -/
def hol (Y : z_V) (k : Nat) (Z : z_V) : Prop := (∀ i, i < 971 → enc Y (971 * k + i) = enc Z i) ∧ ∀ i, i < 296 → encF Y (296 * k + i) = encF Z i
theorem hol_0 (Y : z_V) : hol Y 0 Y := ⟨fun i _ => by rw [Nat.mul_zero, Nat.zero_add], fun i _ => by rw [Nat.mul_zero, Nat.zero_add]⟩
theorem enc_rest {Y : z_V} {i : Nat} (h : 971 ≤ i) : enc Y i = Y.2.2.1 23 i := by
  unfold enc
  rw [if_neg (by omega), if_neg (by omega), if_neg (by omega), if_neg (by omega), if_neg (by omega)]
theorem encF_rest {Y : z_V} {i : Nat} (h : 296 ≤ i) : encF Y i = Y.2.2.2 3 i := by
  unfold encF
  rw [if_neg (by omega), if_neg (by omega), if_neg (by omega)]
theorem enc_cp {Y : z_V} {a b : Nat} (hb : 0 < b) : enc (cpY Y a b) = cpI (enc Y) (971 * a) (971 * b) 971 := by
  funext j
  by_cases c : j < 971
  · have e : cpI (enc Y) (971 * a) (971 * b) 971 j = enc Y j := by unfold cpI; rw [if_neg (by omega)]
    rw [e]
    unfold enc cpY
    simp only [sgets, Nat.reduceEqDiff, if_false, c, if_true, show ¬ (j - 13) % 4 = 23 by omega, show ¬ 4 + (j - 45) % 13 = 23 by omega, show ¬ 17 + (j - 305) % 3 = 23 by omega]
  · rw [enc_rest (by omega)]
    unfold cpY
    simp only [sgets, if_true]
theorem encF_cp {Y : z_V} {a b : Nat} (hb : 0 < b) : encF (cpY Y a b) = cpF (encF Y) (296 * a) (296 * b) 296 := by
  funext j
  by_cases c : j < 296
  · have e : cpF (encF Y) (296 * a) (296 * b) 296 j = encF Y j := by unfold cpF; rw [if_neg (by omega)]
    rw [e]
    unfold encF cpY
    simp only [sgets, Nat.reduceEqDiff, if_false, c, if_true]
  · rw [encF_rest (by omega)]
    unfold cpY
    simp only [sgets, if_true]
theorem hol_cp1 {Y Z : z_V} {a b : Nat} (hb : 0 < b) (h : hol Y a Z) : hol (cpY Y a b) b Z := by
  refine ⟨fun i hi => ?_, fun i hi => ?_⟩
  · rw [enc_cp hb]
    unfold cpI
    rw [if_pos (by omega), Nat.add_sub_cancel_left]
    exact h.1 i hi
  · rw [encF_cp hb]
    unfold cpF
    rw [if_pos (by omega), Nat.add_sub_cancel_left]
    exact h.2 i hi
theorem hol_cp2 {Y Z : z_V} {a b k : Nat} (hb : 0 < b) (hk : k ≠ b) (h : hol Y k Z) : hol (cpY Y a b) k Z := by
  refine ⟨fun i hi => ?_, fun i hi => ?_⟩
  · rw [enc_cp hb]
    unfold cpI
    rw [if_neg (by omega)]
    exact h.1 i hi
  · rw [encF_cp hb]
    unfold cpF
    rw [if_neg (by omega)]
    exact h.2 i hi
/-- what stands elsewhere than in the saved states stays -/
def kV (Y Z : z_V) : Prop := (∀ i, i ≠ 13 → Z.1 i = Y.1 i) ∧ (∀ a, a ≠ 23 → Z.2.2.1 a = Y.2.2.1 a) ∧ ∀ a, a ≠ 3 → Z.2.2.2 a = Y.2.2.2 a
theorem kV.rf (Y : z_V) : kV Y Y := ⟨fun _ _ => rfl, fun _ _ => rfl, fun _ _ => rfl⟩
theorem kV.tr {Y Z W : z_V} (h1 : kV Y Z) (h2 : kV Z W) : kV Y W := ⟨fun i h => (h2.1 i h).trans (h1.1 i h), fun i h => (h2.2.1 i h).trans (h1.2.1 i h), fun i h => (h2.2.2 i h).trans (h1.2.2 i h)⟩
theorem kV_cp (Y : z_V) (a b : Nat) : kV Y (cpY Y a b) := ⟨fun _ _ => rfl, fun i h => by unfold cpY; simp only [sgets, h, if_false], fun i h => by unfold cpY; simp only [sgets, h, if_false]⟩
theorem kV_s (Y : z_V) (x : Int32) : kV Y (sS Y 13 x) := ⟨fun i h => by simp only [sgets, h, if_false], fun _ _ => rfl, fun _ _ => rfl⟩
def shS (Y : z_V) : z_V := it (fun k Z => cpY Z (k + 2) (k + 1)) 4 Y
/-- saves -/
def svY (Y : z_V) : z_V := if Y.1 14 = nI 0 then (if nV Y 13 = 5 then cpY (sS (shS Y) 13 (nI 5)) 0 5 else cpY (sS Y 13 (nI (nV Y 13 + 1))) 0 (nV Y 13 + 1)) else Y
theorem sS_sS' (V : z_V) (i : Nat) (x y : Int32) : sS (sS V i x) i y = sS V i y := sS_sS V i x y
theorem shS_13 (Y : z_V) : (shS Y).1 = Y.1 := rfl
theorem hol_s {Y Z : z_V} {k : Nat} {x : Int32} (h : hol Y k Z) : hol (sS Y 13 x) k Z := by
  refine ⟨fun i hi => ?_, h.2⟩
  rw [show enc (sS Y 13 x) = enc Y from enc_kp (fun j hj => by simp only [sgets, show j ≠ 13 by omega, if_false]) (fun _ _ => rfl)]
  exact h.1 i hi
theorem m111 (M : z_M) (o : Nat) (Y : z_V) (w : Int64) (s : Nat) (hs : s ≤ 5) (h : Y.1 13 = nI s) : z_cl 111 [.ref o] (yS M o Y w) = some (none, yS M o (svY Y) w) := by
  rw [e111]
  have hn := nV_of h (by omega)
  unfold svY
  by_cases hq : Y.1 14 = nI 0
  · have tail : ∀ (Z : z_V) (j : Option Value), Z.1 13 = nI s → z_ex 111 M.1 57 [some (.ref o), j] [] (yS M o Z w) = some (none, yS M o (if s = 5 then cpY (sS Z 13 (nI 5)) 0 5 else cpY (sS Z 13 (nI (s + 1))) 0 (s + 1)) w) := by
      intro Z j hz
      by_cases c : s = 5
      · subst c
        have hc := m112y M o (sS Z 13 (nI 5)) w 0 5 (by omega) (by omega) (by omega) (by omega)
        simp (disch := first | omega | (simp only [sgets, reduceIte, Nat.reduceEqDiff, hz, dec_S, Nat.reduceAdd]; done) | omega) only [cS_1, crd, z_pv_some, z_wv_some, z_cv_v, z_cv_n, cwr, sgets, rc_O, ia_n, fa_n, is_n, fs_n, ↓mI_eq, lits, nI_add, nLe, nLt, nE, mI_ne, mI_ne', mI_lt, mI_le, mI_nlt, mI_nle, ne_eq, mI_addC, pk_sub, pk_mul, pk_div, Nat.reduceEqDiff, Nat.reduceAdd, Nat.reduceMul, Nat.reduceSub, reduceIte, not_true_eq_false, not_false_eq_true, true_or, or_true, if_true, if_false, and_self, and_true, true_and, and_false, false_and, or_self, or_false, false_or, decide_true, decide_false, Bool.false_eq_true, Bool.true_eq_false, bI_t, bI_f, oS_1, ord, owA0, owF0, owF1, owA1, owF2, owA2, owF3, owA3, ywo, gfs11, pfs11, yrd, ywr, q111_57, q111_58, q111_59, q111_62, q111_63, q111_66, q111_67, q111_70, q111_71, q111_74, q111_75, q111_76, q111_79, q111_80, q111_81, q111_84, q111_85, q111_86, q111_89, q111_90, q111_91, q111_94, q111_95, q111_98, q111_99, q111_100, q111_103, q111_104, q111_107, q111_108, q111_111, sS_sS, hc, hz, dec_S, Nat.reduceAdd]
      · have hc := m112y M o (sS Z 13 (nI (s + 1))) w 0 (s + 1) (by omega) (by omega) (by omega) (by omega)
        simp (disch := first | omega | (simp only [sgets, reduceIte, Nat.reduceEqDiff, hz, c, dec_S, Nat.reduceAdd]; done) | omega) only [cS_1, crd, z_pv_some, z_wv_some, z_cv_v, z_cv_n, cwr, sgets, rc_O, ia_n, fa_n, is_n, fs_n, ↓mI_eq, lits, nI_add, nLe, nLt, nE, mI_ne, mI_ne', mI_lt, mI_le, mI_nlt, mI_nle, ne_eq, mI_addC, pk_sub, pk_mul, pk_div, Nat.reduceEqDiff, Nat.reduceAdd, Nat.reduceMul, Nat.reduceSub, reduceIte, not_true_eq_false, not_false_eq_true, true_or, or_true, if_true, if_false, and_self, and_true, true_and, and_false, false_and, or_self, or_false, false_or, decide_true, decide_false, Bool.false_eq_true, Bool.true_eq_false, bI_t, bI_f, oS_1, ord, owA0, owF0, owF1, owA1, owF2, owA2, owF3, owA3, ywo, gfs11, pfs11, yrd, ywr, q111_57, q111_58, q111_59, q111_62, q111_63, q111_66, q111_67, q111_70, q111_71, q111_74, q111_75, q111_76, q111_79, q111_80, q111_81, q111_84, q111_85, q111_86, q111_89, q111_90, q111_91, q111_94, q111_95, q111_98, q111_99, q111_100, q111_103, q111_104, q111_107, q111_108, q111_111, sS_sS, hc, Nat.sub_zero, hz, c, dec_S, Nat.reduceAdd]
    by_cases c : s = 5
    · subst c
      simp only [hn, if_true, hq]
      simp (disch := first | omega | (simp only [sgets, reduceIte, Nat.reduceEqDiff, hq, dec_S, Nat.reduceAdd]; done) | omega) only [cS_1, crd, z_pv_some, z_wv_some, z_cv_v, z_cv_n, cwr, sgets, rc_O, ia_n, fa_n, is_n, fs_n, ↓mI_eq, lits, nI_add, nLe, nLt, nE, mI_ne, mI_ne', mI_lt, mI_le, mI_nlt, mI_nle, ne_eq, mI_addC, pk_sub, pk_mul, pk_div, Nat.reduceEqDiff, Nat.reduceAdd, Nat.reduceMul, Nat.reduceSub, reduceIte, not_true_eq_false, not_false_eq_true, true_or, or_true, if_true, if_false, and_self, and_true, true_and, and_false, false_and, or_self, or_false, false_or, decide_true, decide_false, Bool.false_eq_true, Bool.true_eq_false, bI_t, bI_f, oS_1, ord, owA0, owF0, owF1, owA1, owF2, owA2, owF3, owA3, ywo, gfs11, pfs11, yrd, ywr, b111, hq, dec_S, Nat.reduceAdd]
      have hl := it_for (fun k (Z : z_V) => z_ex 111 M.1 10 [some (.ref o), some (.int (nI (k + 1)))] [] (yS M o Z w)) (fun k Z => cpY Z (k + 2) (k + 1)) (fun _ Z => Z.1 = Y.1) 4 (by
        intro k Z hk hZ
        have hc := m112y M o Z w (k + 2) (k + 1) (by omega) (by omega) (by omega) (by omega)
        have hk2 : ¬ 5 ≤ k + 1 := by omega
        have h13 : Z.1 13 = nI 5 := by rw [hZ]; exact h
        refine ⟨?_, hZ⟩
        rw [q111_10]
        simp (disch := first | omega | (simp only [sgets, reduceIte, Nat.reduceEqDiff, hk2, h13, dec_S, Nat.reduceAdd]; done) | omega) only [cS_1, crd, z_pv_some, z_wv_some, z_cv_v, z_cv_n, cwr, sgets, rc_O, ia_n, fa_n, is_n, fs_n, ↓mI_eq, lits, nI_add, nLe, nLt, nE, mI_ne, mI_ne', mI_lt, mI_le, mI_nlt, mI_nle, ne_eq, mI_addC, pk_sub, pk_mul, pk_div, Nat.reduceEqDiff, Nat.reduceAdd, Nat.reduceMul, Nat.reduceSub, reduceIte, not_true_eq_false, not_false_eq_true, true_or, or_true, if_true, if_false, and_self, and_true, true_and, and_false, false_and, or_self, or_false, false_or, decide_true, decide_false, Bool.false_eq_true, Bool.true_eq_false, bI_t, bI_f, oS_1, ord, owA0, owF0, owF1, owA1, owF2, owA2, owF3, owA3, ywo, gfs11, pfs11, yrd, ywr, q111_11, q111_12, q111_15, q111_16, q111_19, q111_20, q111_23, q111_24, q111_27, q111_28, q111_29, q111_30, q111_31, q111_34, q111_35, q111_36, q111_39, q111_40, q111_41, q111_42, q111_43, q111_46, q111_47, q111_48, q111_51, q111_54, hc, Nat.add_assoc, hk2, h13, dec_S, Nat.reduceAdd]) Y rfl 4 (by omega)
      simp only [Nat.zero_add] at hl
      refine hl.1.trans ?_
      rw [q111_10]
      have ht := tail (shS Y) (some (.int (nI 5))) h
      unfold shS at ht ⊢
      simp (disch := first | omega | (simp only [sgets, reduceIte, Nat.reduceEqDiff, dec_S, Nat.reduceAdd]; done) | omega) only [cS_1, crd, z_pv_some, z_wv_some, z_cv_v, z_cv_n, cwr, sgets, rc_O, ia_n, fa_n, is_n, fs_n, ↓mI_eq, lits, nI_add, nLe, nLt, nE, mI_ne, mI_ne', mI_lt, mI_le, mI_nlt, mI_nle, ne_eq, mI_addC, pk_sub, pk_mul, pk_div, Nat.reduceEqDiff, Nat.reduceAdd, Nat.reduceMul, Nat.reduceSub, reduceIte, not_true_eq_false, not_false_eq_true, true_or, or_true, if_true, if_false, and_self, and_true, true_and, and_false, false_and, or_self, or_false, false_or, decide_true, decide_false, Bool.false_eq_true, Bool.true_eq_false, bI_t, bI_f, oS_1, ord, owA0, owF0, owF1, owA1, owF2, owA2, owF3, owA3, ywo, gfs11, pfs11, yrd, ywr, q111_11, q111_12, q111_15, q111_16, q111_19, q111_20, q111_23, q111_24, q111_27, q111_28, q111_29, q111_30, q111_31, q111_34, q111_35, q111_36, q111_39, q111_40, q111_41, q111_42, q111_43, q111_46, q111_47, q111_48, q111_51, q111_54, ht, Nat.le_refl, dec_S, Nat.reduceAdd]
    · simp only [hn, if_true, hq, c, if_false]
      have ht := tail Y (some (.int (nI 1))) h
      simp only [c, if_false] at ht
      simp (disch := first | omega | (simp only [sgets, reduceIte, Nat.reduceEqDiff, hq, dec_S, Nat.reduceAdd]; done) | omega) only [cS_1, crd, z_pv_some, z_wv_some, z_cv_v, z_cv_n, cwr, sgets, rc_O, ia_n, fa_n, is_n, fs_n, ↓mI_eq, lits, nI_add, nLe, nLt, nE, mI_ne, mI_ne', mI_lt, mI_le, mI_nlt, mI_nle, ne_eq, mI_addC, pk_sub, pk_mul, pk_div, Nat.reduceEqDiff, Nat.reduceAdd, Nat.reduceMul, Nat.reduceSub, reduceIte, not_true_eq_false, not_false_eq_true, true_or, or_true, if_true, if_false, and_self, and_true, true_and, and_false, false_and, or_self, or_false, false_or, decide_true, decide_false, Bool.false_eq_true, Bool.true_eq_false, bI_t, bI_f, oS_1, ord, owA0, owF0, owF1, owA1, owF2, owA2, owF3, owA3, ywo, gfs11, pfs11, yrd, ywr, b111, hq, dec_S, Nat.reduceAdd]
      rw [q111_10]
      simp (disch := first | omega | (simp only [sgets, reduceIte, Nat.reduceEqDiff, h, c, dec_S, Nat.reduceAdd]; done) | omega) only [cS_1, crd, z_pv_some, z_wv_some, z_cv_v, z_cv_n, cwr, sgets, rc_O, ia_n, fa_n, is_n, fs_n, ↓mI_eq, lits, nI_add, nLe, nLt, nE, mI_ne, mI_ne', mI_lt, mI_le, mI_nlt, mI_nle, ne_eq, mI_addC, pk_sub, pk_mul, pk_div, Nat.reduceEqDiff, Nat.reduceAdd, Nat.reduceMul, Nat.reduceSub, reduceIte, not_true_eq_false, not_false_eq_true, true_or, or_true, if_true, if_false, and_self, and_true, true_and, and_false, false_and, or_self, or_false, false_or, decide_true, decide_false, Bool.false_eq_true, Bool.true_eq_false, bI_t, bI_f, oS_1, ord, owA0, owF0, owF1, owA1, owF2, owA2, owF3, owA3, ywo, gfs11, pfs11, yrd, ywr, q111_11, q111_12, q111_15, q111_16, q111_19, q111_20, q111_23, q111_24, q111_27, q111_28, q111_29, q111_30, q111_31, q111_34, q111_35, q111_36, q111_39, q111_40, q111_41, q111_42, q111_43, q111_46, q111_47, q111_48, q111_51, q111_54, ht, h, c, dec_S, Nat.reduceAdd]
      rw [if_same]
  · rw [if_neg hq]
    simp (disch := first | omega | (simp only [sgets, reduceIte, Nat.reduceEqDiff, hq, dec_S, Nat.reduceAdd]; done) | omega) only [cS_1, crd, z_pv_some, z_wv_some, z_cv_v, z_cv_n, cwr, sgets, rc_O, ia_n, fa_n, is_n, fs_n, ↓mI_eq, lits, nI_add, nLe, nLt, nE, mI_ne, mI_ne', mI_lt, mI_le, mI_nlt, mI_nle, ne_eq, mI_addC, pk_sub, pk_mul, pk_div, Nat.reduceEqDiff, Nat.reduceAdd, Nat.reduceMul, Nat.reduceSub, reduceIte, not_true_eq_false, not_false_eq_true, true_or, or_true, if_true, if_false, and_self, and_true, true_and, and_false, false_and, or_self, or_false, false_or, decide_true, decide_false, Bool.false_eq_true, Bool.true_eq_false, bI_t, bI_f, oS_1, ord, owA0, owF0, owF1, owA1, owF2, owA2, owF3, owA3, ywo, gfs11, pfs11, yrd, ywr, b111, hq, dec_S, Nat.reduceAdd]
theorem sv_kV {Y : z_V} : kV Y (svY Y) := by
  unfold svY
  split
  · split
    · have k0 : ∀ n, kV Y (it (fun k Z => cpY Z (k + 2) (k + 1)) n Y) := by
        intro n
        induction n with
        | zero => exact kV.rf Y
        | succ n ih => exact ih.tr (kV_cp _ _ _)
      exact ((k0 4).tr (kV_s _ _)).tr (kV_cp _ _ _)
    · exact (kV_s _ _).tr (kV_cp _ _ _)
  · exact kV.rf Y
/-- the saved states are Ss 1 .. Ss s -/
def okSv (Y : z_V) (s : Nat) (Ss : Nat → z_V) : Prop := s ≤ 5 ∧ Y.1 13 = nI s ∧ ∀ k, 1 ≤ k → k ≤ s → hol Y k (Ss k)
def svS (Y : z_V) (s : Nat) (Ss : Nat → z_V) : Nat → z_V := if s = 5 then (fun k => if k = 5 then Y else Ss (k + 1)) else fun k => if k = s + 1 then Y else Ss k
theorem hol_kV {Y Z W : z_V} (hk : kV Y Z) (h : hol W 0 Y) : hol W 0 Z := by
  refine ⟨fun i hi => ?_, fun i hi => ?_⟩
  · rw [h.1 i hi]
    unfold enc
    by_cases c1 : i < 13
    · rw [if_pos c1, if_pos c1, hk.1 i (by omega)]
    · rw [if_neg c1, if_neg c1, hk.2.1 ((i - 13) % 4) (by omega), hk.2.1 (4 + (i - 45) % 13) (by omega), hk.2.1 (17 + (i - 305) % 3) (by omega), hk.2.1 20 (by omega), hk.2.1 21 (by omega), hk.2.1 22 (by omega), if_pos hi, if_pos hi]
  · rw [h.2 i hi]
    unfold encF
    rw [hk.2.2 0 (by omega), hk.2.2 1 (by omega), hk.2.2 2 (by omega), if_pos hi, if_pos hi]
theorem hol_kV' {Y Z : z_V} (hk : kV Y Z) : hol Z 0 Y := by
  refine hol_kV ⟨fun i h => (hk.1 i h).symm, fun i h => (hk.2.1 i h).symm, fun i h => (hk.2.2 i h).symm⟩ (hol_0 Z)
theorem sv_ok {Y : z_V} {s : Nat} {Ss : Nat → z_V} (h : okSv Y s Ss) (hq : Y.1 14 = nI 0) : okSv (svY Y) (if s = 5 then 5 else s + 1) (svS Y s Ss) := by
  obtain ⟨h1, h2, h3⟩ := h
  have hn := nV_of h2 (by omega)
  unfold svY svS
  rw [if_pos hq, hn]
  by_cases c : s = 5
  · subst c
    simp only [if_true]
    refine ⟨Nat.le_refl _, rfl, fun k hk1 hk2 => ?_⟩
    have k0 : ∀ n, n ≤ 4 → kV Y (it (fun k Z => cpY Z (k + 2) (k + 1)) n Y) ∧ (∀ k, 1 ≤ k → k ≤ n → hol (it (fun k Z => cpY Z (k + 2) (k + 1)) n Y) k (Ss (k + 1))) ∧ ∀ k, n < k → k ≤ 5 → hol (it (fun k Z => cpY Z (k + 2) (k + 1)) n Y) k (Ss k) := by
      intro n
      induction n with
      | zero => intro _; exact ⟨kV.rf Y, fun k a b => by omega, fun k a b => h3 k (by omega) b⟩
      | succ n ih =>
        intro hn
        obtain ⟨i1, i2, i3⟩ := ih (by omega)
        refine ⟨i1.tr (kV_cp _ _ _), fun k a b => ?_, fun k a b => hol_cp2 (by omega) (by omega) (i3 k (by omega) b)⟩
        by_cases e : k = n + 1
        · subst e
          exact hol_cp1 (by omega) (i3 (n + 2) (by omega) (by omega))
        · exact hol_cp2 (by omega) e (i2 k a (by omega))
    obtain ⟨j1, j2, j3⟩ := k0 4 (by omega)
    by_cases e : k = 5
    · subst e
      simp only [if_true]
      refine hol_cp1 (by omega) (hol_s ?_)
      exact hol_kV' j1
    · simp only [e, if_false]
      exact hol_cp2 (by omega) e (hol_s (j2 k hk1 (by omega)))
  · simp only [c, if_false]
    refine ⟨by omega, rfl, fun k hk1 hk2 => ?_⟩
    by_cases e : k = s + 1
    · subst e
      simp only [if_true]
      exact hol_cp1 (by omega) (hol_s (hol_0 Y))
    · simp only [e, if_false]
      exact hol_cp2 (by omega) e (hol_s (h3 k hk1 (by omega)))
/-- a state brought back -/
def reY (Y Z : z_V) : z_V := (fun i => if i < 13 then Z.1 i else Y.1 i, 0, fun a => if a < 23 then Z.2.2.1 a else Y.2.2.1 a, fun a => if a < 3 then Z.2.2.2 a else Y.2.2.2 a)
theorem enc_re {Y Z : z_V} {i : Nat} : enc (reY Y Z) i = if i < 971 then enc Z i else enc Y i := by
  have h1 : ∀ i, i < 13 → (reY Y Z).1 i = Z.1 i := fun i hi => if_pos hi
  have h2 : ∀ a, a < 23 → (reY Y Z).2.2.1 a = Z.2.2.1 a := fun a ha => if_pos ha
  have h3 : (reY Y Z).2.2.1 23 = Y.2.2.1 23 := rfl
  by_cases c : i < 971
  · rw [if_pos c]
    unfold enc
    rw [if_pos c, if_pos c, h2 ((i - 13) % 4) (by omega), h2 (4 + (i - 45) % 13) (by omega), h2 (17 + (i - 305) % 3) (by omega), h2 20 (by omega), h2 21 (by omega), h2 22 (by omega)]
    by_cases c1 : i < 13
    · rw [if_pos c1, if_pos c1, h1 i c1]
    · rw [if_neg c1, if_neg c1]
  · rw [if_neg c, enc_rest (by omega), enc_rest (by omega), h3]
theorem encF_re {Y Z : z_V} {i : Nat} : encF (reY Y Z) i = if i < 296 then encF Z i else encF Y i := by
  have h2 : ∀ a, a < 3 → (reY Y Z).2.2.2 a = Z.2.2.2 a := fun a ha => if_pos ha
  have h3 : (reY Y Z).2.2.2 3 = Y.2.2.2 3 := rfl
  by_cases c : i < 296
  · rw [if_pos c]
    unfold encF
    rw [if_pos c, if_pos c, h2 0 (by omega), h2 1 (by omega), h2 2 (by omega)]
  · rw [if_neg c, encF_rest (by omega), encF_rest (by omega), h3]
theorem m112r (M : z_M) (o : Nat) (Y Z : z_V) (w : Int64) (a : Nat) (ha : a < 7) (h0 : 0 < a) (h : hol Y a Z) : z_cl 112 [.ref o, .int (nI (971 * a)), .int (nI 0), .int (nI (296 * a)), .int (nI 0)] (yS M o Y w) = some (none, yS M o (reY Y Z) w) := by
  rw [m112 M o (dec Y) w _ _ _ _ (by omega) (by omega) (by omega) (by omega) (by omega) (by omega), dec_A0, dec_F0]
  congr 4
  refine dec_ext (Y := Y) _ (fun i => ?_) rfl (funext fun i => ?_) rfl (encS_kp rfl rfl rfl) rfl (fun j hj => ?_) (funext fun i => ?_) rfl rfl rfl (fun j hj => ?_)
  · show Y.1 (13 + i) = (if 13 + i < 13 then _ else _)
    rw [if_neg (by omega)]
  · show cpI (enc Y) (971 * a) 0 971 i = _
    rw [enc_re]
    unfold cpI
    by_cases c : i < 971
    · rw [if_pos (by omega), if_pos c, Nat.sub_zero, h.1 i c]
    · rw [if_neg (by omega), if_neg c]
  · match j, hj with
    | n + 4, _ => rfl
  · show cpF (encF Y) (296 * a) 0 296 i = _
    rw [encF_re]
    unfold cpF
    by_cases c : i < 296
    · rw [if_pos (by omega), if_pos c, Nat.sub_zero, h.2 i c]
    · rw [if_neg (by omega), if_neg c]
  · match j, hj with
    | n + 4, _ => rfl
theorem hol_re {Y Z W : z_V} {k : Nat} (hk : 0 < k) (h : hol Y k W) : hol (reY Y Z) k W := by
  refine ⟨fun i hi => ?_, fun i hi => ?_⟩
  · rw [enc_re, if_neg (by omega)]; exact h.1 i hi
  · rw [encF_re, if_neg (by omega)]; exact h.2 i hi
theorem m153n (M : z_M) (o : Nat) (Y : z_V) (w : Int64) (h : Y.1 13 = nI 0) : z_cl 153 [.ref o] (yS M o Y w) = some (some (.int (-(nI 4))), yS M o Y w) := by
  rw [e153]
  simp (disch := first | omega | (simp only [sgets, reduceIte, Nat.reduceEqDiff, h, dec_S, Nat.reduceAdd]; done) | omega) only [cS_1, crd, z_pv_some, z_wv_some, z_cv_v, z_cv_n, cwr, sgets, rc_O, ia_n, fa_n, is_n, fs_n, ↓mI_eq, lits, nI_add, nLe, nLt, nE, mI_ne, mI_ne', mI_lt, mI_le, mI_nlt, mI_nle, ne_eq, mI_addC, pk_sub, pk_mul, pk_div, Nat.reduceEqDiff, Nat.reduceAdd, Nat.reduceMul, Nat.reduceSub, reduceIte, not_true_eq_false, not_false_eq_true, true_or, or_true, if_true, if_false, and_self, and_true, true_and, and_false, false_and, or_self, or_false, false_or, decide_true, decide_false, Bool.false_eq_true, Bool.true_eq_false, bI_t, bI_f, oS_1, ord, owA0, owF0, owF1, owA1, owF2, owA2, owF3, owA3, ywo, gfs11, pfs11, yrd, ywr, b153, h, dec_S, Nat.reduceAdd]
theorem m153 (M : z_M) (o : Nat) (Y : z_V) (w : Int64) (s : Nat) (Ss : Nat → z_V) (h : okSv Y (s + 1) Ss) : z_cl 153 [.ref o] (yS M o Y w) = some (some (.int (nI s)), yS M o (sS (reY Y (Ss (s + 1))) 13 (nI s)) w) ∧ okSv (sS (reY Y (Ss (s + 1))) 13 (nI s)) s Ss := by
  obtain ⟨h1, h2, h3⟩ := h
  have hc := m112r M o Y (Ss (s + 1)) w (s + 1) (by omega) (by omega) (h3 (s + 1) (by omega) (by omega))
  have h13 : (reY Y (Ss (s + 1))).1 13 = nI (s + 1) := h2
  constructor
  · rw [e153]
    simp (disch := first | omega | (simp only [sgets, reduceIte, Nat.reduceEqDiff, h2, h13, dec_S, Nat.reduceAdd]; done) | omega) only [cS_1, crd, z_pv_some, z_wv_some, z_cv_v, z_cv_n, cwr, sgets, rc_O, ia_n, fa_n, is_n, fs_n, ↓mI_eq, lits, nI_add, nLe, nLt, nE, mI_ne, mI_ne', mI_lt, mI_le, mI_nlt, mI_nle, ne_eq, mI_addC, pk_sub, pk_mul, pk_div, Nat.reduceEqDiff, Nat.reduceAdd, Nat.reduceMul, Nat.reduceSub, reduceIte, not_true_eq_false, not_false_eq_true, true_or, or_true, if_true, if_false, and_self, and_true, true_and, and_false, false_and, or_self, or_false, false_or, decide_true, decide_false, Bool.false_eq_true, Bool.true_eq_false, bI_t, bI_f, oS_1, ord, owA0, owF0, owF1, owA1, owF2, owA2, owF3, owA3, ywo, gfs11, pfs11, yrd, ywr, b153, hc, Nat.add_sub_cancel, h2, h13, dec_S, Nat.reduceAdd]
  · exact ⟨by omega, rfl, fun k a b => hol_s (hol_re (by omega) (h3 k a (by omega)))⟩
