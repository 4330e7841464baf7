/-! floats' bits: bitsOf against floatToIntBits -/
theorem cv_lo {a b : UInt32} (ha : a.toNat < 2139095040) (hb : b.toNat < 2139095040) (op : CmpOp) : Op.cmpValue (FP.fcmp a b) op = if a.toNat < b.toNat then mI else if a.toNat = b.toNat then nI 0 else nI 1 := by
  have hk : FP.fcmp a b = some (compare (a.toNat : Int) (b.toNat : Int)) := by
    have h := FP.Core.fcmp_key (a := a) (b := b) (lo_F ha).ne_nan (lo_F hb).ne_nan
    have k1 : FP.Core.fkey a = (a.toNat : Int) := by unfold FP.Core.fkey; rw [if_neg (by omega)]
    have k2 : FP.Core.fkey b = (b.toNat : Int) := by unfold FP.Core.fkey; rw [if_neg (by omega)]
    rw [k1, k2] at h
    exact h
  rw [hk]
  by_cases c1 : a.toNat < b.toNat
  · rw [if_pos c1, (FP.Core.compare_lt_iff _ _).mpr (by omega)]
    rfl
  · rw [if_neg c1]
    by_cases c2 : a.toNat = b.toNat
    · rw [if_pos c2, (FP.Core.compare_eq_iff _ _).mpr (by omega)]
      rfl
    · rw [if_neg c2, (FP.Core.compare_gt_iff _ _).mpr (by omega)]
      rfl
theorem U_ext {a b : UInt32} (h : a.toNat = b.toNat) : a = b := UInt32.toNat_inj.mp h
theorem uO_inj {m k : Nat} (h : uO m = uO k) : m = k := by
  have h1 := uO_le.mp (Nat.le_of_eq h)
  have h2 := uO_le.mp (Nat.le_of_eq h.symm)
  omega
theorem uO_sub {m : Nat} (h : m < 2 ^ 23) : uO m = m := by
  unfold uO FP.Core.unitsOf
  rw [FP.Core.tails_b32, if_pos h]
theorem uO_nor {m : Nat} (h : 2 ^ 23 ≤ m) : uO m = (2 ^ 23 + m % 2 ^ 23) * 2 ^ (m / 2 ^ 23 - 1) := by
  unfold uO FP.Core.unitsOf
  rw [FP.Core.tails_b32, if_neg (by omega)]
theorem uO_add {m j : Nat} (h : 2 ^ 23 ≤ m) : uO (m + j * 2 ^ 23) = uO m * 2 ^ j := by
  rw [uO_nor h, uO_nor (by omega), Nat.mul_assoc, ← Nat.pow_add, show (m + j * 2 ^ 23) % 2 ^ 23 = m % 2 ^ 23 by omega, show (m + j * 2 ^ 23) / 2 ^ 23 - 1 = m / 2 ^ 23 - 1 + j by omega]
def dbl (m : Nat) : Nat := if m < 2 ^ 23 then 2 * m else m + 2 ^ 23
theorem uO_dbl (m : Nat) : uO (dbl m) = 2 * uO m := by
  unfold dbl
  by_cases c : m < 2 ^ 23
  · rw [if_pos c, uO_sub c]
    by_cases c2 : 2 * m < 2 ^ 23
    · rw [uO_sub c2]
    · rw [uO_nor (by omega), show 2 * m / 2 ^ 23 - 1 = 0 by omega]
      omega
  · rw [if_neg c]
    have := uO_add (m := m) (j := 1) (by omega)
    rw [Nat.one_mul] at this
    rw [this]
    omega
theorem fmul_eq {a p V : UInt32} (ha : a.toNat < 2139095040) (hp : p.toNat < 2139095040) (hV : V.toNat < 2139095040) (h : fU a * fU p = fU V * 713623846352979940529142984724747568191373312) : FP.fmul a p = V := by
  obtain ⟨u1, u2⟩ := fmul_U (lo_F ha) (lo_fin hp) (lo_F hV)
  have e1 := u1 (Int.le_of_eq h)
  have e2 := u2 (Int.le_of_eq h.symm)
  obtain ⟨c, q, ea⟩ := lo_fin ha
  obtain ⟨d, r, eb⟩ := lo_fin hp
  have e : FP.Core.val32 (FP.fmul a p) = FP.Core.round FP.Core.b32 (FP.Core.exactProduct (FP.Core.val32 a) (FP.Core.val32 p)) := FP.Core.val32_fmul a p
  rw [ea, eb] at e
  replace e : FP.Core.val32 (FP.fmul a p) = FP.Core.roundRatio FP.Core.b32 false (c * d) 1 (q + r) := e
  have hnn : FP.Core.val32 (FP.fmul a p) ≠ .nan := by
    rw [e]
    exact FP.Core.roundRatio_ne_nan _ _ _ _ _
  have hs := FP.Core.sgn_bits32 hnn
  have hs2 : FP.Core.sgn (FP.Core.val32 (FP.fmul a p)) = false := by
    rw [e]
    exact FP.Core.sgn_roundRatio _ _ _ _ _
  rw [hs2] at hs
  have hlt : (FP.fmul a p).toNat < 2 ^ 31 := by
    have := of_decide_eq_false hs.symm
    omega
  have hz := FP.Core.zmag_toNat32 hnn
  rw [Nat.mod_eq_of_lt hlt] at hz
  have hU : fU (FP.fmul a p) = (uO (FP.fmul a p).toNat : Int) := by
    unfold fU FP.Core.zval
    rw [hs2, hz]
    rfl
  rw [hU, lo_U hV] at e1 e2
  exact U_ext (uO_inj (by omega))
theorem fdiv2_eq {a V : UInt32} (ha : a.toNat < 2139095040) (hV : V.toNat < 2139095040) (h : uO a.toNat = 2 * uO V.toNat) : FP.fdiv a 1073741824 = V := by
  obtain ⟨c, q, ea⟩ := lo_fin ha
  have e2 : FP.Core.val32 1073741824 = .fin false 8388608 (-22) := by decide +kernel
  have e : FP.Core.val32 (FP.fdiv a 1073741824) = FP.Core.quotient FP.Core.b32 (FP.Core.val32 a) (FP.Core.val32 1073741824) := FP.Core.val32_fdiv a _
  rw [ea, e2] at e
  replace e : FP.Core.val32 (FP.fdiv a 1073741824) = FP.Core.roundRatio FP.Core.b32 false c 8388608 (q - (-22)) := e
  have hnn : FP.Core.val32 (FP.fdiv a 1073741824) ≠ .nan := by
    rw [e]
    exact FP.Core.roundRatio_ne_nan _ _ _ _ _
  have hs := FP.Core.sgn_bits32 hnn
  have hs2 : FP.Core.sgn (FP.Core.val32 (FP.fdiv a 1073741824)) = false := by
    rw [e]
    exact FP.Core.sgn_roundRatio _ _ _ _ _
  rw [hs2] at hs
  have hlt : (FP.fdiv a 1073741824).toNat < 2 ^ 31 := by
    have := of_decide_eq_false hs.symm
    omega
  have hfit := FP.Core.val32_fits a
  rw [ea] at hfit
  have hq := hfit.2.1
  have hza := FP.Core.zmag_toNat32 (a := a) (lo_F ha).ne_nan
  rw [ea, Nat.mod_eq_of_lt (by omega)] at hza
  replace hza : c * 2 ^ (q - FP.Core.b32.qmin).toNat = uO a.toNat := hza
  have hin : FP.Core.inUnits c (q - (-22)) FP.Core.b32.qmin = uO V.toNat * 8388608 := by
    unfold FP.Core.inUnits
    rw [show (q - -22 - FP.Core.b32.qmin).toNat = (q - FP.Core.b32.qmin).toNat + 22 by omega, Nat.pow_add, ← Nat.mul_assoc, hza, h]
    omega
  have e3 : FP.Core.decode FP.Core.b32 (FP.fdiv a 1073741824).toNat = FP.Core.roundRatio FP.Core.b32 false c 8388608 (q - (-22)) := e
  have hle := FP.Core.mag_le FP.Core.good_b32 (m := V.toNat) e3 (by decide) (Int.le_refl _) (by omega) (by
    rw [Int.sub_self, Int.toNat_zero, Nat.pow_zero, Nat.mul_one, hin]
    exact Nat.le_refl _)
  have hge := FP.Core.mag_ge FP.Core.good_b32 (m := V.toNat) e3 (by decide) (Int.le_refl _) (by omega) (by rw [FP.Core.infBits_b32]; omega) (by
    rw [Int.sub_self, Int.toNat_zero, Nat.pow_zero, Nat.mul_one, hin]
    exact Nat.le_refl _)
  rw [FP.Core.mag_toNat32, Nat.mod_eq_of_lt hlt] at hle hge
  exact U_ext (by omega)
theorem of_N {m : Nat} (h : m < 2139095040) : (UInt32.ofNat m).toNat = m := UInt32.toNat_ofNat_of_lt' (by show m < 2 ^ 32; omega)
theorem fU2 : fU 1073741824 = 1427247692705959881058285969449495136382746624 := by decide +kernel
theorem fU23 : fU 1258291200 = 5986310706507378352962293074805895248510699696029696 := by decide +kernel
theorem fmul2 {a : UInt32} (ha : a.toNat < 200 * 2 ^ 23) : ∃ V : UInt32, FP.fmul a 1073741824 = V ∧ V.toNat = dbl a.toNat := by
  have hd : dbl a.toNat < 2139095040 := by unfold dbl; split <;> omega
  refine ⟨UInt32.ofNat (dbl a.toNat), fmul_eq (by omega) (by decide) (by rw [of_N hd]; exact hd) ?_, of_N hd⟩
  rw [fU2, lo_U (show a.toNat < 2139095040 by omega), lo_U (by rw [of_N hd]; exact hd), of_N hd, uO_dbl]
  omega
theorem fdiv2 {a : UInt32} (h1 : 2 ^ 24 ≤ a.toNat) (ha : a.toNat < 200 * 2 ^ 23) : ∃ V : UInt32, FP.fdiv a 1073741824 = V ∧ V.toNat = a.toNat - 2 ^ 23 := by
  have hd : a.toNat - 2 ^ 23 < 2139095040 := by omega
  refine ⟨UInt32.ofNat (a.toNat - 2 ^ 23), fdiv2_eq (by omega) (by rw [of_N hd]; exact hd) ?_, of_N hd⟩
  rw [of_N hd, ← uO_dbl]
  unfold dbl
  rw [if_neg (by omega)]
  congr 1
  omega
/-- what is left in [1, 2), or zero, made whole -/
theorem fwh {s : UInt32} (h : s.toNat < 128 * 2 ^ 23) (h2 : s.toNat = 0 ∨ 2 ^ 23 ≤ s.toNat) : z_num (FP.fmul s 1258291200) = true ∧ FP.f2i (FP.fmul s 1258291200) = nI (uO s.toNat / 2 ^ 126) := by
  have hx : ∃ V : UInt32, V.toNat < 2139095040 ∧ uO V.toNat = uO s.toNat * 2 ^ 23 := by
    rcases h2 with h2 | h2
    · refine ⟨0, by decide, ?_⟩
      rw [h2]
      decide +kernel
    · have hd : s.toNat + 23 * 2 ^ 23 < 2139095040 := by omega
      refine ⟨UInt32.ofNat (s.toNat + 23 * 2 ^ 23), by rw [of_N hd]; exact hd, ?_⟩
      rw [of_N hd, uO_add h2]
  obtain ⟨V, hV, hVu⟩ := hx
  have hm : FP.fmul s 1258291200 = V := by
    refine fmul_eq (by omega) (by decide) hV ?_
    rw [fU23, lo_U (show s.toNat < 2139095040 by omega), lo_U hV, hVu]
    omega
  rw [hm]
  refine ⟨num_fin (lo_F hV), ?_⟩
  have hnn := (lo_F hV).ne_nan
  have hf := FP.Core.f2i_val hnn
  have hz := FP.Core.zmag_toNat32 hnn
  rw [Nat.mod_eq_of_lt (by omega)] at hz
  replace hz : FP.Core.zmag FP.Core.b32 (FP.Core.val32 V) = uO V.toNat := hz
  have hs := FP.Core.sgn_bits32 hnn
  rw [decide_eq_false (by omega)] at hs
  rw [hz, hs, hVu] at hf
  have hdv : uO s.toNat * 2 ^ 23 / FP.Core.one32 = uO s.toNat / 2 ^ 126 := by
    unfold FP.Core.one32
    rw [show (149 : Nat) = 126 + 23 by omega, Nat.pow_add, Nat.mul_div_mul_right _ _ (by decide)]
  have hb : uO s.toNat / 2 ^ 126 < 2 ^ 24 := by
    have h3 : uO s.toNat ≤ uO (128 * 2 ^ 23) := uO_le.mpr (by omega)
    have h4 : uO s.toNat ≠ uO (128 * 2 ^ 23) := fun e => by have := uO_inj e; omega
    have h5 : uO (128 * 2 ^ 23) = 2 ^ 150 := by decide +kernel
    rw [h5] at h3 h4
    have h6 : (2 : Nat) ^ 150 = 2 ^ 126 * 2 ^ 24 := by rw [← Nat.pow_add]
    rw [h6] at h3 h4
    exact Nat.div_lt_of_lt_mul (by omega)
  rw [hdv] at hf
  generalize uO s.toNat / 2 ^ 126 = K at hf hb
  refine nI_toInt_eq (by omega) ?_
  refine Eq.trans hf ?_
  show max (-2 ^ 31) (min (2 ^ 31 - 1) (K : Int)) = K
  omega
theorem lo_cmp {s : UInt32} (h : s.toNat < 2139095040) (op : CmpOp) : (Op.cmpValue (FP.fcmp s 1073741824) op < nI 0 ↔ s.toNat < 128 * 2 ^ 23) ∧ (nI 0 ≤ Op.cmpValue (FP.fcmp s 1065353216) op ↔ 127 * 2 ^ 23 ≤ s.toNat) ∧ (Op.cmpValue (FP.fcmp s 0) op ≤ nI 0 ↔ s.toNat = 0) := by
  have e1 := cv_lo (a := s) (b := 1073741824) h (by decide) op
  have e2 := cv_lo (a := s) (b := 1065353216) h (by decide) op
  have e3 := cv_lo (a := s) (b := 0) h (by decide) op
  rw [show (1073741824 : UInt32).toNat = 128 * 2 ^ 23 by decide] at e1
  rw [show (1065353216 : UInt32).toNat = 127 * 2 ^ 23 by decide] at e2
  rw [show (0 : UInt32).toNat = 0 by decide] at e3
  rw [e1, e2, e3]
  have a1 : mI < nI 0 := by decide
  have a2 : ¬ nI 0 < nI 0 := by decide
  have a3 : ¬ nI 1 < nI 0 := by decide
  have b1 : ¬ nI 0 ≤ mI := by decide
  have b2 : nI 0 ≤ nI 0 := by decide
  have b3 : nI 0 ≤ nI 1 := by decide
  have c3 : ¬ nI 1 ≤ nI 0 := by decide
  refine ⟨?_, ?_, ?_⟩
  · by_cases x1 : s.toNat < 128 * 2 ^ 23
    · rw [if_pos x1]; exact ⟨fun _ => x1, fun _ => a1⟩
    · rw [if_neg x1]
      by_cases x2 : s.toNat = 128 * 2 ^ 23
      · rw [if_pos x2]; exact ⟨fun q => absurd q a2, fun q => absurd q x1⟩
      · rw [if_neg x2]; exact ⟨fun q => absurd q a3, fun q => absurd q x1⟩
  · by_cases x1 : s.toNat < 127 * 2 ^ 23
    · rw [if_pos x1]; exact ⟨fun q => absurd q b1, fun q => absurd q (by omega)⟩
    · rw [if_neg x1]
      by_cases x2 : s.toNat = 127 * 2 ^ 23
      · rw [if_pos x2]; exact ⟨fun _ => by omega, fun _ => b2⟩
      · rw [if_neg x2]; exact ⟨fun _ => by omega, fun _ => b3⟩
  · rw [if_neg (by omega)]
    by_cases x2 : s.toNat = 0
    · rw [if_pos x2]; exact ⟨fun _ => x2, fun _ => b2⟩
    · rw [if_neg x2]; exact ⟨fun q => absurd q c3, fun q => absurd q x2⟩
theorem l127 : (127 : Int32) = nI 127 := rfl
theorem l254 : (254 : Int32) = nI 254 := rfl
theorem m94 {x : UInt32} (hx : x.toNat < 200 * 2 ^ 23) (M : z_M) : z_cl 94 [.float x] M = some (some (.int (nI x.toNat)), M) := by
  rw [e94]
  have c0 := (lo_cmp (s := x) (by omega) .l).2.2
  have st : z_ex 94 M.1 0 [some (.float x), none, none] [] M = z_ex 94 M.1 15 [some (.float x), some (.float x), some (.int (nI 127))] [] M := by
    by_cases h0 : x.toNat = 0
    · have hx0 : x = 0 := U_ext (by rw [h0]; rfl)
      have c1 := c0.mpr h0
      subst hx0
      simp (disch := first | omega | (simp only [sgets, reduceIte, Nat.reduceEqDiff, c1]; done) | omega) only [cS_1, crd, z_pv_some, z_wv_some, z_cv_v, z_cv_n, cwr, sgets, rc_O, ia_n, fa_n, is_n, fs_n, ↓mI_eq, lits, nI_add, nLe, nLt, nE, mI_ne, mI_ne', mI_lt, mI_le, mI_nlt, mI_nle, ne_eq, mI_addC, pk_sub, pk_mul, pk_div, Nat.reduceEqDiff, Nat.reduceAdd, Nat.reduceMul, Nat.reduceSub, reduceIte, not_true_eq_false, not_false_eq_true, true_or, or_true, if_true, if_false, and_self, and_true, true_and, and_false, false_and, or_self, or_false, false_or, decide_true, decide_false, Bool.false_eq_true, Bool.true_eq_false, bI_t, bI_f, q94_0, q94_1, q94_2, q94_3, q94_6, q94_7, q94_10, q94_11, q94_12, q94_14, l127, c1]
    · have c1 : ¬ Op.cmpValue (FP.fcmp x 0) .l ≤ nI 0 := fun q => h0 (c0.mp q)
      simp (disch := first | omega | (simp only [sgets, reduceIte, Nat.reduceEqDiff, c1]; done) | omega) only [cS_1, crd, z_pv_some, z_wv_some, z_cv_v, z_cv_n, cwr, sgets, rc_O, ia_n, fa_n, is_n, fs_n, ↓mI_eq, lits, nI_add, nLe, nLt, nE, mI_ne, mI_ne', mI_lt, mI_le, mI_nlt, mI_nle, ne_eq, mI_addC, pk_sub, pk_mul, pk_div, Nat.reduceEqDiff, Nat.reduceAdd, Nat.reduceMul, Nat.reduceSub, reduceIte, not_true_eq_false, not_false_eq_true, true_or, or_true, if_true, if_false, and_self, and_true, true_and, and_false, false_and, or_self, or_false, false_or, decide_true, decide_false, Bool.false_eq_true, Bool.true_eq_false, bI_t, bI_f, q94_0, q94_1, q94_2, q94_3, q94_6, q94_7, q94_10, q94_11, q94_12, q94_14, l127, c1]
  rw [st]
  have fin : ∀ (s : UInt32) (e : Nat), 1 ≤ e → e < 200 → s.toNat < 128 * 2 ^ 23 → (s.toNat = 0 ∨ 2 ^ 23 ≤ s.toNat) → z_ex 94 M.1 59 [some (.float x), some (.float s), some (.int (nI e))] [] M = some (some (.int (nI ((e - 1) * 2 ^ 23 + uO s.toNat / 2 ^ 126))), M) := by
    intro s e h1 h2 h3 h4
    obtain ⟨n1, n2⟩ := fwh h3 h4
    have hsh : nI (e - 1) <<< (nI 23 &&& nI 31) = nI ((e - 1) * 2 ^ 23) := pk_shlN _ 23 (by decide) (by omega)
    simp (disch := first | omega | (simp only [sgets, reduceIte, Nat.reduceEqDiff, h1]; done) | omega) only [cS_1, crd, z_pv_some, z_wv_some, z_cv_v, z_cv_n, cwr, sgets, rc_O, ia_n, fa_n, is_n, fs_n, ↓mI_eq, lits, nI_add, nLe, nLt, nE, mI_ne, mI_ne', mI_lt, mI_le, mI_nlt, mI_nle, ne_eq, mI_addC, pk_sub, pk_mul, pk_div, Nat.reduceEqDiff, Nat.reduceAdd, Nat.reduceMul, Nat.reduceSub, reduceIte, not_true_eq_false, not_false_eq_true, true_or, or_true, if_true, if_false, and_self, and_true, true_and, and_false, false_and, or_self, or_false, false_or, decide_true, decide_false, Bool.false_eq_true, Bool.true_eq_false, bI_t, bI_f, q94_59, q94_60, q94_61, q94_62, q94_64, q94_65, q94_66, q94_69, q94_70, q94_71, q94_72, n1, n2, hsh, h1]
  by_cases hA : 127 * 2 ^ 23 ≤ x.toNat
  · have L1 : ∀ (d j : Nat) (s : UInt32), s.toNat / 2 ^ 23 = 127 + d → j + d ≤ 100 → s.toNat < 200 * 2 ^ 23 → ∃ s' : UInt32, s'.toNat + d * 2 ^ 23 = s.toNat ∧ z_ex 94 M.1 15 [some (.float x), some (.float s), some (.int (nI (127 + j)))] [] M = z_ex 94 M.1 38 [some (.float x), some (.float s'), some (.int (nI (127 + j + d)))] [] M := by
      intro d
      induction d with
      | zero =>
        intro j s h1 h2 h3
        have c1 := (lo_cmp (s := s) (by omega) .l).1.mpr (by omega)
        refine ⟨s, by omega, ?_⟩
        rw [q94_15]
        simp (disch := first | omega | (simp only [sgets, reduceIte, Nat.reduceEqDiff, c1]; done) | omega) only [cS_1, crd, z_pv_some, z_wv_some, z_cv_v, z_cv_n, cwr, sgets, rc_O, ia_n, fa_n, is_n, fs_n, ↓mI_eq, lits, nI_add, nLe, nLt, nE, mI_ne, mI_ne', mI_lt, mI_le, mI_nlt, mI_nle, ne_eq, mI_addC, pk_sub, pk_mul, pk_div, Nat.reduceEqDiff, Nat.reduceAdd, Nat.reduceMul, Nat.reduceSub, reduceIte, not_true_eq_false, not_false_eq_true, true_or, or_true, if_true, if_false, and_self, and_true, true_and, and_false, false_and, or_self, or_false, false_or, decide_true, decide_false, Bool.false_eq_true, Bool.true_eq_false, bI_t, bI_f, q94_16, q94_17, q94_18, q94_21, q94_22, q94_25, q94_28, q94_29, q94_30, q94_31, q94_32, q94_35, Nat.add_zero, c1]
      | succ d ih =>
        intro j s h1 h2 h3
        have c1 : ¬ Op.cmpValue (FP.fcmp s 1073741824) .l < nI 0 := fun q => by have := (lo_cmp (s := s) (by omega) .l).1.mp q; omega
        have hbig : 2 ^ 23 ≤ s.toNat := by omega
        obtain ⟨V, v1, v2⟩ := fdiv2 (a := s) (by omega) h3
        obtain ⟨s', i1, i2⟩ := ih (j + 1) V (by omega) (by omega) (by omega)
        have hss : s'.toNat + (d + 1) * 2 ^ 23 = s.toNat := by
          rw [Nat.succ_mul, ← Nat.add_assoc, i1, v2]
          exact Nat.sub_add_cancel hbig
        have hn : z_num V = true := num_fin (lo_F (by omega))
        have hlt : ¬ 254 ≤ 127 + j := by omega
        refine ⟨s', hss, ?_⟩
        rw [q94_15]
        rw [show 127 + (j + 1) = 127 + j + 1 by omega, show 127 + j + 1 + d = 127 + j + (d + 1) by omega] at i2
        simp (disch := first | omega | (simp only [sgets, reduceIte, Nat.reduceEqDiff, c1, hlt]; done) | omega) only [cS_1, crd, z_pv_some, z_wv_some, z_cv_v, z_cv_n, cwr, sgets, rc_O, ia_n, fa_n, is_n, fs_n, ↓mI_eq, lits, nI_add, nLe, nLt, nE, mI_ne, mI_ne', mI_lt, mI_le, mI_nlt, mI_nle, ne_eq, mI_addC, pk_sub, pk_mul, pk_div, Nat.reduceEqDiff, Nat.reduceAdd, Nat.reduceMul, Nat.reduceSub, reduceIte, not_true_eq_false, not_false_eq_true, true_or, or_true, if_true, if_false, and_self, and_true, true_and, and_false, false_and, or_self, or_false, false_or, decide_true, decide_false, Bool.false_eq_true, Bool.true_eq_false, bI_t, bI_f, q94_16, q94_17, q94_18, q94_21, q94_22, q94_25, q94_28, q94_29, q94_30, q94_31, q94_32, q94_35, v1, hn, i2, l254, c1, hlt]
    obtain ⟨s', a1, a2⟩ := L1 (x.toNat / 2 ^ 23 - 127) 0 x (by omega) (by omega) hx
    have c2 := (lo_cmp (s := s') (by omega) .g).2.1.mpr (by omega)
    have hfin := fin s' (127 + 0 + (x.toNat / 2 ^ 23 - 127)) (by omega) (by omega) (by omega) (Or.inr (by omega))
    rw [Nat.add_zero] at a2 hfin
    rw [a2, q94_38]
    have hres : (127 + (x.toNat / 2 ^ 23 - 127) - 1) * 2 ^ 23 + uO s'.toNat / 2 ^ 126 = x.toNat := by
      rw [uO_nor (by omega), show s'.toNat / 2 ^ 23 - 1 = 126 by omega, Nat.mul_div_cancel _ (by decide)]
      omega
    rw [hres] at hfin
    simp (disch := first | omega | (simp only [sgets, reduceIte, Nat.reduceEqDiff, c2]; done) | omega) only [cS_1, crd, z_pv_some, z_wv_some, z_cv_v, z_cv_n, cwr, sgets, rc_O, ia_n, fa_n, is_n, fs_n, ↓mI_eq, lits, nI_add, nLe, nLt, nE, mI_ne, mI_ne', mI_lt, mI_le, mI_nlt, mI_nle, ne_eq, mI_addC, pk_sub, pk_mul, pk_div, Nat.reduceEqDiff, Nat.reduceAdd, Nat.reduceMul, Nat.reduceSub, reduceIte, not_true_eq_false, not_false_eq_true, true_or, or_true, if_true, if_false, and_self, and_true, true_and, and_false, false_and, or_self, or_false, false_or, decide_true, decide_false, Bool.false_eq_true, Bool.true_eq_false, bI_t, bI_f, q94_39, q94_40, q94_41, hfin, c2]
  · have c1 := (lo_cmp (s := x) (by omega) .l).1.mpr (by omega)
    have p1 : z_ex 94 M.1 15 [some (.float x), some (.float x), some (.int (nI 127))] [] M = z_ex 94 M.1 38 [some (.float x), some (.float x), some (.int (nI 127))] [] M := by
      rw [q94_15]
      simp (disch := first | omega | (simp only [sgets, reduceIte, Nat.reduceEqDiff, c1]; done) | omega) only [cS_1, crd, z_pv_some, z_wv_some, z_cv_v, z_cv_n, cwr, sgets, rc_O, ia_n, fa_n, is_n, fs_n, ↓mI_eq, lits, nI_add, nLe, nLt, nE, mI_ne, mI_ne', mI_lt, mI_le, mI_nlt, mI_nle, ne_eq, mI_addC, pk_sub, pk_mul, pk_div, Nat.reduceEqDiff, Nat.reduceAdd, Nat.reduceMul, Nat.reduceSub, reduceIte, not_true_eq_false, not_false_eq_true, true_or, or_true, if_true, if_false, and_self, and_true, true_and, and_false, false_and, or_self, or_false, false_or, decide_true, decide_false, Bool.false_eq_true, Bool.true_eq_false, bI_t, bI_f, q94_16, q94_17, q94_18, q94_21, q94_22, q94_25, q94_28, q94_29, q94_30, q94_31, q94_32, q94_35, c1]
    rw [p1]
    have L2 : ∀ (d j : Nat) (s : UInt32), d + j = 126 → s.toNat < 128 * 2 ^ 23 → uO s.toNat = uO x.toNat * 2 ^ j → ∃ (j' : Nat) (s' : UInt32), j' ≤ 126 ∧ s'.toNat < 128 * 2 ^ 23 ∧ uO s'.toNat = uO x.toNat * 2 ^ j' ∧ (127 * 2 ^ 23 ≤ s'.toNat ∨ j' = 126) ∧ z_ex 94 M.1 38 [some (.float x), some (.float s), some (.int (nI (127 - j)))] [] M = z_ex 94 M.1 59 [some (.float x), some (.float s'), some (.int (nI (127 - j')))] [] M := by
      intro d
      induction d with
      | zero =>
        intro j s h1 h2 h3
        have hj : j = 126 := by omega
        subst hj
        refine ⟨126, s, Nat.le_refl _, h2, h3, Or.inr rfl, ?_⟩
        rw [q94_38]
        by_cases c2 : 127 * 2 ^ 23 ≤ s.toNat
        · have c3 := (lo_cmp (s := s) (by omega) .g).2.1.mpr c2
          simp (disch := first | omega | (simp only [sgets, reduceIte, Nat.reduceEqDiff, c3]; done) | omega) only [cS_1, crd, z_pv_some, z_wv_some, z_cv_v, z_cv_n, cwr, sgets, rc_O, ia_n, fa_n, is_n, fs_n, ↓mI_eq, lits, nI_add, nLe, nLt, nE, mI_ne, mI_ne', mI_lt, mI_le, mI_nlt, mI_nle, ne_eq, mI_addC, pk_sub, pk_mul, pk_div, Nat.reduceEqDiff, Nat.reduceAdd, Nat.reduceMul, Nat.reduceSub, reduceIte, not_true_eq_false, not_false_eq_true, true_or, or_true, if_true, if_false, and_self, and_true, true_and, and_false, false_and, or_self, or_false, false_or, decide_true, decide_false, Bool.false_eq_true, Bool.true_eq_false, bI_t, bI_f, q94_39, q94_40, q94_41, q94_44, q94_45, q94_46, q94_49, q94_50, q94_51, q94_52, q94_53, q94_56, c3]
        · have c3 : ¬ nI 0 ≤ Op.cmpValue (FP.fcmp s 1065353216) .g := fun q => c2 ((lo_cmp (s := s) (by omega) .g).2.1.mp q)
          simp (disch := first | omega | (simp only [sgets, reduceIte, Nat.reduceEqDiff, c3]; done) | omega) only [cS_1, crd, z_pv_some, z_wv_some, z_cv_v, z_cv_n, cwr, sgets, rc_O, ia_n, fa_n, is_n, fs_n, ↓mI_eq, lits, nI_add, nLe, nLt, nE, mI_ne, mI_ne', mI_lt, mI_le, mI_nlt, mI_nle, ne_eq, mI_addC, pk_sub, pk_mul, pk_div, Nat.reduceEqDiff, Nat.reduceAdd, Nat.reduceMul, Nat.reduceSub, reduceIte, not_true_eq_false, not_false_eq_true, true_or, or_true, if_true, if_false, and_self, and_true, true_and, and_false, false_and, or_self, or_false, false_or, decide_true, decide_false, Bool.false_eq_true, Bool.true_eq_false, bI_t, bI_f, q94_39, q94_40, q94_41, q94_44, q94_45, q94_46, q94_49, q94_50, q94_51, q94_52, q94_53, q94_56, Nat.le_refl, c3]
      | succ d ih =>
        intro j s h1 h2 h3
        by_cases c2 : 127 * 2 ^ 23 ≤ s.toNat
        · have c3 := (lo_cmp (s := s) (by omega) .g).2.1.mpr c2
          refine ⟨j, s, by omega, h2, h3, Or.inl c2, ?_⟩
          rw [q94_38]
          simp (disch := first | omega | (simp only [sgets, reduceIte, Nat.reduceEqDiff, c3]; done) | omega) only [cS_1, crd, z_pv_some, z_wv_some, z_cv_v, z_cv_n, cwr, sgets, rc_O, ia_n, fa_n, is_n, fs_n, ↓mI_eq, lits, nI_add, nLe, nLt, nE, mI_ne, mI_ne', mI_lt, mI_le, mI_nlt, mI_nle, ne_eq, mI_addC, pk_sub, pk_mul, pk_div, Nat.reduceEqDiff, Nat.reduceAdd, Nat.reduceMul, Nat.reduceSub, reduceIte, not_true_eq_false, not_false_eq_true, true_or, or_true, if_true, if_false, and_self, and_true, true_and, and_false, false_and, or_self, or_false, false_or, decide_true, decide_false, Bool.false_eq_true, Bool.true_eq_false, bI_t, bI_f, q94_39, q94_40, q94_41, q94_44, q94_45, q94_46, q94_49, q94_50, q94_51, q94_52, q94_53, q94_56, c3]
        · have c3 : ¬ nI 0 ≤ Op.cmpValue (FP.fcmp s 1065353216) .g := fun q => c2 ((lo_cmp (s := s) (by omega) .g).2.1.mp q)
          obtain ⟨V, v1, v2⟩ := fmul2 (a := s) (by omega)
          have hdb : dbl s.toNat < 128 * 2 ^ 23 := by unfold dbl; split <;> omega
          have hn : z_num V = true := num_fin (lo_F (by omega))
          obtain ⟨j', s', i1, i2, i3, i4, i5⟩ := ih (j + 1) V (by omega) (by omega) (by rw [v2, uO_dbl, h3, Nat.pow_succ]; rw [Nat.mul_comm 2 (uO x.toNat * 2 ^ j), Nat.mul_assoc])
          refine ⟨j', s', i1, i2, i3, i4, Eq.trans ?_ i5⟩
          have hgt : ¬ 127 - j ≤ 1 := by omega
          have hpos : 0 < 127 - j := by omega
          rw [q94_38]
          rw [show 127 - (j + 1) = 127 - j - 1 by omega]
          simp (disch := first | omega | (simp only [sgets, reduceIte, Nat.reduceEqDiff, c3, hgt, hpos]; done) | omega) only [cS_1, crd, z_pv_some, z_wv_some, z_cv_v, z_cv_n, cwr, sgets, rc_O, ia_n, fa_n, is_n, fs_n, ↓mI_eq, lits, nI_add, nLe, nLt, nE, mI_ne, mI_ne', mI_lt, mI_le, mI_nlt, mI_nle, ne_eq, mI_addC, pk_sub, pk_mul, pk_div, Nat.reduceEqDiff, Nat.reduceAdd, Nat.reduceMul, Nat.reduceSub, reduceIte, not_true_eq_false, not_false_eq_true, true_or, or_true, if_true, if_false, and_self, and_true, true_and, and_false, false_and, or_self, or_false, false_or, decide_true, decide_false, Bool.false_eq_true, Bool.true_eq_false, bI_t, bI_f, q94_39, q94_40, q94_41, q94_44, q94_45, q94_46, q94_49, q94_50, q94_51, q94_52, q94_53, q94_56, v1, hn, c3, hgt, hpos]
    obtain ⟨j, s, i1, i2, i3, i4, i5⟩ := L2 126 0 x (by omega) (by omega) (by rw [Nat.pow_zero, Nat.mul_one])
    rw [Nat.sub_zero] at i5
    rw [i5]
    have e0 : uO 0 = 0 := uO_sub (by decide)
    have eT : uO (2 ^ 23) = 2 ^ 23 := by decide +kernel
    have e127 : uO (127 * 2 ^ 23) = 2 ^ 23 * 2 ^ 126 := by decide +kernel
    have e128 : uO (128 * 2 ^ 23) = 2 ^ 24 * 2 ^ 126 := by decide +kernel
    have e24 : uO (2 ^ 24) = 2 ^ 24 := by decide +kernel
    have hP126 : 0 < 2 ^ 126 := Nat.two_pow_pos _
    have hs4 : s.toNat = 0 ∨ 2 ^ 23 ≤ s.toNat := by
      rcases i4 with i4 | i4
      · right; omega
      · subst i4
        by_cases hx0 : x.toNat = 0
        · left
          rw [hx0, e0, Nat.zero_mul, ← e0] at i3
          exact uO_inj i3
        · right
          have hu1 : 1 ≤ uO x.toNat := by
            have : uO 0 ≠ uO x.toNat := fun e => hx0 (uO_inj e).symm
            omega
          refine uO_le.mp ?_
          rw [eT, i3]
          refine Nat.le_trans (show 2 ^ 23 ≤ 1 * 2 ^ 126 by decide) (Nat.mul_le_mul_right _ hu1)
    rw [fin s (127 - j) (by omega) (by omega) i2 hs4]
    refine congrArg (fun k => some (some (Value.int (nI k)), M)) ?_
    by_cases hsub : x.toNat < 2 ^ 23
    · have hux := uO_sub hsub
      have hj : j = 126 := by
        rcases i4 with i4 | i4
        · by_cases hj : j = 126
          · exact hj
          · exfalso
            have h5 := uO_le.mpr i4
            rw [e127, i3, hux] at h5
            have h6 : x.toNat * 2 ^ j < 2 ^ 23 * 2 ^ 126 := Nat.mul_lt_mul_of_lt_of_le hsub (Nat.pow_le_pow_right (by decide) i1) (Nat.two_pow_pos _)
            exact Nat.not_le.mpr h6 h5
        · exact i4
      subst hj
      rw [i3, Nat.mul_div_cancel _ hP126, hux]
      omega
    · have hadd := uO_add (m := x.toNat) (j := j) (by omega)
      rw [← i3] at hadd
      have hsx := uO_inj hadd
      rw [uO_nor (by omega)]
      by_cases hj : 127 * 2 ^ 23 ≤ s.toNat
      · rw [show s.toNat / 2 ^ 23 - 1 = 126 by omega, Nat.mul_div_cancel _ hP126]
        omega
      · have hj6 : j = 126 := by rcases i4 with i4 | i4 <;> omega
        omega
theorem m189 {x : UInt32} (hx : x.toNat < 2139095040) (M : z_M) : z_cl 189 [.float x] M = some (some (.int (nI x.toNat)), M) := by
  have hc : Op.cmpValue (FP.fcmp x x) .l = nI 0 := by
    rw [cv_lo hx hx, if_neg (Nat.lt_irrefl _), if_pos rfl]
  have h190 : z_cl 190 [.float x] M = some (some (.int (nI 0)), M) := by
    rw [e190]
    simp (disch := first | omega | (simp only [sgets, reduceIte, Nat.reduceEqDiff, hc]; done) | omega) only [cS_1, crd, z_pv_some, z_wv_some, z_cv_v, z_cv_n, cwr, sgets, rc_O, ia_n, fa_n, is_n, fs_n, ↓mI_eq, lits, nI_add, nLe, nLt, nE, mI_ne, mI_ne', mI_lt, mI_le, mI_nlt, mI_nle, ne_eq, mI_addC, pk_sub, pk_mul, pk_div, Nat.reduceEqDiff, Nat.reduceAdd, Nat.reduceMul, Nat.reduceSub, reduceIte, not_true_eq_false, not_false_eq_true, true_or, or_true, if_true, if_false, and_self, and_true, true_and, and_false, false_and, or_self, or_false, false_or, decide_true, decide_false, Bool.false_eq_true, Bool.true_eq_false, bI_t, bI_f, b190, hc]
  have hI : x.toInt32 = nI x.toNat := by
    apply Int32.toBitVec_inj.mp
    show x.toBitVec = BitVec.ofNat 32 x.toNat
    exact ((BitVec.ofNat_toNat 32 x.toBitVec).trans (BitVec.setWidth_eq _)).symm
  rw [e189]
  simp (disch := first | omega | (simp only [sgets, reduceIte, Nat.reduceEqDiff]; done) | omega) only [cS_1, crd, z_pv_some, z_wv_some, z_cv_v, z_cv_n, cwr, sgets, rc_O, ia_n, fa_n, is_n, fs_n, ↓mI_eq, lits, nI_add, nLe, nLt, nE, mI_ne, mI_ne', mI_lt, mI_le, mI_nlt, mI_nle, ne_eq, mI_addC, pk_sub, pk_mul, pk_div, Nat.reduceEqDiff, Nat.reduceAdd, Nat.reduceMul, Nat.reduceSub, reduceIte, not_true_eq_false, not_false_eq_true, true_or, or_true, if_true, if_false, and_self, and_true, true_and, and_false, false_and, or_self, or_false, false_or, decide_true, decide_false, Bool.false_eq_true, Bool.true_eq_false, bI_t, bI_f, b189, h190, hI]
