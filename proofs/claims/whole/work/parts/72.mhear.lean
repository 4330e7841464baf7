/-! the model's tick: streams gathered, heard -/
theorem it_congr {σ : Type} {f g : Nat → σ → σ} {n : Nat} (h : ∀ k s, k < n → f k s = g k s) (s : σ) : it f n s = it g n s := by
  induction n with
  | zero => rfl
  | succ n ih =>
    show f n (it f n s) = g n (it g n s)
    rw [ih (fun k s hk => h k s (by omega)), h n _ (by omega)]
theorem it_ext {σ : Type} {f : Nat → σ → σ} {J n : Nat} (hJ : J ≤ n) (h : ∀ k s, J ≤ k → k < n → f k s = s) (s : σ) : it f n s = it f J s := by
  induction n with
  | zero => rw [show J = 0 by omega]
  | succ n ih =>
    by_cases c : J = n + 1
    · rw [c]
    · show f n (it f n s) = _
      rw [h n _ (by omega) (by omega), ih (by omega) (fun k s a b => h k s a (by omega))]
/-- what is gathered, on both sides -/
def gR (J : Nat) (U Y : z_V) : Prop := (∀ p, p < J → Y.2.2.1 24 p = U.2.2.1 0 p ∧ Y.2.2.2 5 p = U.2.2.2 0 p) ∧ ∀ p, J ≤ p → p < 20 → Y.2.2.1 24 p = mI
/-- all but what is gathered -/
def kG (Y Z : z_V) : Prop := Z.1 = Y.1 ∧ (∀ a, a ≠ 24 → Z.2.2.1 a = Y.2.2.1 a) ∧ ∀ a, a ≠ 5 → Z.2.2.2 a = Y.2.2.2 a
theorem kG.rf (Y : z_V) : kG Y Y := ⟨rfl, fun _ _ => rfl, fun _ _ => rfl⟩
theorem kG.tr {Y Z W : z_V} (h1 : kG Y Z) (h2 : kG Z W) : kG Y W := ⟨h2.1.trans h1.1, fun a h => (h2.2.1 a h).trans (h1.2.1 a h), fun a h => (h2.2.2 a h).trans (h1.2.2 a h)⟩
theorem kG.y {Y Z : z_V} (h : kG Y Z) : kY Y Z := ⟨fun i _ => by rw [h.1], ⟨h.2.1 _ (by omega), h.2.1 _ (by omega)⟩, h.2.2 _ (by omega), h.2.2 _ (by omega)⟩
theorem Rl_kG {c J S Hy B : Nat} {V Y Z : z_V} (hk : kG Y Z) (h : Rl c J S Hy B V Y) : Rl c J S Hy B V Z :=
  Rl_Y (fun i hi => by rw [hk.1]) (fun i hi => hk.2.1 i (by omega)) (fun i hi => hk.2.2 i (by omega)) h
theorem kG_A (Y : z_V) (f : Nat → Int32) : kG Y (sA Y 24 f) := ⟨rfl, fun a h => by simp only [sgets, h, if_false], fun _ _ => rfl⟩
theorem kG_F (Y : z_V) (f : Nat → UInt32) : kG Y (sF Y 5 f) := ⟨rfl, fun _ _ => rfl, fun a h => by simp only [sgets, h, if_false]⟩
theorem gInit_it (V : z_V) (b : Nat) (U : z_V) (n : Nat) : ∀ p, p < n → (it (gInit V b) n U).2.2.1 0 p = (if V.2.2.1 9 p = nI b then nI 0 else mI) ∧ (it (gInit V b) n U).2.2.2 0 p = V.2.2.2 0 p := by
  induction n with
  | zero => intro p hp; omega
  | succ n ih =>
    intro p hp
    show (gInit V b n (it (gInit V b) n U)).2.2.1 0 p = _ ∧ (gInit V b n (it (gInit V b) n U)).2.2.2 0 p = _
    unfold gInit
    simp only [sgets, if_true]
    by_cases c : p = n
    · subst c; rw [upd_eq, updF_eq]; exact ⟨rfl, rfl⟩
    · rw [upd_ne _ _ c, updF_ne _ _ c]; exact ih p (by omega)
section
variable (M : z_M) (o : Nat) (w : Int64) {c J S Hy B : Nat}
theorem gat1 {V Y : z_V} (h : Rl c J S Hy B V Y) {b : Nat} (hb : b < B) (e : Value) (U : z_V) (x4 x5 x6 x7 : Option Value) : ∃ Z, z_ex 147 M.1 2 [some (.ref o), some (.int (nI b)), some e, some (.int (nI 0)), x4, x5, x6, x7] [] (yS M o Y w) = z_ex 147 M.1 46 [some (.ref o), some (.int (nI b)), some e, some (.int (nI 20)), x4, x5, x6, x7] [] (yS M o Z w) ∧ kG Y Z ∧ gR J (it (gInit V b) J U) Z := by
  have hB := (Rl_11 h).1
  have hJ := (Rl_J h).1
  obtain ⟨Z, -, l1, l2, l3⟩ := lp_rel (fun k (Y : z_V) (_ : Unit) => z_ex 147 M.1 2 [some (.ref o), some (.int (nI b)), some e, some (.int (nI k)), x4, x5, x6, x7] [] (yS M o Y w)) (fun _ (u : Unit) => u) (fun k _ Y' => kG Y Y' ∧ ∀ p, p < k → Y'.2.2.1 24 p = (if V.2.2.1 9 p = nI b then nI 0 else mI) ∧ Y'.2.2.2 5 p = V.2.2.2 0 p) 20 (by
    rintro k - Y' - hk ⟨hG, hP⟩
    have hR := Rl_kG hG h
    have hk2 : ¬ 20 ≤ k := by omega
    have h138 := m138r M o w hR (show b < 8 by omega) hk
    have eF : Y'.2.2.2 0 k = V.2.2.2 0 k := by rw [hR.2.2.2.2.1.2.2.2.2.2.2.2.2.2.2.2.1]
    refine ⟨sF (sA Y' 24 (upd (Y'.2.2.1 24) k (if V.2.2.1 9 k = nI b then nI 0 else mI))) 5 (vf_upd (Y'.2.2.2 5) k (V.2.2.2 0 k)), (), ?_, (hG.tr (kG_A _ _)).tr (kG_F _ _), ?_⟩
    · rw [q147_2]
      by_cases h3 : V.2.2.1 9 k = nI b
      · have h3' := eq_true h3
        simp only [h3', decide_true, if_true] at h138 ⊢
        simp (disch := first | omega | (simp only [sgets, reduceIte, Nat.reduceEqDiff, hk2, eF, dec_S, Nat.reduceAdd]; done) | omega) only [cS_1, crd, z_pv_some, z_wv_some, z_cv_v, z_cv_n, cwr, sgets, rc_O, ia_n, fa_n, is_n, fs_n, ↓mI_eq, lits, nI_add, nLe, nLt, nE, mI_ne, mI_ne', mI_lt, mI_le, mI_nlt, mI_nle, ne_eq, mI_addC, pk_sub, pk_mul, pk_div, Nat.reduceEqDiff, Nat.reduceAdd, Nat.reduceMul, Nat.reduceSub, reduceIte, not_true_eq_false, not_false_eq_true, true_or, or_true, if_true, if_false, and_self, and_true, true_and, and_false, false_and, or_self, or_false, false_or, decide_true, decide_false, Bool.false_eq_true, Bool.true_eq_false, bI_t, bI_f, oS_1, ord, owA0, owF0, owF1, owA1, owF2, owA2, owF3, owA3, ywo, gfs11, pfs11, yrd, ywr, q147_3, q147_5, q147_8, q147_9, q147_12, q147_13, q147_14, q147_15, q147_16, q147_19, q147_22, q147_23, q147_26, q147_27, q147_28, q147_29, q147_32, q147_33, q147_34, q147_37, q147_38, q147_39, q147_40, q147_43, h138, hk2, eF, dec_S, Nat.reduceAdd]
      · simp only [h3, decide_false, if_false] at h138 ⊢
        simp (disch := first | omega | (simp only [sgets, reduceIte, Nat.reduceEqDiff, hk2, eF, dec_S, Nat.reduceAdd]; done) | omega) only [cS_1, crd, z_pv_some, z_wv_some, z_cv_v, z_cv_n, cwr, sgets, rc_O, ia_n, fa_n, is_n, fs_n, ↓mI_eq, lits, nI_add, nLe, nLt, nE, mI_ne, mI_ne', mI_lt, mI_le, mI_nlt, mI_nle, ne_eq, mI_addC, pk_sub, pk_mul, pk_div, Nat.reduceEqDiff, Nat.reduceAdd, Nat.reduceMul, Nat.reduceSub, reduceIte, not_true_eq_false, not_false_eq_true, true_or, or_true, if_true, if_false, and_self, and_true, true_and, and_false, false_and, or_self, or_false, false_or, decide_true, decide_false, Bool.false_eq_true, Bool.true_eq_false, bI_t, bI_f, oS_1, ord, owA0, owF0, owF1, owA1, owF2, owA2, owF3, owA3, ywo, gfs11, pfs11, yrd, ywr, q147_3, q147_5, q147_8, q147_9, q147_12, q147_13, q147_14, q147_15, q147_16, q147_19, q147_22, q147_23, q147_26, q147_27, q147_28, q147_29, q147_32, q147_33, q147_34, q147_37, q147_38, q147_39, q147_40, q147_43, h138, hk2, eF, dec_S, Nat.reduceAdd]
    · intro p hp
      simp only [sgets, if_true]
      by_cases c : p = k
      · subst c; rw [upd_eq, updF_eq]; exact ⟨rfl, rfl⟩
      · rw [upd_ne _ _ c, updF_ne _ _ c]; exact hP p (by omega)) () Y () ⟨kG.rf Y, fun p hp => by omega⟩
  refine ⟨Z, l1.trans ?_, l2, ⟨fun p hp => ?_, fun p h1 h2 => ?_⟩⟩
  · rw [q147_2]
    simp (disch := first | omega | (simp only [sgets, reduceIte, Nat.reduceEqDiff, dec_S, Nat.reduceAdd]; done) | omega) only [cS_1, crd, z_pv_some, z_wv_some, z_cv_v, z_cv_n, cwr, sgets, rc_O, ia_n, fa_n, is_n, fs_n, ↓mI_eq, lits, nI_add, nLe, nLt, nE, mI_ne, mI_ne', mI_lt, mI_le, mI_nlt, mI_nle, ne_eq, mI_addC, pk_sub, pk_mul, pk_div, Nat.reduceEqDiff, Nat.reduceAdd, Nat.reduceMul, Nat.reduceSub, reduceIte, not_true_eq_false, not_false_eq_true, true_or, or_true, if_true, if_false, and_self, and_true, true_and, and_false, false_and, or_self, or_false, false_or, decide_true, decide_false, Bool.false_eq_true, Bool.true_eq_false, bI_t, bI_f, oS_1, ord, owA0, owF0, owF1, owA1, owF2, owA2, owF3, owA3, ywo, gfs11, pfs11, yrd, ywr, q147_3, q147_5, Nat.le_refl, dec_S, Nat.reduceAdd]
  · obtain ⟨a1, a2⟩ := l3 p (by omega)
    obtain ⟨b1, b2⟩ := gInit_it V b U J p hp
    rw [a1, a2, b1, b2]
    exact ⟨rfl, rfl⟩
  · rw [(l3 p h2).1, ((h.2.2.2.2.2.2.1 p h2).2.1 h1), if_neg (by rw [mI_ne' (by omega)]; exact id)]
theorem gat2 {V Y : z_V} (h : Rl c J S Hy B V Y) {b x : Nat} (hb : b < B) (hx : x < B) (e : Int32) {U : z_V} (hg : gR J U Y) (x4 x5 x6 x7 : Option Value) : ∃ Z y4 y5 y6 y7, z_ex 147 M.1 48 [some (.ref o), some (.int (nI b)), some (.int e), some (.int (nI x)), x4, x5, x6, x7] [] (yS M o Y w) = z_ex 147 M.1 48 [some (.ref o), some (.int (nI b)), some (.int e), some (.int (nI (x + 1))), y4, y5, y6, y7] [] (yS M o Z w) ∧ kG Y Z ∧ gR J (gN V b e x U) Z := by
  obtain ⟨hB, e11⟩ := Rl_11 h
  have hJ := (Rl_J h).1
  have hx2 : ¬ B ≤ x := by omega
  obtain ⟨g1, g2⟩ := h.2.2.2.2.2.2.2.2.2.1 b x hb hx
  have hst := h.1.2.2.2.2.2.2.2.2.1
  unfold gN
  rcases way_lt V (show b < 8 by omega) (show x < 8 by omega) with hw | ⟨v, hv, hw⟩
  · rw [if_pos (Or.inl hw)]
    have e20 := g1 hw
    refine ⟨Y, some (.int (nI (395 + 9 * (8 * b + x)))), some (.int (nI 0)), x6, x7, ?_, kG.rf Y, hg⟩
    rw [q147_48]
    simp (disch := first | omega | (simp only [sgets, reduceIte, Nat.reduceEqDiff, e11, hx2, e20, dec_S, Nat.reduceAdd]; done) | omega) only [cS_1, crd, z_pv_some, z_wv_some, z_cv_v, z_cv_n, cwr, sgets, rc_O, ia_n, fa_n, is_n, fs_n, ↓mI_eq, lits, nI_add, nLe, nLt, nE, mI_ne, mI_ne', mI_lt, mI_le, mI_nlt, mI_nle, ne_eq, mI_addC, pk_sub, pk_mul, pk_div, Nat.reduceEqDiff, Nat.reduceAdd, Nat.reduceMul, Nat.reduceSub, reduceIte, not_true_eq_false, not_false_eq_true, true_or, or_true, if_true, if_false, and_self, and_true, true_and, and_false, false_and, or_self, or_false, false_or, decide_true, decide_false, Bool.false_eq_true, Bool.true_eq_false, bI_t, bI_f, oS_1, ord, owA0, owF0, owF1, owA1, owF2, owA2, owF3, owA3, ywo, gfs11, pfs11, yrd, ywr, q147_49, q147_50, q147_53, q147_55, q147_56, q147_59, q147_62, q147_64, q147_66, q147_67, q147_68, q147_69, q147_70, q147_71, q147_72, q147_74, q147_75, q147_77, q147_79, q147_80, q147_83, q147_85, q147_86, q147_190, q147_193, Nat.le_refl, e11, hx2, e20, dec_S, Nat.reduceAdd]
  · obtain ⟨e20, hk⟩ := g2 v hw hv
    obtain ⟨n, hn, hz, hs⟩ := hst v hv
    rw [hz] at e20
    rw [hw, nI_clamp (by omega), hz, nI_clamp (by omega)]
    by_cases c2 : nI x = e
    · rw [if_pos (Or.inr c2)]
      have c2' := eq_true c2
      refine ⟨Y, some (.int (nI (395 + 9 * (8 * b + x)))), some (.int (nI 0)), x6, x7, ?_, kG.rf Y, hg⟩
      rw [q147_48]
      by_cases cn : n ≤ 0
      · simp (disch := first | omega | (simp only [sgets, reduceIte, Nat.reduceEqDiff, e11, hx2, e20, cn, dec_S, Nat.reduceAdd]; done) | omega) only [cS_1, crd, z_pv_some, z_wv_some, z_cv_v, z_cv_n, cwr, sgets, rc_O, ia_n, fa_n, is_n, fs_n, ↓mI_eq, lits, nI_add, nLe, nLt, nE, mI_ne, mI_ne', mI_lt, mI_le, mI_nlt, mI_nle, ne_eq, mI_addC, pk_sub, pk_mul, pk_div, Nat.reduceEqDiff, Nat.reduceAdd, Nat.reduceMul, Nat.reduceSub, reduceIte, not_true_eq_false, not_false_eq_true, true_or, or_true, if_true, if_false, and_self, and_true, true_and, and_false, false_and, or_self, or_false, false_or, decide_true, decide_false, Bool.false_eq_true, Bool.true_eq_false, bI_t, bI_f, oS_1, ord, owA0, owF0, owF1, owA1, owF2, owA2, owF3, owA3, ywo, gfs11, pfs11, yrd, ywr, q147_49, q147_50, q147_53, q147_55, q147_56, q147_59, q147_62, q147_64, q147_66, q147_67, q147_68, q147_69, q147_70, q147_71, q147_72, q147_74, q147_75, q147_77, q147_79, q147_80, q147_83, q147_85, q147_86, q147_190, q147_193, e11, hx2, e20, cn, dec_S, Nat.reduceAdd]
      · simp (disch := first | omega | (simp only [sgets, reduceIte, Nat.reduceEqDiff, e11, hx2, e20, cn, c2', dec_S, Nat.reduceAdd]; done) | omega) only [cS_1, crd, z_pv_some, z_wv_some, z_cv_v, z_cv_n, cwr, sgets, rc_O, ia_n, fa_n, is_n, fs_n, ↓mI_eq, lits, nI_add, nLe, nLt, nE, mI_ne, mI_ne', mI_lt, mI_le, mI_nlt, mI_nle, ne_eq, mI_addC, pk_sub, pk_mul, pk_div, Nat.reduceEqDiff, Nat.reduceAdd, Nat.reduceMul, Nat.reduceSub, reduceIte, not_true_eq_false, not_false_eq_true, true_or, or_true, if_true, if_false, and_self, and_true, true_and, and_false, false_and, or_self, or_false, false_or, decide_true, decide_false, Bool.false_eq_true, Bool.true_eq_false, bI_t, bI_f, oS_1, ord, owA0, owF0, owF1, owA1, owF2, owA2, owF3, owA3, ywo, gfs11, pfs11, yrd, ywr, q147_49, q147_50, q147_53, q147_55, q147_56, q147_59, q147_62, q147_64, q147_66, q147_67, q147_68, q147_69, q147_70, q147_71, q147_72, q147_74, q147_75, q147_77, q147_79, q147_80, q147_83, q147_85, q147_86, q147_89, q147_90, q147_91, q147_190, q147_193, e11, hx2, e20, cn, c2', dec_S, Nat.reduceAdd]
    · rw [if_neg (by rw [mI_ne (by omega)]; simp [c2])]
      obtain ⟨Z, ⟨j6, j7⟩, l1, l2, l3⟩ := lp_rel (fun k (Y : z_V) (j : Option Value × Option Value) => z_ex 147 M.1 77 [some (.ref o), some (.int (nI b)), some (.int e), some (.int (nI x)), some (.int (nI (395 + 9 * (8 * b + x)))), some (.int (nI k)), j.1, j.2] [] (yS M o Y w)) (gatW V v) (fun k U' Y' => kG Y Y' ∧ gR J U' Y') n (by
        rintro k U' Y' ⟨j6, j7⟩ hkn ⟨hG, hgR⟩
        have hk2 : ¬ n ≤ k := by omega
        have f20 : Y'.2.2.1 20 (8 * b + x) = nI n := by rw [hG.2.1 20 (by omega)]; exact e20
        obtain ⟨k21, k22, k2⟩ := hk k (by rw [hz, nI_clamp (by omega)]; exact hkn)
        obtain ⟨n1, s, s1, s2⟩ := hs k hkn
        have f21 : Y'.2.2.1 21 (4 * (8 * b + x) + k) = nI s := by rw [hG.2.1 21 (by omega), k21]; exact s2
        have f22 : Y'.2.2.1 22 (4 * (8 * b + x) + k) = V.2.2.1 18 (v * 4 + k) := by rw [hG.2.1 22 (by omega), k22]
        have f2 : Y'.2.2.2 2 (4 * (8 * b + x) + k) = V.2.2.2 2 (v * 4 + k) := by rw [hG.2.2 2 (by omega), k2]
        obtain ⟨a24, a5⟩ := hgR.1 s s1
        unfold gatW
        rw [s2, nI_clamp (by omega)]
        by_cases a1 : U'.2.2.1 0 s = mI ∨ V.2.2.1 18 (v * 4 + k) < U'.2.2.1 0 s
        · rw [if_pos a1]
          refine ⟨sF (sA Y' 24 (upd (Y'.2.2.1 24) s (V.2.2.1 18 (v * 4 + k)))) 5 (vf_upd (Y'.2.2.2 5) s (V.2.2.2 2 (v * 4 + k))), (some (.int (nI s)), some (.int (V.2.2.1 18 (v * 4 + k)))), ?_, (hG.tr (kG_A _ _)).tr (kG_F _ _), ⟨fun p hp => ?_, fun p h1 h2 => ?_⟩⟩
          · rw [q147_77]
            by_cases a2 : U'.2.2.1 0 s = mI
            · simp (disch := first | omega | (simp only [sgets, reduceIte, Nat.reduceEqDiff, f20, f21, f22, f2, hk2, c2, a24, a2, dec_S, Nat.reduceAdd]; done) | omega) only [cS_1, crd, z_pv_some, z_wv_some, z_cv_v, z_cv_n, cwr, sgets, rc_O, ia_n, fa_n, is_n, fs_n, ↓mI_eq, lits, nI_add, nLe, nLt, nE, mI_ne, mI_ne', mI_lt, mI_le, mI_nlt, mI_nle, ne_eq, mI_addC, pk_sub, pk_mul, pk_div, Nat.reduceEqDiff, Nat.reduceAdd, Nat.reduceMul, Nat.reduceSub, reduceIte, not_true_eq_false, not_false_eq_true, true_or, or_true, if_true, if_false, and_self, and_true, true_and, and_false, false_and, or_self, or_false, false_or, decide_true, decide_false, Bool.false_eq_true, Bool.true_eq_false, bI_t, bI_f, oS_1, ord, owA0, owF0, owF1, owA1, owF2, owA2, owF3, owA3, ywo, gfs11, pfs11, yrd, ywr, q147_79, q147_80, q147_83, q147_85, q147_86, q147_89, q147_90, q147_91, q147_94, q147_95, q147_98, q147_100, q147_101, q147_102, q147_103, q147_105, q147_106, q147_107, q147_108, q147_110, q147_111, q147_114, q147_116, q147_117, q147_118, q147_119, q147_121, q147_122, q147_123, q147_124, q147_126, q147_127, q147_130, q147_132, q147_133, q147_134, q147_137, q147_139, q147_140, q147_143, q147_145, q147_146, q147_149, q147_150, q147_153, q147_155, q147_157, q147_158, q147_159, q147_162, q147_164, q147_165, q147_168, q147_170, q147_171, q147_173, q147_174, q147_175, q147_176, q147_177, q147_178, q147_179, q147_181, q147_182, q147_183, q147_184, q147_187, f20, f21, f22, f2, hk2, c2, a24, a2, dec_S, Nat.reduceAdd]
            · have a3 : ¬ U'.2.2.1 0 s ≤ V.2.2.1 18 (v * 4 + k) := by
                rcases a1 with q | q
                · exact absurd q a2
                · exact Int32.not_le.mpr q
              simp (disch := first | omega | (simp only [sgets, reduceIte, Nat.reduceEqDiff, f20, f21, f22, f2, hk2, c2, a24, a2, a3, dec_S, Nat.reduceAdd]; done) | omega) only [cS_1, crd, z_pv_some, z_wv_some, z_cv_v, z_cv_n, cwr, sgets, rc_O, ia_n, fa_n, is_n, fs_n, ↓mI_eq, lits, nI_add, nLe, nLt, nE, mI_ne, mI_ne', mI_lt, mI_le, mI_nlt, mI_nle, ne_eq, mI_addC, pk_sub, pk_mul, pk_div, Nat.reduceEqDiff, Nat.reduceAdd, Nat.reduceMul, Nat.reduceSub, reduceIte, not_true_eq_false, not_false_eq_true, true_or, or_true, if_true, if_false, and_self, and_true, true_and, and_false, false_and, or_self, or_false, false_or, decide_true, decide_false, Bool.false_eq_true, Bool.true_eq_false, bI_t, bI_f, oS_1, ord, owA0, owF0, owF1, owA1, owF2, owA2, owF3, owA3, ywo, gfs11, pfs11, yrd, ywr, q147_79, q147_80, q147_83, q147_85, q147_86, q147_89, q147_90, q147_91, q147_94, q147_95, q147_98, q147_100, q147_101, q147_102, q147_103, q147_105, q147_106, q147_107, q147_108, q147_110, q147_111, q147_114, q147_116, q147_117, q147_118, q147_119, q147_121, q147_122, q147_123, q147_124, q147_126, q147_127, q147_130, q147_132, q147_133, q147_134, q147_137, q147_139, q147_140, q147_143, q147_145, q147_146, q147_149, q147_150, q147_153, q147_155, q147_157, q147_158, q147_159, q147_162, q147_164, q147_165, q147_168, q147_170, q147_171, q147_173, q147_174, q147_175, q147_176, q147_177, q147_178, q147_179, q147_181, q147_182, q147_183, q147_184, q147_187, f20, f21, f22, f2, hk2, c2, a24, a2, a3, dec_S, Nat.reduceAdd]
          · simp only [sgets, if_true]
            by_cases cp : p = s
            · subst cp; rw [upd_eq, updF_eq, upd_eq, updF_eq]; exact ⟨rfl, rfl⟩
            · rw [upd_ne _ _ cp, updF_ne _ _ cp, upd_ne _ _ cp, updF_ne _ _ cp]; exact hgR.1 p hp
          · simp only [sgets, if_true]
            rw [upd_ne _ _ (by omega)]
            exact hgR.2 p h1 h2
        · rw [if_neg a1]
          refine ⟨Y', (some (.int (nI s)), some (.int (V.2.2.1 18 (v * 4 + k)))), ?_, hG, hgR⟩
          have a2 : ¬ U'.2.2.1 0 s = mI := fun q => a1 (Or.inl q)
          have a3 : U'.2.2.1 0 s ≤ V.2.2.1 18 (v * 4 + k) := Int32.not_lt.mp (fun q => a1 (Or.inr q))
          rw [q147_77]
          simp (disch := first | omega | (simp only [sgets, reduceIte, Nat.reduceEqDiff, f20, f21, f22, f2, hk2, c2, a24, a2, a3, dec_S, Nat.reduceAdd]; done) | omega) only [cS_1, crd, z_pv_some, z_wv_some, z_cv_v, z_cv_n, cwr, sgets, rc_O, ia_n, fa_n, is_n, fs_n, ↓mI_eq, lits, nI_add, nLe, nLt, nE, mI_ne, mI_ne', mI_lt, mI_le, mI_nlt, mI_nle, ne_eq, mI_addC, pk_sub, pk_mul, pk_div, Nat.reduceEqDiff, Nat.reduceAdd, Nat.reduceMul, Nat.reduceSub, reduceIte, not_true_eq_false, not_false_eq_true, true_or, or_true, if_true, if_false, and_self, and_true, true_and, and_false, false_and, or_self, or_false, false_or, decide_true, decide_false, Bool.false_eq_true, Bool.true_eq_false, bI_t, bI_f, oS_1, ord, owA0, owF0, owF1, owA1, owF2, owA2, owF3, owA3, ywo, gfs11, pfs11, yrd, ywr, q147_79, q147_80, q147_83, q147_85, q147_86, q147_89, q147_90, q147_91, q147_94, q147_95, q147_98, q147_100, q147_101, q147_102, q147_103, q147_105, q147_106, q147_107, q147_108, q147_110, q147_111, q147_114, q147_116, q147_117, q147_118, q147_119, q147_121, q147_122, q147_123, q147_124, q147_126, q147_127, q147_130, q147_132, q147_133, q147_134, q147_137, q147_139, q147_140, q147_143, q147_145, q147_146, q147_149, q147_150, q147_153, q147_155, q147_157, q147_158, q147_159, q147_162, q147_164, q147_165, q147_168, q147_170, q147_171, q147_173, q147_174, q147_175, q147_176, q147_177, q147_178, q147_179, q147_181, q147_182, q147_183, q147_184, q147_187, f20, f21, f22, f2, hk2, c2, a24, a2, a3, dec_S, Nat.reduceAdd]) U Y (x6, x7) ⟨kG.rf Y, hg⟩
      have f20 : Z.2.2.1 20 (8 * b + x) = nI n := by rw [l2.2.1 20 (by omega)]; exact e20
      refine ⟨Z, some (.int (nI (395 + 9 * (8 * b + x)))), some (.int (nI n)), j6, j7, ?_, l2, l3⟩
      rw [q147_48]
      refine Eq.trans ?_ (l1.trans ?_)
      · simp (disch := first | omega | (simp only [sgets, reduceIte, Nat.reduceEqDiff, e11, hx2, dec_S, Nat.reduceAdd]; done) | omega) only [cS_1, crd, z_pv_some, z_wv_some, z_cv_v, z_cv_n, cwr, sgets, rc_O, ia_n, fa_n, is_n, fs_n, ↓mI_eq, lits, nI_add, nLe, nLt, nE, mI_ne, mI_ne', mI_lt, mI_le, mI_nlt, mI_nle, ne_eq, mI_addC, pk_sub, pk_mul, pk_div, Nat.reduceEqDiff, Nat.reduceAdd, Nat.reduceMul, Nat.reduceSub, reduceIte, not_true_eq_false, not_false_eq_true, true_or, or_true, if_true, if_false, and_self, and_true, true_and, and_false, false_and, or_self, or_false, false_or, decide_true, decide_false, Bool.false_eq_true, Bool.true_eq_false, bI_t, bI_f, oS_1, ord, owA0, owF0, owF1, owA1, owF2, owA2, owF3, owA3, ywo, gfs11, pfs11, yrd, ywr, q147_49, q147_50, q147_53, q147_55, q147_56, q147_59, q147_62, q147_64, q147_66, q147_67, q147_68, q147_69, q147_70, q147_71, q147_72, q147_74, q147_75, e11, hx2, dec_S, Nat.reduceAdd]
      · rw [q147_77]
        simp (disch := first | omega | (simp only [sgets, reduceIte, Nat.reduceEqDiff, f20, dec_S, Nat.reduceAdd]; done) | omega) only [cS_1, crd, z_pv_some, z_wv_some, z_cv_v, z_cv_n, cwr, sgets, rc_O, ia_n, fa_n, is_n, fs_n, ↓mI_eq, lits, nI_add, nLe, nLt, nE, mI_ne, mI_ne', mI_lt, mI_le, mI_nlt, mI_nle, ne_eq, mI_addC, pk_sub, pk_mul, pk_div, Nat.reduceEqDiff, Nat.reduceAdd, Nat.reduceMul, Nat.reduceSub, reduceIte, not_true_eq_false, not_false_eq_true, true_or, or_true, if_true, if_false, and_self, and_true, true_and, and_false, false_and, or_self, or_false, false_or, decide_true, decide_false, Bool.false_eq_true, Bool.true_eq_false, bI_t, bI_f, oS_1, ord, owA0, owF0, owF1, owA1, owF2, owA2, owF3, owA3, ywo, gfs11, pfs11, yrd, ywr, q147_79, q147_80, q147_83, q147_85, q147_86, q147_190, q147_193, Nat.le_refl, f20, dec_S, Nat.reduceAdd]
theorem s147 {V Y : z_V} (h : Rl c J S Hy B V Y) {b : Nat} (hb : b < B) (e : Int32) (U : z_V) : ∃ Z, z_cl 147 [.ref o, .int (nI b), .int e] (yS M o Y w) = some (none, yS M o Z w) ∧ kG Y Z ∧ gR J (gath V b e J B U) Z := by
  have hB := (Rl_11 h).1
  obtain ⟨Z1, a1, a2, a3⟩ := gat1 M o w h hb (.int e) U none none none none
  have e11 := (Rl_11 h).2
  obtain ⟨Z, ⟨j4, j5, j6, j7⟩, l1, l2, l3⟩ := lp_rel (fun k (Y : z_V) (j : Option Value × Option Value × Option Value × Option Value) => z_ex 147 M.1 48 [some (.ref o), some (.int (nI b)), some (.int e), some (.int (nI k)), j.1, j.2.1, j.2.2.1, j.2.2.2] [] (yS M o Y w)) (gN V b e) (fun k U' Y' => kG Y Y' ∧ gR J U' Y') B (by
    rintro k U' Y' ⟨j4, j5, j6, j7⟩ hk ⟨hG, hg⟩
    obtain ⟨Z, y4, y5, y6, y7, z1, z2, z3⟩ := gat2 M o w (Rl_kG hG h) hb hk e hg j4 j5 j6 j7
    exact ⟨Z, (y4, y5, y6, y7), z1, hG.tr z2, z3⟩) (it (gInit V b) J U) Z1 (none, none, none, none) ⟨a2, a3⟩
  have f11 : Z.1 11 = nI B := by rw [l2.1]; exact e11
  refine ⟨Z, ?_, l2, l3⟩
  rw [e147]
  refine Eq.trans ?_ (a1.trans (Eq.trans ?_ (l1.trans ?_)))
  · simp (disch := first | omega | (simp only [sgets, reduceIte, Nat.reduceEqDiff, dec_S, Nat.reduceAdd]; done) | omega) only [cS_1, crd, z_pv_some, z_wv_some, z_cv_v, z_cv_n, cwr, sgets, rc_O, ia_n, fa_n, is_n, fs_n, ↓mI_eq, lits, nI_add, nLe, nLt, nE, mI_ne, mI_ne', mI_lt, mI_le, mI_nlt, mI_nle, ne_eq, mI_addC, pk_sub, pk_mul, pk_div, Nat.reduceEqDiff, Nat.reduceAdd, Nat.reduceMul, Nat.reduceSub, reduceIte, not_true_eq_false, not_false_eq_true, true_or, or_true, if_true, if_false, and_self, and_true, true_and, and_false, false_and, or_self, or_false, false_or, decide_true, decide_false, Bool.false_eq_true, Bool.true_eq_false, bI_t, bI_f, oS_1, ord, owA0, owF0, owF1, owA1, owF2, owA2, owF3, owA3, ywo, gfs11, pfs11, yrd, ywr, q147_0, q147_1, dec_S, Nat.reduceAdd]
  · simp (disch := first | omega | (simp only [sgets, reduceIte, Nat.reduceEqDiff, dec_S, Nat.reduceAdd]; done) | omega) only [cS_1, crd, z_pv_some, z_wv_some, z_cv_v, z_cv_n, cwr, sgets, rc_O, ia_n, fa_n, is_n, fs_n, ↓mI_eq, lits, nI_add, nLe, nLt, nE, mI_ne, mI_ne', mI_lt, mI_le, mI_nlt, mI_nle, ne_eq, mI_addC, pk_sub, pk_mul, pk_div, Nat.reduceEqDiff, Nat.reduceAdd, Nat.reduceMul, Nat.reduceSub, reduceIte, not_true_eq_false, not_false_eq_true, true_or, or_true, if_true, if_false, and_self, and_true, true_and, and_false, false_and, or_self, or_false, false_or, decide_true, decide_false, Bool.false_eq_true, Bool.true_eq_false, bI_t, bI_f, oS_1, ord, owA0, owF0, owF1, owA1, owF2, owA2, owF3, owA3, ywo, gfs11, pfs11, yrd, ywr, q147_46, q147_47, dec_S, Nat.reduceAdd]
  · rw [q147_48]
    simp (disch := first | omega | (simp only [sgets, reduceIte, Nat.reduceEqDiff, f11, dec_S, Nat.reduceAdd]; done) | omega) only [cS_1, crd, z_pv_some, z_wv_some, z_cv_v, z_cv_n, cwr, sgets, rc_O, ia_n, fa_n, is_n, fs_n, ↓mI_eq, lits, nI_add, nLe, nLt, nE, mI_ne, mI_ne', mI_lt, mI_le, mI_nlt, mI_nle, ne_eq, mI_addC, pk_sub, pk_mul, pk_div, Nat.reduceEqDiff, Nat.reduceAdd, Nat.reduceMul, Nat.reduceSub, reduceIte, not_true_eq_false, not_false_eq_true, true_or, or_true, if_true, if_false, and_self, and_true, true_and, and_false, false_and, or_self, or_false, false_or, decide_true, decide_false, Bool.false_eq_true, Bool.true_eq_false, bI_t, bI_f, oS_1, ord, owA0, owF0, owF1, owA1, owF2, owA2, owF3, owA3, ywo, gfs11, pfs11, yrd, ywr, q147_49, q147_50, q147_53, q147_55, q147_56, q147_196, Nat.le_refl, f11, dec_S, Nat.reduceAdd]
theorem Rl_hr {V Y : z_V} (h : Rl c J S Hy B V Y) (f : Nat → UInt32) (g : Nat → Int32) (hf : ∀ p, p < 20 → f p ≤ sb 20) : Rl c J S Hy B (sA (sF V 1 f) 10 g) (sF (sA Y 16 g) 1 f) := by
  obtain ⟨⟨q1, q2, q3, q4, q5, q6, q7, q8, q9, q10, q11⟩, hfl, hSB, r1, r2, r3, r4, r5, r6, r7⟩ := h
  exact ⟨⟨q1, q2, q3, q4, q5, q6, q7, q8, q9, q10, hf⟩, hfl, hSB, r1, ⟨r2.1, r2.2.1, r2.2.2.1, r2.2.2.2.1, r2.2.2.2.2.1, r2.2.2.2.2.2.1, r2.2.2.2.2.2.2.1, rfl, r2.2.2.2.2.2.2.2.2.1, r2.2.2.2.2.2.2.2.2.2.1, r2.2.2.2.2.2.2.2.2.2.2.1, r2.2.2.2.2.2.2.2.2.2.2.2.1, rfl⟩, r3, r4, r5, r6, r7⟩
theorem s148 {V Y : z_V} (h : Rl c J S Hy B V Y) {U : z_V} (hg : gR J U Y) (hm : mlOk U J) {p : Nat} (hp : p < J) : ∃ Z, z_cl 148 [.ref o, .int (nI p)] (yS M o Y w) = some (none, yS M o Z w) ∧ Rl c J S Hy B (hearV V U J p) Z ∧ gR J U Z ∧ kY Y Z := by
  have hJ := (Rl_J h).1
  have hl := it_for (fun k (s : UInt32 × Int32) => z_ex 148 M.1 7 [some (.ref o), some (.int (nI p)), some (.int s.2), some (.float s.1), some (.int (nI k))] [] (yS M o Y w)) (fun k s => if k < J then hearS U (nI p) k s else s) (fun k s => s.1 ≤ sb k) 20 (by
    rintro k s hk hs
    have hk2 : ¬ 20 ≤ k := by omega
    by_cases cJ : k < J
    · obtain ⟨n1, n2⟩ := sb_step (show k < 20 by omega) hs (hm k cJ)
      obtain ⟨a24, a5⟩ := hg.1 k cJ
      simp only [cJ, if_true]
      refine ⟨?_, ?_⟩
      · rw [q148_7]
        unfold hearS
        by_cases a2 : k = p
        · subst a2
          simp (disch := first | omega | (simp only [sgets, reduceIte, Nat.reduceEqDiff, hk2, dec_S, Nat.reduceAdd]; done) | omega) only [cS_1, crd, z_pv_some, z_wv_some, z_cv_v, z_cv_n, cwr, sgets, rc_O, ia_n, fa_n, is_n, fs_n, ↓mI_eq, lits, nI_add, nLe, nLt, nE, mI_ne, mI_ne', mI_lt, mI_le, mI_nlt, mI_nle, ne_eq, mI_addC, pk_sub, pk_mul, pk_div, Nat.reduceEqDiff, Nat.reduceAdd, Nat.reduceMul, Nat.reduceSub, reduceIte, not_true_eq_false, not_false_eq_true, true_or, or_true, if_true, if_false, and_self, and_true, true_and, and_false, false_and, or_self, or_false, false_or, decide_true, decide_false, Bool.false_eq_true, Bool.true_eq_false, bI_t, bI_f, oS_1, ord, owA0, owF0, owF1, owA1, owF2, owA2, owF3, owA3, ywo, gfs11, pfs11, yrd, ywr, q148_9, q148_11, q148_14, q148_16, q148_17, q148_20, q148_21, q148_24, q148_26, q148_27, q148_28, q148_31, q148_32, q148_33, q148_35, q148_36, q148_37, q148_38, q148_39, q148_40, q148_43, q148_45, q148_46, q148_47, q148_48, q148_51, hk2, dec_S, Nat.reduceAdd]
        · by_cases a1 : U.2.2.1 0 k = mI
          · simp (disch := first | omega | (simp only [sgets, reduceIte, Nat.reduceEqDiff, hk2, a2, a24, a1, dec_S, Nat.reduceAdd]; done) | omega) only [cS_1, crd, z_pv_some, z_wv_some, z_cv_v, z_cv_n, cwr, sgets, rc_O, ia_n, fa_n, is_n, fs_n, ↓mI_eq, lits, nI_add, nLe, nLt, nE, mI_ne, mI_ne', mI_lt, mI_le, mI_nlt, mI_nle, ne_eq, mI_addC, pk_sub, pk_mul, pk_div, Nat.reduceEqDiff, Nat.reduceAdd, Nat.reduceMul, Nat.reduceSub, reduceIte, not_true_eq_false, not_false_eq_true, true_or, or_true, if_true, if_false, and_self, and_true, true_and, and_false, false_and, or_self, or_false, false_or, decide_true, decide_false, Bool.false_eq_true, Bool.true_eq_false, bI_t, bI_f, oS_1, ord, owA0, owF0, owF1, owA1, owF2, owA2, owF3, owA3, ywo, gfs11, pfs11, yrd, ywr, q148_9, q148_11, q148_14, q148_16, q148_17, q148_20, q148_21, q148_24, q148_26, q148_27, q148_28, q148_31, q148_32, q148_33, q148_35, q148_36, q148_37, q148_38, q148_39, q148_40, q148_43, q148_45, q148_46, q148_47, q148_48, q148_51, hk2, a2, a24, a1, dec_S, Nat.reduceAdd]
          · simp (disch := first | omega | (simp only [sgets, reduceIte, Nat.reduceEqDiff, hk2, a2, a24, a5, a1, dec_S, Nat.reduceAdd]; done) | omega) only [cS_1, crd, z_pv_some, z_wv_some, z_cv_v, z_cv_n, cwr, sgets, rc_O, ia_n, fa_n, is_n, fs_n, ↓mI_eq, lits, nI_add, nLe, nLt, nE, mI_ne, mI_ne', mI_lt, mI_le, mI_nlt, mI_nle, ne_eq, mI_addC, pk_sub, pk_mul, pk_div, Nat.reduceEqDiff, Nat.reduceAdd, Nat.reduceMul, Nat.reduceSub, reduceIte, not_true_eq_false, not_false_eq_true, true_or, or_true, if_true, if_false, and_self, and_true, true_and, and_false, false_and, or_self, or_false, false_or, decide_true, decide_false, Bool.false_eq_true, Bool.true_eq_false, bI_t, bI_f, oS_1, ord, owA0, owF0, owF1, owA1, owF2, owA2, owF3, owA3, ywo, gfs11, pfs11, yrd, ywr, q148_9, q148_11, q148_14, q148_16, q148_17, q148_20, q148_21, q148_24, q148_26, q148_27, q148_28, q148_31, q148_32, q148_33, q148_35, q148_36, q148_37, q148_38, q148_39, q148_40, q148_43, q148_45, q148_46, q148_47, q148_48, q148_51, n1, hk2, a2, a24, a5, a1, dec_S, Nat.reduceAdd]
      · unfold hearS
        split
        · exact n2
        · exact UInt32.le_trans hs (sb_mono (by omega))
    · have a24 := hg.2 k (by omega) hk
      have a2 : ¬ k = p := by omega
      simp only [cJ, if_false]
      refine ⟨?_, UInt32.le_trans hs (sb_mono (by omega))⟩
      rw [q148_7]
      simp (disch := first | omega | (simp only [sgets, reduceIte, Nat.reduceEqDiff, hk2, a2, a24, dec_S, Nat.reduceAdd]; done) | omega) only [cS_1, crd, z_pv_some, z_wv_some, z_cv_v, z_cv_n, cwr, sgets, rc_O, ia_n, fa_n, is_n, fs_n, ↓mI_eq, lits, nI_add, nLe, nLt, nE, mI_ne, mI_ne', mI_lt, mI_le, mI_nlt, mI_nle, ne_eq, mI_addC, pk_sub, pk_mul, pk_div, Nat.reduceEqDiff, Nat.reduceAdd, Nat.reduceMul, Nat.reduceSub, reduceIte, not_true_eq_false, not_false_eq_true, true_or, or_true, if_true, if_false, and_self, and_true, true_and, and_false, false_and, or_self, or_false, false_or, decide_true, decide_false, Bool.false_eq_true, Bool.true_eq_false, bI_t, bI_f, oS_1, ord, owA0, owF0, owF1, owA1, owF2, owA2, owF3, owA3, ywo, gfs11, pfs11, yrd, ywr, q148_9, q148_11, q148_14, q148_16, q148_17, q148_20, q148_21, q148_24, q148_26, q148_27, q148_28, q148_31, q148_32, q148_33, q148_35, q148_36, q148_37, q148_38, q148_39, q148_40, q148_43, q148_45, q148_46, q148_47, q148_48, q148_51, hk2, a2, a24, dec_S, Nat.reduceAdd]) (0, nI 0) (by show (0 : UInt32) ≤ _; decide +kernel) 20 (Nat.le_refl 20)
  have eit : it (fun k s => if k < J then hearS U (nI p) k s else s) 20 (0, nI 0) = it (hearS U (nI p)) J (0, nI 0) := by
    rw [it_ext (J := J) hJ (fun k s a b => by rw [if_neg (by omega)])]
    exact it_congr (fun k s hk => if_pos hk) _
  obtain ⟨hl1, hl2⟩ := hl
  rw [eit] at hl1 hl2
  have hRl := Rl_hr h (vf_upd (V.2.2.2 1) p (it (hearS U (nI p)) J (0, nI 0)).1) (upd (V.2.2.1 10) p (it (hearS U (nI p)) J (0, nI 0)).2) (fun q hq => by
    by_cases c : q = p
    · subst c; rw [updF_eq]; exact hl2
    · rw [updF_ne _ _ c]; exact h.1.2.2.2.2.2.2.2.2.2.2 q hq)
  have g12 := m118 M o Y w p 12 (by omega) (by omega) (it (hearS U (nI p)) J (0, nI 0)).2
  simp only [Nat.reduceAdd] at g12
  have e16 : Y.2.2.1 16 = V.2.2.1 10 := h.2.2.2.2.1.2.2.2.2.2.2.2.1
  have e1 : Y.2.2.2 1 = V.2.2.2 1 := h.2.2.2.2.1.2.2.2.2.2.2.2.2.2.2.2.2
  refine ⟨sF (sA Y 16 (upd (Y.2.2.1 16) p (it (hearS U (nI p)) J (0, nI 0)).2)) 1 (vf_upd (Y.2.2.2 1) p (it (hearS U (nI p)) J (0, nI 0)).1), ?_, ?_, hg, ⟨fun _ _ => rfl, ⟨rfl, rfl⟩, rfl, rfl⟩⟩
  · rw [e148]
    refine Eq.trans ?_ (hl1.trans ?_)
    · simp (disch := first | omega | (simp only [sgets, reduceIte, Nat.reduceEqDiff, dec_S, Nat.reduceAdd]; done) | omega) only [cS_1, crd, z_pv_some, z_wv_some, z_cv_v, z_cv_n, cwr, sgets, rc_O, ia_n, fa_n, is_n, fs_n, ↓mI_eq, lits, nI_add, nLe, nLt, nE, mI_ne, mI_ne', mI_lt, mI_le, mI_nlt, mI_nle, ne_eq, mI_addC, pk_sub, pk_mul, pk_div, Nat.reduceEqDiff, Nat.reduceAdd, Nat.reduceMul, Nat.reduceSub, reduceIte, not_true_eq_false, not_false_eq_true, true_or, or_true, if_true, if_false, and_self, and_true, true_and, and_false, false_and, or_self, or_false, false_or, decide_true, decide_false, Bool.false_eq_true, Bool.true_eq_false, bI_t, bI_f, oS_1, ord, owA0, owF0, owF1, owA1, owF2, owA2, owF3, owA3, ywo, gfs11, pfs11, yrd, ywr, q148_0, q148_1, q148_2, q148_3, q148_4, q148_5, dec_S, Nat.reduceAdd]
    · generalize it (hearS U (nI p)) J (0, nI 0) = s at g12 ⊢
      rw [q148_7]
      simp (disch := first | omega | (simp only [sgets, reduceIte, Nat.reduceEqDiff, dec_S, Nat.reduceAdd]; done) | omega) only [cS_1, crd, z_pv_some, z_wv_some, z_cv_v, z_cv_n, cwr, sgets, rc_O, ia_n, fa_n, is_n, fs_n, ↓mI_eq, lits, nI_add, nLe, nLt, nE, mI_ne, mI_ne', mI_lt, mI_le, mI_nlt, mI_nle, ne_eq, mI_addC, pk_sub, pk_mul, pk_div, Nat.reduceEqDiff, Nat.reduceAdd, Nat.reduceMul, Nat.reduceSub, reduceIte, not_true_eq_false, not_false_eq_true, true_or, or_true, if_true, if_false, and_self, and_true, true_and, and_false, false_and, or_self, or_false, false_or, decide_true, decide_false, Bool.false_eq_true, Bool.true_eq_false, bI_t, bI_f, oS_1, ord, owA0, owF0, owF1, owA1, owF2, owA2, owF3, owA3, ywo, gfs11, pfs11, yrd, ywr, q148_9, q148_11, q148_14, q148_16, q148_17, q148_20, q148_21, q148_24, q148_26, q148_27, q148_28, q148_31, q148_32, q148_33, q148_35, q148_36, q148_37, q148_38, q148_39, q148_40, q148_43, q148_45, q148_46, q148_47, q148_48, q148_51, q148_54, q148_55, q148_56, q148_58, q148_59, q148_62, q148_63, q148_66, q148_68, q148_69, q148_70, q148_71, q148_72, Nat.le_refl, g12, dec_S, Nat.reduceAdd]
  · rw [e16, e1]
    exact hRl
theorem s146 {V Y : z_V} (h : Rl c J S Hy B V Y) (U : z_V) : ∃ Z, z_cl 146 [.ref o] (yS M o Y w) = some (none, yS M o Z w) ∧ Rl c J S Hy B (it (letH J B) B (U, V)).2 Z ∧ kY Y Z := by
  have hJ := (Rl_J h).1
  obtain ⟨Z, j, l1, l2, l3⟩ := lp_rel (fun k (Y : z_V) (j : Option Value) => z_ex 146 M.1 2 [some (.ref o), some (.int (nI k)), j] [] (yS M o Y w)) (letH J B) (fun k (s : z_V × z_V) Y' => Rl c J S Hy B s.2 Y' ∧ kY Y Y') B (by
    rintro k ⟨U1, V1⟩ Y' j hk ⟨hR, hK⟩
    replace hR : Rl c J S Hy B V1 Y' := hR
    obtain ⟨hB, e11⟩ := Rl_11 hR
    have hk2 : ¬ B ≤ k := by omega
    obtain ⟨Z1, z1, z2, z3⟩ := s147 M o w hR hk mI U1
    obtain ⟨⟨_, h9⟩, _, _, ⟨_, h8⟩, _, _, _, hd, hst, _⟩ := hR.1
    have hml := (m33 M 0 32 (by omega) V1 U1 J B hJ h9 hB h8 hd hst k (by omega) mI).2
    have hR1 := Rl_kG z2 hR
    obtain ⟨Z2, -, y1, y2, y3, y4⟩ := lp_rel (fun p (Y : z_V) (_ : Unit) => z_ex 146 M.1 21 [some (.ref o), some (.int (nI k)), some (.int (nI p))] [] (yS M o Y w)) (hearP (gath V1 k mI J B U1) J k) (fun p V2 Y2 => Rl c J S Hy B V2 Y2 ∧ gR J (gath V1 k mI J B U1) Y2 ∧ kY Y' Y2) J (by
      rintro p V2 Y2 - hp ⟨hR2, hg2, hK2⟩
      have e12 := Rl_12 hR2
      have hp2 : ¬ J ≤ p := by omega
      have i0 := m116 M o Y2 w p 0 (by omega) (by omega)
      have i2 := m116 M o Y2 w p 2 (by omega) (by omega)
      simp only [Nat.reduceAdd] at i0 i2
      have r3 := hR2.2.2.2.2.2.1
      by_cases hm : V2.2.2.1 3 p = mI
      · have a1 := (r3.1 p hp hm).1
        have hu : hearP (gath V1 k mI J B U1) J k p V2 = V2 := by unfold hearP; rw [if_neg (by rw [hm, mI_ne' (by omega)]; exact id)]
        refine ⟨Y2, (), ?_, ?_⟩
        · rw [q146_21]
          simp (disch := first | omega | (simp only [sgets, reduceIte, Nat.reduceEqDiff, e12, hp2, a1, dec_S, Nat.reduceAdd]; done) | omega) only [cS_1, crd, z_pv_some, z_wv_some, z_cv_v, z_cv_n, cwr, sgets, rc_O, ia_n, fa_n, is_n, fs_n, ↓mI_eq, lits, nI_add, nLe, nLt, nE, mI_ne, mI_ne', mI_lt, mI_le, mI_nlt, mI_nle, ne_eq, mI_addC, pk_sub, pk_mul, pk_div, Nat.reduceEqDiff, Nat.reduceAdd, Nat.reduceMul, Nat.reduceSub, reduceIte, not_true_eq_false, not_false_eq_true, true_or, or_true, if_true, if_false, and_self, and_true, true_and, and_false, false_and, or_self, or_false, false_or, decide_true, decide_false, Bool.false_eq_true, Bool.true_eq_false, bI_t, bI_f, oS_1, ord, owA0, owF0, owF1, owA1, owF2, owA2, owF3, owA3, ywo, gfs11, pfs11, yrd, ywr, q146_22, q146_23, q146_26, q146_28, q146_29, q146_32, q146_33, q146_34, q146_35, q146_38, q146_39, q146_42, q146_43, q146_44, q146_45, q146_48, q146_49, q146_52, q146_53, q146_54, q146_57, q146_60, i0, e12, hp2, a1, dec_S, Nat.reduceAdd]
        · rw [hu]; exact ⟨hR2, hg2, hK2⟩
      · obtain ⟨a1, a2, a3, -⟩ := r3.2.1 p hp hm
        by_cases hbk : V2.2.2.1 3 p = nI k
        · have hu : hearP (gath V1 k mI J B U1) J k p V2 = hearV V2 (gath V1 k mI J B U1) J p := by unfold hearP; rw [if_pos hbk]
          obtain ⟨Z3, w1, w2, w3, w4⟩ := s148 M o w hR2 hg2 hml hp
          refine ⟨Z3, (), ?_, ?_, w3, hK2.tr w4⟩
          · rw [q146_21]
            simp (disch := first | omega | (simp only [sgets, reduceIte, Nat.reduceEqDiff, e12, hp2, a1, a2, hbk, dec_S, Nat.reduceAdd]; done) | omega) only [cS_1, crd, z_pv_some, z_wv_some, z_cv_v, z_cv_n, cwr, sgets, rc_O, ia_n, fa_n, is_n, fs_n, ↓mI_eq, lits, nI_add, nLe, nLt, nE, mI_ne, mI_ne', mI_lt, mI_le, mI_nlt, mI_nle, ne_eq, mI_addC, pk_sub, pk_mul, pk_div, Nat.reduceEqDiff, Nat.reduceAdd, Nat.reduceMul, Nat.reduceSub, reduceIte, not_true_eq_false, not_false_eq_true, true_or, or_true, if_true, if_false, and_self, and_true, true_and, and_false, false_and, or_self, or_false, false_or, decide_true, decide_false, Bool.false_eq_true, Bool.true_eq_false, bI_t, bI_f, oS_1, ord, owA0, owF0, owF1, owA1, owF2, owA2, owF3, owA3, ywo, gfs11, pfs11, yrd, ywr, q146_22, q146_23, q146_26, q146_28, q146_29, q146_32, q146_33, q146_34, q146_35, q146_38, q146_39, q146_42, q146_43, q146_44, q146_45, q146_48, q146_49, q146_52, q146_53, q146_54, q146_57, q146_60, i0, i2, w1, e12, hp2, a1, a2, hbk, dec_S, Nat.reduceAdd]
          · rw [hu]; exact w2
        · have hu : hearP (gath V1 k mI J B U1) J k p V2 = V2 := by unfold hearP; rw [if_neg hbk]
          refine ⟨Y2, (), ?_, ?_⟩
          · rw [q146_21]
            simp (disch := first | omega | (simp only [sgets, reduceIte, Nat.reduceEqDiff, e12, hp2, a1, a2, hbk, dec_S, Nat.reduceAdd]; done) | omega) only [cS_1, crd, z_pv_some, z_wv_some, z_cv_v, z_cv_n, cwr, sgets, rc_O, ia_n, fa_n, is_n, fs_n, ↓mI_eq, lits, nI_add, nLe, nLt, nE, mI_ne, mI_ne', mI_lt, mI_le, mI_nlt, mI_nle, ne_eq, mI_addC, pk_sub, pk_mul, pk_div, Nat.reduceEqDiff, Nat.reduceAdd, Nat.reduceMul, Nat.reduceSub, reduceIte, not_true_eq_false, not_false_eq_true, true_or, or_true, if_true, if_false, and_self, and_true, true_and, and_false, false_and, or_self, or_false, false_or, decide_true, decide_false, Bool.false_eq_true, Bool.true_eq_false, bI_t, bI_f, oS_1, ord, owA0, owF0, owF1, owA1, owF2, owA2, owF3, owA3, ywo, gfs11, pfs11, yrd, ywr, q146_22, q146_23, q146_26, q146_28, q146_29, q146_32, q146_33, q146_34, q146_35, q146_38, q146_39, q146_42, q146_43, q146_44, q146_45, q146_48, q146_49, q146_52, q146_53, q146_54, q146_57, q146_60, i0, i2, e12, hp2, a1, a2, hbk, dec_S, Nat.reduceAdd]
          · rw [hu]; exact ⟨hR2, hg2, hK2⟩) V1 Z1 () ⟨hR1, z3, z2.y⟩
    have e12 := Rl_12 y2
    refine ⟨Z2, some (.int (nI J)), ?_, y2, hK.tr y4⟩
    rw [q146_2]
    refine Eq.trans ?_ (y1.trans ?_)
    · simp (disch := first | omega | (simp only [sgets, reduceIte, Nat.reduceEqDiff, e11, hk2, dec_S, Nat.reduceAdd]; done) | omega) only [cS_1, crd, z_pv_some, z_wv_some, z_cv_v, z_cv_n, cwr, sgets, rc_O, ia_n, fa_n, is_n, fs_n, ↓mI_eq, lits, nI_add, nLe, nLt, nE, mI_ne, mI_ne', mI_lt, mI_le, mI_nlt, mI_nle, ne_eq, mI_addC, pk_sub, pk_mul, pk_div, Nat.reduceEqDiff, Nat.reduceAdd, Nat.reduceMul, Nat.reduceSub, reduceIte, not_true_eq_false, not_false_eq_true, true_or, or_true, if_true, if_false, and_self, and_true, true_and, and_false, false_and, or_self, or_false, false_or, decide_true, decide_false, Bool.false_eq_true, Bool.true_eq_false, bI_t, bI_f, oS_1, ord, owA0, owF0, owF1, owA1, owF2, owA2, owF3, owA3, ywo, gfs11, pfs11, yrd, ywr, q146_3, q146_4, q146_7, q146_9, q146_10, q146_13, q146_14, q146_15, q146_16, q146_19, q146_20, z1, e11, hk2, dec_S, Nat.reduceAdd]
    · rw [q146_21]
      simp (disch := first | omega | (simp only [sgets, reduceIte, Nat.reduceEqDiff, e12, dec_S, Nat.reduceAdd]; done) | omega) only [cS_1, crd, z_pv_some, z_wv_some, z_cv_v, z_cv_n, cwr, sgets, rc_O, ia_n, fa_n, is_n, fs_n, ↓mI_eq, lits, nI_add, nLe, nLt, nE, mI_ne, mI_ne', mI_lt, mI_le, mI_nlt, mI_nle, ne_eq, mI_addC, pk_sub, pk_mul, pk_div, Nat.reduceEqDiff, Nat.reduceAdd, Nat.reduceMul, Nat.reduceSub, reduceIte, not_true_eq_false, not_false_eq_true, true_or, or_true, if_true, if_false, and_self, and_true, true_and, and_false, false_and, or_self, or_false, false_or, decide_true, decide_false, Bool.false_eq_true, Bool.true_eq_false, bI_t, bI_f, oS_1, ord, owA0, owF0, owF1, owA1, owF2, owA2, owF3, owA3, ywo, gfs11, pfs11, yrd, ywr, q146_22, q146_23, q146_26, q146_28, q146_29, q146_63, q146_66, Nat.le_refl, e12, dec_S, Nat.reduceAdd]) (U, V) Y none ⟨h, kY.rf Y⟩
  obtain ⟨hB, e11⟩ := Rl_11 l2
  refine ⟨Z, ?_, l2, l3⟩
  rw [e146]
  refine Eq.trans ?_ (l1.trans ?_)
  · simp (disch := first | omega | (simp only [sgets, reduceIte, Nat.reduceEqDiff, dec_S, Nat.reduceAdd]; done) | omega) only [cS_1, crd, z_pv_some, z_wv_some, z_cv_v, z_cv_n, cwr, sgets, rc_O, ia_n, fa_n, is_n, fs_n, ↓mI_eq, lits, nI_add, nLe, nLt, nE, mI_ne, mI_ne', mI_lt, mI_le, mI_nlt, mI_nle, ne_eq, mI_addC, pk_sub, pk_mul, pk_div, Nat.reduceEqDiff, Nat.reduceAdd, Nat.reduceMul, Nat.reduceSub, reduceIte, not_true_eq_false, not_false_eq_true, true_or, or_true, if_true, if_false, and_self, and_true, true_and, and_false, false_and, or_self, or_false, false_or, decide_true, decide_false, Bool.false_eq_true, Bool.true_eq_false, bI_t, bI_f, oS_1, ord, owA0, owF0, owF1, owA1, owF2, owA2, owF3, owA3, ywo, gfs11, pfs11, yrd, ywr, q146_0, q146_1, dec_S, Nat.reduceAdd]
  · rw [q146_2]
    simp (disch := first | omega | (simp only [sgets, reduceIte, Nat.reduceEqDiff, e11, dec_S, Nat.reduceAdd]; done) | omega) only [cS_1, crd, z_pv_some, z_wv_some, z_cv_v, z_cv_n, cwr, sgets, rc_O, ia_n, fa_n, is_n, fs_n, ↓mI_eq, lits, nI_add, nLe, nLt, nE, mI_ne, mI_ne', mI_lt, mI_le, mI_nlt, mI_nle, ne_eq, mI_addC, pk_sub, pk_mul, pk_div, Nat.reduceEqDiff, Nat.reduceAdd, Nat.reduceMul, Nat.reduceSub, reduceIte, not_true_eq_false, not_false_eq_true, true_or, or_true, if_true, if_false, and_self, and_true, true_and, and_false, false_and, or_self, or_false, false_or, decide_true, decide_false, Bool.false_eq_true, Bool.true_eq_false, bI_t, bI_f, oS_1, ord, owA0, owF0, owF1, owA1, owF2, owA2, owF3, owA3, ywo, gfs11, pfs11, yrd, ywr, q146_3, q146_4, q146_7, q146_9, q146_10, q146_69, Nat.le_refl, e11, dec_S, Nat.reduceAdd]
end
