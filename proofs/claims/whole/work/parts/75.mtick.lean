/-! the model's tick: all links, the whole -/
theorem clr_0 (U : z_V) : ∀ k, k ≤ 16 → ∀ w, w < k → (it clr k U).2.2.1 1 w = nI 0 := by
  intro k
  induction k with
  | zero => intro _ w hw; omega
  | succ k ih =>
    intro hk w hw
    show (clr k (it clr k U)).2.2.1 1 w = nI 0
    unfold clr
    simp only [sgets, if_true]
    by_cases h : w = k
    · subst h; rw [upd_eq]
    · rw [upd_ne _ _ h]; exact ih (by omega) w (by omega)
def z0 (n : Nat) (f : Nat → Int32) : Nat → Int32 := fun i => if i < n then nI 0 else f i
def zrY (Y : z_V) : z_V := sA (sA (sA Y 25 (z0 64 (Y.2.2.1 25))) 26 (z0 256 (Y.2.2.1 26))) 27 (z0 256 (Y.2.2.1 27))
theorem zr_it (g : Nat → Int32) (n : Nat) : it (fun k g => upd g k (nI 0)) n g = z0 n g := by
  induction n with
  | zero => funext i; unfold z0; rw [if_neg (by omega)]; rfl
  | succ n ih =>
    have e : it (fun k g => upd g k (nI 0)) (n + 1) g = upd (it (fun k g => upd g k (nI 0)) n g) n (nI 0) := rfl
    rw [e, ih]
    funext i
    unfold upd z0
    by_cases c : i = n
    · rw [if_pos c, if_pos (by omega)]
    · rw [if_neg c]
      by_cases c2 : i < n
      · rw [if_pos c2, if_pos (by omega)]
      · rw [if_neg c2, if_neg (by omega)]
theorem zr_enc (Y : z_V) : z0 576 (encS Y) = encS (zrY Y) := by
  funext i
  have h5 : (zrY Y).2.2.1 25 = z0 64 (Y.2.2.1 25) := rfl
  have h6 : (zrY Y).2.2.1 26 = z0 256 (Y.2.2.1 26) := rfl
  have h7 : (zrY Y).2.2.1 27 = z0 256 (Y.2.2.1 27) := rfl
  unfold encS
  rw [h5, h6, h7]
  unfold z0
  by_cases c : i < 576
  · rw [if_pos c, if_pos (show i / 9 < 64 by omega), if_pos (show 4 * (i / 9) + (i % 9 - 1) / 2 < 256 by omega), if_pos (show 4 * (i / 9) + (i % 9 - 2) / 2 < 256 by omega), if_same, if_same]
  · rw [if_neg c, if_neg (show ¬ i / 9 < 64 by omega), if_neg (show ¬ 4 * (i / 9) + (i % 9 - 1) / 2 < 256 by omega), if_neg (show ¬ 4 * (i / 9) + (i % 9 - 2) / 2 < 256 by omega)]
def arY1 (Y : z_V) : z_V := sA (sA (sA Y 20 (Y.2.2.1 25)) 21 (Y.2.2.1 26)) 22 (Y.2.2.1 27)
theorem ar_it (g s : Nat → Int32) (n : Nat) : it (fun k g => upd g (395 + k) (s k)) n g = fun i => if 395 ≤ i ∧ i < 395 + n then s (i - 395) else g i := by
  induction n with
  | zero => funext i; rw [if_neg (by omega)]; rfl
  | succ n ih =>
    have e : it (fun k g => upd g (395 + k) (s k)) (n + 1) g = upd (it (fun k g => upd g (395 + k) (s k)) n g) (395 + n) (s n) := rfl
    rw [e, ih]
    funext i
    unfold upd
    simp only
    by_cases c : i = 395 + n
    · rw [if_pos c, if_pos (by omega), c, Nat.add_sub_cancel_left]
    · rw [if_neg c]
      by_cases c2 : 395 ≤ i ∧ i < 395 + n
      · rw [if_pos c2, if_pos (by omega)]
      · rw [if_neg c2, if_neg (by omega)]
theorem ar_enc (Y : z_V) : (fun i => if 395 ≤ i ∧ i < 395 + 576 then encS Y (i - 395) else enc Y i) = enc (arY1 Y) := by
  funext i
  have h0 : (arY1 Y).2.2.1 20 = Y.2.2.1 25 := rfl
  have h1 : (arY1 Y).2.2.1 21 = Y.2.2.1 26 := rfl
  have h2 : (arY1 Y).2.2.1 22 = Y.2.2.1 27 := rfl
  have h3 : ∀ a, a < 20 ∨ 22 < a → (arY1 Y).2.2.1 a = Y.2.2.1 a := fun a ha => by
    unfold arY1
    simp only [sgets, show a ≠ 20 by omega, show a ≠ 21 by omega, show a ≠ 22 by omega, if_false]
  unfold enc
  rw [h0, h1, h2, h3 ((i - 13) % 4) (by omega), h3 (4 + (i - 45) % 13) (by omega), h3 (17 + (i - 305) % 3) (by omega), h3 23 (by omega)]
  by_cases c : 395 ≤ i ∧ i < 971
  · rw [if_pos c, if_neg (show ¬ i < 13 by omega), if_neg (show ¬ i < 45 by omega), if_neg (show ¬ i < 305 by omega), if_neg (show ¬ i < 395 by omega), if_pos c.2]
    rfl
  · rw [if_neg c]
    by_cases c1 : i < 13
    · rw [if_pos c1, if_pos c1]; rfl
    · rw [if_neg c1, if_neg c1]
      by_cases c2 : i < 45
      · rw [if_pos c2, if_pos c2]
      · rw [if_neg c2, if_neg c2]
        by_cases c3 : i < 305
        · rw [if_pos c3, if_pos c3]
        · rw [if_neg c3, if_neg c3]
          by_cases c4 : i < 395
          · rw [if_pos c4, if_pos c4]
          · rw [if_neg c4, if_neg c4, if_neg (show ¬ i < 971 by omega), if_neg (show ¬ i < 971 by omega)]
theorem arF_it (g s : Nat → UInt32) (n : Nat) : it (fun k g => vf_upd g (40 + k) (s k)) n g = fun i => if 40 ≤ i ∧ i < 40 + n then s (i - 40) else g i := by
  induction n with
  | zero => funext i; rw [if_neg (by omega)]; rfl
  | succ n ih =>
    have e : it (fun k g => vf_upd g (40 + k) (s k)) (n + 1) g = vf_upd (it (fun k g => vf_upd g (40 + k) (s k)) n g) (40 + n) (s n) := rfl
    rw [e, ih]
    funext i
    unfold vf_upd
    simp only
    by_cases c : i = 40 + n
    · rw [if_pos c, if_pos (by omega), c, Nat.add_sub_cancel_left]
    · rw [if_neg c]
      by_cases c2 : 40 ≤ i ∧ i < 40 + n
      · rw [if_pos c2, if_pos (by omega)]
      · rw [if_neg c2, if_neg (by omega)]
theorem arF_enc (Y : z_V) : (fun i => if 40 ≤ i ∧ i < 40 + 256 then Y.2.2.2 6 (i - 40) else encF Y i) = encF (sF Y 2 (Y.2.2.2 6)) := by
  funext i
  unfold encF
  simp only [sgets, Nat.reduceEqDiff, if_true, if_false]
  by_cases c : 40 ≤ i ∧ i < 296
  · rw [if_pos c, if_neg (show ¬ i < 20 by omega), if_neg (show ¬ i < 40 by omega), if_pos c.2]
  · rw [if_neg c]
    by_cases c1 : i < 20
    · rw [if_pos c1, if_pos c1]
    · rw [if_neg c1, if_neg c1]
      by_cases c2 : i < 40
      · rw [if_pos c2, if_pos c2]
      · rw [if_neg c2, if_neg c2, if_neg (show ¬ i < 296 by omega), if_neg (show ¬ i < 296 by omega)]
section
variable (M : z_M) (o : Nat) (u : Int64) {c J S Hy B : Nat}
theorem Rl_arr {V Y U : z_V} (h : Rl c J S Hy B V Y) (hs : seOk U J) (hG : rG B (arrV' V U) (arrY Y)) : Rl c J S Hy B (arrV' V U) (arrY Y) := by
  obtain ⟨hC, hfl, hSB, r1, r2, r3, r4, r5, r6, r7⟩ := h
  exact ⟨okC_send hC hs, hfl, hSB, r1, r2, r3, r4, r5, r6, hG⟩
def sP (c J S Hy B : Nat) (V Y U Y' : z_V) : Prop := kY Y Y' ∧ Rl c J S Hy B V Y' ∧ rG B (arrV' V U) (arrY Y') ∧ ∀ v, v < 16 → ∃ n, n ≤ 4 ∧ U.2.2.1 1 v = nI n
theorem send_all {V Y : z_V} (h : Rl c J S Hy B V Y) (U : z_V) : ∃ Z x2, z_ex 149 M.1 24 [some (.ref o), some (.int (nI 0)), none] [] (yS M o (zrY Y) u) = z_ex 149 M.1 75 [some (.ref o), some (.int (nI B)), x2] [] (yS M o Z u) ∧ sP c J S Hy B V Y (sent V J B U) Z := by
  have hB := (Rl_11 h).1
  have hJ := (Rl_J h).1
  have hzY : kY Y (zrY Y) := ⟨fun _ _ => rfl, ⟨rfl, rfl⟩, rfl, rfl⟩
  have hRz : Rl c J S Hy B V (zrY Y) := Rl_Y (fun _ _ => rfl) (fun a ha => by unfold zrY; simp only [sgets, show a ≠ 25 by omega, show a ≠ 26 by omega, show a ≠ 27 by omega, if_false]) (fun _ _ => rfl) h
  have hc0 := clr_0 U 16 (Nat.le_refl _)
  have hl25 : ∀ l, l < 64 → (arrY (zrY Y)).2.2.1 20 l = nI 0 := fun l hl => by
    show z0 64 (Y.2.2.1 25) l = nI 0
    unfold z0
    rw [if_pos hl]
  have hG0 : rG B (arrV' V (it clr 16 U)) (arrY (zrY Y)) := by
    obtain ⟨-, -, -, g4, g5⟩ := h.2.2.2.2.2.2.2.2.2
    refine ⟨fun y x hy hx => ⟨fun _ => hl25 _ (by omega), fun v hv hv16 => ?_⟩, fun b h1 h2 => ⟨hc0 b (by omega), hc0 (8 + b) (by omega)⟩, fun y x h1 h2 _ => hl25 _ (by omega), g4, g5⟩
    refine ⟨(hl25 _ (by omega)).trans (hc0 v hv16).symm, fun i hi => ?_⟩
    replace hi : i < ((it clr 16 U).2.2.1 1 v).toNatClampNeg := hi
    rw [hc0 v hv16, nI_clamp (by omega)] at hi
    omega
  obtain ⟨Z, j, l1, l2, -⟩ := lp_rel (fun k (Y : z_V) (j : Option Value) => z_ex 149 M.1 24 [some (.ref o), some (.int (nI k)), j] [] (yS M o Y u)) (senB V J B) (fun x U' Y' => sP c J S Hy B V Y U' Y' ∧ ∀ y' x', y' < B → x ≤ x' → x' < B → ∀ w, w < 16 → way V y' x' = nI w → U'.2.2.1 1 w = nI 0) B (by
    rintro x U1 Y1 j hx ⟨hP, hU⟩
    obtain ⟨-, e11⟩ := Rl_11 hP.2.1
    have hx2 : ¬ B ≤ x := by omega
    obtain ⟨Z, -, m1, m2, m3⟩ := lp_rel (fun k (Y : z_V) (_ : Unit) => z_ex 149 M.1 37 [some (.ref o), some (.int (nI x)), some (.int (nI k))] [] (yS M o Y u)) (senN V J B x) (fun y U' Y' => sP c J S Hy B V Y U' Y' ∧ ∀ y' x', y' < B → (x < x' ∨ (x' = x ∧ y ≤ y')) → x' < B → ∀ w, w < 16 → way V y' x' = nI w → U'.2.2.1 1 w = nI 0) B (by
      rintro y U2 Y2 - hy ⟨⟨hK2, hR2, hG2, hs2⟩, hU2⟩
      obtain ⟨-, f11⟩ := Rl_11 hR2
      have hy2 : ¬ B ≤ y := by omega
      have h150 := m150 M o u hR2 hx hy
      rcases way_lt V (show y < 8 by omega) (show x < 8 by omega) with hw | ⟨w, hw, hwy⟩
      · rw [show decide (¬ way V y x = mI) = false by simp [hw]] at h150
        have hu : senN V J B x y U2 = U2 := by unfold senN; rw [if_pos hw]
        refine ⟨Y2, (), ?_, ?_⟩
        · rw [q149_37]
          simp (disch := first | omega | (simp only [sgets, reduceIte, Nat.reduceEqDiff, f11, hy2, dec_S, Nat.reduceAdd]; done) | omega) only [cS_1, crd, z_pv_some, z_wv_some, z_cv_v, z_cv_n, cwr, sgets, rc_O, ia_n, fa_n, is_n, fs_n, ↓mI_eq, lits, nI_add, nLe, nLt, nE, mI_ne, mI_ne', mI_lt, mI_le, mI_nlt, mI_nle, ne_eq, mI_addC, pk_sub, pk_mul, pk_div, Nat.reduceEqDiff, Nat.reduceAdd, Nat.reduceMul, Nat.reduceSub, reduceIte, not_true_eq_false, not_false_eq_true, true_or, or_true, if_true, if_false, and_self, and_true, true_and, and_false, false_and, or_self, or_false, false_or, decide_true, decide_false, Bool.false_eq_true, Bool.true_eq_false, bI_t, bI_f, oS_1, ord, owA0, owF0, owF1, owA1, owF2, owA2, owF3, owA3, ywo, gfs11, pfs11, yrd, ywr, q149_38, q149_39, q149_42, q149_44, q149_45, q149_48, q149_49, q149_50, q149_51, q149_54, q149_57, q149_58, q149_59, q149_60, q149_63, q149_66, h150, f11, hy2, dec_S, Nat.reduceAdd]
        · rw [hu]
          exact ⟨⟨hK2, hR2, hG2, hs2⟩, fun y' x' a b d => hU2 y' x' a (by omega) d⟩
      · rw [show decide (¬ way V y x = mI) = true by rw [hwy]; simp [mI_ne (show w < 2 ^ 31 by omega)]] at h150
        obtain ⟨Z, k', z1, z2, z3, z4, z5, z6, z7, z8, z9, z10, z11⟩ := s151 M o u hR2 hx hy hw hwy U2 (hU2 y x hy (Or.inr ⟨rfl, Nat.le_refl _⟩) hx w hw hwy)
        refine ⟨Z, (), ?_, ⟨?_, ?_, ?_, ?_⟩, ?_⟩
        · rw [q149_37]
          simp (disch := first | omega | (simp only [sgets, reduceIte, Nat.reduceEqDiff, f11, hy2, dec_S, Nat.reduceAdd]; done) | omega) only [cS_1, crd, z_pv_some, z_wv_some, z_cv_v, z_cv_n, cwr, sgets, rc_O, ia_n, fa_n, is_n, fs_n, ↓mI_eq, lits, nI_add, nLe, nLt, nE, mI_ne, mI_ne', mI_lt, mI_le, mI_nlt, mI_nle, ne_eq, mI_addC, pk_sub, pk_mul, pk_div, Nat.reduceEqDiff, Nat.reduceAdd, Nat.reduceMul, Nat.reduceSub, reduceIte, not_true_eq_false, not_false_eq_true, true_or, or_true, if_true, if_false, and_self, and_true, true_and, and_false, false_and, or_self, or_false, false_or, decide_true, decide_false, Bool.false_eq_true, Bool.true_eq_false, bI_t, bI_f, oS_1, ord, owA0, owF0, owF1, owA1, owF2, owA2, owF3, owA3, ywo, gfs11, pfs11, yrd, ywr, q149_38, q149_39, q149_42, q149_44, q149_45, q149_48, q149_49, q149_50, q149_51, q149_54, q149_57, q149_58, q149_59, q149_60, q149_63, q149_66, h150, z1, f11, hy2, dec_S, Nat.reduceAdd]
        · exact hK2.tr ⟨fun i _ => by rw [z7], ⟨z8 23 (by omega) (by omega) (by omega) (by omega), z8 28 (by omega) (by omega) (by omega) (by omega)⟩, z9 3 (by omega) (by omega), z9 4 (by omega) (by omega)⟩
        · exact Rl_Y (fun i _ => by rw [z7]) (fun a ha => z8 a (by omega) (by omega) (by omega) (by omega)) (fun a ha => z9 a (by omega) (by omega)) hR2
        · exact rG_st hB hG2 hx hy hw hwy z2 z3 z4 z5 z6 z10 z11 hs2
        · intro v hv
          by_cases cv : v = w
          · subst cv; exact ⟨k', z2, z3⟩
          · rw [z6.1 v cv]; exact hs2 v hv
        · intro y' x' a b d v hv hvw
          have cv : v ≠ w := by
            intro e
            rw [e] at hvw
            have := way_inj (by omega) (by omega) (by omega) (by omega) hw hwy hvw
            omega
          rw [z6.1 v cv]
          exact hU2 y' x' a (by omega) d v hv hvw) U1 Y1 () ⟨hP, fun y' x' a b d => hU y' x' a (by omega) d⟩
    obtain ⟨-, f11⟩ := Rl_11 m2.2.1
    refine ⟨Z, some (.int (nI B)), ?_, m2, fun y' x' a b d => m3 y' x' a (by omega) d⟩
    rw [q149_24]
    refine Eq.trans ?_ (m1.trans ?_)
    · simp (disch := first | omega | (simp only [sgets, reduceIte, Nat.reduceEqDiff, e11, hx2, dec_S, Nat.reduceAdd]; done) | omega) only [cS_1, crd, z_pv_some, z_wv_some, z_cv_v, z_cv_n, cwr, sgets, rc_O, ia_n, fa_n, is_n, fs_n, ↓mI_eq, lits, nI_add, nLe, nLt, nE, mI_ne, mI_ne', mI_lt, mI_le, mI_nlt, mI_nle, ne_eq, mI_addC, pk_sub, pk_mul, pk_div, Nat.reduceEqDiff, Nat.reduceAdd, Nat.reduceMul, Nat.reduceSub, reduceIte, not_true_eq_false, not_false_eq_true, true_or, or_true, if_true, if_false, and_self, and_true, true_and, and_false, false_and, or_self, or_false, false_or, decide_true, decide_false, Bool.false_eq_true, Bool.true_eq_false, bI_t, bI_f, oS_1, ord, owA0, owF0, owF1, owA1, owF2, owA2, owF3, owA3, ywo, gfs11, pfs11, yrd, ywr, q149_25, q149_26, q149_29, q149_31, q149_32, q149_35, q149_36, e11, hx2, dec_S, Nat.reduceAdd]
    · rw [q149_37]
      simp (disch := first | omega | (simp only [sgets, reduceIte, Nat.reduceEqDiff, f11, dec_S, Nat.reduceAdd]; done) | omega) only [cS_1, crd, z_pv_some, z_wv_some, z_cv_v, z_cv_n, cwr, sgets, rc_O, ia_n, fa_n, is_n, fs_n, ↓mI_eq, lits, nI_add, nLe, nLt, nE, mI_ne, mI_ne', mI_lt, mI_le, mI_nlt, mI_nle, ne_eq, mI_addC, pk_sub, pk_mul, pk_div, Nat.reduceEqDiff, Nat.reduceAdd, Nat.reduceMul, Nat.reduceSub, reduceIte, not_true_eq_false, not_false_eq_true, true_or, or_true, if_true, if_false, and_self, and_true, true_and, and_false, false_and, or_self, or_false, false_or, decide_true, decide_false, Bool.false_eq_true, Bool.true_eq_false, bI_t, bI_f, oS_1, ord, owA0, owF0, owF1, owA1, owF2, owA2, owF3, owA3, ywo, gfs11, pfs11, yrd, ywr, q149_38, q149_39, q149_42, q149_44, q149_45, q149_69, q149_72, Nat.le_refl, f11, dec_S, Nat.reduceAdd]) (it clr 16 U) (zrY Y) none ⟨⟨hzY, hRz, hG0, fun v hv => ⟨0, by omega, hc0 v hv⟩⟩, fun y' x' a b d w hw hwy => hc0 w hw⟩
  obtain ⟨-, f11⟩ := Rl_11 l2.2.1
  refine ⟨Z, j, l1.trans ?_, l2⟩
  rw [q149_24]
  simp (disch := first | omega | (simp only [sgets, reduceIte, Nat.reduceEqDiff, f11, dec_S, Nat.reduceAdd]; done) | omega) only [cS_1, crd, z_pv_some, z_wv_some, z_cv_v, z_cv_n, cwr, sgets, rc_O, ia_n, fa_n, is_n, fs_n, ↓mI_eq, lits, nI_add, nLe, nLt, nE, mI_ne, mI_ne', mI_lt, mI_le, mI_nlt, mI_nle, ne_eq, mI_addC, pk_sub, pk_mul, pk_div, Nat.reduceEqDiff, Nat.reduceAdd, Nat.reduceMul, Nat.reduceSub, reduceIte, not_true_eq_false, not_false_eq_true, true_or, or_true, if_true, if_false, and_self, and_true, true_and, and_false, false_and, or_self, or_false, false_or, decide_true, decide_false, Bool.false_eq_true, Bool.true_eq_false, bI_t, bI_f, oS_1, ord, owA0, owF0, owF1, owA1, owF2, owA2, owF3, owA3, ywo, gfs11, pfs11, yrd, ywr, q149_25, q149_26, q149_29, q149_31, q149_32, Nat.le_refl, f11, dec_S, Nat.reduceAdd]
theorem s149 {V Y : z_V} (h : Rl c J S Hy B V Y) (U : z_V) : ∃ Z, z_cl 149 [.ref o] (yS M o Y u) = some (none, yS M o Z u) ∧ Rl c J S Hy B (arrV' V (sent V J B U)) Z ∧ kY Y Z := by
  have hB := (Rl_11 h).1
  have hJ := (Rl_J h).1
  obtain ⟨⟨_, h9⟩, _, _, ⟨_, h8⟩, _, _, _, hd, hst, hpl, _⟩ := h.1
  have hse := (m36 M 0 32 (by omega) V U J B hJ h9 hB h8 hd hst hpl).2
  obtain ⟨Z, x2, l1, l2, l3, l4, -⟩ := send_all M o u h U
  have p1 := it_run (fun k g => z_ex 149 M.1 2 [some (.ref o), some (.int (nI k)), none] [] (oS M o (sA (dec Y) 2 g) u)) (fun k g => upd g k (nI 0)) 576 (encS Y) (by
    intro k g hk
    have hk2 : ¬ 576 ≤ k := by omega
    rw [q149_2]
    simp (disch := first | omega | (simp only [sgets, reduceIte, Nat.reduceEqDiff, hk2]; done) | omega) only [cS_1, crd, z_pv_some, z_wv_some, z_cv_v, z_cv_n, cwr, sgets, rc_O, ia_n, fa_n, is_n, fs_n, ↓mI_eq, lits, nI_add, nLe, nLt, nE, mI_ne, mI_ne', mI_lt, mI_le, mI_nlt, mI_nle, ne_eq, mI_addC, pk_sub, pk_mul, pk_div, Nat.reduceEqDiff, Nat.reduceAdd, Nat.reduceMul, Nat.reduceSub, reduceIte, not_true_eq_false, not_false_eq_true, true_or, or_true, if_true, if_false, and_self, and_true, true_and, and_false, false_and, or_self, or_false, false_or, decide_true, decide_false, Bool.false_eq_true, Bool.true_eq_false, bI_t, bI_f, oS_1, ord, owr, gfs11, pfs11, q149_3, q149_6, q149_9, q149_10, q149_13, q149_14, q149_15, q149_16, q149_19, sA_sA, hk2])
  rw [show sA (dec Y) 2 (encS Y) = dec Y from sA_idV (dec Y) 2, zr_it, zr_enc, dw_A2 Y (zrY Y) _ rfl rfl (fun a ha => by unfold zrY; simp only [sgets, show a ≠ 25 by omega, show a ≠ 26 by omega, show a ≠ 27 by omega, if_false]) rfl] at p1
  have p2 := it_run (fun k g => z_ex 149 M.1 77 [some (.ref o), some (.int (nI k)), x2] [] (oS M o (sA (dec Z) 0 g) u)) (fun k g => upd g (395 + k) ((dec Z).2.2.1 2 k)) 576 (enc Z) (by
    intro k g hk
    have hk2 : ¬ 576 ≤ k := by omega
    rw [q149_77]
    simp (disch := first | omega | (simp only [sgets, reduceIte, Nat.reduceEqDiff, hk2]; done) | omega) only [cS_1, crd, z_pv_some, z_wv_some, z_cv_v, z_cv_n, cwr, sgets, rc_O, ia_n, fa_n, is_n, fs_n, ↓mI_eq, lits, nI_add, nLe, nLt, nE, mI_ne, mI_ne', mI_lt, mI_le, mI_nlt, mI_nle, ne_eq, mI_addC, pk_sub, pk_mul, pk_div, Nat.reduceEqDiff, Nat.reduceAdd, Nat.reduceMul, Nat.reduceSub, reduceIte, not_true_eq_false, not_false_eq_true, true_or, or_true, if_true, if_false, and_self, and_true, true_and, and_false, false_and, or_self, or_false, false_or, decide_true, decide_false, Bool.false_eq_true, Bool.true_eq_false, bI_t, bI_f, oS_1, ord, owr, gfs11, pfs11, q149_78, q149_81, q149_84, q149_85, q149_88, q149_91, q149_92, q149_93, q149_94, q149_97, q149_98, q149_99, q149_100, q149_103, sA_sA, hk2])
  rw [show sA (dec Z) 0 (enc Z) = dec Z from sA_idV (dec Z) 0, ar_it, dec_A2, ar_enc, dw_A0 Z (arY1 Z) _ rfl (fun _ _ => rfl) (fun a ha => by unfold arY1; simp only [sgets, show a ≠ 20 by omega, show a ≠ 21 by omega, show a ≠ 22 by omega, if_false]) rfl] at p2
  have p3 := it_run (fun k g => z_ex 149 M.1 108 [some (.ref o), some (.int (nI k)), x2] [] (oS M o (sF (dec (arY1 Z)) 0 g) u)) (fun k g => vf_upd g (40 + k) ((dec (arY1 Z)).2.2.2 3 k)) 256 (encF (arY1 Z)) (by
    intro k g hk
    have hk2 : ¬ 256 ≤ k := by omega
    rw [q149_108]
    simp (disch := first | omega | (simp only [sgets, reduceIte, Nat.reduceEqDiff, hk2]; done) | omega) only [cS_1, crd, z_pv_some, z_wv_some, z_cv_v, z_cv_n, cwr, sgets, rc_O, ia_n, fa_n, is_n, fs_n, ↓mI_eq, lits, nI_add, nLe, nLt, nE, mI_ne, mI_ne', mI_lt, mI_le, mI_nlt, mI_nle, ne_eq, mI_addC, pk_sub, pk_mul, pk_div, Nat.reduceEqDiff, Nat.reduceAdd, Nat.reduceMul, Nat.reduceSub, reduceIte, not_true_eq_false, not_false_eq_true, true_or, or_true, if_true, if_false, and_self, and_true, true_and, and_false, false_and, or_self, or_false, false_or, decide_true, decide_false, Bool.false_eq_true, Bool.true_eq_false, bI_t, bI_f, oS_1, ord, owr, gfs11, pfs11, q149_109, q149_112, q149_115, q149_116, q149_119, q149_121, q149_122, q149_123, q149_124, q149_127, q149_128, q149_129, q149_130, q149_133, sF_sF, hk2])
  rw [show sF (dec (arY1 Z)) 0 (encF (arY1 Z)) = dec (arY1 Z) from sF_idV (dec (arY1 Z)) 0, arF_it, dec_F3, arF_enc, dw_F0 (arY1 Z) (sF (arY1 Z) 2 ((arY1 Z).2.2.2 6)) _ rfl rfl rfl (fun a ha => by simp only [sgets, show a ≠ 2 by omega, if_false])] at p3
  refine ⟨arrY Z, ?_, Rl_arr l3 hse l4, l2.tr ⟨fun _ _ => rfl, ⟨rfl, rfl⟩, rfl, rfl⟩⟩
  rw [e149]
  refine Eq.trans ?_ (p1.trans (Eq.trans ?_ (l1.trans (Eq.trans ?_ (p2.trans (Eq.trans ?_ (p3.trans ?_)))))))
  · simp (disch := first | omega | (simp only [sgets, reduceIte, Nat.reduceEqDiff, dec_S, Nat.reduceAdd]; done) | omega) only [cS_1, crd, z_pv_some, z_wv_some, z_cv_v, z_cv_n, cwr, sgets, rc_O, ia_n, fa_n, is_n, fs_n, ↓mI_eq, lits, nI_add, nLe, nLt, nE, mI_ne, mI_ne', mI_lt, mI_le, mI_nlt, mI_nle, ne_eq, mI_addC, pk_sub, pk_mul, pk_div, Nat.reduceEqDiff, Nat.reduceAdd, Nat.reduceMul, Nat.reduceSub, reduceIte, not_true_eq_false, not_false_eq_true, true_or, or_true, if_true, if_false, and_self, and_true, true_and, and_false, false_and, or_self, or_false, false_or, decide_true, decide_false, Bool.false_eq_true, Bool.true_eq_false, bI_t, bI_f, oS_1, ord, owA0, owF0, owF1, owA1, owF2, owA2, owF3, owA3, ywo, gfs11, pfs11, yrd, ywr, q149_0, q149_1, dec_S, Nat.reduceAdd]
  · rw [q149_2]
    simp (disch := first | omega | (simp only [sgets, reduceIte, Nat.reduceEqDiff, dec_S, Nat.reduceAdd]; done) | omega) only [cS_1, crd, z_pv_some, z_wv_some, z_cv_v, z_cv_n, cwr, sgets, rc_O, ia_n, fa_n, is_n, fs_n, ↓mI_eq, lits, nI_add, nLe, nLt, nE, mI_ne, mI_ne', mI_lt, mI_le, mI_nlt, mI_nle, ne_eq, mI_addC, pk_sub, pk_mul, pk_div, Nat.reduceEqDiff, Nat.reduceAdd, Nat.reduceMul, Nat.reduceSub, reduceIte, not_true_eq_false, not_false_eq_true, true_or, or_true, if_true, if_false, and_self, and_true, true_and, and_false, false_and, or_self, or_false, false_or, decide_true, decide_false, Bool.false_eq_true, Bool.true_eq_false, bI_t, bI_f, oS_1, ord, owA0, owF0, owF1, owA1, owF2, owA2, owF3, owA3, ywo, gfs11, pfs11, yrd, ywr, q149_3, q149_6, q149_22, q149_23, Nat.le_refl, dec_S, Nat.reduceAdd]
  · simp (disch := first | omega | (simp only [sgets, reduceIte, Nat.reduceEqDiff, dec_S, Nat.reduceAdd]; done) | omega) only [cS_1, crd, z_pv_some, z_wv_some, z_cv_v, z_cv_n, cwr, sgets, rc_O, ia_n, fa_n, is_n, fs_n, ↓mI_eq, lits, nI_add, nLe, nLt, nE, mI_ne, mI_ne', mI_lt, mI_le, mI_nlt, mI_nle, ne_eq, mI_addC, pk_sub, pk_mul, pk_div, Nat.reduceEqDiff, Nat.reduceAdd, Nat.reduceMul, Nat.reduceSub, reduceIte, not_true_eq_false, not_false_eq_true, true_or, or_true, if_true, if_false, and_self, and_true, true_and, and_false, false_and, or_self, or_false, false_or, decide_true, decide_false, Bool.false_eq_true, Bool.true_eq_false, bI_t, bI_f, oS_1, ord, owA0, owF0, owF1, owA1, owF2, owA2, owF3, owA3, ywo, gfs11, pfs11, yrd, ywr, q149_75, q149_76, dec_S, Nat.reduceAdd]
  · rw [q149_77]
    simp (disch := first | omega | (simp only [sgets, reduceIte, Nat.reduceEqDiff, dec_S, Nat.reduceAdd]; done) | omega) only [cS_1, crd, z_pv_some, z_wv_some, z_cv_v, z_cv_n, cwr, sgets, rc_O, ia_n, fa_n, is_n, fs_n, ↓mI_eq, lits, nI_add, nLe, nLt, nE, mI_ne, mI_ne', mI_lt, mI_le, mI_nlt, mI_nle, ne_eq, mI_addC, pk_sub, pk_mul, pk_div, Nat.reduceEqDiff, Nat.reduceAdd, Nat.reduceMul, Nat.reduceSub, reduceIte, not_true_eq_false, not_false_eq_true, true_or, or_true, if_true, if_false, and_self, and_true, true_and, and_false, false_and, or_self, or_false, false_or, decide_true, decide_false, Bool.false_eq_true, Bool.true_eq_false, bI_t, bI_f, oS_1, ord, owA0, owF0, owF1, owA1, owF2, owA2, owF3, owA3, ywo, gfs11, pfs11, yrd, ywr, q149_78, q149_81, q149_106, q149_107, Nat.le_refl, dec_S, Nat.reduceAdd]
  · rw [q149_108]
    simp (disch := first | omega | (simp only [sgets, reduceIte, Nat.reduceEqDiff, dec_S, Nat.reduceAdd]; done) | omega) only [cS_1, crd, z_pv_some, z_wv_some, z_cv_v, z_cv_n, cwr, sgets, rc_O, ia_n, fa_n, is_n, fs_n, ↓mI_eq, lits, nI_add, nLe, nLt, nE, mI_ne, mI_ne', mI_lt, mI_le, mI_nlt, mI_nle, ne_eq, mI_addC, pk_sub, pk_mul, pk_div, Nat.reduceEqDiff, Nat.reduceAdd, Nat.reduceMul, Nat.reduceSub, reduceIte, not_true_eq_false, not_false_eq_true, true_or, or_true, if_true, if_false, and_self, and_true, true_and, and_false, false_and, or_self, or_false, false_or, decide_true, decide_false, Bool.false_eq_true, Bool.true_eq_false, bI_t, bI_f, oS_1, ord, owA0, owF0, owF1, owA1, owF2, owA2, owF3, owA3, ywo, gfs11, pfs11, yrd, ywr, q149_109, q149_112, q149_136, Nat.le_refl, dec_S, Nat.reduceAdd]
    rfl
end
