/-! the model's tools: power, notes, copies, saves -/
def okb (Y : z_V) : Prop := Y.2.2.2 4 0 = 0x3f800000 ∧ Y.2.2.2 4 1 = 1067533592 ∧ Y.2.2.2 4 2 = 1070280693
theorem okb_b {Y : z_V} (h : okb Y) (q : Nat) : Y.2.2.2 4 (q % 3) = baseF q := by
  unfold baseF
  have h3 : q % 3 < 3 := Nat.mod_lt _ (by omega)
  generalize q % 3 = r at h3
  match r, h3 with
  | 0, _ => exact h.1
  | 1, _ => exact h.2.1
  | 2, _ => exact h.2.2
theorem m132 (M : z_M) (o : Nat) (Y : z_V) (w : Int64) (hb : okb Y) (q : Nat) (hq : q < 61) : z_cl 132 [.ref o, .int (nI q)] (yS M o Y w) = some (some (.float (pwr q)), yS M o Y w) := by
  rw [e132]
  have h3 : q - q / 3 * 3 = q % 3 := by omega
  have h4 : q % 3 < 3 := Nat.mod_lt _ (by omega)
  have hbq := okb_b hb q
  simp (disch := first | omega | (simp only [sgets, reduceIte, Nat.reduceEqDiff, h3, h4, dec_S, Nat.reduceAdd]; done) | omega) only [cS_1, crd, z_pv_some, z_wv_some, z_cv_v, z_cv_n, cwr, sgets, rc_O, ia_n, fa_n, is_n, fs_n, ↓mI_eq, lits, nI_add, nLe, nLt, nE, mI_ne, mI_ne', mI_lt, mI_le, mI_nlt, mI_nle, ne_eq, mI_addC, pk_sub, pk_mul, pk_div, Nat.reduceEqDiff, Nat.reduceAdd, Nat.reduceMul, Nat.reduceSub, reduceIte, not_true_eq_false, not_false_eq_true, true_or, or_true, if_true, if_false, and_self, and_true, true_and, and_false, false_and, or_self, or_false, false_or, decide_true, decide_false, Bool.false_eq_true, Bool.true_eq_false, bI_t, bI_f, oS_1, ord, owA0, owF0, owF1, owA1, owF2, owA2, owF3, owA3, ywo, gfs11, pfs11, yrd, ywr, b132, hbq, h3, h4, dec_S, Nat.reduceAdd]
  have hl := (it_for (fun k v => z_ex 132 M.1 11 [some (.ref o), some (.int (nI q)), some (.float v), some (.int (nI k))] [] (yS M o Y w)) (fun _ v => FP.fmul v 0x40000000) (fun k v => v = it (fun _ v => FP.fmul v 0x40000000) k (baseF q)) (q / 3) (by
    intro k v hk hv
    have hk2 : ¬ q / 3 ≤ k := by omega
    have hn := mpw_num q hq (k + 1) (by omega)
    have hn2 : z_num (FP.fmul v 0x40000000) = true := by rw [hv]; exact hn
    refine ⟨?_, by rw [hv]; rfl⟩
    rw [q132_11]
    simp (disch := first | omega | (simp only [sgets, reduceIte, Nat.reduceEqDiff, hk2, dec_S, Nat.reduceAdd]; done) | omega) only [cS_1, crd, z_pv_some, z_wv_some, z_cv_v, z_cv_n, cwr, sgets, rc_O, ia_n, fa_n, is_n, fs_n, ↓mI_eq, lits, nI_add, nLe, nLt, nE, mI_ne, mI_ne', mI_lt, mI_le, mI_nlt, mI_nle, ne_eq, mI_addC, pk_sub, pk_mul, pk_div, Nat.reduceEqDiff, Nat.reduceAdd, Nat.reduceMul, Nat.reduceSub, reduceIte, not_true_eq_false, not_false_eq_true, true_or, or_true, if_true, if_false, and_self, and_true, true_and, and_false, false_and, or_self, or_false, false_or, decide_true, decide_false, Bool.false_eq_true, Bool.true_eq_false, bI_t, bI_f, oS_1, ord, owA0, owF0, owF1, owA1, owF2, owA2, owF3, owA3, ywo, gfs11, pfs11, yrd, ywr, b132, hn2, hk2, dec_S, Nat.reduceAdd]) (baseF q) rfl (q / 3) (Nat.le_refl _)).1
  refine hl.trans ?_
  rw [q132_11, ← mpw_pwr q hq]
  simp (disch := first | omega | (simp only [sgets, reduceIte, Nat.reduceEqDiff, dec_S, Nat.reduceAdd]; done) | omega) only [cS_1, crd, z_pv_some, z_wv_some, z_cv_v, z_cv_n, cwr, sgets, rc_O, ia_n, fa_n, is_n, fs_n, ↓mI_eq, lits, nI_add, nLe, nLt, nE, mI_ne, mI_ne', mI_lt, mI_le, mI_nlt, mI_nle, ne_eq, mI_addC, pk_sub, pk_mul, pk_div, Nat.reduceEqDiff, Nat.reduceAdd, Nat.reduceMul, Nat.reduceSub, reduceIte, not_true_eq_false, not_false_eq_true, true_or, or_true, if_true, if_false, and_self, and_true, true_and, and_false, false_and, or_self, or_false, false_or, decide_true, decide_false, Bool.false_eq_true, Bool.true_eq_false, bI_t, bI_f, oS_1, ord, owA0, owF0, owF1, owA1, owF2, owA2, owF3, owA3, ywo, gfs11, pfs11, yrd, ywr, b132, Nat.le_refl, dec_S, Nat.reduceAdd]
  rfl
/-- a part of a row copied to another place of it -/
def cpI (g : Nat → Int32) (a b n : Nat) : Nat → Int32 := fun i => if b ≤ i ∧ i < b + n then g (a + (i - b)) else g i
def cpF (g : Nat → UInt32) (a b n : Nat) : Nat → UInt32 := fun i => if b ≤ i ∧ i < b + n then g (a + (i - b)) else g i
theorem cpI_s {g : Nat → Int32} {a b n : Nat} (h : a + n < b ∨ b + n ≤ a) : upd (cpI g a b n) (b + n) (cpI g a b n (a + n)) = cpI g a b (n + 1) := by
  funext i
  unfold upd cpI
  by_cases c : i = b + n
  · subst c
    rw [if_pos rfl, if_neg (by omega), if_pos (by omega), Nat.add_sub_cancel_left]
  · rw [if_neg c]
    by_cases c1 : b ≤ i ∧ i < b + n
    · rw [if_pos c1, if_pos (by omega)]
    · rw [if_neg c1, if_neg (by omega)]
theorem cpF_s {g : Nat → UInt32} {a b n : Nat} (h : a + n < b ∨ b + n ≤ a) : vf_upd (cpF g a b n) (b + n) (cpF g a b n (a + n)) = cpF g a b (n + 1) := by
  funext i
  unfold vf_upd cpF
  by_cases c : i = b + n
  · subst c
    rw [if_pos rfl, if_neg (by omega), if_pos (by omega), Nat.add_sub_cancel_left]
  · rw [if_neg c]
    by_cases c1 : b ≤ i ∧ i < b + n
    · rw [if_pos c1, if_pos (by omega)]
    · rw [if_neg c1, if_neg (by omega)]
theorem cpI_0 (g : Nat → Int32) (a b : Nat) : cpI g a b 0 = g := by funext i; unfold cpI; rw [if_neg (by omega)]
theorem cpF_0 (g : Nat → UInt32) (a b : Nat) : cpF g a b 0 = g := by funext i; unfold cpF; rw [if_neg (by omega)]
theorem sA_idV (V : z_V) (i : Nat) : sA V i (V.2.2.1 i) = V := by
  unfold sA
  obtain ⟨a, b, f, g⟩ := V
  congr 3
  funext j
  by_cases hj : j = i <;> simp [hj]
theorem sF_idV (V : z_V) (i : Nat) : sF V i (V.2.2.2 i) = V := by
  unfold sF
  obtain ⟨a, b, f, g⟩ := V
  congr 3
  funext j
  by_cases hj : j = i <;> simp [hj]
theorem lp_n {ρ : Type} (E : Nat → ρ) (n : Nat) (h : ∀ k, k < n → E k = E (k + 1)) : E 0 = E n := by
  have : ∀ k, k ≤ n → E 0 = E k := by
    intro k
    induction k with
    | zero => intro _; rfl
    | succ k ih => intro hk; exact (ih (by omega)).trans (h k (by omega))
  exact this n (Nat.le_refl n)
theorem m112 (M : z_M) (o : Nat) (X : z_V) (w : Int64) (a b c d : Nat) (h1 : a + 971 ≤ b ∨ b + 971 ≤ a) (h2 : c + 296 ≤ d ∨ d + 296 ≤ c) (ha : a + 971 ≤ 6797) (hb : b + 971 ≤ 6797) (hc : c + 296 ≤ 2072) (hd : d + 296 ≤ 2072) : z_cl 112 [.ref o, .int (nI a), .int (nI b), .int (nI c), .int (nI d)] (oS M o X w) = some (none, oS M o (sF (sA X 0 (cpI (X.2.2.1 0) a b 971)) 0 (cpF (X.2.2.2 0) c d 296)) w) := by
  rw [e112]
  simp (disch := first | omega | (simp only [sgets, reduceIte, Nat.reduceEqDiff]; done) | omega) only [cS_1, crd, z_pv_some, z_wv_some, z_cv_v, z_cv_n, cwr, sgets, rc_O, ia_n, fa_n, is_n, fs_n, ↓mI_eq, lits, nI_add, nLe, nLt, nE, mI_ne, mI_ne', mI_lt, mI_le, mI_nlt, mI_nle, ne_eq, mI_addC, pk_sub, pk_mul, pk_div, Nat.reduceEqDiff, Nat.reduceAdd, Nat.reduceMul, Nat.reduceSub, reduceIte, not_true_eq_false, not_false_eq_true, true_or, or_true, if_true, if_false, and_self, and_true, true_and, and_false, false_and, or_self, or_false, false_or, decide_true, decide_false, Bool.false_eq_true, Bool.true_eq_false, bI_t, bI_f, oS_1, b112]
  have l1 := lp_n (fun k => z_ex 112 M.1 3 [some (.ref o), some (.int (nI a)), some (.int (nI b)), some (.int (nI c)), some (.int (nI d)), some (.int (nI k))] [] (oS M o (sA X 0 (cpI (X.2.2.1 0) a b k)) w)) 971 (by
    intro k hk
    have hk2 : ¬ 971 ≤ k := by omega
    rw [q112_3]
    simp (disch := first | omega | (simp only [sgets, reduceIte, Nat.reduceEqDiff, hk2]; done) | omega) only [cS_1, crd, z_pv_some, z_wv_some, z_cv_v, z_cv_n, cwr, sgets, rc_O, ia_n, fa_n, is_n, fs_n, ↓mI_eq, lits, nI_add, nLe, nLt, nE, mI_ne, mI_ne', mI_lt, mI_le, mI_nlt, mI_nle, ne_eq, mI_addC, pk_sub, pk_mul, pk_div, Nat.reduceEqDiff, Nat.reduceAdd, Nat.reduceMul, Nat.reduceSub, reduceIte, not_true_eq_false, not_false_eq_true, true_or, or_true, if_true, if_false, and_self, and_true, true_and, and_false, false_and, or_self, or_false, false_or, decide_true, decide_false, Bool.false_eq_true, Bool.true_eq_false, bI_t, bI_f, oS_1, ord, owr, gfs11, pfs11, b112, sA_sA, hk2]
    rw [cpI_s (by omega)])
  have l2 := lp_n (fun k => z_ex 112 M.1 38 [some (.ref o), some (.int (nI a)), some (.int (nI b)), some (.int (nI c)), some (.int (nI d)), some (.int (nI k))] [] (oS M o (sF (sA X 0 (cpI (X.2.2.1 0) a b 971)) 0 (cpF (X.2.2.2 0) c d k)) w)) 296 (by
    intro k hk
    have hk2 : ¬ 296 ≤ k := by omega
    rw [q112_38]
    simp (disch := first | omega | (simp only [sgets, reduceIte, Nat.reduceEqDiff, hk2]; done) | omega) only [cS_1, crd, z_pv_some, z_wv_some, z_cv_v, z_cv_n, cwr, sgets, rc_O, ia_n, fa_n, is_n, fs_n, ↓mI_eq, lits, nI_add, nLe, nLt, nE, mI_ne, mI_ne', mI_lt, mI_le, mI_nlt, mI_nle, ne_eq, mI_addC, pk_sub, pk_mul, pk_div, Nat.reduceEqDiff, Nat.reduceAdd, Nat.reduceMul, Nat.reduceSub, reduceIte, not_true_eq_false, not_false_eq_true, true_or, or_true, if_true, if_false, and_self, and_true, true_and, and_false, false_and, or_self, or_false, false_or, decide_true, decide_false, Bool.false_eq_true, Bool.true_eq_false, bI_t, bI_f, oS_1, ord, owr, gfs11, pfs11, b112, sF_sF, hk2]
    rw [cpF_s (by omega)])
  simp only [cpI_0, sA_idV] at l1
  refine l1.trans ?_
  rw [q112_3]
  simp (disch := first | omega | (simp only [sgets, reduceIte, Nat.reduceEqDiff]; done) | omega) only [cS_1, crd, z_pv_some, z_wv_some, z_cv_v, z_cv_n, cwr, sgets, rc_O, ia_n, fa_n, is_n, fs_n, ↓mI_eq, lits, nI_add, nLe, nLt, nE, mI_ne, mI_ne', mI_lt, mI_le, mI_nlt, mI_nle, ne_eq, mI_addC, pk_sub, pk_mul, pk_div, Nat.reduceEqDiff, Nat.reduceAdd, Nat.reduceMul, Nat.reduceSub, reduceIte, not_true_eq_false, not_false_eq_true, true_or, or_true, if_true, if_false, and_self, and_true, true_and, and_false, false_and, or_self, or_false, false_or, decide_true, decide_false, Bool.false_eq_true, Bool.true_eq_false, bI_t, bI_f, oS_1, ord, owr, gfs11, pfs11, b112, Nat.le_refl]
  have e : sF (sA X 0 (cpI (X.2.2.1 0) a b 971)) 0 (cpF (X.2.2.2 0) c d 0) = sA X 0 (cpI (X.2.2.1 0) a b 971) := by
    rw [cpF_0]
    exact sF_idV (sA X 0 (cpI (X.2.2.1 0) a b 971)) 0
  rw [e] at l2
  refine l2.trans ?_
  rw [q112_38]
  simp (disch := first | omega | (simp only [sgets, reduceIte, Nat.reduceEqDiff]; done) | omega) only [cS_1, crd, z_pv_some, z_wv_some, z_cv_v, z_cv_n, cwr, sgets, rc_O, ia_n, fa_n, is_n, fs_n, ↓mI_eq, lits, nI_add, nLe, nLt, nE, mI_ne, mI_ne', mI_lt, mI_le, mI_nlt, mI_nle, ne_eq, mI_addC, pk_sub, pk_mul, pk_div, Nat.reduceEqDiff, Nat.reduceAdd, Nat.reduceMul, Nat.reduceSub, reduceIte, not_true_eq_false, not_false_eq_true, true_or, or_true, if_true, if_false, and_self, and_true, true_and, and_false, false_and, or_self, or_false, false_or, decide_true, decide_false, Bool.false_eq_true, Bool.true_eq_false, bI_t, bI_f, oS_1, ord, owr, gfs11, pfs11, b112, Nat.le_refl]
/-- an event noted -/
def shE (f : Nat → Int32) : Nat → Int32 := fun i => if i < 29 then f (i + 1) else f i
def shY (Y : z_V) : z_V := sA (sA (sA Y 17 (shE (Y.2.2.1 17))) 18 (shE (Y.2.2.1 18))) 19 (shE (Y.2.2.1 19))
def adE (Y : z_V) (K : Nat) (x y : Int32) : z_V := sS (sA (sA (sA Y 17 (upd (Y.2.2.1 17) K x)) 18 (upd (Y.2.2.1 18) K y)) 19 (upd (Y.2.2.1 19) K (Y.1 9))) 10 (nI (K + 1))
def noteY (Y : z_V) (x y : Int32) : z_V := if nV Y 10 = 30 then adE (sS (shY Y) 10 (nI 29)) 29 x y else adE Y (nV Y 10) x y
theorem shE_it (g : Nat → Int32) (n : Nat) : it (fun k g => upd g (305 + k) (g (305 + k + 3))) n g = fun i => if 305 ≤ i ∧ i < 305 + n then g (i + 3) else g i := by
  induction n with
  | zero =>
    funext i
    rw [if_neg (by omega)]
    rfl
  | succ n ih =>
    have e : it (fun k g => upd g (305 + k) (g (305 + k + 3))) (n + 1) g = upd (it (fun k g => upd g (305 + k) (g (305 + k + 3))) n g) (305 + n) ((it (fun k g => upd g (305 + k) (g (305 + k + 3))) n g) (305 + n + 3)) := rfl
    rw [e, ih]
    funext i
    unfold upd
    simp only
    by_cases c : i = 305 + n
    · subst c
      rw [if_pos rfl, if_neg (by omega), if_pos (by omega)]
    · rw [if_neg c]
      by_cases c1 : 305 ≤ i ∧ i < 305 + n
      · rw [if_pos c1, if_pos (by omega)]
      · rw [if_neg c1, if_neg (by omega)]
theorem shY_enc (Y : z_V) : (fun i => if 305 ≤ i ∧ i < 305 + 87 then enc Y (i + 3) else enc Y i) = enc (shY Y) := by
  funext i
  have hE : ∀ j k : Nat, k < 3 → j < 30 → (shY Y).2.2.1 (17 + k) j = shE (Y.2.2.1 (17 + k)) j := by
    intro j k hk hj
    match k, hk with
    | 0, _ => rfl
    | 1, _ => rfl
    | 2, _ => rfl
  by_cases c : 305 ≤ i ∧ i < 395
  · obtain ⟨j, k, hj, hk, rfl⟩ : ∃ j k, j < 30 ∧ k < 3 ∧ i = 305 + 3 * j + k := ⟨(i - 305) / 3, (i - 305) % 3, by omega, by omega, by omega⟩
    rw [enc_e (Y := shY Y) hj hk, hE j k hk hj]
    unfold shE
    by_cases c2 : j < 29
    · rw [if_pos c2, if_pos (by omega), show 305 + 3 * j + k + 3 = 305 + 3 * (j + 1) + k by omega, enc_e (by omega) hk]
    · rw [if_neg c2, if_neg (by omega), enc_e hj hk]
  · rw [if_neg (by omega)]
    unfold enc
    by_cases c1 : i < 13
    · rw [if_pos c1, if_pos c1]; rfl
    · rw [if_neg c1, if_neg c1]
      have hk : ∀ a, a < 17 ∨ 19 < a → (shY Y).2.2.1 a = Y.2.2.1 a := fun a ha => by
        unfold shY
        simp only [sgets, show a ≠ 17 by omega, show a ≠ 18 by omega, show a ≠ 19 by omega, if_false]
      rw [hk ((i - 13) % 4) (by omega), hk (4 + (i - 45) % 13) (by omega), hk 20 (by omega), hk 21 (by omega), hk 22 (by omega), hk 23 (by omega)]
      by_cases c2 : i < 305
      · rw [if_pos c2, if_pos c2]
      · rw [if_neg c2, if_neg c2, if_neg (show ¬ i < 395 by omega), if_neg (show ¬ i < 395 by omega)]
theorem m135 (M : z_M) (o : Nat) (Y : z_V) (w : Int64) (K : Nat) (hK : K ≤ 30) (h : Y.1 10 = nI K) (x y : Int32) : z_cl 135 [.ref o, .int x, .int y] (yS M o Y w) = some (none, yS M o (noteY Y x y) w) := by
  rw [e135]
  have tail : ∀ (Y : z_V) (K : Nat) (j : Option Value), K < 30 → Y.1 10 = nI K → z_ex 135 M.1 59 [some (.ref o), some (.int x), some (.int y), j] [] (yS M o Y w) = some (none, yS M o (adE Y K x y) w) := by
    intro Y K j hK h
    unfold adE
    simp (disch := first | omega | (simp only [sgets, reduceIte, Nat.reduceEqDiff, h, dec_S, Nat.reduceAdd]; done) | omega) only [cS_1, crd, z_pv_some, z_wv_some, z_cv_v, z_cv_n, cwr, sgets, rc_O, ia_n, fa_n, is_n, fs_n, ↓mI_eq, lits, nI_add, nLe, nLt, nE, mI_ne, mI_ne', mI_lt, mI_le, mI_nlt, mI_nle, ne_eq, mI_addC, pk_sub, pk_mul, pk_div, Nat.reduceEqDiff, Nat.reduceAdd, Nat.reduceMul, Nat.reduceSub, reduceIte, not_true_eq_false, not_false_eq_true, true_or, or_true, if_true, if_false, and_self, and_true, true_and, and_false, false_and, or_self, or_false, false_or, decide_true, decide_false, Bool.false_eq_true, Bool.true_eq_false, bI_t, bI_f, oS_1, ord, owA0, owF0, owF1, owA1, owF2, owA2, owF3, owA3, ywo, gfs11, pfs11, yrd, ywr, b135, h, dec_S, Nat.reduceAdd]
  unfold noteY
  rw [nV_of h (by omega)]
  by_cases c : K = 30
  · subst c
    rw [if_pos rfl]
    simp (disch := first | omega | (simp only [sgets, reduceIte, Nat.reduceEqDiff, h, dec_S, Nat.reduceAdd]; done) | omega) only [cS_1, crd, z_pv_some, z_wv_some, z_cv_v, z_cv_n, cwr, sgets, rc_O, ia_n, fa_n, is_n, fs_n, ↓mI_eq, lits, nI_add, nLe, nLt, nE, mI_ne, mI_ne', mI_lt, mI_le, mI_nlt, mI_nle, ne_eq, mI_addC, pk_sub, pk_mul, pk_div, Nat.reduceEqDiff, Nat.reduceAdd, Nat.reduceMul, Nat.reduceSub, reduceIte, not_true_eq_false, not_false_eq_true, true_or, or_true, if_true, if_false, and_self, and_true, true_and, and_false, false_and, or_self, or_false, false_or, decide_true, decide_false, Bool.false_eq_true, Bool.true_eq_false, bI_t, bI_f, oS_1, ord, owA0, owF0, owF1, owA1, owF2, owA2, owF3, owA3, ywo, gfs11, pfs11, yrd, ywr, b135, h, dec_S, Nat.reduceAdd]
    have hl := it_run (fun k g => z_ex 135 M.1 14 [some (.ref o), some (.int x), some (.int y), some (.int (nI k))] [] (oS M o (sA (dec Y) 0 g) w)) (fun k g => upd g (305 + k) (g (305 + k + 3))) 87 (enc Y) (by
      intro k g hk
      have hk2 : ¬ 87 ≤ k := by omega
      rw [q135_14]
      simp (disch := first | omega | (simp only [sgets, reduceIte, Nat.reduceEqDiff, hk2]; done) | omega) only [cS_1, crd, z_pv_some, z_wv_some, z_cv_v, z_cv_n, cwr, sgets, rc_O, ia_n, fa_n, is_n, fs_n, ↓mI_eq, lits, nI_add, nLe, nLt, nE, mI_ne, mI_ne', mI_lt, mI_le, mI_nlt, mI_nle, ne_eq, mI_addC, pk_sub, pk_mul, pk_div, Nat.reduceEqDiff, Nat.reduceAdd, Nat.reduceMul, Nat.reduceSub, reduceIte, not_true_eq_false, not_false_eq_true, true_or, or_true, if_true, if_false, and_self, and_true, true_and, and_false, false_and, or_self, or_false, false_or, decide_true, decide_false, Bool.false_eq_true, Bool.true_eq_false, bI_t, bI_f, oS_1, ord, owr, gfs11, pfs11, b135, sA_sA, hk2])
    rw [show sA (dec Y) 0 (enc Y) = dec Y from sA_idV (dec Y) 0] at hl
    refine hl.trans ?_
    rw [shE_it, shY_enc, dw_A0 Y (shY Y) _ rfl (fun _ _ => rfl) (fun a ha => by unfold shY; simp only [sgets, show a ≠ 17 by omega, show a ≠ 18 by omega, show a ≠ 19 by omega, if_false]) rfl]
    have h2 : (shY Y).1 10 = nI 30 := h
    rw [q135_14]
    have ht := tail (sS (shY Y) 10 (nI 29)) 29 (some (.int (nI 87))) (by omega) (by simp only [sgets, if_true])
    simp (disch := first | omega | (simp only [sgets, reduceIte, Nat.reduceEqDiff, h2, dec_S, Nat.reduceAdd]; done) | omega) only [cS_1, crd, z_pv_some, z_wv_some, z_cv_v, z_cv_n, cwr, sgets, rc_O, ia_n, fa_n, is_n, fs_n, ↓mI_eq, lits, nI_add, nLe, nLt, nE, mI_ne, mI_ne', mI_lt, mI_le, mI_nlt, mI_nle, ne_eq, mI_addC, pk_sub, pk_mul, pk_div, Nat.reduceEqDiff, Nat.reduceAdd, Nat.reduceMul, Nat.reduceSub, reduceIte, not_true_eq_false, not_false_eq_true, true_or, or_true, if_true, if_false, and_self, and_true, true_and, and_false, false_and, or_self, or_false, false_or, decide_true, decide_false, Bool.false_eq_true, Bool.true_eq_false, bI_t, bI_f, oS_1, ord, owA0, owF0, owF1, owA1, owF2, owA2, owF3, owA3, ywo, gfs11, pfs11, yrd, ywr, q135_15, q135_17, q135_20, q135_21, q135_24, q135_27, q135_28, q135_29, q135_30, q135_33, q135_36, q135_37, q135_38, q135_39, q135_40, q135_41, q135_42, q135_45, q135_48, q135_49, q135_52, q135_54, q135_55, q135_56, q135_57, q135_58, Nat.le_refl, ht, h2, dec_S, Nat.reduceAdd]
  · rw [if_neg c]
    simp (disch := first | omega | (simp only [sgets, reduceIte, Nat.reduceEqDiff, h, c, dec_S, Nat.reduceAdd]; done) | omega) only [cS_1, crd, z_pv_some, z_wv_some, z_cv_v, z_cv_n, cwr, sgets, rc_O, ia_n, fa_n, is_n, fs_n, ↓mI_eq, lits, nI_add, nLe, nLt, nE, mI_ne, mI_ne', mI_lt, mI_le, mI_nlt, mI_nle, ne_eq, mI_addC, pk_sub, pk_mul, pk_div, Nat.reduceEqDiff, Nat.reduceAdd, Nat.reduceMul, Nat.reduceSub, reduceIte, not_true_eq_false, not_false_eq_true, true_or, or_true, if_true, if_false, and_self, and_true, true_and, and_false, false_and, or_self, or_false, false_or, decide_true, decide_false, Bool.false_eq_true, Bool.true_eq_false, bI_t, bI_f, oS_1, ord, owA0, owF0, owF1, owA1, owF2, owA2, owF3, owA3, ywo, gfs11, pfs11, yrd, ywr, q135_0, q135_1, q135_4, q135_6, q135_7, q135_9, q135_12, q135_13, q135_15, q135_17, q135_20, q135_21, q135_24, q135_27, q135_28, q135_29, q135_30, q135_33, q135_36, q135_37, q135_38, q135_39, q135_40, q135_41, q135_42, q135_45, q135_48, q135_49, q135_52, q135_54, q135_55, q135_56, q135_57, q135_58, tail Y K none (by omega) h, h, c, dec_S, Nat.reduceAdd]
