/-! loudness, selection of speakers -/
theorem if_same {α : Type} (c : Prop) [Decidable c] (x : α) : (if c then x else x) = x := by split <;> rfl
theorem lp_for {σ ι ρ : Type} (E : Nat → σ → ι → ρ) (f : Nat → σ → σ) (P : Nat → σ → Prop) (n : Nat) (R : σ → ρ) (hb : ∀ i s j, i < n → P i s → ∃ j', E i s j = E (i + 1) (f i s) j') (hP : ∀ i s, i < n → P i s → P (i + 1) (f i s)) (he : ∀ s j, P n s → E n s j = R s) (s : σ) (j : ι) (h0 : P 0 s) : E 0 s j = R (it f n s) ∧ P n (it f n s) := by
  have key : ∀ k, k ≤ n → (∃ j', E 0 s j = E k (it f k s) j') ∧ P k (it f k s) := by
    intro k
    induction k with
    | zero => intro _; exact ⟨⟨j, rfl⟩, h0⟩
    | succ k ih =>
      intro hk
      obtain ⟨⟨j1, h1⟩, h2⟩ := ih (by omega)
      obtain ⟨j2, h3⟩ := hb k _ j1 (by omega) h2
      exact ⟨⟨j2, h1.trans h3⟩, hP k _ (by omega) h2⟩
  obtain ⟨⟨j1, h1⟩, h2⟩ := key n (Nat.le_refl n)
  exact ⟨h1.trans (he _ j1 h2), h2⟩
/-- power -/
theorem m72 (q : Nat) (hq : q < 61) (M : z_M) : z_cl 72 [.int (nI q)] M = some (some (.float (pwr q)), M) := by
  rw [e72]
  have h3 : q - q / 3 * 3 = q % 3 := by omega
  have hn := (pwr_num q hq).1
  unfold pwr baseF at hn ⊢
  simp (disch := first | omega | (simp only [sgets, reduceIte, Nat.reduceEqDiff, h3]; done) | omega) only [cS_1, crd, z_pv_some, z_wv_some, z_cv_v, z_cv_n, cwr, sgets, rc_O, ia_n, fa_n, is_n, fs_n, ↓mI_eq, lits, nI_add, nLe, nLt, nE, mI_ne, mI_ne', mI_lt, mI_le, mI_nlt, mI_nle, ne_eq, mI_addC, pk_sub, pk_mul, pk_div, Nat.reduceEqDiff, Nat.reduceAdd, Nat.reduceMul, Nat.reduceSub, reduceIte, not_true_eq_false, not_false_eq_true, true_or, or_true, if_true, if_false, and_self, and_true, true_and, and_false, false_and, or_self, or_false, false_or, decide_true, decide_false, Bool.false_eq_true, Bool.true_eq_false, bI_t, bI_f, b72, h3]
  by_cases h0 : q % 3 = 0
  · simp only [h0, if_true] at hn ⊢
    simp only [hn, if_true, not_true_eq_false, if_false]
  · by_cases h1 : q % 3 = 1
    · simp only [h1, if_true, Nat.reduceEqDiff, if_false] at hn ⊢
      simp only [hn, if_true, not_true_eq_false, if_false, not_false_eq_true]
    · simp only [h0, h1, if_false] at hn ⊢
      simp only [hn, if_true, not_false_eq_true]
/-- People.powerOf -/
def pw (V : z_V) (p : Nat) : UInt32 := if V.2.2.1 6 p = nI 1 ∨ V.2.2.1 5 p = nI 0 then 0 else pwr (V.2.2.1 5 p).toNatClampNeg
theorem m53 (M : z_M) (c : Nat) (V : z_V) (p : Nat) (hp : p < 20) (q : Nat) (hq : q < 61) (h : V.2.2.1 5 p = nI q) : z_cl 53 [.ref (c + 6), .int (nI p)] (cS M c V) = some (some (.float (pw V p)), cS M c V) := by
  rw [e53]
  unfold pw
  rw [h, nI_clamp (by omega)]
  simp (disch := first | omega | (simp only [sgets, reduceIte, Nat.reduceEqDiff, h]; done) | omega) only [cS_1, crd, z_pv_some, z_wv_some, z_cv_v, z_cv_n, cwr, sgets, rc_O, ia_n, fa_n, is_n, fs_n, ↓mI_eq, lits, nI_add, nLe, nLt, nE, mI_ne, mI_ne', mI_lt, mI_le, mI_nlt, mI_nle, ne_eq, mI_addC, pk_sub, pk_mul, pk_div, Nat.reduceEqDiff, Nat.reduceAdd, Nat.reduceMul, Nat.reduceSub, reduceIte, not_true_eq_false, not_false_eq_true, true_or, or_true, if_true, if_false, and_self, and_true, true_and, and_false, false_and, or_self, or_false, false_or, decide_true, decide_false, Bool.false_eq_true, Bool.true_eq_false, bI_t, bI_f, b53, gfs6, m72 q hq, h]
  by_cases h1 : V.2.2.1 6 p = nI 1
  · simp [h1]
  · by_cases h2 : q = 0 <;> simp [h1, h2]
theorem pw_nn (V : z_V) (p q : Nat) (hq : q < 61) (h : V.2.2.1 5 p = nI q) : nn (pw V p) := by
  unfold pw
  rw [h, nI_clamp (by omega)]
  split
  · show (0 : UInt32) ≤ _; decide
  · exact (pwr_num q hq).2
/-- People.updateLoudness, of one -/
def updL (V : z_V) (p : Nat) : z_V := if V.2.2.1 3 p = mI then V else
  sA (sF V 0 (vf_upd (V.2.2.2 0) p (stepF (pw V p) (V.2.2.2 0 p)))) 7 (upd (V.2.2.1 7) p (if nI 0 ≤ Op.cmpValue (FP.fcmp (stepF (pw V p) (V.2.2.2 0 p)) V.2.1) .g then nI 0 else V.2.2.1 7 p + nI 1))
def lvOk (V : z_V) : Prop := ∀ p, p < 20 → ∃ q, q < 61 ∧ V.2.2.1 5 p = nI q
def ldOk (V : z_V) : Prop := ∀ p, p < 20 → nn (V.2.2.2 0 p)
theorem updL_S (V : z_V) (p i : Nat) : (updL V p).1 i = V.1 i := by unfold updL; split <;> rfl
theorem updL_T (V : z_V) (p : Nat) : (updL V p).2.1 = V.2.1 := by unfold updL; split <;> rfl
theorem updL_A (V : z_V) (p i : Nat) (h : i ≠ 7) : (updL V p).2.2.1 i = V.2.2.1 i := by
  unfold updL
  split
  · rfl
  · simp only [sgets, h, if_false]
theorem updL_ld {V : z_V} {p : Nat} (hl : lvOk V) (hd : ldOk V) (hp : p < 20) : ldOk (updL V p) := by
  intro k hk
  unfold updL
  split
  · exact hd k hk
  · simp only [sgets, if_true]
    by_cases hkp : k = p
    · subst hkp
      rw [updF_eq]
      obtain ⟨q, hq, h⟩ := hl k hk
      exact (stepF_ok (pw_nn V k q hq h) (hd k hk)).2.2.2
    · rw [updF_ne _ _ hkp]
      exact hd k hk
theorem m52 (M : z_M) (c : Nat) (V : z_V) (J : Nat) (hJ : J ≤ 20) (h : V.1 9 = nI J) (hl : lvOk V) (hd : ldOk V) : z_cl 52 [.ref (c + 6), .float V.2.1] (cS M c V) = some (none, cS M c (it (fun p W => updL W p) J V)) ∧ ldOk (it (fun p W => updL W p) J V) ∧ (it (fun p W => updL W p) J V).1 = V.1 ∧ (it (fun p W => updL W p) J V).2.1 = V.2.1 ∧ ∀ i, i ≠ 7 → (it (fun p W => updL W p) J V).2.2.1 i = V.2.2.1 i := by
  rw [e52]
  simp (disch := first | omega | (simp only [sgets, reduceIte, Nat.reduceEqDiff]; done) | omega) only [cS_1, crd, z_pv_some, z_wv_some, z_cv_v, z_cv_n, cwr, sgets, rc_O, ia_n, fa_n, is_n, fs_n, ↓mI_eq, lits, nI_add, nLe, nLt, nE, mI_ne, mI_ne', mI_lt, mI_le, mI_nlt, mI_nle, ne_eq, mI_addC, pk_sub, pk_mul, pk_div, Nat.reduceEqDiff, Nat.reduceAdd, Nat.reduceMul, Nat.reduceSub, reduceIte, not_true_eq_false, not_false_eq_true, true_or, or_true, if_true, if_false, and_self, and_true, true_and, and_false, false_and, or_self, or_false, false_or, decide_true, decide_false, Bool.false_eq_true, Bool.true_eq_false, bI_t, bI_f, b52]
  refine lp_for (fun k (W : z_V) (j : Option Value × Option Value) => z_ex 52 M.1 2 [some (.ref (c + 6)), some (.float V.2.1), some (.int (nI k)), j.1, j.2] [] (cS M c W)) (fun p W => updL W p) (fun _ W => ldOk W ∧ W.1 = V.1 ∧ W.2.1 = V.2.1 ∧ ∀ i, i ≠ 7 → W.2.2.1 i = V.2.2.1 i) J (fun W => some (none, cS M c W)) ?_ ?_ ?_ V (none, none) ⟨hd, rfl, rfl, fun _ _ => rfl⟩
  · rintro k W ⟨a, b⟩ hk ⟨i1, i2, i3, i4⟩
    have hk2 : ¬ J ≤ k := by omega
    have hJ9 : W.1 9 = nI J := by rw [i2]; exact h
    obtain ⟨q, hq, hlv⟩ := hl k (by omega)
    have hlv2 : W.2.2.1 5 k = nI q := by rw [i4 5 (by omega)]; exact hlv
    have hpw := m53 M c W k (by omega) q hq hlv2
    obtain ⟨s1, s2, s3, s4⟩ := stepF_ok (pw_nn W k q hq hlv2) (i1 k (by omega))
    unfold stepF partF at s3
    unfold partF at s2
    unfold updL stepF partF
    simp only
    rw [q52_2]
    by_cases hb : W.2.2.1 3 k = mI
    · simp (disch := first | omega | (simp only [sgets, reduceIte, Nat.reduceEqDiff, hJ9, hk2, hb]; done) | omega) only [cS_1, crd, z_pv_some, z_wv_some, z_cv_v, z_cv_n, cwr, sgets, rc_O, ia_n, fa_n, is_n, fs_n, ↓mI_eq, lits, nI_add, nLe, nLt, nE, mI_ne, mI_ne', mI_lt, mI_le, mI_nlt, mI_nle, ne_eq, mI_addC, pk_sub, pk_mul, pk_div, Nat.reduceEqDiff, Nat.reduceAdd, Nat.reduceMul, Nat.reduceSub, reduceIte, not_true_eq_false, not_false_eq_true, true_or, or_true, if_true, if_false, and_self, and_true, true_and, and_false, false_and, or_self, or_false, false_or, decide_true, decide_false, Bool.false_eq_true, Bool.true_eq_false, bI_t, bI_f, b52, gfs6, hJ9, hk2, hb]
      exact ⟨(a, b), rfl⟩
    · by_cases hc : Op.cmpValue (FP.fcmp (pw W k) (W.2.2.2 0 k)) .l ≤ nI 0
      · simp only [hc, if_true] at s2 s3
        simp (disch := first | omega | (simp only [sgets, reduceIte, Nat.reduceEqDiff, hJ9, hk2, hb, hc, i3]; done) | omega) only [cS_1, crd, z_pv_some, z_wv_some, z_cv_v, z_cv_n, cwr, sgets, rc_O, ia_n, fa_n, is_n, fs_n, ↓mI_eq, lits, nI_add, nLe, nLt, nE, mI_ne, mI_ne', mI_lt, mI_le, mI_nlt, mI_nle, ne_eq, mI_addC, pk_sub, pk_mul, pk_div, Nat.reduceEqDiff, Nat.reduceAdd, Nat.reduceMul, Nat.reduceSub, reduceIte, not_true_eq_false, not_false_eq_true, true_or, or_true, if_true, if_false, and_self, and_true, true_and, and_false, false_and, or_self, or_false, false_or, decide_true, decide_false, Bool.false_eq_true, Bool.true_eq_false, bI_t, bI_f, b52, gfs6, hpw, s1, s2, s3, updF_eq, hJ9, hk2, hb, hc, i3]
        refine ⟨(some (.float (pw W k)), some (.float 1040187392)), ?_⟩
        split <;> rfl
      · simp only [hc, if_false] at s2 s3
        simp (disch := first | omega | (simp only [sgets, reduceIte, Nat.reduceEqDiff, hJ9, hk2, hb, hc, i3]; done) | omega) only [cS_1, crd, z_pv_some, z_wv_some, z_cv_v, z_cv_n, cwr, sgets, rc_O, ia_n, fa_n, is_n, fs_n, ↓mI_eq, lits, nI_add, nLe, nLt, nE, mI_ne, mI_ne', mI_lt, mI_le, mI_nlt, mI_nle, ne_eq, mI_addC, pk_sub, pk_mul, pk_div, Nat.reduceEqDiff, Nat.reduceAdd, Nat.reduceMul, Nat.reduceSub, reduceIte, not_true_eq_false, not_false_eq_true, true_or, or_true, if_true, if_false, and_self, and_true, true_and, and_false, false_and, or_self, or_false, false_or, decide_true, decide_false, Bool.false_eq_true, Bool.true_eq_false, bI_t, bI_f, b52, gfs6, hpw, s1, s2, s3, updF_eq, hJ9, hk2, hb, hc, i3]
        refine ⟨(some (.float (pw W k)), some (.float 1056964608)), ?_⟩
        split <;> rfl
  · rintro k W hk ⟨i1, i2, i3, i4⟩
    have hlW : lvOk W := fun p hp => by rw [i4 5 (by omega)]; exact hl p hp
    exact ⟨updL_ld hlW i1 (by omega), by funext i; rw [updL_S, i2], by rw [updL_T, i3], fun i hi => by rw [updL_A _ _ _ hi, i4 i hi]⟩
  · rintro W ⟨a, b⟩ ⟨i1, i2, i3, i4⟩
    have hJ9 : W.1 9 = nI J := by rw [i2]; exact h
    simp only
    rw [q52_2]
    simp (disch := first | omega | (simp only [sgets, reduceIte, Nat.reduceEqDiff, hJ9]; done) | omega) only [cS_1, crd, z_pv_some, z_wv_some, z_cv_v, z_cv_n, cwr, sgets, rc_O, ia_n, fa_n, is_n, fs_n, ↓mI_eq, lits, nI_add, nLe, nLt, nE, mI_ne, mI_ne', mI_lt, mI_le, mI_nlt, mI_nle, ne_eq, mI_addC, pk_sub, pk_mul, pk_div, Nat.reduceEqDiff, Nat.reduceAdd, Nat.reduceMul, Nat.reduceSub, reduceIte, not_true_eq_false, not_false_eq_true, true_or, or_true, if_true, if_false, and_self, and_true, true_and, and_false, false_and, or_self, or_false, false_or, decide_true, decide_false, Bool.false_eq_true, Bool.true_eq_false, bI_t, bI_f, b52, gfs6, Nat.le_refl, hJ9]
