/-! send, passTicks -/
theorem lp_ex {σ ι ρ : Type} (E : Nat → σ → ι → ρ) (f : Nat → σ → σ) (P : Nat → σ → Prop) (n : Nat) (hb : ∀ i s j, i < n → P i s → ∃ j', E i s j = E (i + 1) (f i s) j') (hP : ∀ i s, i < n → P i s → P (i + 1) (f i s)) (s : σ) (j : ι) (h0 : P 0 s) : (∃ j', E 0 s j = E n (it f n s) j') ∧ P n (it f n s) := by
  have key : ∀ k, k ≤ n → (∃ j', E 0 s j = E k (it f k s) j') ∧ P k (it f k s) := by
    intro k
    induction k with
    | zero => intro _; exact ⟨⟨j, rfl⟩, h0⟩
    | succ k ih =>
      intro hk
      obtain ⟨⟨j1, h1⟩, h2⟩ := ih (by omega)
      obtain ⟨j2, h3⟩ := hb k _ j1 (by omega) h2
      exact ⟨⟨j2, h1.trans h3⟩, hP k _ (by omega) h2⟩
  exact key n (Nat.le_refl n)
theorem cpy_I {n : Nat} {f g : Nat → Int32} (hn : n < 2 ^ 31) : z_cpy (some (.inl (n, .inl f))) (some (.inl (n, .inl g))) (nI 0) (nI 0) (nI n) = some (.inl (n, .inl f)) := by
  have e0 : nI 0 = 0 := rfl
  simp only [z_cpy, e0, nI_pos hn, nI_clamp hn, not_false_eq_true, and_self, if_true]
theorem cpy_F {n : Nat} {f g : Nat → UInt32} (hn : n < 2 ^ 31) : z_cpy (some (.inl (n, .inr (.inr (.inl f))))) (some (.inl (n, .inr (.inr (.inl g))))) (nI 0) (nI 0) (nI n) = some (.inl (n, .inr (.inr (.inl f)))) := by
  have e0 : nI 0 = 0 := rfl
  simp only [z_cpy, e0, nI_pos hn, nI_clamp hn, not_false_eq_true, and_self, if_true]
theorem lI64 : (64 : Int32) = nI 64 := rfl
/-- Streams.copyFrom: what was sent arrives -/
def arrV' (V U : z_V) : z_V := sF (sA (sA (sA V 16 (U.2.2.1 1)) 17 (U.2.2.1 2)) 18 (U.2.2.1 3)) 2 (U.2.2.2 1)
theorem m60x (M : z_M) (c x : Nat) (hx : c + 32 ≤ x) (V U : z_V) : z_cl 60 [.ref (c + 23), .ref (x + 3)] (cS (xS M x U) c V) = some (none, cS (xS M x U) c (arrV' V U)) := by
  rw [e60]
  simp (disch := first | omega | (simp only [sgets, reduceIte, Nat.reduceEqDiff]; done) | omega) only [cS_1, crd, z_pv_some, z_wv_some, z_cv_v, z_cv_n, cwr, sgets, rc_O, ia_n, fa_n, is_n, fs_n, ↓mI_eq, lits, nI_add, nLe, nLt, nE, mI_ne, mI_ne', mI_lt, mI_le, mI_nlt, mI_nle, ne_eq, mI_addC, pk_sub, pk_mul, pk_div, Nat.reduceEqDiff, Nat.reduceAdd, Nat.reduceMul, Nat.reduceSub, reduceIte, not_true_eq_false, not_false_eq_true, true_or, or_true, if_true, if_false, and_self, and_true, true_and, and_false, false_and, or_self, or_false, false_or, decide_true, decide_false, Bool.false_eq_true, Bool.true_eq_false, bI_t, bI_f, cS_out, cS_wr_out, xS_1, xrd, xwr, gfs4, gfs8, gfs0, gfs6, gfs9, b60, cpy_I, cpy_F, lI64]
  rfl
/-- Mixer.send -/
def senN (V : z_V) (J B b n : Nat) (U : z_V) : z_V := if way V n b = mI then U else sendL (way V n b).toNatClampNeg J (V.2.2.1 1 (if (way V n b).toNatClampNeg < 8 then (way V n b).toNatClampNeg else (way V n b).toNatClampNeg - 8)).toNatClampNeg (gath V b (nI n) J B U)
def senB (V : z_V) (J B b : Nat) (U : z_V) : z_V := it (senN V J B b) B U
def sent (V : z_V) (J B : Nat) (U : z_V) : z_V := it (senB V J B) B (it clr 16 U)
/-- places of the links are 0 to 4 -/
def plOk (V : z_V) : Prop := ∀ b, b < 8 → ∃ n, n ≤ 4 ∧ V.2.2.1 1 b = nI n
theorem seOk_clr (U : z_V) (J : Nat) : seOk (it clr 16 U) J := by
  have key : ∀ k, k ≤ 16 → ∀ w, w < k → (it clr k U).2.2.1 1 w = nI 0 := by
    intro k
    induction k with
    | zero => intro _ w hw; omega
    | succ k ih =>
      intro hk w hw
      show (clr k (it clr k U)).2.2.1 1 w = nI 0
      unfold clr
      simp only [sgets, if_true]
      by_cases h : w = k
      · subst h; rw [upd_eq]
      · rw [upd_ne _ _ h]; exact ih (by omega) w (by omega)
  intro w hw
  exact ⟨0, by omega, key 16 (by omega) w hw, fun i hi => by omega⟩
theorem gath_keep (V : z_V) (b : Nat) (e : Int32) (J B : Nat) (U : z_V) : (∀ i, i ≠ 0 → (gath V b e J B U).2.2.1 i = U.2.2.1 i) ∧ (∀ i, i ≠ 0 → (gath V b e J B U).2.2.2 i = U.2.2.2 i) := by
  have k1 : ∀ n, (∀ i, i ≠ 0 → (it (gInit V b) n U).2.2.1 i = U.2.2.1 i) ∧ (∀ i, i ≠ 0 → (it (gInit V b) n U).2.2.2 i = U.2.2.2 i) := by
    intro n
    induction n with
    | zero => exact ⟨fun _ _ => rfl, fun _ _ => rfl⟩
    | succ n ih =>
      have e1 : it (gInit V b) (n + 1) U = gInit V b n (it (gInit V b) n U) := rfl
      rw [e1]
      unfold gInit
      exact ⟨fun i hi => by simp only [sgets, hi, if_false]; exact ih.1 i hi, fun i hi => by simp only [sgets, hi, if_false]; exact ih.2 i hi⟩
  have k2 : ∀ (w n : Nat) (X : z_V), (∀ i, i ≠ 0 → (it (gatW V w) n X).2.2.1 i = X.2.2.1 i) ∧ (∀ i, i ≠ 0 → (it (gatW V w) n X).2.2.2 i = X.2.2.2 i) := by
    intro w n X
    induction n with
    | zero => exact ⟨fun _ _ => rfl, fun _ _ => rfl⟩
    | succ n ih =>
      have e1 : it (gatW V w) (n + 1) X = gatW V w n (it (gatW V w) n X) := rfl
      rw [e1]
      unfold gatW
      split
      · exact ⟨fun i hi => by simp only [sgets, hi, if_false]; exact ih.1 i hi, fun i hi => by simp only [sgets, hi, if_false]; exact ih.2 i hi⟩
      · exact ih
  have k3 : ∀ (n : Nat) (X : z_V), (∀ i, i ≠ 0 → (it (gN V b e) n X).2.2.1 i = X.2.2.1 i) ∧ (∀ i, i ≠ 0 → (it (gN V b e) n X).2.2.2 i = X.2.2.2 i) := by
    intro n X
    induction n with
    | zero => exact ⟨fun _ _ => rfl, fun _ _ => rfl⟩
    | succ n ih =>
      have e1 : it (gN V b e) (n + 1) X = gN V b e n (it (gN V b e) n X) := rfl
      rw [e1]
      unfold gN
      split
      · exact ih
      · have := k2 (way V b n).toNatClampNeg (V.2.2.1 16 (way V b n).toNatClampNeg).toNatClampNeg (it (gN V b e) n X)
        exact ⟨fun i hi => (this.1 i hi).trans (ih.1 i hi), fun i hi => (this.2 i hi).trans (ih.2 i hi)⟩
  unfold gath
  exact ⟨fun i hi => ((k3 B _).1 i hi).trans ((k1 J).1 i hi), fun i hi => ((k3 B _).2 i hi).trans ((k1 J).2 i hi)⟩
theorem seOk_gath {V : z_V} {b : Nat} {e : Int32} {J B : Nat} {U : z_V} (h : seOk U J) : seOk (gath V b e J B U) J := by
  obtain ⟨k1, k2⟩ := gath_keep V b e J B U
  intro w hw
  obtain ⟨n, a1, a2, a3⟩ := h w hw
  exact ⟨n, a1, by rw [k1 1 (by omega)]; exact a2, fun i hi => by rw [k2 1 (by omega), k1 2 (by omega)]; exact a3 i hi⟩
theorem m36 (M : z_M) (c x : Nat) (hx : c + 32 ≤ x) (V U : z_V) (J B : Nat) (hJ : J ≤ 20) (h9 : V.1 9 = nI J) (hB : B ≤ 8) (h8 : V.1 8 = nI B) (hd : ldOk V) (hst : stOk V J) (hpl : plOk V) : z_cl 36 [.ref x, .ref c] (cS (xS M x U) c V) = some (none, cS (xS M x (sent V J B U)) c (arrV' V (sent V J B U))) ∧ seOk (sent V J B U) J := by
  rw [e36]
  have h61 := m61 M c x hx V U
  simp (disch := first | omega | (simp only [sgets, reduceIte, Nat.reduceEqDiff]; done) | omega) only [cS_1, crd, z_pv_some, z_wv_some, z_cv_v, z_cv_n, cwr, sgets, rc_O, ia_n, fa_n, is_n, fs_n, ↓mI_eq, lits, nI_add, nLe, nLt, nE, mI_ne, mI_ne', mI_lt, mI_le, mI_nlt, mI_nle, ne_eq, mI_addC, pk_sub, pk_mul, pk_div, Nat.reduceEqDiff, Nat.reduceAdd, Nat.reduceMul, Nat.reduceSub, reduceIte, not_true_eq_false, not_false_eq_true, true_or, or_true, if_true, if_false, and_self, and_true, true_and, and_false, false_and, or_self, or_false, false_or, decide_true, decide_false, Bool.false_eq_true, Bool.true_eq_false, bI_t, bI_f, cS_out, cS_wr_out, xS_1, xrd, xwr, gfs4, gfs8, gfs0, gfs6, gfs9, b36, h61]
  have hstep : ∀ (k n : Nat) (X : z_V), k < B → n < B → seOk X J → (∀ j : Option Value, ∃ j', z_ex 36 M.1 22 [some (.ref x), some (.ref c), some (.int (nI k)), some (.int (nI n)), j] [] (cS (xS M x X) c V) = z_ex 36 M.1 22 [some (.ref x), some (.ref c), some (.int (nI k)), some (.int (nI (n + 1))), j'] [] (cS (xS M x (senN V J B k n X)) c V)) ∧ seOk (senN V J B k n X) J := by
    intro k n X hk hn hX
    have hn2 : ¬ B ≤ n := by omega
    have h68 := m68 (xS M x X) c V n k (by omega) (by omega)
    unfold senN
    rcases way_lt V (show n < 8 by omega) (show k < 8 by omega) with hw | ⟨w, hw, hw2⟩
    · rw [hw] at h68 ⊢
      refine ⟨fun j => ?_, by simp only [if_true]; exact hX⟩
      rw [q36_22]
      simp (disch := first | omega | (simp only [sgets, reduceIte, Nat.reduceEqDiff, h8, hn2]; done) | omega) only [cS_1, crd, z_pv_some, z_wv_some, z_cv_v, z_cv_n, cwr, sgets, rc_O, ia_n, fa_n, is_n, fs_n, ↓mI_eq, lits, nI_add, nLe, nLt, nE, mI_ne, mI_ne', mI_lt, mI_le, mI_nlt, mI_nle, ne_eq, mI_addC, pk_sub, pk_mul, pk_div, Nat.reduceEqDiff, Nat.reduceAdd, Nat.reduceMul, Nat.reduceSub, reduceIte, not_true_eq_false, not_false_eq_true, true_or, or_true, if_true, if_false, and_self, and_true, true_and, and_false, false_and, or_self, or_false, false_or, decide_true, decide_false, Bool.false_eq_true, Bool.true_eq_false, bI_t, bI_f, cS_out, cS_wr_out, xS_1, xrd, xwr, gfs4, gfs8, gfs0, gfs6, gfs9, b36, h68, h8, hn2]
      exact ⟨some (.int mI), rfl⟩
    · rw [hw2] at h68 ⊢
      rw [if_neg (by rw [mI_ne (by omega)]; exact not_false), nI_clamp (by omega)]
      obtain ⟨g1, g2⟩ := m33 M c x hx V X J B hJ h9 hB h8 hd hst k (by omega) (nI n)
      have hs2 : seOk (gath V k (nI n) J B X) J := seOk_gath hX
      generalize gath V k (nI n) J B X = X2 at g1 g2 hs2 ⊢
      have h69 := m69 (xS M x X2) c V w hw
      obtain ⟨P, hP, hp⟩ := hpl (if w < 8 then w else w - 8) (by split <;> omega)
      rw [hp] at h69 ⊢
      rw [nI_clamp (show P < 2 ^ 31 by omega)]
      obtain ⟨s1, s2⟩ := m37 M c x hx V J w P hJ hw hP X2 g2 hs2
      refine ⟨fun j => ?_, s2⟩
      rw [q36_22]
      simp (disch := first | omega | (simp only [sgets, reduceIte, Nat.reduceEqDiff, h8, h9, hn2]; done) | omega) only [cS_1, crd, z_pv_some, z_wv_some, z_cv_v, z_cv_n, cwr, sgets, rc_O, ia_n, fa_n, is_n, fs_n, ↓mI_eq, lits, nI_add, nLe, nLt, nE, mI_ne, mI_ne', mI_lt, mI_le, mI_nlt, mI_nle, ne_eq, mI_addC, pk_sub, pk_mul, pk_div, Nat.reduceEqDiff, Nat.reduceAdd, Nat.reduceMul, Nat.reduceSub, reduceIte, not_true_eq_false, not_false_eq_true, true_or, or_true, if_true, if_false, and_self, and_true, true_and, and_false, false_and, or_self, or_false, false_or, decide_true, decide_false, Bool.false_eq_true, Bool.true_eq_false, bI_t, bI_f, cS_out, cS_wr_out, xS_1, xrd, xwr, gfs4, gfs8, gfs0, gfs6, gfs9, b36, h68, g1, h69, s1, h8, h9, hn2]
      exact ⟨some (.int (nI w)), rfl⟩
  have hinner : ∀ (k : Nat) (X : z_V) (j : Option Value), k < B → seOk X J → (∃ j', z_ex 36 M.1 22 [some (.ref x), some (.ref c), some (.int (nI k)), some (.int (nI 0)), j] [] (cS (xS M x X) c V) = z_ex 36 M.1 22 [some (.ref x), some (.ref c), some (.int (nI k)), some (.int (nI B)), j'] [] (cS (xS M x (senB V J B k X)) c V)) ∧ seOk (senB V J B k X) J := fun k X j hk hX =>
    lp_ex (fun n (X : z_V) (j : Option Value) => z_ex 36 M.1 22 [some (.ref x), some (.ref c), some (.int (nI k)), some (.int (nI n)), j] [] (cS (xS M x X) c V)) (senN V J B k) (fun _ X => seOk X J) B (fun n X j hn hX => (hstep k n X hk hn hX).1 j) (fun n X hn hX => (hstep k n X hk hn hX).2) X j hX
  refine lp_for (fun k (W : z_V) (j : Option Value × Option Value) => z_ex 36 M.1 9 [some (.ref x), some (.ref c), some (.int (nI k)), j.1, j.2] [] (cS (xS M x W) c V)) (senB V J B) (fun _ W => seOk W J) B (fun W => some (none, cS (xS M x W) c (arrV' V W))) ?_ ?_ ?_ (it clr 16 U) (none, none) (seOk_clr U J)
  · rintro k W ⟨j1, j2⟩ hk hK
    have hk2 : ¬ B ≤ k := by omega
    obtain ⟨⟨j3, l1⟩, -⟩ := hinner k W j2 hk hK
    refine ⟨(some (.int (nI B)), j3), ?_⟩
    rw [q36_9]
    simp (disch := first | omega | (simp only [sgets, reduceIte, Nat.reduceEqDiff, h8, hk2]; done) | omega) only [cS_1, crd, z_pv_some, z_wv_some, z_cv_v, z_cv_n, cwr, sgets, rc_O, ia_n, fa_n, is_n, fs_n, ↓mI_eq, lits, nI_add, nLe, nLt, nE, mI_ne, mI_ne', mI_lt, mI_le, mI_nlt, mI_nle, ne_eq, mI_addC, pk_sub, pk_mul, pk_div, Nat.reduceEqDiff, Nat.reduceAdd, Nat.reduceMul, Nat.reduceSub, reduceIte, not_true_eq_false, not_false_eq_true, true_or, or_true, if_true, if_false, and_self, and_true, true_and, and_false, false_and, or_self, or_false, false_or, decide_true, decide_false, Bool.false_eq_true, Bool.true_eq_false, bI_t, bI_f, cS_out, cS_wr_out, xS_1, xrd, xwr, gfs4, gfs8, gfs0, gfs6, gfs9, b36, l1, q36_22, Nat.le_refl, h8, hk2]
  · exact fun k W hk hK => (hinner k W none hk hK).2
  · rintro W ⟨j1, j2⟩ hK
    have h60 := m60x M c x hx V W
    rw [q36_9]
    simp (disch := first | omega | (simp only [sgets, reduceIte, Nat.reduceEqDiff, h8]; done) | omega) only [cS_1, crd, z_pv_some, z_wv_some, z_cv_v, z_cv_n, cwr, sgets, rc_O, ia_n, fa_n, is_n, fs_n, ↓mI_eq, lits, nI_add, nLe, nLt, nE, mI_ne, mI_ne', mI_lt, mI_le, mI_nlt, mI_nle, ne_eq, mI_addC, pk_sub, pk_mul, pk_div, Nat.reduceEqDiff, Nat.reduceAdd, Nat.reduceMul, Nat.reduceSub, reduceIte, not_true_eq_false, not_false_eq_true, true_or, or_true, if_true, if_false, and_self, and_true, true_and, and_false, false_and, or_self, or_false, false_or, decide_true, decide_false, Bool.false_eq_true, Bool.true_eq_false, bI_t, bI_f, cS_out, cS_wr_out, xS_1, xrd, xwr, gfs4, gfs8, gfs0, gfs6, gfs9, b36, h60, Nat.le_refl, h8]
/-- Conference.passTicks: one tick -/
def tick1 (J S B : Nat) (s : z_V × z_V) : z_V × z_V :=
  (sent (it (letH J B) B (s.1, begT s.2 J S B)).2 J B (it (letH J B) B (s.1, begT s.2 J S B)).1, arrV' (it (letH J B) B (s.1, begT s.2 J S B)).2 (sent (it (letH J B) B (s.1, begT s.2 J S B)).2 J B (it (letH J B) B (s.1, begT s.2 J S B)).1))
