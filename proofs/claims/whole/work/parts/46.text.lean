/-! the text -/
def skipB (b : Nat → Int32) (L : Nat) : Nat → Nat → Nat
  | 0, a => a
  | n + 1, a => if a < L ∧ b a = nI 32 then skipB b L n (a + 1) else a
/-- past the blanks -/
def sk (b : Nat → Int32) (L a : Nat) : Nat := skipB b L (L - a) a
theorem sk_bd (b : Nat → Int32) (L a : Nat) : a ≤ sk b L a ∧ (a ≤ L → sk b L a ≤ L) := by
  unfold sk
  have : ∀ n a, a ≤ skipB b L n a ∧ (a ≤ L → skipB b L n a ≤ L) := by
    intro n
    induction n with
    | zero => intro a; exact ⟨Nat.le_refl _, fun h => h⟩
    | succ n ih =>
      intro a
      unfold skipB
      split
      · rename_i hc
        have := ih (a + 1)
        exact ⟨by omega, fun _ => this.2 (by omega)⟩
      · exact ⟨Nat.le_refl _, fun h => h⟩
  exact this _ _
theorem m43 (M : z_M) (t : Nat) (T : z_V) (L a : Nat) (hL : L ≤ 100) (ha : a ≤ L) (h0 : T.1 0 = nI L) (h1 : T.1 1 = nI a) : z_cl 43 [.ref t] (tS M t T) = some (none, tS M t (sS T 1 (nI (sk (T.2.2.1 0) L a)))) := by
  rw [e43]
  have key : ∀ (n a : Nat) (T' : z_V), n = L - a → a ≤ L → T'.1 0 = nI L → T'.1 1 = nI a → T'.2.2.1 0 = T.2.2.1 0 → (∀ x, sS T' 1 x = sS T 1 x) → z_ex 43 M.1 0 [some (.ref t)] [] (tS M t T') = some (none, tS M t (sS T 1 (nI (skipB (T.2.2.1 0) L n a)))) := by
    intro n
    induction n with
    | zero =>
      intro a T' hn ha g0 g1 g2 g3
      have e : a = L := by omega
      subst e
      have hid : sS T 1 (nI a) = T' := by
        rw [← g3, ← g1]
        unfold sS
        obtain ⟨s, r⟩ := T'
        congr 1
        funext j
        by_cases hj : j = 1 <;> simp [upd, hj]
      unfold skipB
      rw [q43_0, hid]
      simp (disch := first | omega | (simp only [sgets, reduceIte, Nat.reduceEqDiff, g0, g1]; done) | omega) only [cS_1, crd, z_pv_some, z_wv_some, z_cv_v, z_cv_n, cwr, sgets, rc_O, ia_n, fa_n, is_n, fs_n, ↓mI_eq, lits, nI_add, nLe, nLt, nE, mI_ne, mI_ne', mI_lt, mI_le, mI_nlt, mI_nle, ne_eq, mI_addC, pk_sub, pk_mul, pk_div, Nat.reduceEqDiff, Nat.reduceAdd, Nat.reduceMul, Nat.reduceSub, reduceIte, not_true_eq_false, not_false_eq_true, true_or, or_true, if_true, if_false, and_self, and_true, true_and, and_false, false_and, or_self, or_false, false_or, decide_true, decide_false, Bool.false_eq_true, Bool.true_eq_false, bI_t, bI_f, tS_1, trd, twr, gfs5, pfs5, b43, Nat.le_refl, g0, g1]
    | succ n ih =>
      intro a T' hn ha g0 g1 g2 g3
      have hlt : ¬ L ≤ a := by omega
      have hid : sS T 1 (nI a) = T' := by
        rw [← g3, ← g1]
        unfold sS
        obtain ⟨s, r⟩ := T'
        congr 1
        funext j
        by_cases hj : j = 1 <;> simp [upd, hj]
      unfold skipB
      rw [q43_0]
      by_cases hb : T.2.2.1 0 a = nI 32
      · have hb' : T'.2.2.1 0 a = nI 32 := by rw [g2]; exact hb
        rw [if_pos ⟨by omega, hb⟩]
        have hi := ih (a + 1) (sS T' 1 (nI (a + 1))) (by omega) (by omega) (by simp only [sgets, Nat.reduceEqDiff, if_false]; exact g0) (by simp only [sgets, if_true]) (by simp only [sgets]; exact g2) (fun x => by rw [sS_sS]; exact g3 x)
        simp (disch := first | omega | (simp only [sgets, reduceIte, Nat.reduceEqDiff, g0, g1, hlt, hb']; done) | omega) only [cS_1, crd, z_pv_some, z_wv_some, z_cv_v, z_cv_n, cwr, sgets, rc_O, ia_n, fa_n, is_n, fs_n, ↓mI_eq, lits, nI_add, nLe, nLt, nE, mI_ne, mI_ne', mI_lt, mI_le, mI_nlt, mI_nle, ne_eq, mI_addC, pk_sub, pk_mul, pk_div, Nat.reduceEqDiff, Nat.reduceAdd, Nat.reduceMul, Nat.reduceSub, reduceIte, not_true_eq_false, not_false_eq_true, true_or, or_true, if_true, if_false, and_self, and_true, true_and, and_false, false_and, or_self, or_false, false_or, decide_true, decide_false, Bool.false_eq_true, Bool.true_eq_false, bI_t, bI_f, tS_1, trd, twr, gfs5, pfs5, b43, hi, g0, g1, hlt, hb']
      · have hb' : ¬ T'.2.2.1 0 a = nI 32 := by rw [g2]; exact hb
        rw [if_neg (fun q => hb q.2), hid]
        simp (disch := first | omega | (simp only [sgets, reduceIte, Nat.reduceEqDiff, g0, g1, hlt, hb']; done) | omega) only [cS_1, crd, z_pv_some, z_wv_some, z_cv_v, z_cv_n, cwr, sgets, rc_O, ia_n, fa_n, is_n, fs_n, ↓mI_eq, lits, nI_add, nLe, nLt, nE, mI_ne, mI_ne', mI_lt, mI_le, mI_nlt, mI_nle, ne_eq, mI_addC, pk_sub, pk_mul, pk_div, Nat.reduceEqDiff, Nat.reduceAdd, Nat.reduceMul, Nat.reduceSub, reduceIte, not_true_eq_false, not_false_eq_true, true_or, or_true, if_true, if_false, and_self, and_true, true_and, and_false, false_and, or_self, or_false, false_or, decide_true, decide_false, Bool.false_eq_true, Bool.true_eq_false, bI_t, bI_f, tS_1, trd, twr, gfs5, pfs5, b43, g0, g1, hlt, hb']
  rw [tS_1]
  exact key (L - a) a T rfl ha h0 h1 rfl (fun _ => rfl)
/-- OrderText.append, empty -/
def appR (T : z_V) (L : Nat) (y : Int32) : Int32 × z_V := if ¬ (nI 0 ≤ y ∧ y ≤ nI 255) then (-(nI 3), T) else if 100 ≤ L then (-(nI 5), T) else (nI (L + 1), sS (sA T 0 (upd (T.2.2.1 0) L y)) 0 (nI (L + 1)))
theorem m39 (M : z_M) (t : Nat) (T : z_V) (L : Nat) (hL : L ≤ 100) (h0 : T.1 0 = nI L) (y : Int32) : z_cl 39 [.ref t, .int y] (tS M t T) = some (some (.int (appR T L y).1), tS M t (appR T L y).2) := by
  rw [e39]
  have h74 := m74 y (nI 0) (nI 255) (tS M t T)
  unfold appR
  by_cases hy : nI 0 ≤ y ∧ y ≤ nI 255
  · have hy' := eq_true hy
    by_cases h1 : 100 ≤ L
    · have h1' : ¬ L < 100 := by omega
      simp (disch := first | omega | (simp only [sgets, reduceIte, Nat.reduceEqDiff, h0, hy', h1, h1']; done) | omega) only [cS_1, crd, z_pv_some, z_wv_some, z_cv_v, z_cv_n, cwr, sgets, rc_O, ia_n, fa_n, is_n, fs_n, ↓mI_eq, lits, nI_add, nLe, nLt, nE, mI_ne, mI_ne', mI_lt, mI_le, mI_nlt, mI_nle, ne_eq, mI_addC, pk_sub, pk_mul, pk_div, Nat.reduceEqDiff, Nat.reduceAdd, Nat.reduceMul, Nat.reduceSub, reduceIte, not_true_eq_false, not_false_eq_true, true_or, or_true, if_true, if_false, and_self, and_true, true_and, and_false, false_and, or_self, or_false, false_or, decide_true, decide_false, Bool.false_eq_true, Bool.true_eq_false, bI_t, bI_f, tS_1, trd, twr, gfs5, pfs5, b39, h74, h0, hy', h1, h1']
    · have h1' : L < 100 := by omega
      simp (disch := first | omega | (simp only [sgets, reduceIte, Nat.reduceEqDiff, h0, hy', h1, h1']; done) | omega) only [cS_1, crd, z_pv_some, z_wv_some, z_cv_v, z_cv_n, cwr, sgets, rc_O, ia_n, fa_n, is_n, fs_n, ↓mI_eq, lits, nI_add, nLe, nLt, nE, mI_ne, mI_ne', mI_lt, mI_le, mI_nlt, mI_nle, ne_eq, mI_addC, pk_sub, pk_mul, pk_div, Nat.reduceEqDiff, Nat.reduceAdd, Nat.reduceMul, Nat.reduceSub, reduceIte, not_true_eq_false, not_false_eq_true, true_or, or_true, if_true, if_false, and_self, and_true, true_and, and_false, false_and, or_self, or_false, false_or, decide_true, decide_false, Bool.false_eq_true, Bool.true_eq_false, bI_t, bI_f, tS_1, trd, twr, gfs5, pfs5, b39, h74, h0, hy', h1, h1']
  · simp (disch := first | omega | (simp only [sgets, reduceIte, Nat.reduceEqDiff, h0, hy]; done) | omega) only [cS_1, crd, z_pv_some, z_wv_some, z_cv_v, z_cv_n, cwr, sgets, rc_O, ia_n, fa_n, is_n, fs_n, ↓mI_eq, lits, nI_add, nLe, nLt, nE, mI_ne, mI_ne', mI_lt, mI_le, mI_nlt, mI_nle, ne_eq, mI_addC, pk_sub, pk_mul, pk_div, Nat.reduceEqDiff, Nat.reduceAdd, Nat.reduceMul, Nat.reduceSub, reduceIte, not_true_eq_false, not_false_eq_true, true_or, or_true, if_true, if_false, and_self, and_true, true_and, and_false, false_and, or_self, or_false, false_or, decide_true, decide_false, Bool.false_eq_true, Bool.true_eq_false, bI_t, bI_f, tS_1, trd, twr, gfs5, pfs5, b39, h74, h0, hy]
theorem m40 (M : z_M) (t : Nat) (T : z_V) : z_cl 40 [.ref t] (tS M t T) = some (some (.int (T.1 0)), tS M t (sS T 0 (nI 0))) := by
  rw [e40]
  simp (disch := first | omega | (simp only [sgets, reduceIte, Nat.reduceEqDiff]; done) | omega) only [cS_1, crd, z_pv_some, z_wv_some, z_cv_v, z_cv_n, cwr, sgets, rc_O, ia_n, fa_n, is_n, fs_n, ↓mI_eq, lits, nI_add, nLe, nLt, nE, mI_ne, mI_ne', mI_lt, mI_le, mI_nlt, mI_nle, ne_eq, mI_addC, pk_sub, pk_mul, pk_div, Nat.reduceEqDiff, Nat.reduceAdd, Nat.reduceMul, Nat.reduceSub, reduceIte, not_true_eq_false, not_false_eq_true, true_or, or_true, if_true, if_false, and_self, and_true, true_and, and_false, false_and, or_self, or_false, false_or, decide_true, decide_false, Bool.false_eq_true, Bool.true_eq_false, bI_t, bI_f, tS_1, trd, twr, gfs5, pfs5, b40]
/-- OrderText.numbersAfter -/
def numA (y : Int32) : Nat := if y = nI 76 ∨ y = nI 77 ∨ y = nI 82 then 2 else if y = nI 84 ∨ y = nI 70 ∨ y = nI 85 then 1 else 0
theorem nI_toInt_eq {y : Int32} {k : Nat} (hk : k < 2 ^ 31) (h : y.toInt = k) : y = nI k := by
  apply Int32.toInt_inj.mp
  rw [nI_toInt hk]
  exact h
theorem m44 (M : z_M) (y : Int32) : z_cl 44 [.int y] M = some (some (.int (nI (numA y))), M) := by
  by_cases hd : y.toInt < 70 ∨ 85 < y.toInt
  · have hn : numA y = 0 := by
      have key : ∀ k : Nat, 70 ≤ k → k ≤ 85 → y ≠ nI k := fun k h1 h2 e => by
        rw [e, nI_toInt (by omega)] at hd
        omega
      unfold numA
      rw [if_neg (by rintro (q | q | q) <;> exact key _ (by omega) (by omega) q), if_neg (by rintro (q | q | q) <;> exact key _ (by omega) (by omega) q)]
    rw [hn, e44, q44_0, q44_1_d _ _ _ _ _ hd]
    simp only [b44]
    rfl
  · obtain ⟨k, hk1, hk2, rfl⟩ : ∃ k : Nat, 70 ≤ k ∧ k ≤ 85 ∧ y = nI k := by
      refine ⟨y.toInt.toNat, by omega, by omega, nI_toInt_eq (by omega) (by omega)⟩
    rw [e44]
    rcases (show k = 70 ∨ k = 71 ∨ k = 72 ∨ k = 73 ∨ k = 74 ∨ k = 75 ∨ k = 76 ∨ k = 77 ∨ k = 78 ∨ k = 79 ∨ k = 80 ∨ k = 81 ∨ k = 82 ∨ k = 83 ∨ k = 84 ∨ k = 85 by omega) with rfl | rfl | rfl | rfl | rfl | rfl | rfl | rfl | rfl | rfl | rfl | rfl | rfl | rfl | rfl | rfl
    · exact (q44_0 _ _ _ _).trans ((q44_1_70 _ _ _ _).trans (by simp only [b44]; rfl))
    · exact (q44_0 _ _ _ _).trans ((q44_1_71 _ _ _ _).trans (by simp only [b44]; rfl))
    · exact (q44_0 _ _ _ _).trans ((q44_1_72 _ _ _ _).trans (by simp only [b44]; rfl))
    · exact (q44_0 _ _ _ _).trans ((q44_1_73 _ _ _ _).trans (by simp only [b44]; rfl))
    · exact (q44_0 _ _ _ _).trans ((q44_1_74 _ _ _ _).trans (by simp only [b44]; rfl))
    · exact (q44_0 _ _ _ _).trans ((q44_1_75 _ _ _ _).trans (by simp only [b44]; rfl))
    · exact (q44_0 _ _ _ _).trans ((q44_1_76 _ _ _ _).trans (by simp only [b44]; rfl))
    · exact (q44_0 _ _ _ _).trans ((q44_1_77 _ _ _ _).trans (by simp only [b44]; rfl))
    · exact (q44_0 _ _ _ _).trans ((q44_1_78 _ _ _ _).trans (by simp only [b44]; rfl))
    · exact (q44_0 _ _ _ _).trans ((q44_1_79 _ _ _ _).trans (by simp only [b44]; rfl))
    · exact (q44_0 _ _ _ _).trans ((q44_1_80 _ _ _ _).trans (by simp only [b44]; rfl))
    · exact (q44_0 _ _ _ _).trans ((q44_1_81 _ _ _ _).trans (by simp only [b44]; rfl))
    · exact (q44_0 _ _ _ _).trans ((q44_1_82 _ _ _ _).trans (by simp only [b44]; rfl))
    · exact (q44_0 _ _ _ _).trans ((q44_1_83 _ _ _ _).trans (by simp only [b44]; rfl))
    · exact (q44_0 _ _ _ _).trans ((q44_1_84 _ _ _ _).trans (by simp only [b44]; rfl))
    · exact (q44_0 _ _ _ _).trans ((q44_1_85 _ _ _ _).trans (by simp only [b44]; rfl))
/-- OrderText.readNumber -/
def isDig (y : Int32) : Bool := decide (nI 48 ≤ y ∧ y ≤ nI 57)
def digE (b : Nat → Int32) (L : Nat) : Nat → Nat → Nat
  | 0, a => a
  | n + 1, a => if a < L ∧ isDig (b a) = true then digE b L n (a + 1) else a
def digV (b : Nat → Int32) (L : Nat) : Nat → Nat → Int32 → Int32
  | 0, _, v => v
  | n + 1, a, v => if a < L ∧ isDig (b a) = true then digV b L n (a + 1) ((v - v / nI 10 * nI 10) * nI 10 + b a - nI 48) else v
/-- behind the digits -/
def dg (b : Nat → Int32) (L a : Nat) : Nat := digE b L (L - a) a
theorem dg_bd (b : Nat → Int32) (L a : Nat) : a ≤ dg b L a ∧ (a ≤ L → dg b L a ≤ L) := by
  unfold dg
  have : ∀ n a, a ≤ digE b L n a ∧ (a ≤ L → digE b L n a ≤ L) := by
    intro n
    induction n with
    | zero => intro a; exact ⟨Nat.le_refl _, fun h => h⟩
    | succ n ih =>
      intro a
      unfold digE
      split
      · rename_i hc
        have := ih (a + 1)
        exact ⟨by omega, fun _ => this.2 (by omega)⟩
      · exact ⟨Nat.le_refl _, fun h => h⟩
  exact this _ _
def numV (b : Nat → Int32) (L a : Nat) : Int32 := digV b L (L - a) a (nI 0)
/-- how a number is read from the place a on: the answer, the text's new state -/
def rdN (T : z_V) (L a : Nat) : z_V :=
  if dg (T.2.2.1 0) L (sk (T.2.2.1 0) L a) - sk (T.2.2.1 0) L a = 0 ∨ 2 < dg (T.2.2.1 0) L (sk (T.2.2.1 0) L a) - sk (T.2.2.1 0) L a then sS (sS T 1 (nI (dg (T.2.2.1 0) L (sk (T.2.2.1 0) L a)))) 2 (nI (sk (T.2.2.1 0) L a)) else sS T 1 (nI (dg (T.2.2.1 0) L (sk (T.2.2.1 0) L a)))
theorem sS_id {T : z_V} {i : Nat} {x : Int32} (h : T.1 i = x) : sS T i x = T := by
  subst h
  unfold sS
  obtain ⟨s, r⟩ := T
  congr 1
  funext j
  by_cases hj : j = i <;> simp [upd, hj]
theorem m45 (M : z_M) (t : Nat) (T : z_V) (L a : Nat) (hL : L ≤ 100) (ha : a ≤ L) (h0 : T.1 0 = nI L) (h1 : T.1 1 = nI a) : z_cl 45 [.ref t] (tS M t T) = some (some (.int (numV (T.2.2.1 0) L (sk (T.2.2.1 0) L a))), tS M t (rdN T L a)) := by
  rw [e45]
  have h43 := m43 M t T L a hL ha h0 h1
  have hs := sk_bd (T.2.2.1 0) L a
  unfold rdN
  generalize sk (T.2.2.1 0) L a = k at h43 hs ⊢
  have hk : k ≤ L := hs.2 ha
  have key : ∀ (n e : Nat) (v : Int32), n = L - e → k ≤ e → e ≤ L → z_ex 45 M.1 11 [some (.ref t), some (.int (nI k)), some (.int v)] [] (tS M t (sS T 1 (nI e))) = some (some (.int (digV (T.2.2.1 0) L n e v)), tS M t (if digE (T.2.2.1 0) L n e - k = 0 ∨ 2 < digE (T.2.2.1 0) L n e - k then sS (sS T 1 (nI (digE (T.2.2.1 0) L n e))) 2 (nI k) else sS T 1 (nI (digE (T.2.2.1 0) L n e)))) := by
    have fin : ∀ (e : Nat) (v : Int32), k ≤ e → e ≤ L → z_ex 45 M.1 75 [some (.ref t), some (.int (nI k)), some (.int v)] [] (tS M t (sS T 1 (nI e))) = some (some (.int v), tS M t (if e - k = 0 ∨ 2 < e - k then sS (sS T 1 (nI e)) 2 (nI k) else sS T 1 (nI e))) := by
      intro e v hke heL
      have h74 := m74 (nI (e - k)) (nI 1) (nI 2) (tS M t (sS T 1 (nI e)))
      by_cases hc : e - k = 0 ∨ 2 < e - k
      · have hc' : ¬ (1 ≤ e - k ∧ e - k ≤ 2) := by omega
        rw [if_pos hc]
        simp (disch := first | omega | (simp only [sgets, reduceIte, Nat.reduceEqDiff, hc']; done) | omega) only [cS_1, crd, z_pv_some, z_wv_some, z_cv_v, z_cv_n, cwr, sgets, rc_O, ia_n, fa_n, is_n, fs_n, ↓mI_eq, lits, nI_add, nLe, nLt, nE, mI_ne, mI_ne', mI_lt, mI_le, mI_nlt, mI_nle, ne_eq, mI_addC, pk_sub, pk_mul, pk_div, Nat.reduceEqDiff, Nat.reduceAdd, Nat.reduceMul, Nat.reduceSub, reduceIte, not_true_eq_false, not_false_eq_true, true_or, or_true, if_true, if_false, and_self, and_true, true_and, and_false, false_and, or_self, or_false, false_or, decide_true, decide_false, Bool.false_eq_true, Bool.true_eq_false, bI_t, bI_f, tS_1, trd, twr, gfs5, pfs5, b45, h74, hc']
      · have hc' : 1 ≤ e - k ∧ e - k ≤ 2 := by omega
        rw [if_neg hc]
        simp (disch := first | omega | (simp only [sgets, reduceIte, Nat.reduceEqDiff, hc']; done) | omega) only [cS_1, crd, z_pv_some, z_wv_some, z_cv_v, z_cv_n, cwr, sgets, rc_O, ia_n, fa_n, is_n, fs_n, ↓mI_eq, lits, nI_add, nLe, nLt, nE, mI_ne, mI_ne', mI_lt, mI_le, mI_nlt, mI_nle, ne_eq, mI_addC, pk_sub, pk_mul, pk_div, Nat.reduceEqDiff, Nat.reduceAdd, Nat.reduceMul, Nat.reduceSub, reduceIte, not_true_eq_false, not_false_eq_true, true_or, or_true, if_true, if_false, and_self, and_true, true_and, and_false, false_and, or_self, or_false, false_or, decide_true, decide_false, Bool.false_eq_true, Bool.true_eq_false, bI_t, bI_f, tS_1, trd, twr, gfs5, pfs5, b45, h74, hc']
    intro n
    induction n with
    | zero =>
      intro e v hn hke heL
      have e' : L ≤ e := by omega
      have hf := fin e v hke heL
      unfold digV digE
      rw [q45_11]
      simp (disch := first | omega | (simp only [sgets, reduceIte, Nat.reduceEqDiff, h0, e']; done) | omega) only [cS_1, crd, z_pv_some, z_wv_some, z_cv_v, z_cv_n, cwr, sgets, rc_O, ia_n, fa_n, is_n, fs_n, ↓mI_eq, lits, nI_add, nLe, nLt, nE, mI_ne, mI_ne', mI_lt, mI_le, mI_nlt, mI_nle, ne_eq, mI_addC, pk_sub, pk_mul, pk_div, Nat.reduceEqDiff, Nat.reduceAdd, Nat.reduceMul, Nat.reduceSub, reduceIte, not_true_eq_false, not_false_eq_true, true_or, or_true, if_true, if_false, and_self, and_true, true_and, and_false, false_and, or_self, or_false, false_or, decide_true, decide_false, Bool.false_eq_true, Bool.true_eq_false, bI_t, bI_f, tS_1, trd, twr, gfs5, pfs5, b45, hf, h0, e']
    | succ n ih =>
      intro e v hn hke heL
      have e' : ¬ L ≤ e := by omega
      have hf := fin e v hke heL
      have h74 := m74 (T.2.2.1 0 e) (nI 48) (nI 57) (tS M t (sS T 1 (nI e)))
      have hd : decide (nI 48 ≤ T.2.2.1 0 e ∧ T.2.2.1 0 e ≤ nI 57) = isDig (T.2.2.1 0 e) := rfl
      rw [hd] at h74
      cases hdg : isDig (T.2.2.1 0 e) with
      | false =>
        have hE1 : digE (T.2.2.1 0) L (n + 1) e = e := by unfold digE; rw [if_neg (fun q => by rw [hdg] at q; cases q.2)]
        have hV1 : digV (T.2.2.1 0) L (n + 1) e v = v := by unfold digV; rw [if_neg (fun q => by rw [hdg] at q; cases q.2)]
        rw [hE1, hV1, q45_11]
        simp (disch := first | omega | (simp only [sgets, reduceIte, Nat.reduceEqDiff, h0, e']; done) | omega) only [cS_1, crd, z_pv_some, z_wv_some, z_cv_v, z_cv_n, cwr, sgets, rc_O, ia_n, fa_n, is_n, fs_n, ↓mI_eq, lits, nI_add, nLe, nLt, nE, mI_ne, mI_ne', mI_lt, mI_le, mI_nlt, mI_nle, ne_eq, mI_addC, pk_sub, pk_mul, pk_div, Nat.reduceEqDiff, Nat.reduceAdd, Nat.reduceMul, Nat.reduceSub, reduceIte, not_true_eq_false, not_false_eq_true, true_or, or_true, if_true, if_false, and_self, and_true, true_and, and_false, false_and, or_self, or_false, false_or, decide_true, decide_false, Bool.false_eq_true, Bool.true_eq_false, bI_t, bI_f, tS_1, trd, twr, gfs5, pfs5, b45, h74, hdg, hf, h0, e']
      | true =>
        have hE1 : digE (T.2.2.1 0) L (n + 1) e = digE (T.2.2.1 0) L n (e + 1) := by rw [digE, if_pos ⟨by omega, hdg⟩]
        have hV1 : digV (T.2.2.1 0) L (n + 1) e v = digV (T.2.2.1 0) L n (e + 1) ((v - v / nI 10 * nI 10) * nI 10 + T.2.2.1 0 e - nI 48) := by rw [digV, if_pos ⟨by omega, hdg⟩]
        rw [hE1, hV1, q45_11]
        have hi := ih (e + 1) ((v - v / nI 10 * nI 10) * nI 10 + T.2.2.1 0 e - nI 48) (by omega) (by omega) (by omega)
        simp (disch := first | omega | (simp only [sgets, reduceIte, Nat.reduceEqDiff, h0, e']; done) | omega) only [cS_1, crd, z_pv_some, z_wv_some, z_cv_v, z_cv_n, cwr, sgets, rc_O, ia_n, fa_n, is_n, fs_n, ↓mI_eq, lits, nI_add, nLe, nLt, nE, mI_ne, mI_ne', mI_lt, mI_le, mI_nlt, mI_nle, ne_eq, mI_addC, pk_sub, pk_mul, pk_div, Nat.reduceEqDiff, Nat.reduceAdd, Nat.reduceMul, Nat.reduceSub, reduceIte, not_true_eq_false, not_false_eq_true, true_or, or_true, if_true, if_false, and_self, and_true, true_and, and_false, false_and, or_self, or_false, false_or, decide_true, decide_false, Bool.false_eq_true, Bool.true_eq_false, bI_t, bI_f, tS_1, trd, twr, gfs5, pfs5, b45, h74, hdg, hi, sS_sS, h0, e']
  have hk2 := key (L - k) k (nI 0) rfl (Nat.le_refl k) hk
  simp (disch := first | omega | (simp only [sgets, reduceIte, Nat.reduceEqDiff]; done) | omega) only [cS_1, crd, z_pv_some, z_wv_some, z_cv_v, z_cv_n, cwr, sgets, rc_O, ia_n, fa_n, is_n, fs_n, ↓mI_eq, lits, nI_add, nLe, nLt, nE, mI_ne, mI_ne', mI_lt, mI_le, mI_nlt, mI_nle, ne_eq, mI_addC, pk_sub, pk_mul, pk_div, Nat.reduceEqDiff, Nat.reduceAdd, Nat.reduceMul, Nat.reduceSub, reduceIte, not_true_eq_false, not_false_eq_true, true_or, or_true, if_true, if_false, and_self, and_true, true_and, and_false, false_and, or_self, or_false, false_or, decide_true, decide_false, Bool.false_eq_true, Bool.true_eq_false, bI_t, bI_f, tS_1, trd, twr, gfs5, pfs5, b45, h43, hk2]
  rfl
