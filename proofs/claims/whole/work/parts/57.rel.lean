/-! class's conference V against the model's state Y -/
def rS (V Y : z_V) : Prop := (∃ q, q < 61 ∧ Y.1 1 = nI q ∧ V.2.1 = pwr q) ∧ Y.1 0 = V.1 1 ∧ Y.1 2 = V.1 2 ∧ Y.1 3 = V.1 3 ∧ Y.1 4 = V.1 4 ∧ Y.1 5 = V.1 5 ∧ Y.1 6 = V.1 6 ∧ Y.1 7 = V.1 7 ∧ Y.1 9 = V.1 0 ∧ Y.1 11 = V.1 8 ∧ Y.1 12 = V.1 9
def rA (V Y : z_V) : Prop := Y.2.2.1 5 = V.2.2.1 4 ∧ Y.2.2.1 7 = V.2.2.1 5 ∧ Y.2.2.1 8 = V.2.2.1 6 ∧ Y.2.2.1 9 = V.2.2.1 7 ∧ Y.2.2.1 10 = V.2.2.1 8 ∧ Y.2.2.1 12 = V.2.2.1 14 ∧ Y.2.2.1 13 = V.2.2.1 15 ∧ Y.2.2.1 16 = V.2.2.1 10 ∧ Y.2.2.1 0 = V.2.2.1 0 ∧ Y.2.2.1 1 = V.2.2.1 1 ∧ Y.2.2.1 2 = V.2.2.1 2 ∧ Y.2.2.2 0 = V.2.2.2 0 ∧ Y.2.2.2 1 = V.2.2.2 1
def rH (J B : Nat) (V Y : z_V) : Prop := (∀ p, p < J → V.2.2.1 3 p = mI → Y.2.2.1 4 p = nI 0 ∧ V.2.2.1 13 p = nI 0) ∧ (∀ p, p < J → ¬ V.2.2.1 3 p = mI → Y.2.2.1 4 p = nI 1 ∧ Y.2.2.1 6 p = V.2.2.1 3 p ∧ Y.2.2.1 11 p = V.2.2.1 13 p ∧ ∃ b, b < B ∧ V.2.2.1 3 p = nI b) ∧ (∀ p, p < 20 → J ≤ p → Y.2.2.1 4 p = nI 0 ∧ Y.2.2.1 11 p = nI 0 ∧ V.2.2.1 13 p = nI 0) ∧ (∀ p, p < 20 → V.2.2.1 13 p = nI 0 ∨ V.2.2.1 13 p = nI 1) ∧ V.1 10 = nI (cnt (fun k => decide (¬ V.2.2.1 3 k = mI)) J) ∧ (∀ b, b < 8 → cnt (fun k => decide (V.2.2.1 3 k = nI b)) J ≤ 6) ∧ ∀ p, p < 20 → V.2.2.1 6 p = nI 0 ∨ V.2.2.1 6 p = nI 1
def rT (J B : Nat) (V Y : z_V) : Prop := ∀ p, p < 20 → (V.2.2.1 9 p = mI ∨ ∃ b, b < B ∧ V.2.2.1 9 p = nI b) ∧ (J ≤ p → V.2.2.1 9 p = mI) ∧ ∀ b, b < 8 → tb (Y.2.2.1 3 b) p = decide (V.2.2.1 9 p = nI b)
def rE (V Y : z_V) : Prop := ∃ N K, N < 30 ∧ K ≤ 30 ∧ V.1 13 = nI N ∧ V.1 12 = nI K ∧ Y.1 10 = nI K ∧ ∀ i, i < K → Y.2.2.1 17 i = V.2.2.1 19 ((N + 30 - K + i) % 30) ∧ Y.2.2.1 18 i = V.2.2.1 20 ((N + 30 - K + i) % 30) ∧ Y.2.2.1 19 i = V.2.2.1 21 ((N + 30 - K + i) % 30)
def rQ (c J : Nat) (V Y : z_V) : Prop := ∃ (W n : Nat) (q pr ak : Nat → Nat), W ≤ 20 ∧ n ≤ c ∧ V.1 11 = nI W ∧ Y.1 8 = nI n ∧ (∀ k, k < W → V.2.2.1 11 k = nI (q k) ∧ q k < J ∧ ¬ V.2.2.1 3 (q k) = mI ∧ V.2.2.1 13 (q k) = nI 0 ∧ Y.2.2.1 14 (q k) = nI (pr (q k)) ∧ pr (q k) < 10 ∧ V.2.2.1 12 (q k) = nI (pr (q k)) ∧ Y.2.2.1 15 (q k) = nI (ak (q k)) ∧ ak (q k) < n) ∧ (∀ k l, k < l → l < W → pr (q l) < pr (q k) ∨ (pr (q l) = pr (q k) ∧ ak (q k) < ak (q l))) ∧ ∀ p, p < J → ¬ V.2.2.1 3 p = mI → (∀ k, k < W → q k ≠ p) → Y.2.2.1 14 p = mI
/-- streams that have arrived at y from x -/
def lkS (V Y : z_V) (l : Nat) (wy : Int32) : Prop := (wy = mI → Y.2.2.1 20 l = nI 0) ∧ ∀ w, wy = nI w → w < 16 → Y.2.2.1 20 l = V.2.2.1 16 w ∧ ∀ k, k < (V.2.2.1 16 w).toNatClampNeg → Y.2.2.1 21 (4 * l + k) = V.2.2.1 17 (w * 4 + k) ∧ Y.2.2.1 22 (4 * l + k) = V.2.2.1 18 (w * 4 + k) ∧ Y.2.2.2 2 (4 * l + k) = V.2.2.2 2 (w * 4 + k)
def rG (B : Nat) (V Y : z_V) : Prop := (∀ y x, y < B → x < B → lkS V Y (8 * y + x) (way V y x)) ∧ (∀ b, b < 8 → B ≤ b → V.2.2.1 16 b = nI 0 ∧ V.2.2.1 16 (8 + b) = nI 0) ∧ (∀ y x, y < 8 → x < 8 → B ≤ y ∨ B ≤ x → Y.2.2.1 20 (8 * y + x) = nI 0) ∧ V.2.2.1 0 0 = mI ∧ ∀ b, 0 < b → b < B → ∃ a, a < b ∧ V.2.2.1 0 b = nI a
def Rl (c J S Hy B : Nat) (V Y : z_V) : Prop := okC V J S Hy B ∧ (∃ f, V.1 4 = bI f) ∧ (1 ≤ S ∧ 1 ≤ B) ∧ rS V Y ∧ rA V Y ∧ rH J B V Y ∧ rT J B V Y ∧ rE V Y ∧ rQ c J V Y ∧ rG B V Y
theorem Rl_Y {c J S Hy B : Nat} {V Y Z : z_V} (h1 : ∀ i, i < 13 → Z.1 i = Y.1 i) (h2 : ∀ a, a < 23 → Z.2.2.1 a = Y.2.2.1 a) (h3 : ∀ a, a < 3 → Z.2.2.2 a = Y.2.2.2 a) (h : Rl c J S Hy B V Y) : Rl c J S Hy B V Z := by
  obtain ⟨hC, hf, hSB, s, a, hh, t, e, q, g⟩ := h
  have a0 := h2 0 (by omega)
  have a1 := h2 1 (by omega)
  have a2 := h2 2 (by omega)
  have a3 := h2 3 (by omega)
  have a4 := h2 4 (by omega)
  have a5 := h2 5 (by omega)
  have a6 := h2 6 (by omega)
  have a7 := h2 7 (by omega)
  have a8 := h2 8 (by omega)
  have a9 := h2 9 (by omega)
  have a10 := h2 10 (by omega)
  have a11 := h2 11 (by omega)
  have a12 := h2 12 (by omega)
  have a13 := h2 13 (by omega)
  have a14 := h2 14 (by omega)
  have a15 := h2 15 (by omega)
  have a16 := h2 16 (by omega)
  have a17 := h2 17 (by omega)
  have a18 := h2 18 (by omega)
  have a19 := h2 19 (by omega)
  have a20 := h2 20 (by omega)
  have a21 := h2 21 (by omega)
  have a22 := h2 22 (by omega)
  have f0 := h3 0 (by omega)
  have f1 := h3 1 (by omega)
  have f2 := h3 2 (by omega)
  have s0 := h1 0 (by omega)
  have s1 := h1 1 (by omega)
  have s2 := h1 2 (by omega)
  have s3 := h1 3 (by omega)
  have s4 := h1 4 (by omega)
  have s5 := h1 5 (by omega)
  have s6 := h1 6 (by omega)
  have s7 := h1 7 (by omega)
  have s8 := h1 8 (by omega)
  have s9 := h1 9 (by omega)
  have s10 := h1 10 (by omega)
  have s11 := h1 11 (by omega)
  have s12 := h1 12 (by omega)
  refine ⟨hC, hf, hSB, ?_, ?_, ?_, ?_, ?_, ?_, ?_⟩
  · unfold rS at s ⊢
    simpa only [s0, s1, s2, s3, s4, s5, s6, s7, s9, s11, s12] using s
  · unfold rA at a ⊢
    simpa only [a5, a7, a8, a9, a10, a12, a13, a16, a0, a1, a2, f0, f1] using a
  · unfold rH at hh ⊢
    simpa only [a4, a6, a11] using hh
  · unfold rT at t ⊢
    simpa only [a3] using t
  · unfold rE at e ⊢
    simpa only [s10, a17, a18, a19] using e
  · unfold rQ at q ⊢
    simpa only [s8, a14, a15] using q
  · unfold rG lkS at g ⊢
    simpa only [a20, a21, a22, f2] using g
theorem Rl_kV {c J S Hy B : Nat} {V Y Z : z_V} (hk : kV Y Z) (h : Rl c J S Hy B V Y) : Rl c J S Hy B V Z :=
  Rl_Y (fun i hi => hk.1 i (by omega)) (fun i hi => hk.2.1 i (by omega)) (fun i hi => hk.2.2 i (by omega)) h
theorem Rl_re {c J S Hy B : Nat} {V Y Z : z_V} (h : Rl c J S Hy B V Z) : Rl c J S Hy B V (reY Y Z) :=
  Rl_Y (fun i hi => if_pos hi) (fun i hi => if_pos hi) (fun i hi => if_pos hi) h
theorem Rl_le {c d J S Hy B : Nat} {V Y : z_V} (hcd : c ≤ d) (h : Rl c J S Hy B V Y) : Rl d J S Hy B V Y := by
  obtain ⟨hC, hf, hSB, s, a, hh, t, e, ⟨W, n, q, pr, ak, w1, w2, w3⟩, g⟩ := h
  exact ⟨hC, hf, hSB, s, a, hh, t, e, ⟨W, n, q, pr, ak, w1, Nat.le_trans w2 hcd, w3⟩, g⟩
/-- what the model's orders leave: the saved states, the text -/
def kY (Y Z : z_V) : Prop := (∀ i, 12 < i → Z.1 i = Y.1 i) ∧ (Z.2.2.1 23 = Y.2.2.1 23 ∧ Z.2.2.1 28 = Y.2.2.1 28) ∧ Z.2.2.2 3 = Y.2.2.2 3 ∧ Z.2.2.2 4 = Y.2.2.2 4
theorem kY.rf (Y : z_V) : kY Y Y := ⟨fun _ _ => rfl, ⟨rfl, rfl⟩, rfl, rfl⟩
theorem kY.tr {Y Z W : z_V} (h1 : kY Y Z) (h2 : kY Z W) : kY Y W := ⟨fun i h => (h2.1 i h).trans (h1.1 i h), ⟨h2.2.1.1.trans h1.2.1.1, h2.2.1.2.trans h1.2.1.2⟩, h2.2.2.1.trans h1.2.2.1, h2.2.2.2.trans h1.2.2.2⟩
theorem kY_b {Y Z : z_V} (h : kY Y Z) (hb : okb Y) : okb Z := by unfold okb at *; rw [h.2.2.2]; exact hb
theorem kV_b {Y Z : z_V} (h : kV Y Z) (hb : okb Y) : okb Z := by unfold okb at *; rw [h.2.2 4 (by omega)]; exact hb
theorem hol_kY {Y Z W : z_V} {k : Nat} (h : kY Y Z) (hk : 0 < k) (hh : hol Y k W) : hol Z k W := by
  refine ⟨fun i hi => ?_, fun i hi => ?_⟩
  · rw [enc_rest (by omega), h.2.1.1, ← enc_rest (by omega)]; exact hh.1 i hi
  · rw [encF_rest (by omega), h.2.2.1, ← encF_rest (by omega)]; exact hh.2 i hi
theorem okSv_kY {Y Z : z_V} {s : Nat} {Ss : Nat → z_V} (h : kY Y Z) (hs : okSv Y s Ss) : okSv Z s Ss :=
  ⟨hs.1, by rw [h.1 13 (by omega)]; exact hs.2.1, fun k a b => hol_kY h (by omega) (hs.2.2 k a b)⟩
/-! the model's questions, answered by the class's conference -/
theorem m109 (M : z_M) (o : Nat) (w : Int64) {c J S Hy B : Nat} {V Y : z_V} (h : Rl c J S Hy B V Y) (x : Int32) : z_cl 109 [.ref o, .int x] (yS M o Y w) = some (some (.int (bI (hasB V x))), yS M o Y w) := by
  rw [e109]
  obtain ⟨⟨⟨hJ, h9⟩, ⟨hS, h1⟩, ⟨hH, h2⟩, ⟨hB, h8⟩, hE, hw, hl, hd, hst, hpl, hmx⟩, hf, ⟨hS1, hB1⟩, s, a, hh, t, e, q, g⟩ := h
  have e11 : Y.1 11 = nI B := by rw [s.2.2.2.2.2.2.2.2.2.1]; exact h8
  have h110 := m110 x (nI 0) (nI (B - 1)) (yS M o Y w)
  have e2 : hasB V x = decide (nI 0 ≤ x ∧ x ≤ nI (B - 1)) := by
    unfold hasB
    rw [h8]
    congr 1
    apply propext
    constructor
    · intro hx
      obtain ⟨k, hk, rfl⟩ := has_k (by omega) hx
      exact ⟨hx.1, by rw [nLe (by omega) (by omega)]; omega⟩
    · intro hx
      obtain ⟨k, _, hk, rfl⟩ := in_nI (by omega) (by omega) hx
      exact ⟨hx.1, by rw [nLt (by omega) (by omega)]; omega⟩
  rw [e2]
  simp (disch := first | omega | (simp only [sgets, reduceIte, Nat.reduceEqDiff, e11, dec_S, Nat.reduceAdd]; done) | omega) only [cS_1, crd, z_pv_some, z_wv_some, z_cv_v, z_cv_n, cwr, sgets, rc_O, ia_n, fa_n, is_n, fs_n, ↓mI_eq, lits, nI_add, nLe, nLt, nE, mI_ne, mI_ne', mI_lt, mI_le, mI_nlt, mI_nle, ne_eq, mI_addC, pk_sub, pk_mul, pk_div, Nat.reduceEqDiff, Nat.reduceAdd, Nat.reduceMul, Nat.reduceSub, reduceIte, not_true_eq_false, not_false_eq_true, true_or, or_true, if_true, if_false, and_self, and_true, true_and, and_false, false_and, or_self, or_false, false_or, decide_true, decide_false, Bool.false_eq_true, Bool.true_eq_false, bI_t, bI_f, oS_1, ord, owA0, owF0, owF1, owA1, owF2, owA2, owF3, owA3, ywo, gfs11, pfs11, yrd, ywr, b109, h110, e11, dec_S, Nat.reduceAdd]
  by_cases hc : nI 0 ≤ x ∧ x ≤ nI (B - 1) <;> simp [hc, bI] <;> decide
