/-! how many bits: Integer.bitCount against the model's bits -/
theorem nI_and (a b : Nat) : nI a &&& nI b = nI (a &&& b) := Int32.toBitVec_inj.mp (BitVec.ofNat_and).symm
def bcA (k : Nat) : Nat := k - (k / 2 &&& 1431655765)
def bcB (a : Nat) : Nat := (a &&& 858993459) + (a / 4 &&& 858993459)
def bcC (b : Nat) : Nat := (b + b / 16) &&& 252645135
def bcD (c : Nat) : Nat := c + c / 256
def bcE (d : Nat) : Nat := d + d / 65536
def bcN (k : Nat) : Nat := bcE (bcD (bcC (bcB (bcA k)))) &&& 63
theorem m191 {k : Nat} (hk : k < 2 ^ 20) (M : z_M) : z_cl 191 [.int (nI k)] M = some (some (.int (nI (bcN k))), M) := by
  have hA : bcA k < 2 ^ 20 := by unfold bcA; omega
  have hB : bcB (bcA k) < 2 ^ 22 := by
    have h1 : (bcA k &&& 858993459) ≤ bcA k := Nat.and_le_left
    have h2 : (bcA k / 4 &&& 858993459) ≤ bcA k / 4 := Nat.and_le_left
    unfold bcB
    omega
  have hC : bcC (bcB (bcA k)) < 2 ^ 23 := by
    have h1 : (bcB (bcA k) + bcB (bcA k) / 16) &&& 252645135 ≤ bcB (bcA k) + bcB (bcA k) / 16 := Nat.and_le_left
    unfold bcC
    omega
  have hD : bcD (bcC (bcB (bcA k))) < 2 ^ 24 := by unfold bcD; omega
  have u1 : ((nI k).toUInt32 >>> ((nI 1).toUInt32 &&& Int32.toUInt32 (nI 31))).toInt32 = nI (k / 2) := pk_ushrN (n := k) (by omega) 1 1 (by decide)
  have u2 : ((nI (bcA k)).toUInt32 >>> ((nI 2).toUInt32 &&& Int32.toUInt32 (nI 31))).toInt32 = nI (bcA k / 4) := pk_ushrN (n := bcA k) (by omega) 2 2 (by decide)
  have u4 : ((nI (bcB (bcA k))).toUInt32 >>> ((nI 4).toUInt32 &&& Int32.toUInt32 (nI 31))).toInt32 = nI (bcB (bcA k) / 16) := pk_ushrN (n := bcB (bcA k)) (by omega) 4 4 (by decide)
  have u8 : ((nI (bcC (bcB (bcA k)))).toUInt32 >>> ((nI 8).toUInt32 &&& Int32.toUInt32 (nI 31))).toInt32 = nI (bcC (bcB (bcA k)) / 256) := pk_ushrN (n := bcC (bcB (bcA k))) (by omega) 8 8 (by decide)
  have u16 : ((nI (bcD (bcC (bcB (bcA k))))).toUInt32 >>> ((nI 16).toUInt32 &&& Int32.toUInt32 (nI 31))).toInt32 = nI (bcD (bcC (bcB (bcA k))) / 65536) := pk_ushrN (n := bcD (bcC (bcB (bcA k)))) (by omega) 16 16 (by decide)
  have s1 : nI k - nI (k / 2 &&& 1431655765) = nI (bcA k) := by
    have : (k / 2 &&& 1431655765) ≤ k / 2 := Nat.and_le_left
    exact pk_sub (by omega)
  have s2 : nI ((bcA k &&& 858993459) + (bcA k / 4 &&& 858993459)) = nI (bcB (bcA k)) := rfl
  have s4 : nI ((bcB (bcA k) + bcB (bcA k) / 16) &&& 252645135) = nI (bcC (bcB (bcA k))) := rfl
  have s8 : nI (bcC (bcB (bcA k)) + bcC (bcB (bcA k)) / 256) = nI (bcD (bcC (bcB (bcA k)))) := rfl
  have s16 : nI ((bcD (bcC (bcB (bcA k))) + bcD (bcC (bcB (bcA k))) / 65536) &&& 63) = nI (bcN k) := rfl
  have l1 : (1431655765 : Int32) = nI 1431655765 := rfl
  have l2 : (858993459 : Int32) = nI 858993459 := rfl
  have l3 : (252645135 : Int32) = nI 252645135 := rfl
  rw [e191]
  simp only [b191, lits, l1, l2, l3, u1, u2, u4, u8, u16, nI_and, nI_add, s1, s2, s4, s8, s16]
/-- the sum of the first n bits -/
def sumB (k n : Nat) : Nat := it (fun i s => s + k / 2 ^ i % 2) n 0
theorem sumB_s (k n : Nat) : sumB k (n + 1) = sumB k n + k / 2 ^ n % 2 := rfl
theorem sumB_8 (x w : Nat) (hx : x < 256) : sumB (x + 256 * w) 8 = sumB x 8 := by
  simp only [sumB_s, Nat.pow_zero, Nat.reducePow, show ∀ k, sumB k 0 = 0 from fun _ => rfl]
  omega
theorem sumB_a (x w m : Nat) (hx : x < 256) : sumB (x + 256 * w) (8 + m) = sumB x 8 + sumB w m := by
  induction m with
  | zero => rw [Nat.add_zero, sumB_8 x w hx]; rfl
  | succ m ih =>
    rw [show 8 + (m + 1) = 8 + m + 1 by omega, sumB_s (x + 256 * w) (8 + m), ih, sumB_s w m, Nat.pow_add, ← Nat.div_div_eq_div_mul, show (x + 256 * w) / 2 ^ 8 = w by omega]
    omega
theorem and_256 (a m : Nat) : a &&& m = (a % 256 &&& m % 256) + 256 * (a / 256 &&& m / 256) := by
  have h1 := Nat.and_mod_two_pow (a := a) (b := m) (n := 8)
  have h2 := Nat.and_div_two_pow (a := a) (b := m) (n := 8)
  have h3 := Nat.mod_add_div (a &&& m) (2 ^ 8)
  rw [h1, h2] at h3
  exact h3.symm
def bA (x : Nat) : Nat := x - (x / 2 &&& 85)
def bB (x : Nat) : Nat := (bA x &&& 51) + (bA x / 4 &&& 51)
def bC (x : Nat) : Nat := (bB x + bB x / 16) &&& 15
theorem bt1 : ∀ x, x < 256 → (x / 2 &&& 85) ≤ x ∧ bA x < 256 ∧ bB x ≤ 68 ∧ bB x % 16 ≤ 4 ∧ bC x = sumB x 8 ∧ bC x ≤ 8 := by decide +kernel
theorem bt2 : ∀ u, u < 128 → (u + 128) &&& 85 = u &&& 85 := by decide +kernel
theorem bt3 : ∀ u, u < 64 → ∀ t, t < 4 → (u + 64 * t) &&& 51 = u &&& 51 := by decide +kernel
theorem bt4 : ∀ u, u < 80 → ∀ t, t < 5 → (u + 16 * t) &&& 15 = u &&& 15 := by decide +kernel
theorem bt5 : ∀ z, z < 16 → sumB z 8 = sumB z 4 := by decide +kernel
theorem and3 {a0 a1 a2 m0 m1 m2 : Nat} (h0 : a0 < 256) (h1 : a1 < 256) (g0 : m0 < 256) (g1 : m1 < 256) : (a0 + 256 * (a1 + 256 * a2)) &&& (m0 + 256 * (m1 + 256 * m2)) = (a0 &&& m0) + 256 * ((a1 &&& m1) + 256 * (a2 &&& m2)) := by
  rw [and_256, and_256 ((a0 + 256 * (a1 + 256 * a2)) / 256), show (a0 + 256 * (a1 + 256 * a2)) % 256 = a0 by omega, show (m0 + 256 * (m1 + 256 * m2)) % 256 = m0 by omega, show (a0 + 256 * (a1 + 256 * a2)) / 256 = a1 + 256 * a2 by omega, show (m0 + 256 * (m1 + 256 * m2)) / 256 = m1 + 256 * m2 by omega, show (a1 + 256 * a2) % 256 = a1 by omega, show (m1 + 256 * m2) % 256 = m1 by omega, show (a1 + 256 * a2) / 256 = a2 by omega, show (m1 + 256 * m2) / 256 = m2 by omega]
theorem and_lo {z M m : Nat} (hz : z < 256) (hM : M % 256 = m) : z &&& M = z &&& m := by
  rw [and_256 z M, Nat.mod_eq_of_lt hz, hM, show z / 256 = 0 by omega, Nat.zero_and]
  omega
theorem bcN_eq {k : Nat} (hk : k < 2 ^ 20) : bcN k = sumB k 20 := by
  obtain ⟨x, y, z, hx, hy, hz, rfl⟩ : ∃ x y z, x < 256 ∧ y < 256 ∧ z < 16 ∧ k = x + 256 * (y + 256 * z) := ⟨k % 256, k / 256 % 256, k / 65536, by omega, by omega, by omega, by omega⟩
  obtain ⟨x1, x2, x3, x4, x5, x6⟩ := bt1 x hx
  obtain ⟨y1, y2, y3, y4, y5, y6⟩ := bt1 y hy
  obtain ⟨z1, z2, z3, z4, z5, z6⟩ := bt1 z (by omega)
  have m1 : ∀ u t, u < 128 → t < 2 → (u + 128 * t) &&& 85 = u &&& 85 := by
    intro u t hu ht
    rcases (show t = 0 ∨ t = 1 by omega) with rfl | rfl
    · rw [Nat.mul_zero, Nat.add_zero]
    · rw [Nat.mul_one]; exact bt2 u hu
  have eA : bcA (x + 256 * (y + 256 * z)) = bA x + 256 * (bA y + 256 * bA z) := by
    unfold bcA
    rw [show (x + 256 * (y + 256 * z)) / 2 = (x / 2 + 128 * (y % 2)) + 256 * ((y / 2 + 128 * (z % 2)) + 256 * (z / 2)) by omega, show 1431655765 = 85 + 256 * (85 + 256 * 21845) by decide, and3 (by omega) (by omega) (by omega) (by omega), m1 _ _ (by omega) (by omega), m1 _ _ (by omega) (by omega), and_lo (m := 85) (show z / 2 < 256 by omega) (by decide)]
    unfold bA
    omega
  have eB : bcB (bA x + 256 * (bA y + 256 * bA z)) = bB x + 256 * (bB y + 256 * bB z) := by
    unfold bcB
    rw [show 858993459 = 51 + 256 * (51 + 256 * 13107) by decide, and3 x2 y2 (by omega) (by omega), show (bA x + 256 * (bA y + 256 * bA z)) / 4 = (bA x / 4 + 64 * (bA y % 4)) + 256 * ((bA y / 4 + 64 * (bA z % 4)) + 256 * (bA z / 4)) by omega, and3 (by omega) (by omega) (by omega) (by omega), bt3 _ (by omega) _ (by omega), bt3 _ (by omega) _ (by omega), and_lo (m := 51) z2 (by decide), and_lo (m := 51) (show bA z / 4 < 256 by omega) (by decide)]
    unfold bB
    omega
  have eC : bcC (bB x + 256 * (bB y + 256 * bB z)) = bC x + 256 * (bC y + 256 * bC z) := by
    unfold bcC
    rw [show bB x + 256 * (bB y + 256 * bB z) + (bB x + 256 * (bB y + 256 * bB z)) / 16 = (bB x + bB x / 16 + 16 * (bB y % 16)) + 256 * ((bB y + bB y / 16 + 16 * (bB z % 16)) + 256 * (bB z + bB z / 16)) by omega, show 252645135 = 15 + 256 * (15 + 256 * 3855) by decide, and3 (by omega) (by omega) (by omega) (by omega), bt4 _ (by omega) _ (by omega), bt4 _ (by omega) _ (by omega), and_lo (m := 15) (show bB z + bB z / 16 < 256 by omega) (by decide)]
    rfl
  unfold bcN
  rw [eA, eB, eC]
  have hS : sumB (x + 256 * (y + 256 * z)) 20 = bC x + (bC y + bC z) := by
    have h1 := sumB_a x (y + 256 * z) 12 hx
    have h2 := sumB_a y z 4 hy
    rw [← bt5 z hz] at h2
    rw [x5, y5, z5, ← h2]
    exact h1
  rw [hS]
  clear hS eA eB eC x5 y5 z5 m1 x1 x2 x3 x4 y1 y2 y3 y4 z1 z2 z3 z4
  generalize bC x = p at *
  generalize bC y = q at *
  generalize bC z = r at *
  have hand : ∀ v, v &&& 63 = v % 64 := fun v => Nat.and_two_pow_sub_one_eq_mod v 6
  rw [hand]
  unfold bcE bcD
  have g1 : (p + 256 * (q + 256 * r)) / 256 = q + 256 * r := by omega
  rw [g1]
  have g2 : (p + 256 * (q + 256 * r) + (q + 256 * r)) / 65536 = r := by omega
  rw [g2]
  omega
theorem m165 {k : Nat} (hk : k < 2 ^ 20) (M : z_M) : z_cl 165 [.int (nI k)] M = some (some (.int (nI (sumB k 20))), M) := by
  rw [e165]
  have hl := it_run (fun i (s : Nat) => z_ex 165 M.1 4 [some (.int (nI k)), some (.int (nI s)), some (.int (nI i))] [] M) (fun i s => s + k / 2 ^ i % 2) 20 0 (by
    intro i s hi
    have hi2 : ¬ 20 ≤ i := by omega
    have h1 : nI k >>> (nI i &&& nI 31) = nI (k / 2 ^ i) := pk_shrN (by omega) _ i (s_l i (by omega))
    have h2 : nI (k / 2 ^ i) &&& nI 1 = nI (k / 2 ^ i % 2) := pk_andN (Nat.lt_of_le_of_lt (Nat.div_le_self _ _) (by omega)) 1 (by decide)
    rw [q165_4]
    simp (disch := first | omega | (simp only [sgets, reduceIte, Nat.reduceEqDiff, hi2]; done) | omega) only [cS_1, crd, z_pv_some, z_wv_some, z_cv_v, z_cv_n, cwr, sgets, rc_O, ia_n, fa_n, is_n, fs_n, ↓mI_eq, lits, nI_add, nLe, nLt, nE, mI_ne, mI_ne', mI_lt, mI_le, mI_nlt, mI_nle, ne_eq, mI_addC, pk_sub, pk_mul, pk_div, Nat.reduceEqDiff, Nat.reduceAdd, Nat.reduceMul, Nat.reduceSub, reduceIte, not_true_eq_false, not_false_eq_true, true_or, or_true, if_true, if_false, and_self, and_true, true_and, and_false, false_and, or_self, or_false, false_or, decide_true, decide_false, Bool.false_eq_true, Bool.true_eq_false, bI_t, bI_f, q165_5, q165_7, q165_10, q165_11, q165_12, q165_13, q165_14, q165_15, q165_16, q165_17, q165_18, q165_21, h1, h2, hi2])
  refine Eq.trans ?_ (hl.trans ?_)
  · simp (disch := first | omega | (simp only [sgets, reduceIte, Nat.reduceEqDiff]; done) | omega) only [cS_1, crd, z_pv_some, z_wv_some, z_cv_v, z_cv_n, cwr, sgets, rc_O, ia_n, fa_n, is_n, fs_n, ↓mI_eq, lits, nI_add, nLe, nLt, nE, mI_ne, mI_ne', mI_lt, mI_le, mI_nlt, mI_nle, ne_eq, mI_addC, pk_sub, pk_mul, pk_div, Nat.reduceEqDiff, Nat.reduceAdd, Nat.reduceMul, Nat.reduceSub, reduceIte, not_true_eq_false, not_false_eq_true, true_or, or_true, if_true, if_false, and_self, and_true, true_and, and_false, false_and, or_self, or_false, false_or, decide_true, decide_false, Bool.false_eq_true, Bool.true_eq_false, bI_t, bI_f, q165_0, q165_1, q165_2, q165_3]
  · rw [q165_4]
    simp (disch := first | omega | (simp only [sgets, reduceIte, Nat.reduceEqDiff]; done) | omega) only [cS_1, crd, z_pv_some, z_wv_some, z_cv_v, z_cv_n, cwr, sgets, rc_O, ia_n, fa_n, is_n, fs_n, ↓mI_eq, lits, nI_add, nLe, nLt, nE, mI_ne, mI_ne', mI_lt, mI_le, mI_nlt, mI_nle, ne_eq, mI_addC, pk_sub, pk_mul, pk_div, Nat.reduceEqDiff, Nat.reduceAdd, Nat.reduceMul, Nat.reduceSub, reduceIte, not_true_eq_false, not_false_eq_true, true_or, or_true, if_true, if_false, and_self, and_true, true_and, and_false, false_and, or_self, or_false, false_or, decide_true, decide_false, Bool.false_eq_true, Bool.true_eq_false, bI_t, bI_f, q165_5, q165_7, q165_10, q165_11, q165_12, q165_13, q165_14, q165_15, q165_16, q165_17, q165_18, q165_21, q165_24, q165_25, Nat.le_refl]
    rfl
