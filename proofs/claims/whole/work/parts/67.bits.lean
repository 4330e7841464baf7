/-! bits (bt to b_sshr: of kit/laws/BITS) -/
def bt (x : Int32) (i : Nat) : Bool := x.toBitVec.getLsbD i
theorem b_ext {x y : Int32} (h : ∀ i, i < 32 → bt x i = bt y i) : x = y := Int32.toBitVec_inj.mp (BitVec.eq_of_getLsbD_eq (fun i hi => h i hi))
theorem b_or (x y : Int32) (i : Nat) : bt (x ||| y) i = (bt x i || bt y i) := by unfold bt; rw [Int32.toBitVec_or, BitVec.getLsbD_or]
theorem b_and (x y : Int32) (i : Nat) : bt (x &&& y) i = (bt x i && bt y i) := by unfold bt; rw [Int32.toBitVec_and, BitVec.getLsbD_and]
theorem b_xor (x y : Int32) (i : Nat) : bt (x ^^^ y) i = (bt x i ^^ bt y i) := by unfold bt; rw [Int32.toBitVec_xor, BitVec.getLsbD_xor]
theorem b_m1 : ∀ i, i < 32 → bt (-1) i = true := by decide +kernel
theorem b_0 (i : Nat) : bt 0 i = false := BitVec.getLsbD_zero
theorem s_l : ∀ n, n < 32 → ((nI n &&& 31).toBitVec.smod 32).toNat = n := by decide +kernel
theorem b_shl (n : Nat) (hn : n < 32) (x : Int32) {i : Nat} (hi : i < 32) : bt (x <<< (nI n &&& 31)) i = (decide (n ≤ i) && bt x (i - n)) := by
  unfold bt
  rw [Int32.toBitVec_shiftLeft]
  show (x.toBitVec <<< ((nI n &&& 31).toBitVec.smod 32).toNat).getLsbD i = _
  rw [s_l n hn, BitVec.getLsbD_shiftLeft]
  rcases Nat.lt_or_ge i n with h | h
  · simp [h, Nat.not_le.mpr h]
  · simp [hi, h, Nat.not_lt.mpr h]
theorem b_sshr (n : Nat) (hn : n < 32) (x : Int32) {i : Nat} (hi : i < 32) : bt (x >>> (nI n &&& 31)) i = if n + i < 32 then bt x (n + i) else bt x 31 := by
  unfold bt
  rw [Int32.toBitVec_shiftRight]
  show (x.toBitVec.sshiftRight ((nI n &&& 31).toBitVec.smod 32).toNat).getLsbD i = _
  rw [s_l n hn, BitVec.getLsbD_sshiftRight, BitVec.msb_eq_getLsbD_last]
  simp [hi]
theorem b_one : ∀ i, i < 32 → bt (nI 1) i = decide (i = 0) := by decide +kernel
theorem b_and1 (y : Int32) : (y &&& nI 1 = nI 1) ↔ bt y 0 = true := by
  constructor
  · intro h
    have := congrArg (fun z => bt z 0) h
    simp only [b_and, b_one 0 (by omega)] at this
    simpa using this
  · intro h
    apply b_ext
    intro i hi
    rw [b_and, b_one i hi]
    by_cases c : i = 0
    · subst c; simp [h]
    · simp [c]
theorem tb_bt {p : Nat} (hp : p < 32) (x : Int32) : tb x p = bt x p := by
  unfold tb
  have h := b_and1 (x >>> (nI p &&& nI 31))
  have h2 : bt (x >>> (nI p &&& nI 31)) 0 = _ := b_sshr p hp x (show 0 < 32 by omega)
  rw [h2] at h
  simp only [Nat.add_zero, hp, if_true] at h
  by_cases c : bt x p = true
  · rw [c, decide_eq_true_eq]; exact h.mpr c
  · rw [Bool.not_eq_true] at c
    rw [c, decide_eq_false_iff_not]
    intro hx
    rw [h.mp hx] at c
    exact absurd c (by decide)
theorem b_pow {p : Nat} (hp : p < 32) {i : Nat} (hi : i < 32) : bt (nI 1 <<< (nI p &&& nI 31)) i = decide (i = p) := by
  have h := b_shl p hp (nI 1) hi
  rw [b_one (i - p) (by omega)] at h
  rw [show bt (nI 1 <<< (nI p &&& nI 31)) i = bt (nI 1 <<< (nI p &&& 31)) i from rfl, h]
  by_cases c : i = p
  · subst c; simp
  · by_cases c2 : p ≤ i
    · simp [c, c2]; omega
    · simp [c, c2]
theorem tb_clr {p r : Nat} (hp : p < 32) (hr : r < 32) (x : Int32) : tb (x &&& ((nI 1 <<< (nI p &&& nI 31)) ^^^ mI)) r = (tb x r && !decide (r = p)) := by
  rw [tb_bt hr, tb_bt hr, b_and, b_xor, b_pow hp hr, show bt mI r = true from b_m1 r hr]
  by_cases c : r = p <;> simp [c]
theorem tb_set {p r : Nat} (hp : p < 32) (hr : r < 32) (x : Int32) : tb (x ||| (nI 1 <<< (nI p &&& nI 31))) r = (tb x r || decide (r = p)) := by
  rw [tb_bt hr, tb_bt hr, b_or, b_pow hp hr]
/-! events on both sides -/
theorem rE_ev {V Y : z_V} (h : rE V Y) (x y : Int32) (h9 : Y.1 9 = V.1 0) : rE (evAdd V x y (V.1 0)) (noteY Y x y) := by
  obtain ⟨N, K, hN, hK, e1, e2, e3, e4⟩ := h
  have n13 := nV_of e1 (by omega)
  have n12 := nV_of e2 (by omega)
  have n10 := nV_of e3 (by omega)
  have a19 : (evAdd V x y (V.1 0)).2.2.1 19 = upd (V.2.2.1 19) N x := by unfold evAdd; rw [n13]; simp only [sgets, Nat.reduceEqDiff, if_true, if_false]
  have a20 : (evAdd V x y (V.1 0)).2.2.1 20 = upd (V.2.2.1 20) N y := by unfold evAdd; rw [n13]; simp only [sgets, Nat.reduceEqDiff, if_true, if_false]
  have a21 : (evAdd V x y (V.1 0)).2.2.1 21 = upd (V.2.2.1 21) N (V.1 0) := by unfold evAdd; rw [n13]; simp only [sgets, Nat.reduceEqDiff, if_true, if_false]
  have s13 : (evAdd V x y (V.1 0)).1 13 = nI (if 30 ≤ N + 1 then 0 else N + 1) := by unfold evAdd; rw [n13]; simp only [sgets, Nat.reduceEqDiff, if_true, if_false]
  have s12 : (evAdd V x y (V.1 0)).1 12 = nI (if 30 ≤ K then 30 else K + 1) := by unfold evAdd; rw [n12]; simp only [sgets, if_true]
  unfold rE
  rw [a19, a20, a21, s13, s12]
  by_cases c : K = 30
  · subst c
    have y17 : (noteY Y x y).2.2.1 17 = upd (shE (Y.2.2.1 17)) 29 x := by unfold noteY; rw [if_pos n10]; rfl
    have y18 : (noteY Y x y).2.2.1 18 = upd (shE (Y.2.2.1 18)) 29 y := by unfold noteY; rw [if_pos n10]; rfl
    have y19 : (noteY Y x y).2.2.1 19 = upd (shE (Y.2.2.1 19)) 29 (Y.1 9) := by unfold noteY; rw [if_pos n10]; rfl
    have y10 : (noteY Y x y).1 10 = nI 30 := by unfold noteY; rw [if_pos n10]; rfl
    rw [y17, y18, y19, y10, h9]
    refine ⟨if 30 ≤ N + 1 then 0 else N + 1, 30, by split <;> omega, by omega, rfl, rfl, rfl, fun i hi => ?_⟩
    by_cases ci : i = 29
    · subst ci
      have e : ((if 30 ≤ N + 1 then 0 else N + 1) + 30 - 30 + 29) % 30 = N := by split <;> omega
      rw [e, upd_eq, upd_eq, upd_eq, upd_eq, upd_eq, upd_eq]
      exact ⟨rfl, rfl, rfl⟩
    · have e : ((if 30 ≤ N + 1 then 0 else N + 1) + 30 - 30 + i) % 30 = (N + 30 - 30 + (i + 1)) % 30 := by split <;> omega
      have hne : (N + 30 - 30 + (i + 1)) % 30 ≠ N := by omega
      rw [e, upd_ne _ _ ci, upd_ne _ _ ci, upd_ne _ _ ci, upd_ne _ _ hne, upd_ne _ _ hne, upd_ne _ _ hne]
      have := e4 (i + 1) (by omega)
      unfold shE
      simp only [show i < 29 by omega, if_true]
      exact this
  · have n10' : ¬ nV Y 10 = 30 := by omega
    have y17 : (noteY Y x y).2.2.1 17 = upd (Y.2.2.1 17) K x := by unfold noteY; rw [if_neg n10', n10]; rfl
    have y18 : (noteY Y x y).2.2.1 18 = upd (Y.2.2.1 18) K y := by unfold noteY; rw [if_neg n10', n10]; rfl
    have y19 : (noteY Y x y).2.2.1 19 = upd (Y.2.2.1 19) K (Y.1 9) := by unfold noteY; rw [if_neg n10', n10]; rfl
    have y10 : (noteY Y x y).1 10 = nI (K + 1) := by unfold noteY; rw [if_neg n10', n10]; rfl
    rw [y17, y18, y19, y10, h9]
    refine ⟨if 30 ≤ N + 1 then 0 else N + 1, K + 1, by split <;> omega, by omega, rfl, by rw [if_neg (by omega)], rfl, fun i hi => ?_⟩
    by_cases ci : i = K
    · subst ci
      have e : ((if 30 ≤ N + 1 then 0 else N + 1) + 30 - (i + 1) + i) % 30 = N := by split <;> omega
      rw [e, upd_eq, upd_eq, upd_eq, upd_eq, upd_eq, upd_eq]
      exact ⟨rfl, rfl, rfl⟩
    · have e : ((if 30 ≤ N + 1 then 0 else N + 1) + 30 - (K + 1) + i) % 30 = (N + 30 - K + i) % 30 := by split <;> omega
      have hne : (N + 30 - K + i) % 30 ≠ N := by omega
      rw [e, upd_ne _ _ ci, upd_ne _ _ ci, upd_ne _ _ ci, upd_ne _ _ hne, upd_ne _ _ hne, upd_ne _ _ hne]
      exact e4 i (by omega)
theorem noteY_S (Y : z_V) (x y : Int32) (i : Nat) (h : i ≠ 10) : (noteY Y x y).1 i = Y.1 i := by
  unfold noteY adE shY
  split <;> simp only [sgets, h, if_false]
theorem noteY_A (Y : z_V) (x y : Int32) (a : Nat) (h : a < 17 ∨ 19 < a) : (noteY Y x y).2.2.1 a = Y.2.2.1 a := by
  unfold noteY adE shY
  split <;> simp only [sgets, show a ≠ 17 by omega, show a ≠ 18 by omega, show a ≠ 19 by omega, if_false]
theorem noteY_F (Y : z_V) (x y : Int32) : (noteY Y x y).2.2.2 = Y.2.2.2 := by
  unfold noteY adE shY
  split <;> rfl
theorem kY_note (Y : z_V) (x y : Int32) : kY Y (noteY Y x y) :=
  ⟨fun i hi => noteY_S _ _ _ _ (by omega), ⟨noteY_A _ _ _ _ (by omega), noteY_A _ _ _ _ (by omega)⟩, by rw [noteY_F], by rw [noteY_F]⟩
theorem Rl_ev {c J S Hy B : Nat} {V Y : z_V} (h : Rl c J S Hy B V Y) (x y : Int32) : Rl c J S Hy B (evAdd V x y (V.1 0)) (noteY Y x y) := by
  obtain ⟨hC, hf, hSB, r1, r2, r3, r4, r5, r6, r7⟩ := h
  have kf := kF_ev hC.2.2.2.2.1 hC.2.2.2.2.2.1 x y (V.1 0)
  have vs : ∀ i, i ≠ 12 → i ≠ 13 → (evAdd V x y (V.1 0)).1 i = V.1 i := fun i a b => evAdd_S _ _ _ _ _ a b
  have va : ∀ i, i < 19 → (evAdd V x y (V.1 0)).2.2.1 i = V.2.2.1 i := fun i a => evAdd_A _ _ _ _ _ a
  have ys := noteY_S Y x y
  have ya := noteY_A Y x y
  refine ⟨okC_kF hC kf, ?_, hSB, ?_, ?_, ?_, ?_, rE_ev r5 x y r1.2.2.2.2.2.2.2.2.1, ?_, ?_⟩
  · rw [vs 4 (by omega) (by omega)]; exact hf
  · unfold rS at r1 ⊢
    rw [evAdd_T, vs 1 (by omega) (by omega), vs 2 (by omega) (by omega), vs 3 (by omega) (by omega), vs 4 (by omega) (by omega), vs 5 (by omega) (by omega), vs 6 (by omega) (by omega), vs 7 (by omega) (by omega), vs 0 (by omega) (by omega), vs 8 (by omega) (by omega), vs 9 (by omega) (by omega), ys 0 (by omega), ys 1 (by omega), ys 2 (by omega), ys 3 (by omega), ys 4 (by omega), ys 5 (by omega), ys 6 (by omega), ys 7 (by omega), ys 9 (by omega), ys 11 (by omega), ys 12 (by omega)]
    exact r1
  · unfold rA at r2 ⊢
    rw [evAdd_F, noteY_F, va 4 (by omega), va 5 (by omega), va 6 (by omega), va 7 (by omega), va 8 (by omega), va 14 (by omega), va 15 (by omega), va 10 (by omega), va 0 (by omega), va 1 (by omega), va 2 (by omega), ya 5 (by omega), ya 7 (by omega), ya 8 (by omega), ya 9 (by omega), ya 10 (by omega), ya 12 (by omega), ya 13 (by omega), ya 16 (by omega), ya 0 (by omega), ya 1 (by omega), ya 2 (by omega)]
    exact r2
  · unfold rH at r3 ⊢
    rw [va 3 (by omega), va 13 (by omega), va 6 (by omega), vs 10 (by omega) (by omega), ya 4 (by omega), ya 6 (by omega), ya 11 (by omega)]
    exact r3
  · unfold rT at r4 ⊢
    rw [va 9 (by omega), ya 3 (by omega)]
    exact r4
  · unfold rQ at r6 ⊢
    rw [vs 11 (by omega) (by omega), ys 8 (by omega), va 11 (by omega), va 3 (by omega), va 13 (by omega), va 12 (by omega), ya 14 (by omega), ya 15 (by omega)]
    exact r6
  · unfold rG lkS way at r7 ⊢
    rw [evAdd_F, noteY_F, va 0 (by omega), va 16 (by omega), va 17 (by omega), va 18 (by omega), ya 20 (by omega), ya 21 (by omega), ya 22 (by omega)]
    exact r7
theorem m135r (M : z_M) (o : Nat) (w : Int64) {c J S Hy B : Nat} {V Y : z_V} (h : Rl c J S Hy B V Y) (x y : Int32) : z_cl 135 [.ref o, .int x, .int y] (yS M o Y w) = some (none, yS M o (noteY Y x y) w) := by
  obtain ⟨N, K, hN, hK, e1, e2, e3, e4⟩ := h.2.2.2.2.2.2.2.1
  exact m135 M o Y w K hK e3 x y
