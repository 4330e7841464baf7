/-! the queue: taken out of it, put into it -/
theorem qAt_sp (V : z_V) (x : Int32) (n : Nat) (hn : n ≤ 20) : (qAt V x n = mI ∧ ∀ k, k < n → V.2.2.1 11 k ≠ x) ∨ ∃ a, a < n ∧ qAt V x n = nI a ∧ V.2.2.1 11 a = x := by
  induction n with
  | zero => exact Or.inl ⟨rfl, fun k hk => by omega⟩
  | succ n ih =>
    rcases ih (by omega) with ⟨h1, h2⟩ | ⟨a, h1, h2, h3⟩
    · by_cases c : V.2.2.1 11 n = x
      · refine Or.inr ⟨n, by omega, ?_, c⟩
        simp only [qAt, h1, c, if_true]
      · refine Or.inl ⟨?_, fun k hk => ?_⟩
        · simp only [qAt, h1, c, if_true, if_false]
        · by_cases e : k = n
          · subst e; exact c
          · exact h2 k (by omega)
    · refine Or.inr ⟨a, by omega, ?_, h3⟩
      have : ¬ qAt V x n = mI := by rw [h2, mI_ne (by omega)]; exact id
      rw [qAt, if_neg this, h2]
theorem forg_13 (V : z_V) (p W : Nat) : (forg V p W).2.2.1 13 = upd (V.2.2.1 13) p (nI 0) := by
  unfold forg
  split <;> simp only [sgets, Nat.reduceEqDiff, if_true, if_false]
theorem forg_q {V : z_V} {p W : Nat} (hW : W ≤ 20) (h11 : V.1 11 = nI W) {q : Nat → Nat} (hq : ∀ k, k < W → V.2.2.1 11 k = nI (q k) ∧ q k < 20) (hp : p < 20) (hi : ∀ i j, i < j → j < W → q i ≠ q j) : ∃ (W' : Nat) (u : Nat → Nat), W' ≤ W ∧ (forg V p W).1 11 = nI W' ∧ (∀ k, k < W' → u k < W ∧ (forg V p W).2.2.1 11 k = nI (q (u k)) ∧ q (u k) ≠ p) ∧ (∀ k l, k < l → l < W' → u k < u l) ∧ ∀ k, k < W → q k ≠ p → ∃ j, j < W' ∧ u j = k := by
  unfold forg
  have hA : (sA V 13 (upd (V.2.2.1 13) p (nI 0))).2.2.1 11 = V.2.2.1 11 := rfl
  rcases qAt_sp (sA V 13 (upd (V.2.2.1 13) p (nI 0))) (nI p) W hW with ⟨h1, h2⟩ | ⟨a, h1, h2, h3⟩
  · rw [if_pos h1]
    refine ⟨W, fun k => k, Nat.le_refl _, h11, fun k hk => ⟨hk, (hq k hk).1, fun e => ?_⟩, fun _ _ h _ => h, fun k hk _ => ⟨k, hk, rfl⟩⟩
    have := h2 k hk
    rw [hA, (hq k hk).1, e] at this
    exact this rfl
  · have h4 : ¬ qAt (sA V 13 (upd (V.2.2.1 13) p (nI 0))) (nI p) W = mI := by rw [h2, mI_ne (by omega)]; exact id
    rw [if_neg h4, h2, nI_clamp (by omega)]
    rw [hA, (hq a h1).1, nE (by have := (hq a h1).2; omega) (by omega)] at h3
    refine ⟨W - 1, fun k => if k < a then k else k + 1, by omega, by simp only [sgets, if_true], fun k hk => ?_, fun k l hkl hl => ?_, fun k hk hne => ?_⟩
    · simp only [sgets, Nat.reduceEqDiff, if_true]
      rw [rot_eq]
      by_cases c : k < a
      · rw [if_neg (show ¬ (a ≤ k ∧ k < a + (W - 1 - a)) by omega)]
        simp only [c, if_true]
        refine ⟨by omega, (hq k (by omega)).1, fun e => ?_⟩
        exact hi k a c h1 (e.trans h3.symm)
      · rw [if_pos (show a ≤ k ∧ k < a + (W - 1 - a) by omega)]
        simp only [c, if_false]
        refine ⟨by omega, (hq (k + 1) (by omega)).1, fun e => ?_⟩
        exact hi a (k + 1) (by omega) (by omega) (h3.trans e.symm)
    · simp only
      split <;> split <;> omega
    · by_cases c : k < a
      · exact ⟨k, by omega, by simp only [c, if_true]⟩
      · have : k ≠ a := fun e => hne (by rw [e]; exact h3)
        refine ⟨k - 1, by omega, ?_⟩
        simp only [show ¬ k - 1 < a by omega, if_false]
        omega
theorem rQ_rem {c J : Nat} {V Y V' Y' : z_V} (hr : rQ c J V Y) (hJ : J ≤ 20) {p : Nat} (hp : p < J) (h11 : V'.1 11 = (forg V p (nV V 11)).1 11) (hA : V'.2.2.1 11 = (forg V p (nV V 11)).2.2.1 11) (h12 : V'.2.2.1 12 = V.2.2.1 12) (h13 : ∀ r, r ≠ p → V'.2.2.1 13 r = V.2.2.1 13 r) (h3 : ∀ r, r ≠ p → V'.2.2.1 3 r = V.2.2.1 3 r) (y8 : Y'.1 8 = Y.1 8) (y14 : ∀ r, r ≠ p → Y'.2.2.1 14 r = Y.2.2.1 14 r) (y15 : ∀ r, r ≠ p → Y'.2.2.1 15 r = Y.2.2.1 15 r) (hpp : ¬ V'.2.2.1 3 p = mI → Y'.2.2.1 14 p = mI) : rQ c J V' Y' := by
  obtain ⟨W, n, q, pr, ak, w1, w2, w3, w4, w5, w6, w7⟩ := hr
  rw [nV_of w3 (by omega)] at h11 hA
  obtain ⟨W', u, u1, u2, u3, u4, u5⟩ := forg_q (p := p) w1 w3 (fun k hk => ⟨(w5 k hk).1, by have := (w5 k hk).2.1; omega⟩) (by omega) (rQ_inj w6)
  refine ⟨W', n, fun k => q (u k), pr, ak, by omega, w2, h11.trans u2, y8.trans w4, fun k hk => ?_, fun k l hkl hl => ?_, fun r hr hm hno => ?_⟩
  · obtain ⟨a1, a2, a3⟩ := u3 k hk
    obtain ⟨v1, v2, v3, v4, v5, v6, v7, v8, v9⟩ := w5 (u k) a1
    rw [hA, h12, h13 _ a3, h3 _ a3, y14 _ a3, y15 _ a3]
    exact ⟨a2, v2, v3, v4, v5, v6, v7, v8, v9⟩
  · exact w6 _ _ (u4 k l hkl hl) (u3 l hl).1
  · by_cases e : r = p
    · subst e; exact hpp hm
    · rw [y14 r e]
      refine w7 r hr (by rw [← h3 r e]; exact hm) (fun k hk ek => ?_)
      obtain ⟨j, hj, ej⟩ := u5 k hk (by rw [ek]; exact e)
      exact hno j hj (by show q (u j) = r; rw [ej]; exact ek)
theorem insQ_sp (pr : Nat → Int32) (x : Int32) (n : Nat) (f : Nat → Int32) : (∀ k, k ≤ (insQ pr x n f).2 → (insQ pr x n f).1 k = f k) ∧ (∀ k, (insQ pr x n f).2 < k → k ≤ n → (insQ pr x n f).1 k = f (k - 1)) ∧ (∀ k, (insQ pr x n f).2 ≤ k → k < n → pr (f k).toNatClampNeg < x) ∧ ((insQ pr x n f).2 = 0 ∨ ¬ pr (f ((insQ pr x n f).2 - 1)).toNatClampNeg < x) := by
  induction n generalizing f with
  | zero => exact ⟨fun _ _ => rfl, fun k h1 h2 => absurd h1 (by simp only [insQ]; omega), fun k h1 h2 => by omega, Or.inl rfl⟩
  | succ n ih =>
    by_cases c : pr (f n).toNatClampNeg < x
    · have e : insQ pr x (n + 1) f = insQ pr x n (upd f (n + 1) (f n)) := by rw [insQ, if_pos c]
      rw [e]
      have hle := insQ_le pr x n (upd f (n + 1) (f n))
      obtain ⟨i1, i2, i3, i4⟩ := ih (upd f (n + 1) (f n))
      have hu : ∀ k, k ≤ n → upd f (n + 1) (f n) k = f k := fun k hk => upd_ne _ _ (by omega)
      refine ⟨fun k hk => by rw [i1 k hk, hu k (by omega)], fun k h1 h2 => ?_, fun k h1 h2 => ?_, ?_⟩
      · by_cases e2 : k = n + 1
        · subst e2
          have : ∀ (m : Nat) (g : Nat → Int32) (j : Nat), m < j → (insQ pr x m g).1 j = g j := by
            intro m
            induction m with
            | zero => intro g j _; rfl
            | succ m ihm =>
              intro g j hj
              rw [insQ]
              split
              · rw [ihm _ j (by omega), upd_ne _ _ (by omega)]
              · rfl
          rw [this n _ (n + 1) (by omega), upd_eq, Nat.add_sub_cancel]
        · rw [i2 k h1 (by omega), hu _ (by omega)]
      · by_cases e2 : k = n
        · subst e2; exact c
        · have := i3 k h1 (by omega)
          rw [hu k (by omega)] at this
          exact this
      · rcases i4 with i4 | i4
        · exact Or.inl i4
        · rw [hu _ (by omega)] at i4
          exact Or.inr i4
    · have e : insQ pr x (n + 1) f = (f, n + 1) := by rw [insQ, if_neg c]
      rw [e]
      exact ⟨fun _ _ => rfl, fun k h1 h2 => absurd h1 (by simp only; omega), fun k h1 h2 => absurd h2 (by simp only at h1; omega), Or.inr c⟩
theorem rQ_len {J W : Nat} {q : Nat → Nat} {p : Nat} (h1 : ∀ i, i < W → q i < J) (h2 : ∀ i j, i < j → j < W → q i ≠ q j) (hp : p < J) (hno : ∀ k, k < W → q k ≠ p) : W + 1 ≤ J := by
  have e := cnt_inQ q J W h1 h2
  have hP : inQ q W p = false := by
    rw [Bool.eq_false_iff]
    intro h
    obtain ⟨i, a, b⟩ := (inQ_iff q W p).mp h
    exact hno i a b
  have e2 := cnt_ins J hP
  rw [e, if_pos hp] at e2
  have := cnt_le (fun r => inQ q W r || decide (p = r)) J
  omega
theorem rQ_add {c J : Nat} {V Y V' Y' : z_V} (hr : rQ c J V Y) (hJ : J ≤ 20) (hc : c < 2 ^ 31) {p t : Nat} (hp : p < J) (ht : t < 10) (hh : ¬ V.2.2.1 3 p = mI) (h0 : V.2.2.1 13 p = nI 0) (hno : Y.2.2.1 14 p = mI) (hV : V' = enq V p (nV V 11) (nI t)) (y8 : Y'.1 8 = Y.1 8 + nI 1) (y14 : Y'.2.2.1 14 = upd (Y.2.2.1 14) p (nI t)) (y15 : Y'.2.2.1 15 = upd (Y.2.2.1 15) p (Y.1 8)) : rQ (c + 1) J V' Y' ∧ nV V 11 < 20 := by
  obtain ⟨W, n, q, pr, ak, w1, w2, w3, w4, w5, w6, w7⟩ := hr
  rw [nV_of w3 (by omega)] at hV ⊢
  have hqn : ∀ k, k < W → q k ≠ p := by
    intro k hk e
    have := (w5 k hk).2.2.2.2.1
    rw [e, hno, mI_ne' (by have := (w5 k hk).2.2.2.2.2.1; rw [e] at this; omega)] at this
    exact this
  have hlen := rQ_len (fun i hi => (w5 i hi).2.1) (rQ_inj w6) hp hqn
  refine ⟨?_, by omega⟩
  obtain ⟨i1, i2, i3, i4⟩ := insQ_sp (V.2.2.1 12) (nI t) W (V.2.2.1 11)
  have hle := insQ_le (V.2.2.1 12) (nI t) W (V.2.2.1 11)
  have e11 : V'.2.2.1 11 = upd (insQ (V.2.2.1 12) (nI t) W (V.2.2.1 11)).1 (insQ (V.2.2.1 12) (nI t) W (V.2.2.1 11)).2 (nI p) := by rw [hV]; rfl
  have e12 : V'.2.2.1 12 = upd (V.2.2.1 12) p (nI t) := by rw [hV]; rfl
  have e3 : V'.2.2.1 3 = V.2.2.1 3 := by rw [hV]; rfl
  have e13 : V'.2.2.1 13 = V.2.2.1 13 := by rw [hV]; rfl
  have eW : V'.1 11 = nI (W + 1) := by rw [hV]; rfl
  generalize hg : (insQ (V.2.2.1 12) (nI t) W (V.2.2.1 11)).1 = g at i1 i2 e11
  generalize ha : (insQ (V.2.2.1 12) (nI t) W (V.2.2.1 11)).2 = a at i1 i2 i3 i4 e11 hle
  have hpr : ∀ k, k < W → (V.2.2.1 12 (V.2.2.1 11 k).toNatClampNeg < nI t ↔ pr (q k) < t) := by
    intro k hk
    obtain ⟨v1, v2, v3, v4, v5, v6, v7, v8, v9⟩ := w5 k hk
    rw [v1, nI_clamp (by omega), v7, nLt (by omega) (by omega)]
  refine ⟨W + 1, n + 1, fun k => if k < a then q k else if k = a then p else q (k - 1), fun r => if r = p then t else pr r, fun r => if r = p then n else ak r, by omega, by omega, eW, by rw [y8, w4, nI_add], fun k hk => ?_, fun k l hkl hl => ?_, fun r hr hm hn => ?_⟩
  · rw [e11, e12, e3, e13, y14, y15]
    have old : ∀ j, j < W → (V.2.2.1 11 j = nI (q j) ∧ q j < J ∧ ¬ V.2.2.1 3 (q j) = mI ∧ V.2.2.1 13 (q j) = nI 0 ∧ upd (Y.2.2.1 14) p (nI t) (q j) = nI (if q j = p then t else pr (q j)) ∧ (if q j = p then t else pr (q j)) < 10 ∧ upd (V.2.2.1 12) p (nI t) (q j) = nI (if q j = p then t else pr (q j)) ∧ upd (Y.2.2.1 15) p (Y.1 8) (q j) = nI (if q j = p then n else ak (q j)) ∧ (if q j = p then n else ak (q j)) < n + 1) := by
      intro j hj
      obtain ⟨v1, v2, v3, v4, v5, v6, v7, v8, v9⟩ := w5 j hj
      have hne := hqn j hj
      rw [upd_ne _ _ hne, upd_ne _ _ hne, upd_ne _ _ hne]
      simp only [hne, if_false]
      exact ⟨v1, v2, v3, v4, v5, v6, v7, v8, by omega⟩
    by_cases c1 : k < a
    · simp only [c1, if_true]
      rw [upd_ne _ _ (by omega), i1 k (by omega)]
      exact old k (by omega)
    · by_cases c2 : k = a
      · subst c2
        simp only [Nat.lt_irrefl, if_false, if_true]
        rw [upd_eq, upd_eq, upd_eq, upd_eq]
        exact ⟨rfl, hp, hh, h0, rfl, ht, rfl, w4, by omega⟩
      · simp only [c1, c2, if_false]
        rw [upd_ne _ _ c2, i2 k (by omega) (by omega)]
        exact old (k - 1) (by omega)
  · have hmid : ∀ j, j < W → j < a → t ≤ pr (q j) := by
      intro j hj hja
      rcases i4 with i4 | i4
      · omega
      · rw [hpr (a - 1) (by omega)] at i4
        by_cases e : j = a - 1
        · subst e; omega
        · have := w6 j (a - 1) (by omega) (by omega)
          omega
    have hup : ∀ j, j < W → a ≤ j → pr (q j) < t := fun j hj hja => (hpr j hj).mp (i3 j hja hj)
    by_cases c1 : k < a
    · simp only [c1, if_true]
      have hne1 := hqn k (by omega)
      by_cases c2 : l < a
      · have hne2 := hqn l (by omega)
        simp only [c2, if_true, hne1, hne2, if_false]
        exact w6 k l hkl (by omega)
      · by_cases c3 : l = a
        · subst c3
          simp only [Nat.lt_irrefl, if_false, if_true, hne1]
          have := hmid k (by omega) c1
          have := (w5 k (by omega)).2.2.2.2.2.2.2.2
          omega
        · have hne2 := hqn (l - 1) (by omega)
          simp only [c2, c3, if_false, hne1, hne2]
          exact w6 k (l - 1) (by omega) (by omega)
    · by_cases c2 : k = a
      · subst c2
        have hne2 := hqn (l - 1) (by omega)
        simp only [Nat.lt_irrefl, if_false, if_true, show ¬ l < k by omega, show ¬ l = k by omega, hne2]
        have := hup (l - 1) (by omega) (by omega)
        omega
      · have hne1 := hqn (k - 1) (by omega)
        have hne2 := hqn (l - 1) (by omega)
        simp only [c1, c2, if_false, show ¬ l < a by omega, show ¬ l = a by omega, hne1, hne2]
        exact w6 (k - 1) (l - 1) (by omega) (by omega)
  · rw [y14]
    rw [e3] at hm
    by_cases e : r = p
    · subst e
      have := hn a (by omega)
      simp only [Nat.lt_irrefl, if_false, if_true] at this
      exact absurd rfl this
    · rw [upd_ne _ _ e]
      refine w7 r hr hm (fun k hk ek => ?_)
      by_cases c1 : k < a
      · have := hn k (by omega)
        simp only [c1, if_true] at this
        exact this ek
      · have := hn (k + 1) (by omega)
        simp only [show ¬ k + 1 < a by omega, show ¬ k + 1 = a by omega, if_false, Nat.add_sub_cancel] at this
        exact this ek
