/-! the text's grammar, on both sides -/
section
variable (b : Nat → Int32) (L a : Nat)
def tP : Nat := sk b L a
def tN : Nat := if tP b L a < L then numA (b (tP b L a)) else 0
def tA : Nat := sk b L (tP b L a + 1)
def tB : Nat := dg b L (tA b L a)
def tK : Nat := sk b L (tB b L a)
def tD : Nat := dg b L (tK b L a)
def tG1 : Bool := decide (tB b L a - tA b L a = 1 ∨ tB b L a - tA b L a = 2)
def tG2 : Bool := decide (tD b L a - tK b L a = 1 ∨ tD b L a - tK b L a = 2)
def tOk : Bool := decide (¬ tN b L a = 0 ∧ tG1 b L a = true ∧ (tN b L a = 2 → tG2 b L a = true))
def tE : Nat := if tN b L a = 2 then tD b L a else tB b L a
def tFl : Nat := if tN b L a = 0 then tP b L a else if tG1 b L a = true then tK b L a else tA b L a
def tSp : Nat := sk b L (tE b L a)
end
def tPos (b : Nat → Int32) (L : Nat) : Nat → Nat
  | 0 => 0
  | i + 1 => tSp b L (tPos b L i) + 1
theorem t_bd (b : Nat → Int32) (L a : Nat) (ha : a ≤ L) : tP b L a ≤ L ∧ a ≤ tP b L a ∧ (tP b L a < L → tA b L a ≤ L ∧ tP b L a + 1 ≤ tA b L a ∧ tB b L a ≤ L ∧ tA b L a ≤ tB b L a ∧ tK b L a ≤ L ∧ tB b L a ≤ tK b L a ∧ tD b L a ≤ L ∧ tK b L a ≤ tD b L a) := by
  have h1 := sk_bd b L a
  refine ⟨h1.2 ha, h1.1, fun h2 => ?_⟩
  have h3 := sk_bd b L (tP b L a + 1)
  have h4 : tA b L a ≤ L := h3.2 h2
  have h5 := dg_bd b L (tA b L a)
  have h6 : tB b L a ≤ L := h5.2 h4
  have h7 := sk_bd b L (tB b L a)
  have h8 : tK b L a ≤ L := h7.2 h6
  have h9 := dg_bd b L (tK b L a)
  exact ⟨h4, h3.1, h6, h5.1, h8, h7.1, h9.2 h8, h9.1⟩
theorem tOk_bd {b : Nat → Int32} {L a : Nat} (ha : a ≤ L) (h : tOk b L a = true) : tP b L a < L ∧ tE b L a ≤ L ∧ a + 2 ≤ tE b L a ∧ tSp b L a ≤ L ∧ tE b L a ≤ tSp b L a := by
  obtain ⟨h1, h2, h3⟩ := of_decide_eq_true h
  have hp : tP b L a < L := by
    unfold tN at h1
    by_cases c : tP b L a < L
    · exact c
    · rw [if_neg c] at h1; exact absurd rfl h1
  obtain ⟨q0, q1, q2⟩ := t_bd b L a ha
  obtain ⟨r1, r2, r3, r4, r5, r6, r7, r8⟩ := q2 hp
  have g1 := of_decide_eq_true h2
  have hE : tE b L a ≤ L ∧ a + 2 ≤ tE b L a := by
    unfold tE
    split <;> omega
  have hs := sk_bd b L (tE b L a)
  exact ⟨hp, hE.1, hE.2, hs.2 hE.1, hs.1⟩
theorem rdN_2 (T : z_V) (L a : Nat) : (rdN T L a).1 2 = if dg (T.2.2.1 0) L (sk (T.2.2.1 0) L a) - sk (T.2.2.1 0) L a = 1 ∨ dg (T.2.2.1 0) L (sk (T.2.2.1 0) L a) - sk (T.2.2.1 0) L a = 2 then T.1 2 else nI (sk (T.2.2.1 0) L a) := by
  unfold rdN
  by_cases c : dg (T.2.2.1 0) L (sk (T.2.2.1 0) L a) - sk (T.2.2.1 0) L a = 0 ∨ 2 < dg (T.2.2.1 0) L (sk (T.2.2.1 0) L a) - sk (T.2.2.1 0) L a
  · rw [if_pos c, if_neg (by omega)]; simp only [sgets, if_true]
  · rw [if_neg c, if_pos (by omega)]; simp only [sgets, Nat.reduceEqDiff, if_false]
/-- the class reads an order -/
theorem ord_sp {T : z_V} {L a o : Nat} (hL : L ≤ 100) (ha : a ≤ L) (h1 : T.1 1 = nI a) (h2 : T.1 2 = mI) : (ordR T L o).2.2.1 0 = T.2.2.1 0 ∧ (ordR T L o).1 0 = T.1 0 ∧ (tOk (T.2.2.1 0) L a = true → (ordR T L o).1 2 = mI ∧ (ordR T L o).1 1 = nI (tE (T.2.2.1 0) L a) ∧ (ordR T L o).2.2.1 1 = upd (T.2.2.1 1) o (T.2.2.1 0 (tP (T.2.2.1 0) L a)) ∧ (ordR T L o).2.2.1 2 = upd (T.2.2.1 2) o (numV (T.2.2.1 0) L (tA (T.2.2.1 0) L a)) ∧ (ordR T L o).2.2.1 3 = upd (T.2.2.1 3) o (if tN (T.2.2.1 0) L a = 2 then numV (T.2.2.1 0) L (tK (T.2.2.1 0) L a) else mI) ∧ (ordR T L o).1 3 = nI (o + 1)) ∧ (tOk (T.2.2.1 0) L a = false → (ordR T L o).1 2 = nI (tFl (T.2.2.1 0) L a)) := by
  have hv : nV T 1 = a := nV_of h1 (by omega)
  have hB : ordB T L = tP (T.2.2.1 0) L a := by unfold ordB; rw [hv]; rfl
  have hN : ordN T L = tN (T.2.2.1 0) L a := by unfold ordN tN; rw [hB]
  obtain ⟨q0, q1, q2⟩ := t_bd (T.2.2.1 0) L a ha
  unfold ordR
  rw [hN, hB]
  by_cases c0 : tN (T.2.2.1 0) L a = 0
  · rw [if_pos c0]
    refine ⟨rfl, rfl, fun h => ?_, fun _ => ?_⟩
    · exact absurd c0 (of_decide_eq_true h).1
    · unfold tFl
      rw [if_pos c0]
      rfl
  · rw [if_neg c0]
    have hp : tP (T.2.2.1 0) L a < L := by
      unfold tN at c0
      by_cases c : tP (T.2.2.1 0) L a < L
      · exact c
      · rw [if_neg c] at c0; exact absurd rfl c0
    obtain ⟨r1, r2, r3, r4, r5, r6, r7, r8⟩ := q2 hp
    have h2A : (oq2 T L o).2.2.1 0 = T.2.2.1 0 := rfl
    obtain ⟨a0, a3⟩ := oq3_A T L o
    have s1 := oq3_1 T L o
    rw [hB] at s1
    replace s1 : (oq3 T L o).1 1 = nI (tB (T.2.2.1 0) L a) := s1
    have s0 := oq3_0 T L o
    have hv3 : nV (oq3 T L o) 1 = tB (T.2.2.1 0) L a := nV_of s1 (by omega)
    have s2 : (oq3 T L o).1 2 = if tG1 (T.2.2.1 0) L a = true then mI else nI (tA (T.2.2.1 0) L a) := by
      have e : (oq3 T L o).1 2 = (rdN (oq2 T L o) L (ordB T L + 1)).1 2 := rfl
      rw [e, rdN_2, hB, h2A]
      have e2 : (oq2 T L o).1 2 = mI := h2
      rw [e2]
      unfold tG1 tB tA
      simp only [decide_eq_true_eq]
    have A1 : (oq3 T L o).2.2.1 1 = upd (T.2.2.1 1) o (T.2.2.1 0 (tP (T.2.2.1 0) L a)) := by
      have e : (oq3 T L o).2.2.1 1 = (rdN (oq2 T L o) L (ordB T L + 1)).2.2.1 1 := rfl
      rw [e, rdN_A]
      unfold oq2
      rw [hB]
      rfl
    have A2 : (oq3 T L o).2.2.1 2 = upd (T.2.2.1 2) o (numV (T.2.2.1 0) L (tA (T.2.2.1 0) L a)) := by
      unfold oq3
      rw [hB]
      rfl
    by_cases g1 : tG1 (T.2.2.1 0) L a = true
    · rw [if_pos g1] at s2
      by_cases n2 : tN (T.2.2.1 0) L a = 2
      · have e4 : oq4 T L o = sA (rdN (oq3 T L o) L (tB (T.2.2.1 0) L a)) 3 (upd (T.2.2.1 3) o (numV (T.2.2.1 0) L (tK (T.2.2.1 0) L a))) := by
          unfold oq4
          rw [hN, if_pos ⟨n2, s2⟩, hv3]
          rfl
        rw [e4]
        have d2 : (rdN (oq3 T L o) L (tB (T.2.2.1 0) L a)).1 2 = if tG2 (T.2.2.1 0) L a = true then mI else nI (tK (T.2.2.1 0) L a) := by
          rw [rdN_2, a0, s2]
          unfold tG2 tD tK
          simp only [decide_eq_true_eq]
        refine ⟨?_, ?_, fun h => ?_, fun h => ?_⟩
        · simp only [sgets, Nat.reduceEqDiff, if_false, rdN_A]; exact a0
        · simp only [sgets, Nat.reduceEqDiff, if_false]; rw [rdN_S _ _ _ _ (by omega) (by omega)]; exact s0
        · have g2 := (of_decide_eq_true h).2.2 n2
          refine ⟨?_, ?_, ?_, ?_, ?_, rfl⟩
          · simp only [sgets, Nat.reduceEqDiff, if_false]; rw [d2, if_pos g2]
          · simp only [sgets, Nat.reduceEqDiff, if_false]
            rw [rdN_1, a0]
            unfold tE
            rw [if_pos n2]
            rfl
          · simp only [sgets, Nat.reduceEqDiff, if_false, rdN_A]; exact A1
          · simp only [sgets, Nat.reduceEqDiff, if_false, rdN_A]; exact A2
          · simp only [sgets, if_true, n2]
        · have g2 : ¬ tG2 (T.2.2.1 0) L a = true := fun g2 => (of_decide_eq_false h) ⟨c0, g1, fun _ => g2⟩
          simp only [sgets, Nat.reduceEqDiff, if_false]
          rw [d2, if_neg g2]
          unfold tFl
          rw [if_neg c0, if_pos g1]
      · have e4 : oq4 T L o = sA (oq3 T L o) 3 (upd (T.2.2.1 3) o mI) := by
          unfold oq4
          rw [hN, if_neg (fun q => n2 q.1)]
        rw [e4]
        refine ⟨?_, ?_, fun h => ?_, fun h => ?_⟩
        · simp only [sgets, Nat.reduceEqDiff, if_false]; exact a0
        · simp only [sgets, Nat.reduceEqDiff, if_false]; exact s0
        · refine ⟨?_, ?_, ?_, ?_, ?_, rfl⟩
          · simp only [sgets, Nat.reduceEqDiff, if_false]; exact s2
          · simp only [sgets, Nat.reduceEqDiff, if_false]
            unfold tE
            rw [if_neg n2]
            exact s1
          · simp only [sgets, Nat.reduceEqDiff, if_false]; exact A1
          · simp only [sgets, Nat.reduceEqDiff, if_false]; exact A2
          · simp only [sgets, if_true, n2, if_false]
        · exact absurd ⟨c0, g1, fun n => absurd n n2⟩ (of_decide_eq_false h)
    · rw [if_neg g1] at s2
      have e4 : oq4 T L o = sA (oq3 T L o) 3 (upd (T.2.2.1 3) o mI) := by
        unfold oq4
        rw [hN, if_neg (fun q => by rw [s2, mI_ne (by omega)] at q; exact q.2)]
      rw [e4]
      refine ⟨?_, ?_, fun h => ?_, fun h => ?_⟩
      · simp only [sgets, Nat.reduceEqDiff, if_false]; exact a0
      · simp only [sgets, Nat.reduceEqDiff, if_false]; exact s0
      · exact absurd (of_decide_eq_true h).2.1 g1
      · simp only [sgets, Nat.reduceEqDiff, if_false]
        rw [s2]
        unfold tFl
        rw [if_neg c0, if_neg g1]
/-- m orders stand, each with a semicolon behind it -/
def tPre (b : Nat → Int32) (L m : Nat) : Prop := ∀ i, i < m → tOk b L (tPos b L i) = true ∧ tSp b L (tPos b L i) < L ∧ b (tSp b L (tPos b L i)) = nI 59
theorem tPos_le {b : Nat → Int32} {L : Nat} : ∀ m, tPre b L m → tPos b L m ≤ L ∧ 3 * m ≤ tPos b L m := by
  intro m
  induction m with
  | zero => intro _; exact ⟨Nat.zero_le _, Nat.le_refl _⟩
  | succ m ih =>
    intro h
    obtain ⟨i1, i2⟩ := ih (fun i hi => h i (by omega))
    obtain ⟨h1, h2, h3⟩ := h m (by omega)
    obtain ⟨q1, q2, q3, q4, q5⟩ := tOk_bd i1 h1
    show tSp b L (tPos b L m) + 1 ≤ L ∧ 3 * (m + 1) ≤ tSp b L (tPos b L m) + 1
    omega
/-- the orders that the class has found -/
def tArr (b : Nat → Int32) (L m : Nat) (T : z_V) : Prop := ∀ i, i < m → T.2.2.1 1 i = b (tP b L (tPos b L i)) ∧ T.2.2.1 2 i = numV b L (tA b L (tPos b L i)) ∧ T.2.2.1 3 i = if tN b L (tPos b L i) = 2 then numV b L (tK b L (tPos b L i)) else mI
def tOut (b : Nat → Int32) (L m : Nat) (T : z_V) : Prop := tPre b L m ∧ T.2.2.1 0 = b ∧ T.1 0 = nI L ∧ ((tOk b L (tPos b L m) = true ∧ ¬ tSp b L (tPos b L m) < L ∧ T.1 2 = mI ∧ T.1 3 = nI (m + 1) ∧ tArr b L (m + 1) T) ∨ (tOk b L (tPos b L m) = false ∧ T.1 2 = nI (tFl b L (tPos b L m))) ∨ (tOk b L (tPos b L m) = true ∧ tSp b L (tPos b L m) < L ∧ ¬ b (tSp b L (tPos b L m)) = nI 59 ∧ T.1 2 = nI (tSp b L (tPos b L m))))
theorem scn_sp {b : Nat → Int32} {L : Nat} (hL : L ≤ 100) : ∀ (n o : Nat) (T : z_V), n + o = 100 → tPre b L o → T.1 0 = nI L → T.1 1 = nI (tPos b L o) → T.1 2 = mI → T.2.2.1 0 = b → tArr b L o T → ∃ m, tOut b L m (scnL L n o T) := by
  intro n
  induction n with
  | zero =>
    intro o T ho hp h0 h1 h2 hb hA
    have := tPos_le o hp
    omega
  | succ n ih =>
    intro o T ho hp h0 h1 h2 hb hA
    obtain ⟨q1, q2⟩ := tPos_le o hp
    obtain ⟨w1, w2, w3, w4⟩ := ord_sp (o := o) hL q1 h1 h2
    rw [hb] at w1 w3 w4
    unfold scnL
    cases hok : tOk b L (tPos b L o) with
    | false =>
      have e := w4 hok
      have hm : ¬ (ordR T L o).1 2 = mI := by
        rw [e, mI_ne]
        · exact not_false
        · obtain ⟨t1, t2, t3⟩ := t_bd b L (tPos b L o) q1
          unfold tFl
          split
          · omega
          · rename_i c0
            have hpl : tP b L (tPos b L o) < L := by
              unfold tN at c0
              by_cases c : tP b L (tPos b L o) < L
              · exact c
              · rw [if_neg c] at c0; exact absurd rfl c0
            have := t3 hpl
            split <;> omega
      rw [if_neg hm]
      exact ⟨o, hp, w1, w2.trans h0, Or.inr (Or.inl ⟨hok, e⟩)⟩
    | true =>
      obtain ⟨e2, e1, eA1, eA2, eA3, e3⟩ := w3 hok
      rw [if_pos e2]
      obtain ⟨s1, s2, s3, s4, s5⟩ := tOk_bd q1 hok
      have hv : nV (ordR T L o) 1 = tE b L (tPos b L o) := nV_of e1 (by omega)
      have hB : ordB (ordR T L o) L = tSp b L (tPos b L o) := by unfold ordB; rw [hv, w1]; rfl
      have hArr : tArr b L (o + 1) (ordR T L o) := by
        intro i hi
        rw [eA1, eA2, eA3]
        by_cases c : i = o
        · subst c
          rw [upd_eq, upd_eq, upd_eq]
          exact ⟨rfl, rfl, rfl⟩
        · rw [upd_ne _ _ c, upd_ne _ _ c, upd_ne _ _ c]
          exact hA i (by omega)
      cases hsem : semB (ordR T L o) L with
      | true =>
        rw [if_pos rfl]
        unfold semB at hsem
        rw [hB, w1] at hsem
        obtain ⟨c1, c2⟩ := of_decide_eq_true hsem
        have eR : semR (ordR T L o) L = sS (sS (ordR T L o) 1 (nI (tSp b L (tPos b L o)))) 1 (nI (tSp b L (tPos b L o) + 1)) := by
          unfold semR
          rw [hB, w1, if_neg (by omega), if_pos c2]
        rw [eR]
        refine ih (o + 1) _ (by omega) ?_ ?_ rfl ?_ ?_ ?_
        · intro i hi
          by_cases c : i = o
          · subst c; exact ⟨hok, c1, c2⟩
          · exact hp i (by omega)
        · simp only [sgets, Nat.reduceEqDiff, if_false]; exact w2.trans h0
        · simp only [sgets, Nat.reduceEqDiff, if_false]; exact e2
        · exact w1
        · exact hArr
      | false =>
        rw [if_neg (by decide)]
        unfold semB at hsem
        rw [hB, w1] at hsem
        have hns := of_decide_eq_false hsem
        unfold semR
        rw [hB, w1]
        by_cases c1 : tSp b L (tPos b L o) = L
        · rw [if_pos c1]
          refine ⟨o, hp, w1, ?_, Or.inl ⟨hok, by omega, ?_, ?_, hArr⟩⟩
          · simp only [sgets, Nat.reduceEqDiff, if_false]; exact w2.trans h0
          · simp only [sgets, Nat.reduceEqDiff, if_false]; exact e2
          · simp only [sgets, Nat.reduceEqDiff, if_false]; exact e3
        · have c2 : ¬ b (tSp b L (tPos b L o)) = nI 59 := fun q => hns ⟨by omega, q⟩
          rw [if_neg c1, if_neg c2]
          refine ⟨o, hp, w1, ?_, Or.inr (Or.inr ⟨hok, by omega, c2, ?_⟩)⟩
          · simp only [sgets, Nat.reduceEqDiff, if_false]; exact w2.trans h0
          · simp only [sgets, if_true]
theorem scnR_sp {T : z_V} {L : Nat} (hL : L ≤ 100) (h0 : T.1 0 = nI L) : ∃ m, tOut (T.2.2.1 0) L m (scnR T L) := by
  unfold scnR
  refine scn_sp hL 100 0 _ (by omega) (fun i hi => by omega) ?_ ?_ ?_ rfl (fun i hi => by omega)
  · simp only [sgets, Nat.reduceEqDiff, if_false]; exact h0
  · simp only [sgets, Nat.reduceEqDiff, if_true, if_false]; rfl
  · simp only [sgets, Nat.reduceEqDiff, if_true, if_false]
