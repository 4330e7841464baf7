/-! the class and the model at their beginning -/
def V0 : z_V := (fun i => if i = 1 then nI 2 else if i = 2 then nI 6 else if i = 3 then nI 3 else if i = 5 then nI 1 else if i = 6 then nI 10 else if i = 8 then nI 1 else nI 0, pwr 10, fun i => if i = 0 then upd (fun _ => nI 0) 0 mI else if i = 9 then spk 20 else fun _ => nI 0, fun _ _ => 0)
def O0 : z_V := (fun _ => nI 0, 0, fun _ _ => nI 0, fun _ _ => 0)
theorem j0 (M : z_M) : z_cl 0 [.ref M.1] (z_nw M (.inr (0, z_df 0))) = some (none, cS (gw M 32) M.1 V0) := by
  rw [nw_ls, i0]
  refine congrArg (fun X => some (none, X)) (ls_rg M _ (cC M.1 V0) (fun k hk => match k, hk with
    | 0, _ => rfl
    | 1, _ => rfl
    | 2, _ => rfl
    | 3, _ => rfl
    | 4, _ => rfl
    | 5, _ => rfl
    | 6, _ => rfl
    | 7, _ => rfl
    | 8, _ => rfl
    | 9, _ => rfl
    | 10, _ => rfl
    | 11, _ => rfl
    | 12, _ => rfl
    | 13, _ => rfl
    | 14, _ => rfl
    | 15, _ => rfl
    | 16, _ => rfl
    | 17, _ => rfl
    | 18, _ => rfl
    | 19, _ => rfl
    | 20, _ => rfl
    | 21, _ => rfl
    | 22, _ => rfl
    | 23, _ => rfl
    | 24, _ => rfl
    | 25, _ => rfl
    | 26, _ => rfl
    | 27, _ => rfl
    | 28, _ => rfl
    | 29, _ => rfl
    | 30, _ => rfl
    | 31, _ => rfl
    | n + 32, h => absurd h (by simp only [List.length_cons, List.length_nil]; omega)))
theorem j31 (M : z_M) : z_cl 31 [.ref M.1] (z_nw M (.inr (4, z_df 4))) = some (none, xS (gw M 8) M.1 O0) := by
  rw [nw_ls, i31]
  refine congrArg (fun X => some (none, X)) (ls_rg M _ (xC M.1 O0) (fun k hk => match k, hk with
    | 0, _ => rfl
    | 1, _ => rfl
    | 2, _ => rfl
    | 3, _ => rfl
    | 4, _ => rfl
    | 5, _ => rfl
    | 6, _ => rfl
    | 7, _ => rfl
    | n + 8, h => absurd h (by simp only [List.length_cons, List.length_nil]; omega)))
theorem j38 (M : z_M) : z_cl 38 [.ref M.1] (z_nw M (.inr (5, z_df 5))) = some (none, tS (gw M 5) M.1 O0) := by
  rw [nw_ls, i38]
  refine congrArg (fun X => some (none, X)) (ls_rg M _ (tC M.1 O0) (fun k hk => match k, hk with
    | 0, _ => rfl
    | 1, _ => rfl
    | 2, _ => rfl
    | 3, _ => rfl
    | 4, _ => rfl
    | n + 5, h => absurd h (by simp only [List.length_cons, List.length_nil]; omega)))
/-- the history's conferences, one after another -/
def hsQ (k : Nat) (X : z_M) : z_M := it (fun _ Y => cS (gw Y 32) Y.1 V0) k X
theorem hsQ_1 (k : Nat) (X : z_M) : (hsQ k X).1 = X.1 + 32 * k := by
  induction k with
  | zero => rfl
  | succ k ih =>
    show (hsQ k X).1 + 32 = _
    rw [ih]; omega
theorem hsQ_rd (k : Nat) (X : z_M) {a : Nat} (h : a < X.1) : (hsQ k X).2 a = X.2 a := by
  induction k with
  | zero => rfl
  | succ k ih =>
    show (cS (gw (hsQ k X) 32) (hsQ k X).1 V0).2 a = _
    rw [cS_out (by rw [hsQ_1]; omega)]
    exact ih
theorem gw_up (X : z_M) (k a : Nat) (e : z_E) : z_up (gw X k) a e = gw (z_up X a e) k := rfl
theorem hsQ_up (k : Nat) (X : z_M) {a : Nat} (e : z_E) (h : a < X.1) : z_up (hsQ k X) a e = hsQ k (z_up X a e) := by
  induction k with
  | zero => rfl
  | succ k ih =>
    show z_up (cS (gw (hsQ k X) 32) (hsQ k X).1 V0) a e = cS (gw (hsQ k (z_up X a e)) 32) (hsQ k (z_up X a e)).1 V0
    rw [cS_wr_out (by rw [hsQ_1]; omega), gw_up, ih, hsQ_1, hsQ_1]
    rfl
theorem hsQ_rg (k : Nat) (X : z_M) : hsQ k X = rg (gw X (32 * k)) X.1 (32 * k) (slC X.1 (fun _ => V0)) := by
  induction k with
  | zero =>
    refine Prod.ext rfl (funext fun x => ?_)
    show X.2 x = (if X.1 ≤ x ∧ x < X.1 + 32 * 0 then _ else X.2 x)
    rw [if_neg (by omega)]
  | succ k ih =>
    refine Prod.ext ?_ (funext fun x => ?_)
    · rw [hsQ_1]; rfl
    · show (if (hsQ k X).1 ≤ x ∧ x < (hsQ k X).1 + 32 then some (cC (hsQ k X).1 V0 (x - (hsQ k X).1)) else (hsQ k X).2 x) = (if X.1 ≤ x ∧ x < X.1 + 32 * (k + 1) then some (cC (X.1 + 32 * ((x - X.1) / 32)) V0 ((x - X.1) % 32)) else X.2 x)
      rw [hsQ_1]
      by_cases c : X.1 + 32 * k ≤ x ∧ x < X.1 + 32 * k + 32
      · rw [if_pos c, if_pos (by omega), show (x - X.1) / 32 = k by omega, show (x - X.1) % 32 = x - (X.1 + 32 * k) by omega]
      · rw [if_neg c, ih]
        show (if X.1 ≤ x ∧ x < X.1 + 32 * k then some (cC (X.1 + 32 * ((x - X.1) / 32)) V0 ((x - X.1) % 32)) else X.2 x) = _
        by_cases c2 : X.1 ≤ x ∧ x < X.1 + 32 * k
        · rw [if_pos c2, if_pos (by omega)]
        · rw [if_neg c2, if_neg (by omega)]
def hRow (r k : Nat) : Nat → Option Nat := fun j => if j < k then some (r + 2 + 32 * j) else none
theorem hRow_s (r k : Nat) : va_up (hRow r k) k (some (r + 2 + 32 * k)) = hRow r (k + 1) := by
  funext j
  unfold va_up hRow
  by_cases c : j = k
  · subst c
    rw [if_pos rfl, if_pos (by omega)]
  · rw [if_neg c]
    by_cases c2 : j < k
    · rw [if_pos c2, if_pos (by omega)]
    · rw [if_neg c2, if_neg (by omega)]
theorem qs_n {k : Nat} {f : Nat → Option Nat} {fs : List Value} {v : Nat} (h : k < 6) : z_qs (some (z_Q 6 f)) (some (z_O 0 fs)) (nI k) v = some (z_Q 6 (va_up f k (some v))) := by
  simp only [z_qs, ixb_n h (show 6 < 2 ^ 31 by omega), nI_clamp (show k < 2 ^ 31 by omega), z_isO]
  rfl
theorem h27 (M : z_M) {X : z_M} {f : Nat → Option Nat} {k : Nat} (hk : k < 6) (h1 : X.1 = M.1 + 2 + 32 * k) (h2 : X.2 M.1 = some (z_O 3 [.ref (M.1 + 1), .int (nI 0), .int (nI 0)])) (h3 : X.2 (M.1 + 1) = some (z_Q 6 f)) : z_ex 27 (M.1 + 194) 15 [some (.ref M.1), some (.int (nI k))] [] X = z_ex 27 (M.1 + 194) 15 [some (.ref M.1), some (.int (nI (k + 1)))] [] (z_up (cS (gw X 32) X.1 V0) (M.1 + 1) (z_Q 6 (va_up f k (some X.1)))) := by
  have hg : z_gf (X.2 M.1) 3 0 = some (.ref (M.1 + 1)) := by rw [h2]; rfl
  have l1 : X.1 + 1 ≤ M.1 + 194 := by omega
  have l2 : (z_nw X (.inr (0, z_df 0))).1 + 31 ≤ M.1 + 194 := by show X.1 + 1 + 31 ≤ _; omega
  have r1 : (cS (gw X 32) X.1 V0).2 (M.1 + 1) = some (z_Q 6 f) := by rw [cS_out (by omega)]; exact h3
  have hq : z_qs ((cS (gw X 32) X.1 V0).2 (M.1 + 1)) ((cS (gw X 32) X.1 V0).2 X.1) (nI k) X.1 = some (z_Q 6 (va_up f k (some X.1))) := by
    rw [r1, crd0]; exact qs_n hk
  have hn : ¬ (6 : Int32) ≤ nI k := by
    show ¬ nI 6 ≤ nI k
    rw [nLe (by omega) (by omega)]; omega
  rw [q27_15, q27_16, q27_18, if_neg hn, q27_21, q27_22, hg, z_pv_some, q27_25, q27_26, if_pos l1, q27_29, q27_30 _ _ _ _ _ _ _ _ l2, j0, z_cv_n, q27_33, hq, z_wv_some, q27_34, q27_37]
  rw [show nI k + 1 = nI (k + 1) by simp only [lits, nI_add]]
theorem j27 (M : z_M) : z_cl 27 [.ref M.1] (z_nw M (.inr (3, z_df 3))) = some (none, hS (slS (gw M 194) (M.1 + 2) (fun _ => V0)) M.1 O0) := by
  rw [nw_ls, e27]
  have s0 : z_ex 27 ((ls M [.inr (3, z_df 3)]).1 + 193) 0 [some (.ref M.1), none] [] (ls M [.inr (3, z_df 3)]) = z_ex 27 (M.1 + 194) 15 [some (.ref M.1), some (.int (nI 0))] [] (hsQ 0 (ls M [z_O 3 [.ref (M.1 + 1), .int (nI 0), .int (nI 0)], z_Q 6 (hRow M.1 0)])) := by
    have e : hRow M.1 0 = fun _ => none := by funext j; unfold hRow; rw [if_neg (by omega)]
    rw [e]
    show _ = z_ex 27 (M.1 + 194) 15 [some (.ref M.1), some (.int (nI 0))] [] (ls M [z_O 3 [.ref (M.1 + 1), .int (nI 0), .int (nI 0)], z_Q 6 (fun _ => none)])
    simp (disch := first | rfl | omega | (simp only [ls_1, List.length_cons, List.length_nil, Nat.zero_add, Nat.add_assoc, Nat.reduceAdd, Nat.reduceLT, Nat.add_le_add_iff_left, Nat.reduceLeDiff, Nat.le_refl]; done) | (simp only [lits, true_or]; done)) only [q27_0, q27_1, q27_4, q27_5, q27_7, q27_10, q27_13, q27_14, ls_1, ls_nw, ls_rd, ls_rd0, ls_up, ls_up0, z_pf, z_gf, z_df, List.cons_append, List.nil_append, List.length_cons, List.length_nil, List.getElem?_cons_zero, List.getElem?_cons_succ, List.set_cons_zero, List.set_cons_succ, Nat.add_zero, Nat.zero_add, Nat.add_assoc, Nat.reduceAdd, Nat.reduceLT, Nat.reduceLeDiff, Nat.add_le_add_iff_left, Nat.le_refl, z_pv_some, z_wv_some, z_cv_v, z_cv_n, ↓mI_eq, lits, l_64, nLt, nLe, nI_clamp, nI_add, is_n, fs_n, ia_n, Nat.lt_irrefl, Nat.not_lt_zero, Nat.zero_lt_succ, if_true, if_false, not_true_eq_false, not_false_eq_true, and_self, and_true, true_and]
  have st : ∀ k, k < 6 → z_ex 27 (M.1 + 194) 15 [some (.ref M.1), some (.int (nI k))] [] (hsQ k (ls M [z_O 3 [.ref (M.1 + 1), .int (nI 0), .int (nI 0)], z_Q 6 (hRow M.1 k)])) = z_ex 27 (M.1 + 194) 15 [some (.ref M.1), some (.int (nI (k + 1)))] [] (hsQ (k + 1) (ls M [z_O 3 [.ref (M.1 + 1), .int (nI 0), .int (nI 0)], z_Q 6 (hRow M.1 (k + 1))])) := by
    intro k hk
    have hB1 : ∀ f, (ls M [z_O 3 [.ref (M.1 + 1), .int (nI 0), .int (nI 0)], z_Q 6 f]).1 = M.1 + 2 := fun f => rfl
    have e1 : (hsQ k (ls M [z_O 3 [.ref (M.1 + 1), .int (nI 0), .int (nI 0)], z_Q 6 (hRow M.1 k)])).1 = M.1 + 2 + 32 * k := by rw [hsQ_1, hB1]
    refine (h27 M (f := hRow M.1 k) hk e1 ?_ ?_).trans ?_
    · rw [hsQ_rd _ _ (by rw [hB1]; omega), ls_rd0]
    · rw [hsQ_rd _ _ (by rw [hB1]; omega), ls_rd _ _ (by simp only [List.length_cons, List.length_nil]; omega)]
      rfl
    · rw [e1, hRow_s]
      congr 1
      rw [cS_wr_out (by omega), gw_up, hsQ_up _ _ _ (by rw [hB1]; omega), ls_up _ _ (by simp only [List.length_cons, List.length_nil]; omega)]
      show cS (gw (hsQ k (ls M [z_O 3 [.ref (M.1 + 1), .int (nI 0), .int (nI 0)], z_Q 6 (hRow M.1 (k + 1))])) 32) (M.1 + 2 + 32 * k) V0 = cS (gw (hsQ k (ls M [z_O 3 [.ref (M.1 + 1), .int (nI 0), .int (nI 0)], z_Q 6 (hRow M.1 (k + 1))])) 32) (hsQ k (ls M [z_O 3 [.ref (M.1 + 1), .int (nI 0), .int (nI 0)], z_Q 6 (hRow M.1 (k + 1))])).1 V0
      rw [hsQ_1, hB1]
  rw [s0, st 0 (by omega), st 1 (by omega), st 2 (by omega), st 3 (by omega), st 4 (by omega), st 5 (by omega)]
  have fin : hsQ 6 (ls M [z_O 3 [.ref (M.1 + 1), .int (nI 0), .int (nI 0)], z_Q 6 (hRow M.1 6)]) = hS (slS (gw M 194) (M.1 + 2) (fun _ => V0)) M.1 O0 := by
    rw [hsQ_rg]
    have e2 : ls M [z_O 3 [.ref (M.1 + 1), .int (nI 0), .int (nI 0)], z_Q 6 (hRow M.1 6)] = rg (gw M 2) M.1 2 (hC M.1 O0) := ls_rg M _ (hC M.1 O0) (fun k hk => match k, hk with
      | 0, _ => rfl
      | 1, _ => rfl
      | n + 2, h => absurd h (by simp only [List.length_cons, List.length_nil]; omega))
    rw [e2]
    show rg (rg (gw M 194) M.1 2 (hC M.1 O0)) (M.1 + 2) 192 (slC (M.1 + 2) (fun _ => V0)) = rg (rg (gw M 194) (M.1 + 2) 192 (slC (M.1 + 2) (fun _ => V0))) M.1 2 (hC M.1 O0)
    exact rg_comm (by omega)
  rw [fin, q27_15, q27_16, q27_18, if_pos (show (6 : Int32) ≤ nI (5 + 1) by decide)]
  exact q27_40 _ _ _ _ rfl
theorem slS_out {M : z_M} {h y : Nat} {Hs : Nat → z_V} (c : y < h ∨ h + 192 ≤ y) : (slS M h Hs).2 y = M.2 y := rg_out c
theorem slS_wr_out {M : z_M} {h y : Nat} {Hs : Nat → z_V} {e : z_E} (c : y < h ∨ h + 192 ≤ y) : z_up (slS M h Hs) y e = slS (z_up M y e) h Hs := rg_wr_out c
theorem pf10 {fs : List Value} {k : Nat} {v : Value} (h : k < fs.length) : z_pf (some (.inr (10, fs))) 10 k v = some (.inr (10, fs.set k v)) := by
  unfold z_pf
  exact if_pos ⟨rfl, h⟩
theorem j71 (M : z_M) : z_cl 71 [.ref M.1] (z_nw M (.inr (10, z_df 10))) = some (none, gM (gw M 272) M.1 V0 V0 O0 O0 O0 (fun _ => V0)) := by
  rw [e71]
  show z_ex 71 (M.1 + 1 + 271) 0 [some (.ref M.1)] [] (z_nw M (.inr (10, [.null, .null, .null, .null, .null]))) = _
  have z0 : z_nw M (.inr (10, [.null, .null, .null, .null, .null])) = gw (z_up M M.1 (.inr (10, [.null, .null, .null, .null, .null]))) 1 := rfl
  have hu : ∀ (e : z_E) k, (gw (z_up M M.1 e) k).2 M.1 = some e := fun e k => if_pos rfl
  have huu : ∀ (e e' : z_E) k, z_up (gw (z_up M M.1 e) k) M.1 e' = gw (z_up M M.1 e') k := by
    intro e e' k
    refine Prod.ext rfl (funext fun x => ?_)
    show (if x = M.1 then some e' else if x = M.1 then some e else M.2 x) = (if x = M.1 then some e' else M.2 x)
    by_cases c : x = M.1
    · rw [if_pos c, if_pos c]
    · rw [if_neg c, if_neg c, if_neg c]
  rw [z0, q71_0, q71_1]
  have g0 : z_ex 71 (M.1 + 1 + 271) 4 [some (.ref M.1)] [] (gw (z_up M M.1 (.inr (10, [.null, .null, .null, .null, .null]))) 1) = z_ex 71 (M.1 + 1 + 271) 15 [some (.ref M.1)] [] (cS (gw (z_up M M.1 (.inr (10, [.ref (M.1 + 1), .null, .null, .null, .null]))) 33) (M.1 + 1) V0) := by
    have hj := j0 (gw (z_up M M.1 (.inr (10, [.null, .null, .null, .null, .null]))) 1)
    replace hj : z_cl 0 [.ref (M.1 + 1)] (z_nw (gw (z_up M M.1 (.inr (10, [.null, .null, .null, .null, .null]))) 1) (.inr (0, z_df 0))) = some (none, cS (gw (z_up M M.1 (.inr (10, [.null, .null, .null, .null, .null]))) 33) (M.1 + 1) V0) := hj
    have hr : (cS (gw (z_up M M.1 (.inr (10, [.null, .null, .null, .null, .null]))) 33) (M.1 + 1) V0).2 M.1 = some (.inr (10, [.null, .null, .null, .null, .null])) := by
      rw [cS_out (by omega), hu]
    have hw : z_up (cS (gw (z_up M M.1 (.inr (10, [.null, .null, .null, .null, .null]))) 33) (M.1 + 1) V0) M.1 (.inr (10, [.ref (M.1 + 1), .null, .null, .null, .null])) = cS (gw (z_up M M.1 (.inr (10, [.ref (M.1 + 1), .null, .null, .null, .null]))) 33) (M.1 + 1) V0 := by
      rw [cS_wr_out (by omega), huu]
    have hp : z_pf ((cS (gw (z_up M M.1 (.inr (10, [.null, .null, .null, .null, .null]))) 33) (M.1 + 1) V0).2 M.1) 10 0 (.ref (M.1 + 1)) = some (.inr (10, [.ref (M.1 + 1), .null, .null, .null, .null])) := by
      rw [hr, pf10 (by simp only [List.length_cons, List.length_nil]; omega)]
      rfl
    have l1 : (gw (z_up M M.1 (.inr (10, [.null, .null, .null, .null, .null]))) 1).1 + 1 ≤ M.1 + 1 + 271 := by show M.1 + 1 + 1 ≤ _; omega
    have l2 : (z_nw (gw (z_up M M.1 (.inr (10, [.null, .null, .null, .null, .null]))) 1) (.inr (0, z_df 0))).1 + 31 ≤ M.1 + 1 + 271 := by show M.1 + 1 + 1 + 31 ≤ _; omega
    rw [q71_4, q71_5, if_pos l1, q71_8]
    refine (q71_9 _ _ _ _ _ _ l2).trans ?_
    refine (congrArg (z_cv 71 (M.1 + 1 + 271) 12 [some (.ref M.1)] [.ref (M.1 + 1), .ref M.1]) hj).trans ?_
    rw [z_cv_n, q71_12, hp, z_wv_some, hw]
  have g1 : z_ex 71 (M.1 + 1 + 271) 15 [some (.ref M.1)] [] (cS (gw (z_up M M.1 (.inr (10, [.ref (M.1 + 1), .null, .null, .null, .null]))) 33) (M.1 + 1) V0) = z_ex 71 (M.1 + 1 + 271) 26 [some (.ref M.1)] [] (cS (cS (gw (z_up M M.1 (.inr (10, [.ref (M.1 + 1), .ref (M.1 + 33), .null, .null, .null]))) 65) (M.1 + 1) V0) (M.1 + 33) V0) := by
    have hj := j0 (cS (gw (z_up M M.1 (.inr (10, [.ref (M.1 + 1), .null, .null, .null, .null]))) 33) (M.1 + 1) V0)
    replace hj : z_cl 0 [.ref (M.1 + 33)] (z_nw (cS (gw (z_up M M.1 (.inr (10, [.ref (M.1 + 1), .null, .null, .null, .null]))) 33) (M.1 + 1) V0) (.inr (0, z_df 0))) = some (none, cS (cS (gw (z_up M M.1 (.inr (10, [.ref (M.1 + 1), .null, .null, .null, .null]))) 65) (M.1 + 1) V0) (M.1 + 33) V0) := hj
    have hr : (cS (cS (gw (z_up M M.1 (.inr (10, [.ref (M.1 + 1), .null, .null, .null, .null]))) 65) (M.1 + 1) V0) (M.1 + 33) V0).2 M.1 = some (.inr (10, [.ref (M.1 + 1), .null, .null, .null, .null])) := by
      rw [cS_out (by omega), cS_out (by omega), hu]
    have hw : z_up (cS (cS (gw (z_up M M.1 (.inr (10, [.ref (M.1 + 1), .null, .null, .null, .null]))) 65) (M.1 + 1) V0) (M.1 + 33) V0) M.1 (.inr (10, [.ref (M.1 + 1), .ref (M.1 + 33), .null, .null, .null])) = cS (cS (gw (z_up M M.1 (.inr (10, [.ref (M.1 + 1), .ref (M.1 + 33), .null, .null, .null]))) 65) (M.1 + 1) V0) (M.1 + 33) V0 := by
      rw [cS_wr_out (by omega), cS_wr_out (by omega), huu]
    have hp : z_pf ((cS (cS (gw (z_up M M.1 (.inr (10, [.ref (M.1 + 1), .null, .null, .null, .null]))) 65) (M.1 + 1) V0) (M.1 + 33) V0).2 M.1) 10 1 (.ref (M.1 + 33)) = some (.inr (10, [.ref (M.1 + 1), .ref (M.1 + 33), .null, .null, .null])) := by
      rw [hr, pf10 (by simp only [List.length_cons, List.length_nil]; omega)]
      rfl
    have l1 : (cS (gw (z_up M M.1 (.inr (10, [.ref (M.1 + 1), .null, .null, .null, .null]))) 33) (M.1 + 1) V0).1 + 1 ≤ M.1 + 1 + 271 := by show M.1 + 33 + 1 ≤ _; omega
    have l2 : (z_nw (cS (gw (z_up M M.1 (.inr (10, [.ref (M.1 + 1), .null, .null, .null, .null]))) 33) (M.1 + 1) V0) (.inr (0, z_df 0))).1 + 31 ≤ M.1 + 1 + 271 := by show M.1 + 33 + 1 + 31 ≤ _; omega
    rw [q71_15, q71_16, if_pos l1, q71_19]
    refine (q71_20 _ _ _ _ _ _ l2).trans ?_
    refine (congrArg (z_cv 71 (M.1 + 1 + 271) 23 [some (.ref M.1)] [.ref (M.1 + 33), .ref M.1]) hj).trans ?_
    rw [z_cv_n, q71_23, hp, z_wv_some, hw]
  have g2 : z_ex 71 (M.1 + 1 + 271) 26 [some (.ref M.1)] [] (cS (cS (gw (z_up M M.1 (.inr (10, [.ref (M.1 + 1), .ref (M.1 + 33), .null, .null, .null]))) 65) (M.1 + 1) V0) (M.1 + 33) V0) = z_ex 71 (M.1 + 1 + 271) 37 [some (.ref M.1)] [] (xS (cS (cS (gw (z_up M M.1 (.inr (10, [.ref (M.1 + 1), .ref (M.1 + 33), .ref (M.1 + 65), .null, .null]))) 73) (M.1 + 1) V0) (M.1 + 33) V0) (M.1 + 65) O0) := by
    have hj := j31 (cS (cS (gw (z_up M M.1 (.inr (10, [.ref (M.1 + 1), .ref (M.1 + 33), .null, .null, .null]))) 65) (M.1 + 1) V0) (M.1 + 33) V0)
    replace hj : z_cl 31 [.ref (M.1 + 65)] (z_nw (cS (cS (gw (z_up M M.1 (.inr (10, [.ref (M.1 + 1), .ref (M.1 + 33), .null, .null, .null]))) 65) (M.1 + 1) V0) (M.1 + 33) V0) (.inr (4, z_df 4))) = some (none, xS (cS (cS (gw (z_up M M.1 (.inr (10, [.ref (M.1 + 1), .ref (M.1 + 33), .null, .null, .null]))) 73) (M.1 + 1) V0) (M.1 + 33) V0) (M.1 + 65) O0) := hj
    have hr : (xS (cS (cS (gw (z_up M M.1 (.inr (10, [.ref (M.1 + 1), .ref (M.1 + 33), .null, .null, .null]))) 73) (M.1 + 1) V0) (M.1 + 33) V0) (M.1 + 65) O0).2 M.1 = some (.inr (10, [.ref (M.1 + 1), .ref (M.1 + 33), .null, .null, .null])) := by
      rw [xS_out (by omega), cS_out (by omega), cS_out (by omega), hu]
    have hw : z_up (xS (cS (cS (gw (z_up M M.1 (.inr (10, [.ref (M.1 + 1), .ref (M.1 + 33), .null, .null, .null]))) 73) (M.1 + 1) V0) (M.1 + 33) V0) (M.1 + 65) O0) M.1 (.inr (10, [.ref (M.1 + 1), .ref (M.1 + 33), .ref (M.1 + 65), .null, .null])) = xS (cS (cS (gw (z_up M M.1 (.inr (10, [.ref (M.1 + 1), .ref (M.1 + 33), .ref (M.1 + 65), .null, .null]))) 73) (M.1 + 1) V0) (M.1 + 33) V0) (M.1 + 65) O0 := by
      rw [xS_wr_out (by omega), cS_wr_out (by omega), cS_wr_out (by omega), huu]
    have hp : z_pf ((xS (cS (cS (gw (z_up M M.1 (.inr (10, [.ref (M.1 + 1), .ref (M.1 + 33), .null, .null, .null]))) 73) (M.1 + 1) V0) (M.1 + 33) V0) (M.1 + 65) O0).2 M.1) 10 2 (.ref (M.1 + 65)) = some (.inr (10, [.ref (M.1 + 1), .ref (M.1 + 33), .ref (M.1 + 65), .null, .null])) := by
      rw [hr, pf10 (by simp only [List.length_cons, List.length_nil]; omega)]
      rfl
    have l1 : (cS (cS (gw (z_up M M.1 (.inr (10, [.ref (M.1 + 1), .ref (M.1 + 33), .null, .null, .null]))) 65) (M.1 + 1) V0) (M.1 + 33) V0).1 + 1 ≤ M.1 + 1 + 271 := by show M.1 + 65 + 1 ≤ _; omega
    have l2 : (z_nw (cS (cS (gw (z_up M M.1 (.inr (10, [.ref (M.1 + 1), .ref (M.1 + 33), .null, .null, .null]))) 65) (M.1 + 1) V0) (M.1 + 33) V0) (.inr (4, z_df 4))).1 + 7 ≤ M.1 + 1 + 271 := by show M.1 + 65 + 1 + 7 ≤ _; omega
    rw [q71_26, q71_27, if_pos l1, q71_30]
    refine (q71_31 _ _ _ _ _ _ l2).trans ?_
    refine (congrArg (z_cv 71 (M.1 + 1 + 271) 34 [some (.ref M.1)] [.ref (M.1 + 65), .ref M.1]) hj).trans ?_
    rw [z_cv_n, q71_34, hp, z_wv_some, hw]
  have g3 : z_ex 71 (M.1 + 1 + 271) 37 [some (.ref M.1)] [] (xS (cS (cS (gw (z_up M M.1 (.inr (10, [.ref (M.1 + 1), .ref (M.1 + 33), .ref (M.1 + 65), .null, .null]))) 73) (M.1 + 1) V0) (M.1 + 33) V0) (M.1 + 65) O0) = z_ex 71 (M.1 + 1 + 271) 48 [some (.ref M.1)] [] (hS (slS (xS (cS (cS (gw (z_up M M.1 (.inr (10, [.ref (M.1 + 1), .ref (M.1 + 33), .ref (M.1 + 65), .ref (M.1 + 73), .null]))) 267) (M.1 + 1) V0) (M.1 + 33) V0) (M.1 + 65) O0) (M.1 + 75) (fun _ => V0)) (M.1 + 73) O0) := by
    have hj := j27 (xS (cS (cS (gw (z_up M M.1 (.inr (10, [.ref (M.1 + 1), .ref (M.1 + 33), .ref (M.1 + 65), .null, .null]))) 73) (M.1 + 1) V0) (M.1 + 33) V0) (M.1 + 65) O0)
    replace hj : z_cl 27 [.ref (M.1 + 73)] (z_nw (xS (cS (cS (gw (z_up M M.1 (.inr (10, [.ref (M.1 + 1), .ref (M.1 + 33), .ref (M.1 + 65), .null, .null]))) 73) (M.1 + 1) V0) (M.1 + 33) V0) (M.1 + 65) O0) (.inr (3, z_df 3))) = some (none, hS (slS (xS (cS (cS (gw (z_up M M.1 (.inr (10, [.ref (M.1 + 1), .ref (M.1 + 33), .ref (M.1 + 65), .null, .null]))) 267) (M.1 + 1) V0) (M.1 + 33) V0) (M.1 + 65) O0) (M.1 + 75) (fun _ => V0)) (M.1 + 73) O0) := hj
    have hr : (hS (slS (xS (cS (cS (gw (z_up M M.1 (.inr (10, [.ref (M.1 + 1), .ref (M.1 + 33), .ref (M.1 + 65), .null, .null]))) 267) (M.1 + 1) V0) (M.1 + 33) V0) (M.1 + 65) O0) (M.1 + 75) (fun _ => V0)) (M.1 + 73) O0).2 M.1 = some (.inr (10, [.ref (M.1 + 1), .ref (M.1 + 33), .ref (M.1 + 65), .null, .null])) := by
      rw [hS_out (by omega), slS_out (by omega), xS_out (by omega), cS_out (by omega), cS_out (by omega), hu]
    have hw : z_up (hS (slS (xS (cS (cS (gw (z_up M M.1 (.inr (10, [.ref (M.1 + 1), .ref (M.1 + 33), .ref (M.1 + 65), .null, .null]))) 267) (M.1 + 1) V0) (M.1 + 33) V0) (M.1 + 65) O0) (M.1 + 75) (fun _ => V0)) (M.1 + 73) O0) M.1 (.inr (10, [.ref (M.1 + 1), .ref (M.1 + 33), .ref (M.1 + 65), .ref (M.1 + 73), .null])) = hS (slS (xS (cS (cS (gw (z_up M M.1 (.inr (10, [.ref (M.1 + 1), .ref (M.1 + 33), .ref (M.1 + 65), .ref (M.1 + 73), .null]))) 267) (M.1 + 1) V0) (M.1 + 33) V0) (M.1 + 65) O0) (M.1 + 75) (fun _ => V0)) (M.1 + 73) O0 := by
      rw [hS_wr_out (by omega), slS_wr_out (by omega), xS_wr_out (by omega), cS_wr_out (by omega), cS_wr_out (by omega), huu]
    have hp : z_pf ((hS (slS (xS (cS (cS (gw (z_up M M.1 (.inr (10, [.ref (M.1 + 1), .ref (M.1 + 33), .ref (M.1 + 65), .null, .null]))) 267) (M.1 + 1) V0) (M.1 + 33) V0) (M.1 + 65) O0) (M.1 + 75) (fun _ => V0)) (M.1 + 73) O0).2 M.1) 10 3 (.ref (M.1 + 73)) = some (.inr (10, [.ref (M.1 + 1), .ref (M.1 + 33), .ref (M.1 + 65), .ref (M.1 + 73), .null])) := by
      rw [hr, pf10 (by simp only [List.length_cons, List.length_nil]; omega)]
      rfl
    have l1 : (xS (cS (cS (gw (z_up M M.1 (.inr (10, [.ref (M.1 + 1), .ref (M.1 + 33), .ref (M.1 + 65), .null, .null]))) 73) (M.1 + 1) V0) (M.1 + 33) V0) (M.1 + 65) O0).1 + 1 ≤ M.1 + 1 + 271 := by show M.1 + 73 + 1 ≤ _; omega
    have l2 : (z_nw (xS (cS (cS (gw (z_up M M.1 (.inr (10, [.ref (M.1 + 1), .ref (M.1 + 33), .ref (M.1 + 65), .null, .null]))) 73) (M.1 + 1) V0) (M.1 + 33) V0) (M.1 + 65) O0) (.inr (3, z_df 3))).1 + 193 ≤ M.1 + 1 + 271 := by show M.1 + 73 + 1 + 193 ≤ _; omega
    rw [q71_37, q71_38, if_pos l1, q71_41]
    refine (q71_42 _ _ _ _ _ _ l2).trans ?_
    refine (congrArg (z_cv 71 (M.1 + 1 + 271) 45 [some (.ref M.1)] [.ref (M.1 + 73), .ref M.1]) hj).trans ?_
    rw [z_cv_n, q71_45, hp, z_wv_some, hw]
  have g4 : z_ex 71 (M.1 + 1 + 271) 48 [some (.ref M.1)] [] (hS (slS (xS (cS (cS (gw (z_up M M.1 (.inr (10, [.ref (M.1 + 1), .ref (M.1 + 33), .ref (M.1 + 65), .ref (M.1 + 73), .null]))) 267) (M.1 + 1) V0) (M.1 + 33) V0) (M.1 + 65) O0) (M.1 + 75) (fun _ => V0)) (M.1 + 73) O0) = z_ex 71 (M.1 + 1 + 271) 59 [some (.ref M.1)] [] (tS (hS (slS (xS (cS (cS (gw (z_up M M.1 (.inr (10, [.ref (M.1 + 1), .ref (M.1 + 33), .ref (M.1 + 65), .ref (M.1 + 73), .ref (M.1 + 267)]))) 272) (M.1 + 1) V0) (M.1 + 33) V0) (M.1 + 65) O0) (M.1 + 75) (fun _ => V0)) (M.1 + 73) O0) (M.1 + 267) O0) := by
    have hj := j38 (hS (slS (xS (cS (cS (gw (z_up M M.1 (.inr (10, [.ref (M.1 + 1), .ref (M.1 + 33), .ref (M.1 + 65), .ref (M.1 + 73), .null]))) 267) (M.1 + 1) V0) (M.1 + 33) V0) (M.1 + 65) O0) (M.1 + 75) (fun _ => V0)) (M.1 + 73) O0)
    replace hj : z_cl 38 [.ref (M.1 + 267)] (z_nw (hS (slS (xS (cS (cS (gw (z_up M M.1 (.inr (10, [.ref (M.1 + 1), .ref (M.1 + 33), .ref (M.1 + 65), .ref (M.1 + 73), .null]))) 267) (M.1 + 1) V0) (M.1 + 33) V0) (M.1 + 65) O0) (M.1 + 75) (fun _ => V0)) (M.1 + 73) O0) (.inr (5, z_df 5))) = some (none, tS (hS (slS (xS (cS (cS (gw (z_up M M.1 (.inr (10, [.ref (M.1 + 1), .ref (M.1 + 33), .ref (M.1 + 65), .ref (M.1 + 73), .null]))) 272) (M.1 + 1) V0) (M.1 + 33) V0) (M.1 + 65) O0) (M.1 + 75) (fun _ => V0)) (M.1 + 73) O0) (M.1 + 267) O0) := hj
    have hr : (tS (hS (slS (xS (cS (cS (gw (z_up M M.1 (.inr (10, [.ref (M.1 + 1), .ref (M.1 + 33), .ref (M.1 + 65), .ref (M.1 + 73), .null]))) 272) (M.1 + 1) V0) (M.1 + 33) V0) (M.1 + 65) O0) (M.1 + 75) (fun _ => V0)) (M.1 + 73) O0) (M.1 + 267) O0).2 M.1 = some (.inr (10, [.ref (M.1 + 1), .ref (M.1 + 33), .ref (M.1 + 65), .ref (M.1 + 73), .null])) := by
      rw [tS_out (by omega), hS_out (by omega), slS_out (by omega), xS_out (by omega), cS_out (by omega), cS_out (by omega), hu]
    have hw : z_up (tS (hS (slS (xS (cS (cS (gw (z_up M M.1 (.inr (10, [.ref (M.1 + 1), .ref (M.1 + 33), .ref (M.1 + 65), .ref (M.1 + 73), .null]))) 272) (M.1 + 1) V0) (M.1 + 33) V0) (M.1 + 65) O0) (M.1 + 75) (fun _ => V0)) (M.1 + 73) O0) (M.1 + 267) O0) M.1 (.inr (10, [.ref (M.1 + 1), .ref (M.1 + 33), .ref (M.1 + 65), .ref (M.1 + 73), .ref (M.1 + 267)])) = tS (hS (slS (xS (cS (cS (gw (z_up M M.1 (.inr (10, [.ref (M.1 + 1), .ref (M.1 + 33), .ref (M.1 + 65), .ref (M.1 + 73), .ref (M.1 + 267)]))) 272) (M.1 + 1) V0) (M.1 + 33) V0) (M.1 + 65) O0) (M.1 + 75) (fun _ => V0)) (M.1 + 73) O0) (M.1 + 267) O0 := by
      rw [tS_wr_out (by omega), hS_wr_out (by omega), slS_wr_out (by omega), xS_wr_out (by omega), cS_wr_out (by omega), cS_wr_out (by omega), huu]
    have hp : z_pf ((tS (hS (slS (xS (cS (cS (gw (z_up M M.1 (.inr (10, [.ref (M.1 + 1), .ref (M.1 + 33), .ref (M.1 + 65), .ref (M.1 + 73), .null]))) 272) (M.1 + 1) V0) (M.1 + 33) V0) (M.1 + 65) O0) (M.1 + 75) (fun _ => V0)) (M.1 + 73) O0) (M.1 + 267) O0).2 M.1) 10 4 (.ref (M.1 + 267)) = some (.inr (10, [.ref (M.1 + 1), .ref (M.1 + 33), .ref (M.1 + 65), .ref (M.1 + 73), .ref (M.1 + 267)])) := by
      rw [hr, pf10 (by simp only [List.length_cons, List.length_nil]; omega)]
      rfl
    have l1 : (hS (slS (xS (cS (cS (gw (z_up M M.1 (.inr (10, [.ref (M.1 + 1), .ref (M.1 + 33), .ref (M.1 + 65), .ref (M.1 + 73), .null]))) 267) (M.1 + 1) V0) (M.1 + 33) V0) (M.1 + 65) O0) (M.1 + 75) (fun _ => V0)) (M.1 + 73) O0).1 + 1 ≤ M.1 + 1 + 271 := by show M.1 + 267 + 1 ≤ _; omega
    have l2 : (z_nw (hS (slS (xS (cS (cS (gw (z_up M M.1 (.inr (10, [.ref (M.1 + 1), .ref (M.1 + 33), .ref (M.1 + 65), .ref (M.1 + 73), .null]))) 267) (M.1 + 1) V0) (M.1 + 33) V0) (M.1 + 65) O0) (M.1 + 75) (fun _ => V0)) (M.1 + 73) O0) (.inr (5, z_df 5))).1 + 4 ≤ M.1 + 1 + 271 := by show M.1 + 267 + 1 + 4 ≤ _; omega
    rw [q71_48, q71_49, if_pos l1, q71_52]
    refine (q71_53 _ _ _ _ _ _ l2).trans ?_
    refine (congrArg (z_cv 71 (M.1 + 1 + 271) 56 [some (.ref M.1)] [.ref (M.1 + 267), .ref M.1]) hj).trans ?_
    rw [z_cv_n, q71_56, hp, z_wv_some, hw]
  rw [g0, g1, g2, g3, g4]
  rw [q71_59 _ _ _ (by show M.1 + 272 = M.1 + 1 + 271; omega)]
  refine congrArg (fun X => some (none, X)) ?_
  show tS (hS (slS (xS (cS (cS (gw (z_up M M.1 (.inr (10, [.ref (M.1 + 1), .ref (M.1 + 33), .ref (M.1 + 65), .ref (M.1 + 73), .ref (M.1 + 267)]))) 272) (M.1 + 1) V0) (M.1 + 33) V0) (M.1 + 65) O0) (M.1 + 75) (fun _ => V0)) (M.1 + 73) O0) (M.1 + 267) O0 = cS (xS (cS (hS (slS (tS (gw (z_up M M.1 (ob M.1)) 272) (M.1 + 267) O0) (M.1 + 75) (fun _ => V0)) (M.1 + 73) O0) (M.1 + 33) V0) (M.1 + 65) O0) (M.1 + 1) V0
  unfold ob
  unfold cS xS hS slS tS
  generalize gw (z_up M M.1 _) 272 = X
  rw [rg_comm (a := M.1 + 1) (n := 32) (b := M.1 + 33) (m := 32) (by omega), rg_comm (a := M.1 + 1) (n := 32) (b := M.1 + 65) (m := 8) (by omega), rg_comm (a := M.1 + 1) (n := 32) (b := M.1 + 75) (m := 192) (by omega), rg_comm (a := M.1 + 1) (n := 32) (b := M.1 + 73) (m := 2) (by omega), rg_comm (a := M.1 + 1) (n := 32) (b := M.1 + 267) (m := 5) (by omega), rg_comm (a := M.1 + 65) (n := 8) (b := M.1 + 75) (m := 192) (by omega), rg_comm (a := M.1 + 65) (n := 8) (b := M.1 + 73) (m := 2) (by omega), rg_comm (a := M.1 + 65) (n := 8) (b := M.1 + 267) (m := 5) (by omega), rg_comm (a := M.1 + 33) (n := 32) (b := M.1 + 75) (m := 192) (by omega), rg_comm (a := M.1 + 33) (n := 32) (b := M.1 + 73) (m := 2) (by omega), rg_comm (a := M.1 + 33) (n := 32) (b := M.1 + 267) (m := 5) (by omega), rg_comm (a := M.1 + 73) (n := 2) (b := M.1 + 267) (m := 5) (by omega), rg_comm (a := M.1 + 75) (n := 192) (b := M.1 + 267) (m := 5) (by omega)]
