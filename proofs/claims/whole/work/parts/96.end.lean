/-! the model at its beginning; both together; the law -/
theorem i107 (M : z_M) : z_cl 107 [.ref M.1] (ls M [.inr (11, z_df 11)]) = some (none, ls M [z_O 11 [.ref (M.1 + 1), .ref (M.1 + 2), .int (nI 0), .ref (M.1 + 3), .int (nI 0), .ref (M.1 + 4), .ref (M.1 + 5), .ref (M.1 + 6), .ref (M.1 + 7), .ref (M.1 + 8), .int (nI 0), .int (nI 0), .int (nI 0), .long 0], z_I 6797 (upd (upd (upd (upd (upd (upd (upd (upd (fun _ => nI 0) 0 (nI 2)) 1 (nI 10)) 2 (nI 6)) 3 (nI 3)) 5 (nI 1)) 6 (nI 10)) 11 (nI 1)) 13 mI), z_F 2072 (fun _ => 0), z_F 3 (vf_upd (vf_upd (vf_upd (fun _ => 0) 0 0x3f800000) 1 1067533592) 2 1070280693), z_I 20 (fun _ => nI 0), z_F 20 (fun _ => 0), z_I 576 (fun _ => nI 0), z_F 256 (fun _ => 0), z_I 100 (fun _ => nI 0)]) := by
  rw [e107]
  simp (disch := first | rfl | omega | (simp only [ls_1, List.length_cons, List.length_nil, Nat.zero_add, Nat.add_assoc, Nat.reduceAdd, Nat.reduceLT, Nat.add_le_add_iff_left, Nat.reduceLeDiff, Nat.le_refl]; done) | (simp only [lits, true_or]; done)) only [b107, ls_1, ls_nw, ls_rd, ls_rd0, ls_up, ls_up0, z_pf, z_gf, z_df, List.cons_append, List.nil_append, List.length_cons, List.length_nil, List.getElem?_cons_zero, List.getElem?_cons_succ, List.set_cons_zero, List.set_cons_succ, Nat.add_zero, Nat.zero_add, Nat.add_assoc, Nat.reduceAdd, Nat.reduceLT, Nat.reduceLeDiff, Nat.add_le_add_iff_left, Nat.le_refl, z_pv_some, z_wv_some, z_cv_v, z_cv_n, ↓mI_eq, lits, l_64, nLt, nLe, nI_clamp, nI_add, is_n, fs_n, ia_n, Nat.lt_irrefl, Nat.not_lt_zero, Nat.zero_lt_succ, if_true, if_false, not_true_eq_false, not_false_eq_true, and_self, and_true, true_and]
def bas : Nat → UInt32 := (vf_upd (vf_upd (vf_upd (fun _ => 0) 0 0x3f800000) 1 1067533592) 2 1070280693)
def Y0 : z_V := (fun i => if i = 0 then nI 2 else if i = 1 then nI 10 else if i = 2 then nI 6 else if i = 3 then nI 3 else if i = 5 then nI 1 else if i = 6 then nI 10 else if i = 11 then nI 1 else nI 0, 0, fun a => if a = 0 then upd (fun _ => nI 0) 0 mI else fun _ => nI 0, fun a => if a = 4 then bas else fun _ => 0)
theorem Y0_z {a x : Nat} (h : ¬ (a = 0 ∧ x = 0)) : Y0.2.2.1 a x = nI 0 := by
  show (if a = 0 then upd (fun _ => nI 0) 0 mI else fun _ => nI 0) x = nI 0
  by_cases c : a = 0
  · rw [if_pos c, upd_ne _ _ (by omega)]
  · rw [if_neg c]
theorem enc_0 : enc Y0 = (upd (upd (upd (upd (upd (upd (upd (upd (fun _ => nI 0) 0 (nI 2)) 1 (nI 10)) 2 (nI 6)) 3 (nI 3)) 5 (nI 1)) 6 (nI 10)) 11 (nI 1)) 13 mI) := by
  funext j
  by_cases c : j < 14
  · rcases (show j = 0 ∨ j = 1 ∨ j = 2 ∨ j = 3 ∨ j = 4 ∨ j = 5 ∨ j = 6 ∨ j = 7 ∨ j = 8 ∨ j = 9 ∨ j = 10 ∨ j = 11 ∨ j = 12 ∨ j = 13 by omega) with rfl | rfl | rfl | rfl | rfl | rfl | rfl | rfl | rfl | rfl | rfl | rfl | rfl | rfl <;> rfl
  · rw [upd_ne _ _ (by omega), upd_ne _ _ (by omega), upd_ne _ _ (by omega), upd_ne _ _ (by omega), upd_ne _ _ (by omega), upd_ne _ _ (by omega), upd_ne _ _ (by omega), upd_ne _ _ (by omega)]
    unfold enc
    rw [if_neg (by omega)]
    split
    · exact Y0_z (by omega)
    · split
      · exact Y0_z (by omega)
      · split
        · exact Y0_z (by omega)
        · split
          · split
            · exact Y0_z (by omega)
            · split
              · exact Y0_z (by omega)
              · exact Y0_z (by omega)
          · exact Y0_z (by omega)
theorem encS_0 : encS Y0 = fun _ => nI 0 := by
  funext j
  unfold encS
  split
  · exact Y0_z (by omega)
  · split
    · exact Y0_z (by omega)
    · exact Y0_z (by omega)
theorem encF_0 : encF Y0 = fun _ => 0 := by
  funext j
  unfold encF
  split
  · rfl
  · split
    · rfl
    · split
      · rfl
      · rfl
theorem j107 (M : z_M) : z_cl 107 [.ref M.1] (z_nw M (.inr (11, z_df 11))) = some (none, yS (gw M 9) M.1 Y0 0) := by
  rw [nw_ls, i107]
  refine congrArg (fun X => some (none, X)) (ls_rg M _ (oC M.1 (dec Y0) 0) (fun k hk => match k, hk with
    | 0, _ => rfl
    | 1, _ => congrArg (fun f => some (z_I 6797 f)) enc_0.symm
    | 2, _ => congrArg (fun f => some (z_F 2072 f)) encF_0.symm
    | 3, _ => rfl
    | 4, _ => rfl
    | 5, _ => rfl
    | 6, _ => congrArg (fun f => some (z_I 576 f)) encS_0.symm
    | 7, _ => rfl
    | 8, _ => rfl
    | n + 9, h => absurd h (by simp only [List.length_cons, List.length_nil]; omega)))
theorem spk_m {p : Nat} : ∀ n, p < n → spk n p = mI := by
  intro n
  induction n with
  | zero => intro h; omega
  | succ n ih =>
    intro h
    show upd (spk n) n mI p = mI
    by_cases c : p = n
    · subst c; rw [upd_eq]
    · rw [upd_ne _ _ c]; exact ih (by omega)
theorem tb_0 : ∀ p, p < 20 → tb (nI 0) p = false := by decide
theorem okC_0 : okC V0 0 2 6 1 := by
  refine ⟨⟨by omega, rfl⟩, ⟨by omega, rfl⟩, ⟨by omega, rfl⟩, ⟨by omega, rfl⟩, ⟨0, 0, by omega, by omega, rfl, rfl⟩, ⟨0, by omega, rfl, fun k hk => by omega⟩, fun p hp => ⟨0, by omega, rfl⟩, fun p hp => ?_, fun w hw => ⟨0, by omega, rfl, fun i hi => by omega⟩, fun b hb => ⟨0, by omega, rfl⟩, fun p hp => ?_⟩
  · show (0 : UInt32) ≤ 0x49800000
    decide
  · show (0 : UInt32) ≤ sb 20
    exact UInt32.le_iff_toNat_le.mpr (Nat.zero_le _)
theorem Rl_init : Rl 0 0 2 6 1 V0 Y0 := by
  refine ⟨okC_0, ⟨false, rfl⟩, ⟨by omega, by omega⟩, ⟨⟨10, by omega, rfl, rfl⟩, rfl, rfl, rfl, rfl, rfl, rfl, rfl, rfl, rfl, rfl⟩, ⟨rfl, rfl, rfl, rfl, rfl, rfl, rfl, rfl, rfl, rfl, rfl, rfl, rfl⟩, ?_, ?_, ?_, ?_, ?_⟩
  · refine ⟨fun p hp => by omega, fun p hp => by omega, fun p hp _ => ⟨rfl, rfl, rfl⟩, fun p hp => Or.inl rfl, rfl, fun b hb => Nat.zero_le _, fun p hp => Or.inl rfl⟩
  · intro p hp
    have e : V0.2.2.1 9 p = mI := spk_m 20 hp
    refine ⟨Or.inl e, fun _ => e, fun b hb => ?_⟩
    rw [e]
    show tb (nI 0) p = _
    rw [tb_0 p hp]
    symm
    rw [decide_eq_false_iff_not, mI_ne' (by omega)]
    exact not_false
  · exact ⟨0, 0, by omega, by omega, rfl, rfl, rfl, fun i hi => by omega⟩
  · exact ⟨0, 0, fun _ => 0, fun _ => 0, fun _ => 0, by omega, by omega, rfl, rfl, fun k hk => by omega, fun k l _ hl => by omega, fun p hp => by omega⟩
  · refine ⟨fun y x hy hx => ⟨fun _ => rfl, fun w _ hw => ⟨rfl, fun k hk => ?_⟩⟩, fun b _ _ => ⟨rfl, rfl⟩, fun y x _ _ _ => rfl, rfl, fun b hb hb2 => by omega⟩
    have e : (V0.2.2.1 16 w).toNatClampNeg = 0 := rfl
    omega
theorem inv_0 : inv 0 V0 O0 O0 (fun _ => V0) Y0 :=
  ⟨0, 2, 6, 1, 0, 0, 0, fun _ => V0, Rl_init, fun p _ => ⟨0, by omega, rfl⟩, ⟨by omega, by omega, rfl, rfl⟩, ⟨by omega, rfl, fun k a b => by omega⟩, ⟨by omega, rfl, rfl, rfl, fun i hi => by omega⟩, rfl, ⟨rfl, rfl, rfl⟩, fun t ht => by omega⟩
theorem z_law : z_Law := by
  intro n b L xs hb hL
  have a1 := j71 (z_M0 n b L xs)
  have a2 := j107 (gM (gw (z_M0 n b L xs) 272) n V0 V0 O0 O0 O0 (fun _ => V0))
  have e2 : yS (gw (gM (gw (z_M0 n b L xs) 272) n V0 V0 O0 O0 O0 (fun _ => V0)) 9) (n + 272) Y0 0 = gM (yS (gw (z_M0 n b L xs) 281) (n + 272) Y0 0) n V0 V0 O0 O0 O0 (fun _ => V0) := by
    rw [gM_yS]
    rfl
  replace a1 : z_cl 71 [.ref n] (z_nw (z_M0 n b L xs) (.inr (10, z_df 10))) = some (none, gM (gw (z_M0 n b L xs) 272) n V0 V0 O0 O0 O0 (fun _ => V0)) := a1
  replace a2 : z_cl 107 [.ref (n + 272)] (z_nw (gM (gw (z_M0 n b L xs) 272) n V0 V0 O0 O0 O0 (fun _ => V0)) (.inr (11, z_df 11))) = some (none, yS (gw (gM (gw (z_M0 n b L xs) 272) n V0 V0 O0 O0 O0 (fun _ => V0)) 9) (n + 272) Y0 0) := a2
  rw [e2] at a2
  have hM : (gw (z_M0 n b L xs) 281).2 b = some (scp L xs) := if_pos rfl
  have e' := law_lp hL hb hM (L + 1) L 0 0 V0 V0 O0 O0 O0 Y0 (fun _ => V0) 0 (by omega) (by omega) (by omega) inv_0
  obtain ⟨M', e⟩ := e'
  refine ⟨M', ?_⟩
  have l1 : (z_M0 n b L xs).1 + 1 ≤ n + 281 := by show n + 1 ≤ _; omega
  have l2 : (z_nw (z_M0 n b L xs) (.inr (10, z_df 10))).1 + 271 ≤ n + 281 := by show n + 1 + 271 ≤ _; omega
  have l3 : (gM (gw (z_M0 n b L xs) 272) n V0 V0 O0 O0 O0 (fun _ => V0)).1 + 1 ≤ n + 281 := by rw [gM_1]; show n + 272 + 1 ≤ _; omega
  have l4 : (z_nw (gM (gw (z_M0 n b L xs) 272) n V0 V0 O0 O0 O0 (fun _ => V0)) (.inr (11, z_df 11))).1 + 8 ≤ n + 281 := by
    show (gM (gw (z_M0 n b L xs) 272) n V0 V0 O0 O0 O0 (fun _ => V0)).1 + 1 + 8 ≤ _
    rw [gM_1]
    show n + 272 + 1 + 8 ≤ _
    omega
  rw [q192_0, if_pos l1, q192_3]
  refine (q192_4 _ _ _ _ _ _ _ _ l2).trans ?_
  refine (congrArg (z_cv 192 (n + 281) 7 [some (.ref b), none, none, none] [.ref n]) a1).trans ?_
  rw [z_cv_n, q192_7, q192_8, if_pos l3, q192_11]
  refine (q192_12 _ _ _ _ _ _ _ _ l4).trans ?_
  refine (congrArg (z_cv 192 (n + 281) 15 [some (.ref b), some (.ref n), none, none] [.ref (n + 272)]) a2).trans ?_
  rw [z_cv_n, q192_15, q192_16, q192_17]
  exact e
