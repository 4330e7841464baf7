/-! foretell: what is heard and sent has no part in who speaks -/
def rp (Q W : z_V) : z_V := (W.1, W.2.1, fun i => if i = 10 ∨ i = 16 ∨ i = 17 ∨ i = 18 then Q.2.2.1 i else W.2.2.1 i, fun i => if i = 0 then W.2.2.2 i else Q.2.2.2 i)
section
variable (Q : z_V)
theorem rp_A {W : z_V} {i : Nat} (h : ¬ (i = 10 ∨ i = 16 ∨ i = 17 ∨ i = 18)) : (rp Q W).2.2.1 i = W.2.2.1 i := if_neg h
theorem rp_F (W : z_V) : (rp Q W).2.2.2 0 = W.2.2.2 0 := rfl
theorem rp_S (W : z_V) : (rp Q W).1 = W.1 := rfl
theorem rp_T (W : z_V) : (rp Q W).2.1 = W.2.1 := rfl
theorem sS_rp (W : z_V) (i : Nat) (x : Int32) : sS (rp Q W) i x = rp Q (sS W i x) := rfl
theorem sA_rp (W : z_V) {i : Nat} (f : Nat → Int32) (h : ¬ (i = 10 ∨ i = 16 ∨ i = 17 ∨ i = 18)) : sA (rp Q W) i f = rp Q (sA W i f) := by
  refine V_ext rfl rfl (funext fun j => ?_) rfl
  show (if j = i then f else if j = 10 ∨ j = 16 ∨ j = 17 ∨ j = 18 then Q.2.2.1 j else W.2.2.1 j) = (if j = 10 ∨ j = 16 ∨ j = 17 ∨ j = 18 then Q.2.2.1 j else if j = i then f else W.2.2.1 j)
  by_cases c : j = i
  · rw [if_pos c, if_neg (by rw [c]; exact h), if_pos c]
  · rw [if_neg c, if_neg c]
theorem sF_rp (W : z_V) (f : Nat → UInt32) : sF (rp Q W) 0 f = rp Q (sF W 0 f) := by
  refine V_ext rfl rfl rfl (funext fun j => ?_)
  show (if j = 0 then f else if j = 0 then W.2.2.2 j else Q.2.2.2 j) = (if j = 0 then (if j = 0 then f else W.2.2.2 j) else Q.2.2.2 j)
  by_cases c : j = 0
  · rw [if_pos c, if_pos c, if_pos c]
  · rw [if_neg c, if_neg c, if_neg c]
theorem it_rp {f : Nat → z_V → z_V} (h : ∀ k W, f k (rp Q W) = rp Q (f k W)) (m : Nat) (W : z_V) : it f m (rp Q W) = rp Q (it f m W) := by
  induction m with
  | zero => rfl
  | succ m ih =>
    show f m (it f m (rp Q W)) = rp Q (f m (it f m W))
    rw [ih, h]
theorem ite_rp (p : Prop) [Decidable p] (A B : z_V) : (if p then rp Q A else rp Q B) = rp Q (if p then A else B) := by
  split <;> rfl
theorem ev_rp (W : z_V) (x y z : Int32) : evAdd (rp Q W) x y z = rp Q (evAdd W x y z) := by
  unfold evAdd nV
  simp only [rp_S, rp_A Q (W := W) (i := 19) (by omega), rp_A Q (W := W) (i := 20) (by omega), rp_A Q (W := W) (i := 21) (by omega)]
  rw [sA_rp Q _ _ (by omega), sA_rp Q _ _ (by omega), sA_rp Q _ _ (by omega), sS_rp, sS_rp]
  rfl
theorem updL_rp (p : Nat) (W : z_V) : updL (rp Q W) p = rp Q (updL W p) := by
  unfold updL pw
  simp only [rp_S, rp_T, rp_F, rp_A Q (W := W) (i := 3) (by omega), rp_A Q (W := W) (i := 5) (by omega), rp_A Q (W := W) (i := 6) (by omega), rp_A Q (W := W) (i := 7) (by omega)]
  rw [sF_rp, sA_rp Q _ _ (by omega), ite_rp]
theorem qAt_rp (W : z_V) (x : Int32) (m : Nat) : qAt (rp Q W) x m = qAt W x m := by
  induction m with
  | zero => rfl
  | succ m ih =>
    unfold qAt
    rw [ih, rp_A Q (by omega)]
theorem forg_rp (W : z_V) (p m : Nat) : forg (rp Q W) p m = rp Q (forg W p m) := by
  unfold forg
  rw [rp_A Q (W := W) (i := 13) (by omega), rp_A Q (W := W) (i := 11) (by omega), sA_rp Q _ _ (by omega), qAt_rp, sA_rp Q _ _ (by omega), sS_rp, ite_rp]
theorem grant_rp (W : z_V) (p m : Nat) : grantF (rp Q W) p m = rp Q (grantF W p m) := by
  unfold grantF
  rw [forg_rp, rp_A Q (i := 13) (by omega), rp_A Q (i := 14) (by omega), rp_A Q (i := 15) (by omega), sA_rp Q _ _ (by omega), sA_rp Q _ _ (by omega), sA_rp Q _ _ (by omega)]
theorem tHa_rp (W : z_V) (p : Nat) : tHa (rp Q W) p = rp Q (tHa W p) := by
  unfold tHa
  rw [rp_A Q (W := W) (i := 14) (by omega), rp_A Q (W := W) (i := 15) (by omega), rp_F, rp_T, sA_rp Q _ _ (by omega), sA_rp Q _ _ (by omega)]
theorem tH_rp (W : z_V) (p : Nat) : tH (rp Q W) p = rp Q (tH W p) := by
  unfold tH nV
  rw [tHa_rp]
  simp only [rp_S, rp_A Q (W := tHa W p) (i := 14) (by omega), rp_A Q (W := tHa W p) (i := 15) (by omega), forg_rp, ev_rp, ite_rp]
theorem tHs_rp (p : Nat) (W : z_V) : tHs p (rp Q W) = rp Q (tHs p W) := by
  unfold tHs
  rw [rp_A Q (by omega), tH_rp, ite_rp]
theorem gF_rp : ∀ (k : Nat) (s : Int32) (W : z_V), gF k s (rp Q W) = rp Q (gF k s W) := by
  intro k
  induction k with
  | zero => intro s W; rfl
  | succ k ih =>
    intro s W
    unfold gF q0
    rw [rp_A Q (W := W) (i := 11) (by omega), grant_rp, ev_rp, ih, rp_S, ite_rp]
theorem floor_rp (J : Nat) (W : z_V) : floorV J (rp Q W) = rp Q (floorV J W) := by
  unfold floorV nV
  rw [it_rp Q (tHs_rp Q), gF_rp, rp_S, rp_A Q (by omega)]
theorem mayS_rp (W : z_V) (b p : Nat) : mayS (rp Q W) b p = mayS W b p := by
  unfold mayS
  rw [rp_S, rp_A Q (W := W) (i := 3) (by omega), rp_A Q (W := W) (i := 6) (by omega), rp_A Q (W := W) (i := 13) (by omega)]
theorem drop_rp (W : z_V) (p : Nat) : dropS (rp Q W) p = rp Q (dropS W p) := by
  unfold dropS
  rw [rp_A Q (by omega), sA_rp Q _ _ (by omega), ev_rp, rp_S]
theorem choo_rp (W : z_V) (b p : Nat) : chooS (rp Q W) b p = rp Q (chooS W b p) := by
  unfold chooS
  rw [rp_A Q (by omega), sA_rp Q _ _ (by omega), ev_rp, rp_S]
theorem uS_rp (b p : Nat) (W : z_V) : uStep b p (rp Q W) = rp Q (uStep b p W) := by
  unfold uStep
  rw [mayS_rp, rp_S, rp_A Q (W := W) (i := 9) (by omega), rp_A Q (W := W) (i := 7) (by omega), drop_rp, ite_rp]
theorem quiet_rp (W : z_V) (b J : Nat) : quietV (rp Q W) b J = quietV W b J := by
  unfold quietV
  rw [rp_A Q (W := W) (i := 9) (by omega), rp_F]
theorem cand_rp (W : z_V) (b : Nat) : candS (rp Q W) b = candS W b := by
  funext k
  unfold candS
  rw [mayS_rp, rp_A Q (W := W) (i := 9) (by omega), rp_F, rp_T]
theorem loud_rp (W : z_V) (b J : Nat) : loudV (rp Q W) b J = loudV W b J := by
  unfold loudV
  rw [cand_rp, rp_F]
theorem surp_rp (b J : Nat) : ∀ (k : Nat) (W : z_V), surp b J k (rp Q W) = rp Q (surp b J k W) := by
  intro k
  induction k with
  | zero => intro W; rfl
  | succ k ih =>
    intro W
    unfold surp
    rw [quiet_rp, drop_rp, ih, ite_rp]
theorem fill_rp (b J : Nat) : ∀ (k : Nat) (W : z_V), fillP b J k (rp Q W) = rp Q (fillP b J k W) := by
  intro k
  induction k with
  | zero => intro W; rfl
  | succ k ih =>
    intro W
    unfold fillP
    rw [loud_rp, choo_rp, ih, ite_rp]
theorem repl_rp (b J : Nat) (W : z_V) : repl b J (rp Q W) = rp Q (repl b J W) := by
  unfold repl
  rw [loud_rp, quiet_rp, rp_F, rp_S, drop_rp, choo_rp, ite_rp, ite_rp]
theorem talk_rp (b p : Nat) (W : z_V) : talkS b p (rp Q W) = rp Q (talkS b p W) := by
  unfold talkS
  rw [rp_A Q (W := W) (i := 9) (by omega), rp_A Q (W := W) (i := 8) (by omega), sA_rp Q _ _ (by omega), ite_rp]
theorem selB_rp (J S b : Nat) (W : z_V) : selB J S b (rp Q W) = rp Q (selB J S b W) := by
  unfold selB
  rw [it_rp Q (uS_rp Q b), rp_A Q (W := it (uStep b) J W) (i := 9) (by omega), surp_rp]
  generalize surp b J (cnt (fun k => decide ((it (uStep b) J W).2.2.1 9 k = nI b)) J - S) (it (uStep b) J W) = W2
  rw [rp_A Q (W := W2) (i := 9) (by omega), fill_rp, repl_rp, it_rp Q (talk_rp Q b)]
theorem begT_rp (J S B : Nat) (W : z_V) : begT (rp Q W) J S B = rp Q (begT W J S B) := by
  unfold begT
  rw [rp_S, sS_rp, it_rp Q (f := fun p W => updL W p) (fun k W => updL_rp Q k W), floor_rp, ite_rp, it_rp Q (selB_rp Q J S)]
end
theorem rp_rp (P Q W : z_V) : rp P (rp Q W) = rp P W := by
  refine V_ext rfl rfl (funext fun j => ?_) (funext fun j => ?_)
  · show (if j = 10 ∨ j = 16 ∨ j = 17 ∨ j = 18 then P.2.2.1 j else if j = 10 ∨ j = 16 ∨ j = 17 ∨ j = 18 then Q.2.2.1 j else W.2.2.1 j) = (if j = 10 ∨ j = 16 ∨ j = 17 ∨ j = 18 then P.2.2.1 j else W.2.2.1 j)
    by_cases c : j = 10 ∨ j = 16 ∨ j = 17 ∨ j = 18
    · rw [if_pos c, if_pos c]
    · rw [if_neg c, if_neg c, if_neg c]
  · show (if j = 0 then (if j = 0 then W.2.2.2 j else Q.2.2.2 j) else P.2.2.2 j) = (if j = 0 then W.2.2.2 j else P.2.2.2 j)
    by_cases c : j = 0
    · rw [if_pos c, if_pos c, if_pos c]
    · rw [if_neg c, if_neg c]
theorem rp_of {V W : z_V} (h1 : V.1 = W.1) (h2 : V.2.1 = W.2.1) (h3 : ∀ i, ¬ (i = 10 ∨ i = 16 ∨ i = 17 ∨ i = 18) → V.2.2.1 i = W.2.2.1 i) (h4 : V.2.2.2 0 = W.2.2.2 0) : V = rp V W := by
  refine V_ext h1 h2 (funext fun j => ?_) (funext fun j => ?_)
  · show V.2.2.1 j = (if j = 10 ∨ j = 16 ∨ j = 17 ∨ j = 18 then V.2.2.1 j else W.2.2.1 j)
    by_cases c : j = 10 ∨ j = 16 ∨ j = 17 ∨ j = 18
    · rw [if_pos c]
    · rw [if_neg c, h3 j c]
  · show V.2.2.2 j = (if j = 0 then W.2.2.2 j else V.2.2.2 j)
    by_cases c : j = 0
    · rw [if_pos c, c, h4]
    · rw [if_neg c]
theorem tick_rp {V : z_V} {J S Hy B : Nat} (h : okC V J S Hy B) (U : z_V) : (tick1 J S B (U, V)).2 = rp (tick1 J S B (U, V)).2 (begT V J S B) := by
  have hb := okC_beg (M := (0, fun _ => none)) (c := 0) h
  obtain ⟨⟨hJ, h9⟩, -, -, ⟨hB, h8⟩, -, -, -, hd, hst, -, -⟩ := hb
  obtain ⟨-, k⟩ := m32 (0, fun _ => none) 0 32 (by omega) (begT V J S B) U J B hJ h9 hB h8 hd hst
  refine rp_of ?_ ?_ (fun i hi => ?_) ?_
  · exact k.1
  · exact k.2.1
  · have h1 : i ≠ 16 := fun e => hi (by omega)
    have h2 : i ≠ 17 := fun e => hi (by omega)
    have h3 : i ≠ 18 := fun e => hi (by omega)
    have h4 : i ≠ 10 := fun e => hi (by omega)
    show (arrV' (it (letH J B) B (U, begT V J S B)).2 (sent (it (letH J B) B (U, begT V J S B)).2 J B (it (letH J B) B (U, begT V J S B)).1)).2.2.1 i = _
    unfold arrV'
    simp only [sgets, h1, h2, h3, if_false]
    exact k.2.2.1 i h4
  · show (arrV' (it (letH J B) B (U, begT V J S B)).2 (sent (it (letH J B) B (U, begT V J S B)).2 J B (it (letH J B) B (U, begT V J S B)).1)).2.2.2 0 = _
    unfold arrV'
    simp only [sgets, Nat.reduceEqDiff, if_false]
    exact k.2.2.2.1 0 (by omega)
