/-! who is heard: a word of twenty bits -/
def hdOk (V : z_V) : Prop := ∀ p, p < 20 → ∃ k, k < 2 ^ 20 ∧ V.2.2.1 10 p = nI k
theorem bt_20 {x : Int32} (h : ∀ i, 20 ≤ i → i < 32 → bt x i = false) : ∃ k, k < 2 ^ 20 ∧ x = nI k := by
  refine ⟨x.toBitVec.toNat, ?_, ?_⟩
  · apply Nat.lt_pow_two_of_testBit
    intro i hi
    by_cases c : i < 32
    · exact h i hi c
    · apply Nat.testBit_lt_two_pow
      exact Nat.lt_of_lt_of_le x.toBitVec.isLt (Nat.pow_le_pow_right (by omega) (by omega))
  · apply Int32.toBitVec_inj.mp
    show x.toBitVec = BitVec.ofNat 32 x.toBitVec.toNat
    rw [BitVec.ofNat_toNat, BitVec.setWidth_eq]
theorem hear_20 (U : z_V) (l : Int32) : ∀ k, k ≤ 20 → ∀ i, 20 ≤ i → i < 32 → bt (it (hearS U l) k (0, nI 0)).2 i = false := by
  intro k
  induction k with
  | zero => intro _ i _ _; exact b_0 i
  | succ k ih =>
    intro hk i h1 h2
    show bt (hearS U l k (it (hearS U l) k (0, nI 0))).2 i = false
    have e := ih (by omega) i h1 h2
    generalize it (hearS U l) k (0, nI 0) = s at e
    unfold hearS
    split
    · show bt (s.2 ||| (nI 1 <<< (nI k &&& nI 31))) i = false
      rw [b_or, b_pow (show k < 32 by omega) h2, e]
      simp only [Bool.false_or, decide_eq_false_iff_not]
      omega
    · exact e
theorem hd_of {V W : z_V} (h : hdOk V) (e : W.2.2.1 10 = V.2.2.1 10) : hdOk W := fun p hp => by rw [e]; exact h p hp
theorem hd_hearP {V U : z_V} {J b p : Nat} (hJ : J ≤ 20) (h : hdOk V) : hdOk (hearP U J b p V) := by
  unfold hearP
  split
  · intro q hq
    show ∃ k, k < 2 ^ 20 ∧ upd (V.2.2.1 10) p _ q = nI k
    by_cases c : q = p
    · subst c
      rw [upd_eq]
      exact bt_20 (hear_20 U _ J hJ)
    · rw [upd_ne _ _ c]
      exact h q hq
  · exact h
theorem it_keep {α : Type} {P : α → Prop} {f : Nat → α → α} (hf : ∀ k a, P a → P (f k a)) : ∀ (n : Nat) (a : α), P a → P (it f n a) := by
  intro n
  induction n with
  | zero => intro a h; exact h
  | succ n ih => intro a h; exact hf n _ (ih a h)
theorem hd_letH {J B b : Nat} (hJ : J ≤ 20) (s : z_V × z_V) (h : hdOk s.2) : hdOk (letH J B b s).2 :=
  it_keep (P := hdOk) (fun k a ha => hd_hearP hJ ha) J s.2 h
theorem hd_tick {U V : z_V} {J S Hy B : Nat} (hC : okC V J S Hy B) (h : hdOk V) : hdOk (tick1 J S B (U, V)).2 := by
  have k := (begT_ok (M := (0, fun _ => none)) (c := 0) hC).1
  have h1 : hdOk (begT V J S B) := hd_of h (k.2.2.1 10 (by omega))
  have h2 : hdOk (it (letH J B) B (U, begT V J S B)).2 := it_keep (P := fun s : z_V × z_V => hdOk s.2) (fun k a ha => hd_letH hC.1.1 a ha) B (U, begT V J S B) h1
  exact hd_of h2 rfl
theorem okC_tick {U V : z_V} {J S Hy B : Nat} (hC : okC V J S Hy B) : okC (tick1 J S B (U, V)).2 J S Hy B :=
  (m10 (0, fun _ => none) 0 32 (by omega) V U J S Hy B hC (nI 1)).2
theorem hd_tck {U V : z_V} {J S Hy B : Nat} (hC : okC V J S Hy B) (h : hdOk V) (y : Int32) : hdOk (tckR V U J S B y).2.2 := by
  unfold tckR
  split
  · exact h
  · exact (it_keep (P := fun s : z_V × z_V => okC s.2 J S Hy B ∧ hdOk s.2) (f := fun _ s => tick1 J S B s) (fun k a ha => ⟨okC_tick (U := a.1) ha.1, hd_tick (U := a.1) ha.1 ha.2⟩) y.toNatClampNeg (U, V) ⟨hC, h⟩).2
theorem forg_10 (V : z_V) (p W : Nat) : (forg V p W).2.2.1 10 = V.2.2.1 10 := by
  unfold forg
  split <;> rfl
theorem hd_lvl {V : z_V} (h : hdOk V) (x y : Int32) : hdOk (lvlR V x y).2 := by
  unfold lvlR
  split
  · exact h
  · split
    · exact h
    · exact hd_of h rfl
theorem hd_trn {V : z_V} (h : hdOk V) (J : Nat) (x y : Int32) : hdOk (trnR V J x y).2 := by
  unfold trnR
  split
  · exact h
  · split
    · exact h
    · split
      · exact h
      · exact hd_of h rfl
theorem hd_adm {V : z_V} (h : hdOk V) (J : Nat) (x y : Int32) : hdOk (admR V J x y).2 := by
  unfold admR
  split
  · exact h
  · split
    · exact h
    · split
      · exact h
      · split
        · exact h
        · exact hd_of h rfl
theorem hd_dis {V : z_V} (h : hdOk V) (W : Nat) (x : Int32) : hdOk (disR V W x).2 := by
  unfold disR
  split
  · exact h
  · exact hd_of h (forg_10 V _ _)
theorem hd_mut {V : z_V} (h : hdOk V) (x : Int32) (y : Bool) : hdOk (mutR V x y).2 := by
  unfold mutR
  split
  · exact h
  · exact hd_of h rfl
theorem hd_sel {V : z_V} (h : hdOk V) (x y z w : Int32) : hdOk (selR V x y z w).2 := by
  unfold selR
  split
  · exact hd_of h rfl
  · exact h
theorem hd_flr {V : z_V} (h : hdOk V) (o : Bool) (y z w : Int32) : hdOk (flrR V o y z w).2 := by
  unfold flrR
  split
  · exact hd_of h rfl
  · exact h
theorem hd_ask {V : z_V} (h : hdOk V) (x y : Int32) : hdOk (askR V x y).2 := by
  unfold askR
  split
  · exact h
  · split
    · exact h
    · split
      · exact h
      · unfold enqR
        split
        · exact h
        · exact hd_of h rfl
theorem hd_yie {V : z_V} (h : hdOk V) (x : Int32) : hdOk (yieR V x).2 := by
  unfold yieR
  split
  · exact h
  · split
    · exact h
    · exact hd_of h (forg_10 V _ _)
theorem hd_link {V : z_V} (h : hdOk V) (B : Nat) (x y : Int32) (z : Bool) : hdOk (linkR V B x y z).2 := by
  unfold linkR
  split
  · exact h
  · split
    · exact h
    · split
      · exact h
      · exact hd_of h rfl
theorem hd_ex {U V : z_V} {J S Hy B : Nat} (hC : okC V J S Hy B) (h : hdOk V) (l x y : Int32) : hdOk (exR J S B l x y U V).2.2 := by
  unfold exR
  split
  · exact hd_lvl h x y
  · split
    · exact hd_trn h J x y
    · split
      · exact hd_ask h x y
      · split
        · exact hd_tck hC h x
        · split
          · exact hd_yie h x
          · exact hd_mut h x _
