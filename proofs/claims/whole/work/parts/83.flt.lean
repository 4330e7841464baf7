/-! floats: what the library's laws give -/
section
theorem num_iff (a : UInt32) : z_num a = true ↔ FP.Core.val32 a ≠ .nan := by
  unfold z_num
  rw [decide_eq_true_eq, UInt32.le_iff_toNat_le, FP.Core.mask_toNat32, FP.Core.ne_nan32]
  exact Iff.rfl
theorem num_fin {a : UInt32} (h : FP.Core.FFin a) : z_num a = true := (num_iff a).mpr h.ne_nan
theorem num_out {a : UInt32} (h : FP.Core.fIsNaN a = false) : z_num a = true := (num_iff a).mpr ((FP.Core.notNaN_iff32 a).mp h)
/-- a float's value, in units of the least one -/
def fU (a : UInt32) : Int := FP.Core.zval FP.Core.b32 (FP.Core.val32 a)
def uO (m : Nat) : Nat := FP.Core.unitsOf FP.Core.b32 m
theorem lo_fin {a : UInt32} (h : a.toNat < 2139095040) : ∃ c q, FP.Core.val32 a = .fin false c q := by
  obtain ⟨s, c, q, e⟩ := (FP.Core.fin_bits32 a).mpr (by omega)
  have := FP.Core.sign_bits32 (a := a) (s := s) (Or.inl ⟨c, q, e⟩)
  cases s
  · exact ⟨c, q, e⟩
  · have := this.mp rfl
    omega
theorem lo_F {a : UInt32} (h : a.toNat < 2139095040) : FP.Core.FFin a := (FP.Core.fin_bits32 a).mpr (by omega)
theorem lo_U {a : UInt32} (h : a.toNat < 2139095040) : fU a = (uO a.toNat : Int) := by
  have hn := (lo_F h).ne_nan
  have := FP.Core.zmag_toNat32 hn
  unfold fU FP.Core.zval uO
  rw [this, Nat.mod_eq_of_lt (by omega), FP.Core.sgn_bits32 hn, decide_eq_false (by omega)]
  rfl
theorem uO_le {m k : Nat} : uO m ≤ uO k ↔ m ≤ k := FP.Core.unitsOf_le_iff
theorem uO_pow (j : Nat) (hj : j ≤ 200) : ∃ V : UInt32, V.toNat < 2139095040 ∧ uO V.toNat = 2 ^ j := by
  by_cases c : j < 23
  · have h1 : 2 ^ j < 2 ^ 23 := Nat.pow_lt_pow_right (by decide) c
    refine ⟨UInt32.ofNat (2 ^ j), ?_, ?_⟩
    · rw [UInt32.toNat_ofNat_of_lt' (by show 2 ^ j < 2 ^ 32; omega)]; omega
    · rw [UInt32.toNat_ofNat_of_lt' (by show 2 ^ j < 2 ^ 32; omega)]
      unfold uO FP.Core.unitsOf
      rw [FP.Core.tails_b32, if_pos h1]
  · have h2 : (j - 22) * 2 ^ 23 < 2 ^ 32 := by omega
    refine ⟨UInt32.ofNat ((j - 22) * 2 ^ 23), ?_, ?_⟩
    · rw [UInt32.toNat_ofNat_of_lt' (by exact h2)]; omega
    · rw [UInt32.toNat_ofNat_of_lt' (by exact h2)]
      have := FP.Core.unitsOf_start (f := FP.Core.b32) (K := j - 22) (by omega)
      rw [FP.Core.tails_b32] at this
      unfold uO
      rw [this, ← Nat.pow_add]
      congr 1
      omega
theorem neg_U {a : UInt32} (h : a.toNat < 2139095040) : ∃ V : UInt32, FP.Core.FFin V ∧ fU V = -fU a := by
  obtain ⟨c, q, e⟩ := lo_fin h
  have hv : (UInt32.ofNat (a.toNat + 2 ^ 31)).toNat = a.toNat + 2 ^ 31 := UInt32.toNat_ofNat_of_lt' (by show a.toNat + 2 ^ 31 < 2 ^ 32; omega)
  have e2 : FP.Core.val32 (UInt32.ofNat (a.toNat + 2 ^ 31)) = FP.Core.negate (FP.Core.val32 a) := FP.Core.val32_neg_bits (a := a) (Or.inr hv)
  refine ⟨UInt32.ofNat (a.toNat + 2 ^ 31), ⟨true, c, q, by rw [e2, e]; rfl⟩, ?_⟩
  unfold fU
  rw [e2, FP.Core.zval_negate]
theorem rnd_U {sg : Bool} {n : Nat} {e e0 : Int} {V : UInt32} (hV : FP.Core.FFin V) (h0 : e0 ≤ FP.Core.b32.qmin) (he : e0 ≤ e) : (FP.Core.signed sg (FP.Core.inUnits n e e0) ≤ fU V * ((2 ^ (FP.Core.b32.qmin - e0).toNat : Nat) : Int) → FP.Core.zval FP.Core.b32 (FP.Core.round FP.Core.b32 (.fin sg n e)) ≤ fU V) ∧ (fU V * ((2 ^ (FP.Core.b32.qmin - e0).toNat : Nat) : Int) ≤ FP.Core.signed sg (FP.Core.inUnits n e e0) → fU V ≤ FP.Core.zval FP.Core.b32 (FP.Core.round FP.Core.b32 (.fin sg n e))) :=
  ⟨FP.Core.zval_round_le FP.Core.good_b32 (FP.Core.val32_fits V) hV.ne_nan h0 he, FP.Core.zval_round_ge FP.Core.good_b32 (FP.Core.val32_fits V) hV.ne_nan h0 he⟩
theorem fsub_U {a b V : UInt32} (ha : FP.Core.FFin a) (hb : FP.Core.FFin b) (hV : FP.Core.FFin V) : (fU a - fU b ≤ fU V → fU (FP.fsub a b) ≤ fU V) ∧ (fU V ≤ fU a - fU b → fU V ≤ fU (FP.fsub a b)) := by
  obtain ⟨s, c, q, ea⟩ := ha
  obtain ⟨t, d, r, eb⟩ := hb
  have e : FP.Core.val32 (FP.fsub a b) = FP.Core.round FP.Core.b32 (FP.Core.exactSum (FP.Core.val32 a) (FP.Core.negate (FP.Core.val32 b))) := FP.Core.val32_fsub a b
  have fa := FP.Core.val32_fits a
  have fb := FP.Core.negate_fits (FP.Core.val32_fits b)
  have zb : FP.Core.zval FP.Core.b32 (FP.Core.negate (FP.Core.val32 b)) = -fU b := FP.Core.zval_negate _ _
  have za : FP.Core.zval FP.Core.b32 (FP.Core.val32 a) = fU a := rfl
  rw [ea] at e fa za
  rw [eb] at e fb zb
  replace fb : FP.Core.fits FP.Core.b32 (.fin (!t) d r) := fb
  replace zb : FP.Core.zval FP.Core.b32 (.fin (!t) d r) = -fU b := zb
  obtain ⟨sg, n, x, h1, h2, h3⟩ := FP.Core.sum_units fa fb
  replace e : FP.Core.val32 (FP.fsub a b) = FP.Core.round FP.Core.b32 (FP.Core.exactSum (.fin s c q) (.fin (!t) d r)) := e
  rw [h1] at e
  rw [za, zb] at h3
  have := rnd_U (sg := sg) (n := n) (e := x) (e0 := FP.Core.b32.qmin) hV (Int.le_refl _) h2
  rw [h3, Int.sub_self] at this
  unfold fU at this ⊢
  rw [e]
  simp only [Int.toNat_zero, Nat.pow_zero, Int.mul_one, Int.natCast_one] at this
  refine ⟨fun q => this.1 ?_, fun q => this.2 ?_⟩
  · simpa [Int.sub_eq_add_neg] using q
  · simpa [Int.sub_eq_add_neg] using q
end
