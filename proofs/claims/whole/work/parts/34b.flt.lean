/-! floats: what the library's laws give -/
section
theorem num_iff (a : UInt32) : z_num a = true ↔ FP.Core.val32 a ≠ .nan := by
  unfold z_num
  rw [decide_eq_true_eq, UInt32.le_iff_toNat_le, FP.Core.mask_toNat32, FP.Core.ne_nan32]
  exact Iff.rfl
theorem num_fin {a : UInt32} (h : FP.Core.FFin a) : z_num a = true := (num_iff a).mpr h.ne_nan
theorem num_out {a : UInt32} (h : FP.Core.fIsNaN a = false) : z_num a = true := (num_iff a).mpr ((FP.Core.notNaN_iff32 a).mp h)
/-- a float's value, in units of the least one -/
def fU (a : UInt32) : Int := FP.Core.zval FP.Core.b32 (FP.Core.val32 a)
def uO (m : Nat) : Nat := FP.Core.unitsOf FP.Core.b32 m
theorem lo_fin {a : UInt32} (h : a.toNat < 2139095040) : ∃ c q, FP.Core.val32 a = .fin false c q := by
  obtain ⟨s, c, q, e⟩ := (FP.Core.fin_bits32 a).mpr (by omega)
  have := FP.Core.sign_bits32 (a := a) (s := s) (Or.inl ⟨c, q, e⟩)
  cases s
  · exact ⟨c, q, e⟩
  · have := this.mp rfl
    omega
theorem lo_F {a : UInt32} (h : a.toNat < 2139095040) : FP.Core.FFin a := (FP.Core.fin_bits32 a).mpr (by omega)
theorem lo_U {a : UInt32} (h : a.toNat < 2139095040) : fU a = (uO a.toNat : Int) := by
  have hn := (lo_F h).ne_nan
  have := FP.Core.zmag_toNat32 hn
  unfold fU FP.Core.zval uO
  rw [this, Nat.mod_eq_of_lt (by omega), FP.Core.sgn_bits32 hn, decide_eq_false (by omega)]
  rfl
theorem uO_le {m k : Nat} : uO m ≤ uO k ↔ m ≤ k := FP.Core.unitsOf_le_iff
theorem uO_pow (j : Nat) (hj : j ≤ 200) : ∃ V : UInt32, V.toNat < 2139095040 ∧ uO V.toNat = 2 ^ j := by
  by_cases c : j < 23
  · have h1 : 2 ^ j < 2 ^ 23 := Nat.pow_lt_pow_right (by decide) c
    refine ⟨UInt32.ofNat (2 ^ j), ?_, ?_⟩
    · rw [UInt32.toNat_ofNat_of_lt' (by show 2 ^ j < 2 ^ 32; omega)]; omega
    · rw [UInt32.toNat_ofNat_of_lt' (by show 2 ^ j < 2 ^ 32; omega)]
      unfold uO FP.Core.unitsOf
      rw [FP.Core.tails_b32, if_pos h1]
  · have h2 : (j - 22) * 2 ^ 23 < 2 ^ 32 := by omega
    refine ⟨UInt32.ofNat ((j - 22) * 2 ^ 23), ?_, ?_⟩
    · rw [UInt32.toNat_ofNat_of_lt' (by exact h2)]; omega
    · rw [UInt32.toNat_ofNat_of_lt' (by exact h2)]
      have := FP.Core.unitsOf_start (f := FP.Core.b32) (K := j - 22) (by omega)
      rw [FP.Core.tails_b32] at this
      unfold uO
      rw [this, ← Nat.pow_add]
      congr 1
      omega
theorem neg_U {a : UInt32} (h : a.toNat < 2139095040) : ∃ V : UInt32, FP.Core.FFin V ∧ fU V = -fU a := by
  obtain ⟨c, q, e⟩ := lo_fin h
  have hv : (UInt32.ofNat (a.toNat + 2 ^ 31)).toNat = a.toNat + 2 ^ 31 := UInt32.toNat_ofNat_of_lt' (by show a.toNat + 2 ^ 31 < 2 ^ 32; omega)
  have e2 : FP.Core.val32 (UInt32.ofNat (a.toNat + 2 ^ 31)) = FP.Core.negate (FP.Core.val32 a) := FP.Core.val32_neg_bits (a := a) (Or.inr hv)
  refine ⟨UInt32.ofNat (a.toNat + 2 ^ 31), ⟨true, c, q, by rw [e2, e]; rfl⟩, ?_⟩
  unfold fU
  rw [e2, FP.Core.zval_negate]
theorem rnd_U {sg : Bool} {n : Nat} {e e0 : Int} {V : UInt32} (hV : FP.Core.FFin V) (h0 : e0 ≤ FP.Core.b32.qmin) (he : e0 ≤ e) : (FP.Core.signed sg (FP.Core.inUnits n e e0) ≤ fU V * ((2 ^ (FP.Core.b32.qmin - e0).toNat : Nat) : Int) → FP.Core.zval FP.Core.b32 (FP.Core.round FP.Core.b32 (.fin sg n e)) ≤ fU V) ∧ (fU V * ((2 ^ (FP.Core.b32.qmin - e0).toNat : Nat) : Int) ≤ FP.Core.signed sg (FP.Core.inUnits n e e0) → fU V ≤ FP.Core.zval FP.Core.b32 (FP.Core.round FP.Core.b32 (.fin sg n e))) :=
  ⟨FP.Core.zval_round_le FP.Core.good_b32 (FP.Core.val32_fits V) hV.ne_nan h0 he, FP.Core.zval_round_ge FP.Core.good_b32 (FP.Core.val32_fits V) hV.ne_nan h0 he⟩
theorem fsub_U {a b V : UInt32} (ha : FP.Core.FFin a) (hb : FP.Core.FFin b) (hV : FP.Core.FFin V) : (fU a - fU b ≤ fU V → fU (FP.fsub a b) ≤ fU V) ∧ (fU V ≤ fU a - fU b → fU V ≤ fU (FP.fsub a b)) := by
  obtain ⟨s, c, q, ea⟩ := ha
  obtain ⟨t, d, r, eb⟩ := hb
  have e : FP.Core.val32 (FP.fsub a b) = FP.Core.round FP.Core.b32 (FP.Core.exactSum (FP.Core.val32 a) (FP.Core.negate (FP.Core.val32 b))) := FP.Core.val32_fsub a b
  have fa := FP.Core.val32_fits a
  have fb := FP.Core.negate_fits (FP.Core.val32_fits b)
  have zb : FP.Core.zval FP.Core.b32 (FP.Core.negate (FP.Core.val32 b)) = -fU b := FP.Core.zval_negate _ _
  have za : FP.Core.zval FP.Core.b32 (FP.Core.val32 a) = fU a := rfl
  rw [ea] at e fa za
  rw [eb] at e fb zb
  replace fb : FP.Core.fits FP.Core.b32 (.fin (!t) d r) := fb
  replace zb : FP.Core.zval FP.Core.b32 (.fin (!t) d r) = -fU b := zb
  obtain ⟨sg, n, x, h1, h2, h3⟩ := FP.Core.sum_units fa fb
  replace e : FP.Core.val32 (FP.fsub a b) = FP.Core.round FP.Core.b32 (FP.Core.exactSum (.fin s c q) (.fin (!t) d r)) := e
  rw [h1] at e
  rw [za, zb] at h3
  have := rnd_U (sg := sg) (n := n) (e := x) (e0 := FP.Core.b32.qmin) hV (Int.le_refl _) h2
  rw [h3, Int.sub_self] at this
  unfold fU at this ⊢
  rw [e]
  simp only [Int.toNat_zero, Nat.pow_zero, Int.mul_one, Int.natCast_one] at this
  refine ⟨fun q => this.1 ?_, fun q => this.2 ?_⟩
  · simpa [Int.sub_eq_add_neg] using q
  · simpa [Int.sub_eq_add_neg] using q
theorem fmul_U {a p V : UInt32} (ha : FP.Core.FFin a) (hp : ∃ d r, FP.Core.val32 p = .fin false d r) (hV : FP.Core.FFin V) : (fU a * fU p ≤ fU V * 713623846352979940529142984724747568191373312 → fU (FP.fmul a p) ≤ fU V) ∧ (fU V * 713623846352979940529142984724747568191373312 ≤ fU a * fU p → fU V ≤ fU (FP.fmul a p)) := by
  obtain ⟨s, c, q, ea⟩ := ha
  obtain ⟨d, r, eb⟩ := hp
  have e : FP.Core.val32 (FP.fmul a p) = FP.Core.round FP.Core.b32 (FP.Core.exactProduct (FP.Core.val32 a) (FP.Core.val32 p)) := FP.Core.val32_fmul a p
  have fa := FP.Core.val32_fits a
  have fb := FP.Core.val32_fits p
  have zb : fU p = (FP.Core.zmag FP.Core.b32 (FP.Core.val32 p) : Int) := by
    unfold fU FP.Core.zval
    rw [eb]
    rfl
  have za : fU a = FP.Core.signed s (FP.Core.zmag FP.Core.b32 (FP.Core.val32 a)) := by
    unfold fU FP.Core.zval
    rw [ea]
    rfl
  rw [ea] at e fa za
  rw [eb] at e fb zb
  obtain ⟨h1, h2, h3⟩ := FP.Core.product_units fa fb
  rw [h1] at e
  have hq : FP.Core.b32.qmin = -149 := FP.Core.qmin_b32
  have := rnd_U (sg := (s != false)) (n := c * d) (e := q + r) (e0 := 2 * FP.Core.b32.qmin) hV (by rw [hq]; omega) h2
  rw [h3] at this
  have hs : (s != false) = s := by cases s <;> rfl
  have hpw : ((2 ^ (FP.Core.b32.qmin - 2 * FP.Core.b32.qmin).toNat : Nat) : Int) = 713623846352979940529142984724747568191373312 := by rw [hq]; decide
  rw [hs, hpw, FP.Core.signed_mul, ← za, ← zb] at this
  rw [hs] at e
  have e2 : fU (FP.fmul a p) = FP.Core.zval FP.Core.b32 (FP.Core.round FP.Core.b32 (.fin s (c * d) (q + r))) := by
    unfold fU
    rw [e]
  rw [e2]
  exact this
theorem fadd_U {a b : UInt32} (ha : a.toNat < 2139095040) (hb : FP.Core.FFin b) (h0 : 0 ≤ fU a + fU b) {m : Nat} (hm : m < 2139095040) (h1 : fU a + fU b ≤ (uO m : Int)) : (FP.fadd a b).toNat ≤ m := by
  obtain ⟨c, q, ea⟩ := lo_fin ha
  obtain ⟨t, d, r, eb⟩ := hb
  have e : FP.Core.val32 (FP.fadd a b) = FP.Core.round FP.Core.b32 (FP.Core.exactSum (FP.Core.val32 a) (FP.Core.val32 b)) := FP.Core.val32_fadd a b
  have fa := FP.Core.val32_fits a
  have fb := FP.Core.val32_fits b
  have za : fU a = FP.Core.zval FP.Core.b32 (FP.Core.val32 a) := rfl
  have zb : fU b = FP.Core.zval FP.Core.b32 (FP.Core.val32 b) := rfl
  rw [ea] at e fa za
  rw [eb] at e fb zb
  obtain ⟨sg, n, x, k1, k2, k3⟩ := FP.Core.sum_units fa fb
  rw [← za, ← zb] at k3
  rw [k1] at e
  have hsg : sg = false := by
    have k4 : FP.Core.exactSum (.fin false c q) (.fin t d r) = .fin (FP.Core.sumSign false t (FP.Core.sumUnits false c q t d r (min q r))) (FP.Core.sumUnits false c q t d r (min q r)).natAbs (min q r) := rfl
    rw [k1] at k4
    injection k4 with i1 i2 i3
    generalize FP.Core.sumUnits false c q t d r (min q r) = v at i1 i2
    cases sg with
    | false => rfl
    | true =>
      exfalso
      unfold FP.Core.sumSign at i1
      by_cases c0 : v = 0
      · rw [if_pos c0] at i1
        simp at i1
      · have hn : 0 < n := by rw [i2]; omega
        have hpos : 0 < FP.Core.inUnits n x FP.Core.b32.qmin := by
          unfold FP.Core.inUnits
          exact Nat.mul_pos hn (Nat.two_pow_pos _)
        rw [← k3] at h0
        unfold FP.Core.signed at h0
        rw [if_pos rfl] at h0
        omega
  subst hsg
  have e3 : FP.Core.decode FP.Core.b32 (FP.fadd a b).toNat = FP.Core.roundRatio FP.Core.b32 false n 1 x := e
  have hnn : FP.Core.val32 (FP.fadd a b) ≠ .nan := by
    rw [e]
    exact FP.Core.roundRatio_ne_nan _ _ _ _ _
  have hs := FP.Core.sgn_bits32 hnn
  have hs2 : FP.Core.sgn (FP.Core.val32 (FP.fadd a b)) = false := by
    rw [e]
    exact FP.Core.sgn_roundRatio _ _ _ _ _
  rw [hs2] at hs
  have hlt : (FP.fadd a b).toNat < 2 ^ 31 := by
    have := of_decide_eq_false hs.symm
    omega
  have hle := FP.Core.mag_le FP.Core.good_b32 (m := m) e3 (by decide) (Int.le_refl _) k2 (by
    rw [Int.sub_self, Int.toNat_zero, Nat.pow_zero, Nat.mul_one, Nat.mul_one]
    have k5 : (FP.Core.inUnits n x FP.Core.b32.qmin : Int) = fU a + fU b := k3
    unfold uO at h1
    omega)
  rw [FP.Core.mag_toNat32, Nat.mod_eq_of_lt hlt] at hle
  exact hle
theorem nn_N {a : UInt32} (h : nn a) : a.toNat ≤ 1233125376 := UInt32.le_iff_toNat_le.mp h
theorem uO_T : uO 1233125376 = 748288838313422294120286634350736906063837462003712 := by decide +kernel
theorem nn_U {a : UInt32} (h : nn a) : 0 ≤ fU a ∧ fU a ≤ 748288838313422294120286634350736906063837462003712 := by
  have h1 := nn_N h
  rw [lo_U (by omega)]
  have h2 := uO_le.mpr h1
  rw [uO_T] at h2
  omega
theorem step_U {g l p : UInt32} (hg : nn g) (hl : nn l) (hp : p = 1040187392 ∨ p = 1056964608) : z_num (FP.fsub g l) = true ∧ z_num (FP.fmul (FP.fsub g l) p) = true ∧ z_num (FP.fadd l (FP.fmul (FP.fsub g l) p)) = true ∧ nn (FP.fadd l (FP.fmul (FP.fsub g l) p)) := by
  have gN := nn_N hg
  have lN := nn_N hl
  obtain ⟨g1, g2⟩ := nn_U hg
  obtain ⟨l1, l2⟩ := nn_U hl
  have fg := lo_F (show g.toNat < 2139095040 by omega)
  have fl := lo_F (show l.toNat < 2139095040 by omega)
  have hpv : (∃ d r, FP.Core.val32 p = .fin false d r) ∧ p.toNat < 127 * 2 ^ 23 ∧ (fU p = 356811923176489970264571492362373784095686656 ∨ fU p = 89202980794122492566142873090593446023921664) := by
    rcases hp with rfl | rfl
    · exact ⟨⟨8388608, -26, by decide +kernel⟩, by decide, Or.inr (by decide +kernel)⟩
    · exact ⟨⟨8388608, -24, by decide +kernel⟩, by decide, Or.inl (by decide +kernel)⟩
  obtain ⟨p1, p2, p3⟩ := hpv
  have md := FP.Core.fsub_mag (a := g) (b := l) (K := 148) (by omega) (by omega) (by omega)
  have fd : FP.Core.FFin (FP.fsub g l) := FP.Core.fin_of_lt32 md (by omega)
  have mm := FP.Core.fmul_mag (a := FP.fsub g l) (b := p) (Ka := 150) (Kb := 127) md (by omega) (by omega) (by omega)
  have fm : FP.Core.FFin (FP.fmul (FP.fsub g l) p) := FP.Core.fin_of_lt32 mm (by omega)
  obtain ⟨W, hW, hWU⟩ := neg_U (show l.toNat < 2139095040 by omega)
  have d1 : -fU l ≤ fU (FP.fsub g l) := by
    rw [← hWU]
    exact (fsub_U fg fl hW).2 (by rw [hWU]; omega)
  have m1 : -fU l ≤ fU (FP.fmul (FP.fsub g l) p) := by
    rw [← hWU]
    refine (fmul_U fd p1 hW).2 ?_
    rw [hWU]
    rcases p3 with p3 | p3 <;> rw [p3] <;> omega
  have m2 : fU l + fU (FP.fmul (FP.fsub g l) p) ≤ 748288838313422294120286634350736906063837462003712 := by
    by_cases hD : fU g - fU l ≤ 0
    · have z0 : FP.Core.FFin 0 := lo_F (by decide)
      have zU : fU 0 = 0 := by decide +kernel
      have d2 : fU (FP.fsub g l) ≤ fU 0 := (fsub_U fg fl z0).1 (by rw [zU]; exact hD)
      have m3 : fU (FP.fmul (FP.fsub g l) p) ≤ fU 0 := by
        refine (fmul_U fd p1 z0).1 ?_
        rw [zU] at d2 ⊢
        rcases p3 with p3 | p3 <;> rw [p3] <;> omega
      rw [zU] at m3
      omega
    · obtain ⟨D, hDe⟩ : ∃ D : Nat, fU g - fU l = (D : Int) := ⟨(fU g - fU l).toNat, by omega⟩
      have hD0 : D ≠ 0 := by omega
      have lg1 := Nat.log2_self_le hD0
      have lg2 := Nat.lt_log2_self (n := D)
      have hD169 : D ≤ 2 ^ 169 := by omega
      have hj : D.log2 ≤ 169 := by
        have := Nat.le_trans lg1 hD169
        exact (Nat.pow_le_pow_iff_right (by decide : 1 < 2)).mp this
      obtain ⟨V1, v1, v2⟩ := uO_pow (D.log2 + 1) (by omega)
      obtain ⟨V2, w1, w2⟩ := uO_pow D.log2 (by omega)
      have u1 : fU V1 = ((2 ^ (D.log2 + 1) : Nat) : Int) := by rw [lo_U v1, v2]
      have u2 : fU V2 = ((2 ^ D.log2 : Nat) : Int) := by rw [lo_U w1, w2]
      rw [Nat.pow_succ] at u1 lg2
      generalize 2 ^ D.log2 = P at u1 u2 lg1 lg2
      have d2 : fU (FP.fsub g l) ≤ fU V1 := (fsub_U fg fl (lo_F v1)).1 (by rw [u1]; omega)
      have m3 : fU (FP.fmul (FP.fsub g l) p) ≤ fU V2 := by
        refine (fmul_U fd p1 (lo_F w1)).1 ?_
        rw [u1] at d2
        rw [u2]
        rcases p3 with p3 | p3 <;> rw [p3] <;> omega
      rw [u2] at m3
      omega
  have hfin := fadd_U (m := 1233125376) (show l.toNat < 2139095040 by omega) fm (by omega) (by omega) (by rw [uO_T]; exact m2)
  refine ⟨num_fin fd, num_fin fm, num_fin (lo_F (by omega)), ?_⟩
  exact UInt32.le_iff_toNat_le.mpr hfin
theorem partF_or (g l : UInt32) : partF g l = 1040187392 ∨ partF g l = 1056964608 := by
  unfold partF
  split
  · exact Or.inl rfl
  · exact Or.inr rfl
theorem stepF_ok {g l : UInt32} (hg : nn g) (hl : nn l) : z_num (FP.fsub g l) = true ∧ z_num (FP.fmul (FP.fsub g l) (partF g l)) = true ∧ z_num (stepF g l) = true ∧ nn (stepF g l) := step_U hg hl (partF_or g l)
theorem hysF_ok {l : UInt32} {h : Nat} (hl : nn l) (h4 : h ≤ 16) : z_num (FP.fmul l (FP.i2f (nI h))) = true ∧ z_num (hysF l (nI h)) = true := by
  have lN := nn_N hl
  have fl := lo_F (show l.toNat < 2139095040 by omega)
  have m := FP.Core.fmul_out fl (FP.Core.i2f_fin (nI h))
  refine ⟨num_out m, num_out (FP.Core.fdiv_out m (lo_F (by decide)) ?_)⟩
  rw [FP.Core.zero_bits232]
  decide
theorem sb_U : ∀ k, k < 21 → (sb k).toNat < 2139095040 ∧ uO (sb k).toNat = k * 748288838313422294120286634350736906063837462003712 := by decide +kernel
theorem sb_step {k : Nat} {s x : UInt32} (hk : k < 20) (hs : s ≤ sb k) (hx : nn x) : z_num (FP.fadd s x) = true ∧ FP.fadd s x ≤ sb (k + 1) := by
  obtain ⟨a1, a2⟩ := sb_U k (by omega)
  obtain ⟨b1, b2⟩ := sb_U (k + 1) (by omega)
  have hs' := UInt32.le_iff_toNat_le.mp hs
  obtain ⟨x1, x2⟩ := nn_U hx
  have xN := nn_N hx
  have sU := lo_U (show s.toNat < 2139095040 by omega)
  have sU2 := uO_le.mpr hs'
  rw [a2] at sU2
  have hle := fadd_U (a := s) (b := x) (m := (sb (k + 1)).toNat) (by omega) (lo_F (by omega)) (by omega) b1 (by rw [b2]; omega)
  exact ⟨num_fin (lo_F (by omega)), UInt32.le_iff_toNat_le.mpr hle⟩
end
