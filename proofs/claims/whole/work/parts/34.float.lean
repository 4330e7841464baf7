/-! floats: what is wanted of them -/
/-- finite, not negative, at most 2^20 -/
def nn (x : UInt32) : Prop := x ≤ 0x49800000
/-- finite, not negative, at most n * 2^20 as a sum of n -/
def baseF (q : Nat) : UInt32 := if q % 3 = 0 then 0x3f800000 else if q % 3 = 1 then 1067533592 else 1070280693
def pwr (q : Nat) : UInt32 := FP.fmul (baseF q) (FP.i2f (nI 1 <<< (nI (q / 3) &&& nI 31)))
theorem pwr_num : ∀ q, q < 61 → z_num (pwr q) = true ∧ pwr q ≤ 0x49800000 := by decide +kernel
def mpw (q : Nat) : UInt32 := it (fun _ v => FP.fmul v 0x40000000) (q / 3) (baseF q)
theorem mpw_pwr : ∀ q, q < 61 → mpw q = pwr q := by decide +kernel
theorem mpw_num : ∀ q, q < 61 → ∀ k, k < 21 → z_num (it (fun _ v => FP.fmul v 0x40000000) k (baseF q)) = true := by decide +kernel
def partF (g l : UInt32) : UInt32 := if Op.cmpValue (FP.fcmp g l) .l ≤ nI 0 then 1040187392 else 1056964608
def stepF (g l : UInt32) : UInt32 := FP.fadd l (FP.fmul (FP.fsub g l) (partF g l))
def hysF (l : UInt32) (h : Int32) : UInt32 := FP.fdiv (FP.fmul l (FP.i2f h)) 1082130432
/-- a sum of k loudnesses -/
def sb (k : Nat) : UInt32 := FP.i2f (nI (k * 1048576))
theorem sb_mono {k : Nat} (hk : k < 20) : sb k ≤ sb (k + 1) := by
  have : ∀ k, k < 20 → sb k ≤ sb (k + 1) := by decide +kernel
  exact this k hk
