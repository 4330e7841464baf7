/-! the pure part's base: numbers, regions of memory, a conference's cells: printed by wip/whole/gen/base.py -/
def mI : Int32 := -1
theorem mI_eq : (-1 : Int32) = mI := rfl
theorem mI_ne {n : Nat} (h : n < 2 ^ 31) : (nI n = mI) = False := by
  apply eq_false
  intro e
  have h1 := congrArg Int32.toInt e
  rw [nI_toInt h] at h1
  have h2 : mI.toInt = -1 := by decide
  omega
theorem mI_ne' {n : Nat} (h : n < 2 ^ 31) : (mI = nI n) = False := (propext eq_comm).trans (mI_ne h)
theorem mI_lt {n : Nat} (h : n < 2 ^ 31) : (mI < nI n) = True := by
  apply eq_true
  rw [Int32.lt_iff_toInt_lt, nI_toInt h]
  have h2 : mI.toInt = -1 := by decide
  omega
theorem mI_le {n : Nat} (h : n < 2 ^ 31) : (mI ≤ nI n) = True := by
  apply eq_true
  rw [Int32.le_iff_toInt_le, nI_toInt h]
  have h2 : mI.toInt = -1 := by decide
  omega
theorem mI_nlt {n : Nat} (h : n < 2 ^ 31) : (nI n < mI) = False := by
  apply eq_false
  rw [Int32.lt_iff_toInt_lt, nI_toInt h]
  have h2 : mI.toInt = -1 := by decide
  omega
theorem mI_nle {n : Nat} (h : n < 2 ^ 31) : (nI n ≤ mI) = False := by
  apply eq_false
  rw [Int32.le_iff_toInt_le, nI_toInt h]
  have h2 : mI.toInt = -1 := by decide
  omega
theorem nE {a b : Nat} (ha : a < 2 ^ 31) (hb : b < 2 ^ 31) : (nI a = nI b) = (a = b) := propext (nI_eq ha hb)
theorem nLe {a b : Nat} (ha : a < 2 ^ 31) (hb : b < 2 ^ 31) : (nI a ≤ nI b) = (a ≤ b) := propext (nI_leI ha hb)
theorem nLt {a b : Nat} (ha : a < 2 ^ 31) (hb : b < 2 ^ 31) : (nI a < nI b) = (a < b) := propext (nI_ltI ha hb)
theorem mI_addC {a : Nat} (h : 0 < a) : nI a + mI = nI (a - 1) := by
  obtain ⟨b, rfl⟩ : ∃ b, a = b + 1 := ⟨a - 1, by omega⟩
  exact pk_m1 b
theorem ixb_n {k n : Nat} (h : k < n) (hn : n < 2 ^ 31) : z_ixb (nI k) n = true := by
  unfold z_ixb
  rw [decide_eq_true_eq]
  exact ⟨nI_pos (by omega), by rw [nI_clamp (by omega)]; exact h⟩
theorem ia_n {k n : Nat} {f : Nat → Int32} (h : k < n) (hn : n < 2 ^ 31) : z_ia (some (.inl (n, .inl f))) (nI k) = some (.int (f k)) := by
  simp only [z_ia, ixb_n h hn, nI_clamp (show k < 2 ^ 31 by omega), if_true]
theorem fa_n {k n : Nat} {f : Nat → UInt32} (h : k < n) (hn : n < 2 ^ 31) : z_fa (some (.inl (n, .inr (.inr (.inl f))))) (nI k) = some (.float (f k)) := by
  simp only [z_fa, ixb_n h hn, nI_clamp (show k < 2 ^ 31 by omega), if_true]
theorem is_n {k n : Nat} {f : Nat → Int32} {x : Int32} (h : k < n) (hn : n < 2 ^ 31) : z_is (some (.inl (n, .inl f))) (nI k) x = some (.inl (n, .inl (upd f k x))) := by
  simp only [z_is, ixb_n h hn, nI_clamp (show k < 2 ^ 31 by omega), if_true]
theorem fs_n {k n : Nat} {f : Nat → UInt32} {x : UInt32} (h : k < n) (hn : n < 2 ^ 31) : z_fs (some (.inl (n, .inr (.inr (.inl f))))) (nI k) x = some (.inl (n, .inr (.inr (.inl (vf_upd f k x))))) := by
  simp only [z_fs, ixb_n h hn, nI_clamp (show k < 2 ^ 31 by omega), if_true]
theorem rc_O {c ci : Nat} {fs : List Value} {r : Option z_R} (h : c = ci) (h9 : c ≠ 99) : z_rc (some (.inr (c, fs))) ci r = r := by
  subst h
  simp [z_rc, z_isO, h9]
theorem upd_eq (f : Nat → Int32) (k : Nat) (x : Int32) : upd f k x k = x := by simp [upd]
theorem upd_ne (f : Nat → Int32) {k j : Nat} (x : Int32) (h : j ≠ k) : upd f k x j = f j := by simp [upd, h]
theorem updF_eq (f : Nat → UInt32) (k : Nat) (x : UInt32) : vf_upd f k x k = x := by simp [vf_upd]
theorem updF_ne (f : Nat → UInt32) {k j : Nat} (x : UInt32) (h : j ≠ k) : vf_upd f k x j = f j := by simp [vf_upd, h]
theorem lI0 : (0 : Int32) = nI 0 := rfl
theorem lI1 : (1 : Int32) = nI 1 := rfl
theorem lI2 : (2 : Int32) = nI 2 := rfl
theorem lI3 : (3 : Int32) = nI 3 := rfl
theorem lI4 : (4 : Int32) = nI 4 := rfl
theorem lI5 : (5 : Int32) = nI 5 := rfl
theorem lI6 : (6 : Int32) = nI 6 := rfl
theorem lI7 : (7 : Int32) = nI 7 := rfl
theorem lI8 : (8 : Int32) = nI 8 := rfl
theorem lI9 : (9 : Int32) = nI 9 := rfl
theorem lI10 : (10 : Int32) = nI 10 := rfl
theorem lI11 : (11 : Int32) = nI 11 := rfl
theorem lI12 : (12 : Int32) = nI 12 := rfl
theorem lI13 : (13 : Int32) = nI 13 := rfl
theorem lI14 : (14 : Int32) = nI 14 := rfl
theorem lI15 : (15 : Int32) = nI 15 := rfl
theorem lI16 : (16 : Int32) = nI 16 := rfl
theorem lI17 : (17 : Int32) = nI 17 := rfl
theorem lI18 : (18 : Int32) = nI 18 := rfl
theorem lI19 : (19 : Int32) = nI 19 := rfl
theorem lI20 : (20 : Int32) = nI 20 := rfl
theorem lI21 : (21 : Int32) = nI 21 := rfl
theorem lI22 : (22 : Int32) = nI 22 := rfl
theorem lI23 : (23 : Int32) = nI 23 := rfl
theorem lI24 : (24 : Int32) = nI 24 := rfl
theorem lI25 : (25 : Int32) = nI 25 := rfl
theorem lI26 : (26 : Int32) = nI 26 := rfl
theorem lI27 : (27 : Int32) = nI 27 := rfl
theorem lI28 : (28 : Int32) = nI 28 := rfl
theorem lI29 : (29 : Int32) = nI 29 := rfl
theorem lI30 : (30 : Int32) = nI 30 := rfl
theorem lI31 : (31 : Int32) = nI 31 := rfl
theorem lI32 : (32 : Int32) = nI 32 := rfl
theorem lI33 : (33 : Int32) = nI 33 := rfl
theorem lI34 : (34 : Int32) = nI 34 := rfl
theorem lI35 : (35 : Int32) = nI 35 := rfl
theorem lI36 : (36 : Int32) = nI 36 := rfl
theorem lI37 : (37 : Int32) = nI 37 := rfl
theorem lI38 : (38 : Int32) = nI 38 := rfl
theorem lI39 : (39 : Int32) = nI 39 := rfl
theorem lI40 : (40 : Int32) = nI 40 := rfl
theorem lI41 : (41 : Int32) = nI 41 := rfl
theorem lI42 : (42 : Int32) = nI 42 := rfl
theorem lI43 : (43 : Int32) = nI 43 := rfl
theorem lI44 : (44 : Int32) = nI 44 := rfl
theorem lI45 : (45 : Int32) = nI 45 := rfl
theorem lI46 : (46 : Int32) = nI 46 := rfl
theorem lI47 : (47 : Int32) = nI 47 := rfl
theorem lI48 : (48 : Int32) = nI 48 := rfl
theorem lI49 : (49 : Int32) = nI 49 := rfl
theorem lI50 : (50 : Int32) = nI 50 := rfl
theorem lI51 : (51 : Int32) = nI 51 := rfl
theorem lI52 : (52 : Int32) = nI 52 := rfl
theorem lI53 : (53 : Int32) = nI 53 := rfl
theorem lI54 : (54 : Int32) = nI 54 := rfl
theorem lI55 : (55 : Int32) = nI 55 := rfl
theorem lI56 : (56 : Int32) = nI 56 := rfl
theorem lI57 : (57 : Int32) = nI 57 := rfl
theorem lI58 : (58 : Int32) = nI 58 := rfl
theorem lI59 : (59 : Int32) = nI 59 := rfl
theorem lI60 : (60 : Int32) = nI 60 := rfl
theorem lI61 : (61 : Int32) = nI 61 := rfl
theorem lI62 : (62 : Int32) = nI 62 := rfl
theorem lI63 : (63 : Int32) = nI 63 := rfl
theorem lI87 : (87 : Int32) = nI 87 := rfl
theorem lI90 : (90 : Int32) = nI 90 := rfl
theorem lI99 : (99 : Int32) = nI 99 := rfl
theorem lI100 : (100 : Int32) = nI 100 := rfl
theorem lI255 : (255 : Int32) = nI 255 := rfl
theorem lI256 : (256 : Int32) = nI 256 := rfl
theorem lI296 : (296 : Int32) = nI 296 := rfl
theorem lI305 : (305 : Int32) = nI 305 := rfl
theorem lI395 : (395 : Int32) = nI 395 := rfl
theorem lI576 : (576 : Int32) = nI 576 := rfl
theorem lI971 : (971 : Int32) = nI 971 := rfl
theorem lI1776 : (1776 : Int32) = nI 1776 := rfl
theorem lI2072 : (2072 : Int32) = nI 2072 := rfl
theorem lI5826 : (5826 : Int32) = nI 5826 := rfl
theorem lI6797 : (6797 : Int32) = nI 6797 := rfl
def lits := And.intro lI0 (And.intro lI1 (And.intro lI2 (And.intro lI3 (And.intro lI4 (And.intro lI5 (And.intro lI6 (And.intro lI7 (And.intro lI8 (And.intro lI9 (And.intro lI10 (And.intro lI11 (And.intro lI12 (And.intro lI13 (And.intro lI14 (And.intro lI15 (And.intro lI16 (And.intro lI17 (And.intro lI18 (And.intro lI19 (And.intro lI20 (And.intro lI21 (And.intro lI22 (And.intro lI23 (And.intro lI24 (And.intro lI25 (And.intro lI26 (And.intro lI27 (And.intro lI28 (And.intro lI29 (And.intro lI30 (And.intro lI31 (And.intro lI32 (And.intro lI33 (And.intro lI34 (And.intro lI35 (And.intro lI36 (And.intro lI37 (And.intro lI38 (And.intro lI39 (And.intro lI40 (And.intro lI41 (And.intro lI42 (And.intro lI43 (And.intro lI44 (And.intro lI45 (And.intro lI46 (And.intro lI47 (And.intro lI48 (And.intro lI49 (And.intro lI50 (And.intro lI51 (And.intro lI52 (And.intro lI53 (And.intro lI54 (And.intro lI55 (And.intro lI56 (And.intro lI57 (And.intro lI58 (And.intro lI59 (And.intro lI60 (And.intro lI61 (And.intro lI62 (And.intro lI63 (And.intro lI87 (And.intro lI90 (And.intro lI99 (And.intro lI100 (And.intro lI255 (And.intro lI256 (And.intro lI296 (And.intro lI305 (And.intro lI395 (And.intro lI576 (And.intro lI971 (And.intro lI1776 (And.intro lI2072 (And.intro lI5826 (lI6797))))))))))))))))))))))))))))))))))))))))))))))))))))))))))))))))))))))))))))))
theorem gf0_0 (v0 v1 v2 v3 v4 v5 v6 : Value) : z_gf (some (.inr (0, [v0, v1, v2, v3, v4, v5, v6]))) 0 0 = some v0 := rfl
theorem pf0_0 (v0 v1 v2 v3 v4 v5 v6 w : Value) : z_pf (some (.inr (0, [v0, v1, v2, v3, v4, v5, v6]))) 0 0 w = some (.inr (0, [w, v1, v2, v3, v4, v5, v6])) := rfl
theorem gf0_1 (v0 v1 v2 v3 v4 v5 v6 : Value) : z_gf (some (.inr (0, [v0, v1, v2, v3, v4, v5, v6]))) 0 1 = some v1 := rfl
theorem pf0_1 (v0 v1 v2 v3 v4 v5 v6 w : Value) : z_pf (some (.inr (0, [v0, v1, v2, v3, v4, v5, v6]))) 0 1 w = some (.inr (0, [v0, w, v2, v3, v4, v5, v6])) := rfl
theorem gf0_2 (v0 v1 v2 v3 v4 v5 v6 : Value) : z_gf (some (.inr (0, [v0, v1, v2, v3, v4, v5, v6]))) 0 2 = some v2 := rfl
theorem pf0_2 (v0 v1 v2 v3 v4 v5 v6 w : Value) : z_pf (some (.inr (0, [v0, v1, v2, v3, v4, v5, v6]))) 0 2 w = some (.inr (0, [v0, v1, w, v3, v4, v5, v6])) := rfl
theorem gf0_3 (v0 v1 v2 v3 v4 v5 v6 : Value) : z_gf (some (.inr (0, [v0, v1, v2, v3, v4, v5, v6]))) 0 3 = some v3 := rfl
theorem pf0_3 (v0 v1 v2 v3 v4 v5 v6 w : Value) : z_pf (some (.inr (0, [v0, v1, v2, v3, v4, v5, v6]))) 0 3 w = some (.inr (0, [v0, v1, v2, w, v4, v5, v6])) := rfl
theorem gf0_4 (v0 v1 v2 v3 v4 v5 v6 : Value) : z_gf (some (.inr (0, [v0, v1, v2, v3, v4, v5, v6]))) 0 4 = some v4 := rfl
theorem pf0_4 (v0 v1 v2 v3 v4 v5 v6 w : Value) : z_pf (some (.inr (0, [v0, v1, v2, v3, v4, v5, v6]))) 0 4 w = some (.inr (0, [v0, v1, v2, v3, w, v5, v6])) := rfl
theorem gf0_5 (v0 v1 v2 v3 v4 v5 v6 : Value) : z_gf (some (.inr (0, [v0, v1, v2, v3, v4, v5, v6]))) 0 5 = some v5 := rfl
theorem pf0_5 (v0 v1 v2 v3 v4 v5 v6 w : Value) : z_pf (some (.inr (0, [v0, v1, v2, v3, v4, v5, v6]))) 0 5 w = some (.inr (0, [v0, v1, v2, v3, v4, w, v6])) := rfl
theorem gf0_6 (v0 v1 v2 v3 v4 v5 v6 : Value) : z_gf (some (.inr (0, [v0, v1, v2, v3, v4, v5, v6]))) 0 6 = some v6 := rfl
theorem pf0_6 (v0 v1 v2 v3 v4 v5 v6 w : Value) : z_pf (some (.inr (0, [v0, v1, v2, v3, v4, v5, v6]))) 0 6 w = some (.inr (0, [v0, v1, v2, v3, v4, v5, w])) := rfl
def gfs0 := And.intro @gf0_0 (And.intro @gf0_1 (And.intro @gf0_2 (And.intro @gf0_3 (And.intro @gf0_4 (And.intro @gf0_5 (@gf0_6))))))
def pfs0 := And.intro @pf0_0 (And.intro @pf0_1 (And.intro @pf0_2 (And.intro @pf0_3 (And.intro @pf0_4 (And.intro @pf0_5 (@pf0_6))))))
theorem gf1_0 (v0 v1 v2 v3 v4 : Value) : z_gf (some (.inr (1, [v0, v1, v2, v3, v4]))) 1 0 = some v0 := rfl
theorem pf1_0 (v0 v1 v2 v3 v4 w : Value) : z_pf (some (.inr (1, [v0, v1, v2, v3, v4]))) 1 0 w = some (.inr (1, [w, v1, v2, v3, v4])) := rfl
theorem gf1_1 (v0 v1 v2 v3 v4 : Value) : z_gf (some (.inr (1, [v0, v1, v2, v3, v4]))) 1 1 = some v1 := rfl
theorem pf1_1 (v0 v1 v2 v3 v4 w : Value) : z_pf (some (.inr (1, [v0, v1, v2, v3, v4]))) 1 1 w = some (.inr (1, [v0, w, v2, v3, v4])) := rfl
theorem gf1_2 (v0 v1 v2 v3 v4 : Value) : z_gf (some (.inr (1, [v0, v1, v2, v3, v4]))) 1 2 = some v2 := rfl
theorem pf1_2 (v0 v1 v2 v3 v4 w : Value) : z_pf (some (.inr (1, [v0, v1, v2, v3, v4]))) 1 2 w = some (.inr (1, [v0, v1, w, v3, v4])) := rfl
theorem gf1_3 (v0 v1 v2 v3 v4 : Value) : z_gf (some (.inr (1, [v0, v1, v2, v3, v4]))) 1 3 = some v3 := rfl
theorem pf1_3 (v0 v1 v2 v3 v4 w : Value) : z_pf (some (.inr (1, [v0, v1, v2, v3, v4]))) 1 3 w = some (.inr (1, [v0, v1, v2, w, v4])) := rfl
theorem gf1_4 (v0 v1 v2 v3 v4 : Value) : z_gf (some (.inr (1, [v0, v1, v2, v3, v4]))) 1 4 = some v4 := rfl
theorem pf1_4 (v0 v1 v2 v3 v4 w : Value) : z_pf (some (.inr (1, [v0, v1, v2, v3, v4]))) 1 4 w = some (.inr (1, [v0, v1, v2, v3, w])) := rfl
def gfs1 := And.intro @gf1_0 (And.intro @gf1_1 (And.intro @gf1_2 (And.intro @gf1_3 (@gf1_4))))
def pfs1 := And.intro @pf1_0 (And.intro @pf1_1 (And.intro @pf1_2 (And.intro @pf1_3 (@pf1_4))))
theorem gf2_0 (v0 v1 v2 v3 v4 v5 : Value) : z_gf (some (.inr (2, [v0, v1, v2, v3, v4, v5]))) 2 0 = some v0 := rfl
theorem pf2_0 (v0 v1 v2 v3 v4 v5 w : Value) : z_pf (some (.inr (2, [v0, v1, v2, v3, v4, v5]))) 2 0 w = some (.inr (2, [w, v1, v2, v3, v4, v5])) := rfl
theorem gf2_1 (v0 v1 v2 v3 v4 v5 : Value) : z_gf (some (.inr (2, [v0, v1, v2, v3, v4, v5]))) 2 1 = some v1 := rfl
theorem pf2_1 (v0 v1 v2 v3 v4 v5 w : Value) : z_pf (some (.inr (2, [v0, v1, v2, v3, v4, v5]))) 2 1 w = some (.inr (2, [v0, w, v2, v3, v4, v5])) := rfl
theorem gf2_2 (v0 v1 v2 v3 v4 v5 : Value) : z_gf (some (.inr (2, [v0, v1, v2, v3, v4, v5]))) 2 2 = some v2 := rfl
theorem pf2_2 (v0 v1 v2 v3 v4 v5 w : Value) : z_pf (some (.inr (2, [v0, v1, v2, v3, v4, v5]))) 2 2 w = some (.inr (2, [v0, v1, w, v3, v4, v5])) := rfl
theorem gf2_3 (v0 v1 v2 v3 v4 v5 : Value) : z_gf (some (.inr (2, [v0, v1, v2, v3, v4, v5]))) 2 3 = some v3 := rfl
theorem pf2_3 (v0 v1 v2 v3 v4 v5 w : Value) : z_pf (some (.inr (2, [v0, v1, v2, v3, v4, v5]))) 2 3 w = some (.inr (2, [v0, v1, v2, w, v4, v5])) := rfl
theorem gf2_4 (v0 v1 v2 v3 v4 v5 : Value) : z_gf (some (.inr (2, [v0, v1, v2, v3, v4, v5]))) 2 4 = some v4 := rfl
theorem pf2_4 (v0 v1 v2 v3 v4 v5 w : Value) : z_pf (some (.inr (2, [v0, v1, v2, v3, v4, v5]))) 2 4 w = some (.inr (2, [v0, v1, v2, v3, w, v5])) := rfl
theorem gf2_5 (v0 v1 v2 v3 v4 v5 : Value) : z_gf (some (.inr (2, [v0, v1, v2, v3, v4, v5]))) 2 5 = some v5 := rfl
theorem pf2_5 (v0 v1 v2 v3 v4 v5 w : Value) : z_pf (some (.inr (2, [v0, v1, v2, v3, v4, v5]))) 2 5 w = some (.inr (2, [v0, v1, v2, v3, v4, w])) := rfl
def gfs2 := And.intro @gf2_0 (And.intro @gf2_1 (And.intro @gf2_2 (And.intro @gf2_3 (And.intro @gf2_4 (@gf2_5)))))
def pfs2 := And.intro @pf2_0 (And.intro @pf2_1 (And.intro @pf2_2 (And.intro @pf2_3 (And.intro @pf2_4 (@pf2_5)))))
theorem gf3_0 (v0 v1 v2 : Value) : z_gf (some (.inr (3, [v0, v1, v2]))) 3 0 = some v0 := rfl
theorem pf3_0 (v0 v1 v2 w : Value) : z_pf (some (.inr (3, [v0, v1, v2]))) 3 0 w = some (.inr (3, [w, v1, v2])) := rfl
theorem gf3_1 (v0 v1 v2 : Value) : z_gf (some (.inr (3, [v0, v1, v2]))) 3 1 = some v1 := rfl
theorem pf3_1 (v0 v1 v2 w : Value) : z_pf (some (.inr (3, [v0, v1, v2]))) 3 1 w = some (.inr (3, [v0, w, v2])) := rfl
theorem gf3_2 (v0 v1 v2 : Value) : z_gf (some (.inr (3, [v0, v1, v2]))) 3 2 = some v2 := rfl
theorem pf3_2 (v0 v1 v2 w : Value) : z_pf (some (.inr (3, [v0, v1, v2]))) 3 2 w = some (.inr (3, [v0, v1, w])) := rfl
def gfs3 := And.intro @gf3_0 (And.intro @gf3_1 (@gf3_2))
def pfs3 := And.intro @pf3_0 (And.intro @pf3_1 (@pf3_2))
theorem gf4_0 (v0 v1 v2 : Value) : z_gf (some (.inr (4, [v0, v1, v2]))) 4 0 = some v0 := rfl
theorem pf4_0 (v0 v1 v2 w : Value) : z_pf (some (.inr (4, [v0, v1, v2]))) 4 0 w = some (.inr (4, [w, v1, v2])) := rfl
theorem gf4_1 (v0 v1 v2 : Value) : z_gf (some (.inr (4, [v0, v1, v2]))) 4 1 = some v1 := rfl
theorem pf4_1 (v0 v1 v2 w : Value) : z_pf (some (.inr (4, [v0, v1, v2]))) 4 1 w = some (.inr (4, [v0, w, v2])) := rfl
theorem gf4_2 (v0 v1 v2 : Value) : z_gf (some (.inr (4, [v0, v1, v2]))) 4 2 = some v2 := rfl
theorem pf4_2 (v0 v1 v2 w : Value) : z_pf (some (.inr (4, [v0, v1, v2]))) 4 2 w = some (.inr (4, [v0, v1, w])) := rfl
def gfs4 := And.intro @gf4_0 (And.intro @gf4_1 (@gf4_2))
def pfs4 := And.intro @pf4_0 (And.intro @pf4_1 (@pf4_2))
theorem gf5_0 (v0 v1 v2 v3 v4 v5 v6 v7 : Value) : z_gf (some (.inr (5, [v0, v1, v2, v3, v4, v5, v6, v7]))) 5 0 = some v0 := rfl
theorem pf5_0 (v0 v1 v2 v3 v4 v5 v6 v7 w : Value) : z_pf (some (.inr (5, [v0, v1, v2, v3, v4, v5, v6, v7]))) 5 0 w = some (.inr (5, [w, v1, v2, v3, v4, v5, v6, v7])) := rfl
theorem gf5_1 (v0 v1 v2 v3 v4 v5 v6 v7 : Value) : z_gf (some (.inr (5, [v0, v1, v2, v3, v4, v5, v6, v7]))) 5 1 = some v1 := rfl
theorem pf5_1 (v0 v1 v2 v3 v4 v5 v6 v7 w : Value) : z_pf (some (.inr (5, [v0, v1, v2, v3, v4, v5, v6, v7]))) 5 1 w = some (.inr (5, [v0, w, v2, v3, v4, v5, v6, v7])) := rfl
theorem gf5_2 (v0 v1 v2 v3 v4 v5 v6 v7 : Value) : z_gf (some (.inr (5, [v0, v1, v2, v3, v4, v5, v6, v7]))) 5 2 = some v2 := rfl
theorem pf5_2 (v0 v1 v2 v3 v4 v5 v6 v7 w : Value) : z_pf (some (.inr (5, [v0, v1, v2, v3, v4, v5, v6, v7]))) 5 2 w = some (.inr (5, [v0, v1, w, v3, v4, v5, v6, v7])) := rfl
theorem gf5_3 (v0 v1 v2 v3 v4 v5 v6 v7 : Value) : z_gf (some (.inr (5, [v0, v1, v2, v3, v4, v5, v6, v7]))) 5 3 = some v3 := rfl
theorem pf5_3 (v0 v1 v2 v3 v4 v5 v6 v7 w : Value) : z_pf (some (.inr (5, [v0, v1, v2, v3, v4, v5, v6, v7]))) 5 3 w = some (.inr (5, [v0, v1, v2, w, v4, v5, v6, v7])) := rfl
theorem gf5_4 (v0 v1 v2 v3 v4 v5 v6 v7 : Value) : z_gf (some (.inr (5, [v0, v1, v2, v3, v4, v5, v6, v7]))) 5 4 = some v4 := rfl
theorem pf5_4 (v0 v1 v2 v3 v4 v5 v6 v7 w : Value) : z_pf (some (.inr (5, [v0, v1, v2, v3, v4, v5, v6, v7]))) 5 4 w = some (.inr (5, [v0, v1, v2, v3, w, v5, v6, v7])) := rfl
theorem gf5_5 (v0 v1 v2 v3 v4 v5 v6 v7 : Value) : z_gf (some (.inr (5, [v0, v1, v2, v3, v4, v5, v6, v7]))) 5 5 = some v5 := rfl
theorem pf5_5 (v0 v1 v2 v3 v4 v5 v6 v7 w : Value) : z_pf (some (.inr (5, [v0, v1, v2, v3, v4, v5, v6, v7]))) 5 5 w = some (.inr (5, [v0, v1, v2, v3, v4, w, v6, v7])) := rfl
theorem gf5_6 (v0 v1 v2 v3 v4 v5 v6 v7 : Value) : z_gf (some (.inr (5, [v0, v1, v2, v3, v4, v5, v6, v7]))) 5 6 = some v6 := rfl
theorem pf5_6 (v0 v1 v2 v3 v4 v5 v6 v7 w : Value) : z_pf (some (.inr (5, [v0, v1, v2, v3, v4, v5, v6, v7]))) 5 6 w = some (.inr (5, [v0, v1, v2, v3, v4, v5, w, v7])) := rfl
theorem gf5_7 (v0 v1 v2 v3 v4 v5 v6 v7 : Value) : z_gf (some (.inr (5, [v0, v1, v2, v3, v4, v5, v6, v7]))) 5 7 = some v7 := rfl
theorem pf5_7 (v0 v1 v2 v3 v4 v5 v6 v7 w : Value) : z_pf (some (.inr (5, [v0, v1, v2, v3, v4, v5, v6, v7]))) 5 7 w = some (.inr (5, [v0, v1, v2, v3, v4, v5, v6, w])) := rfl
def gfs5 := And.intro @gf5_0 (And.intro @gf5_1 (And.intro @gf5_2 (And.intro @gf5_3 (And.intro @gf5_4 (And.intro @gf5_5 (And.intro @gf5_6 (@gf5_7)))))))
def pfs5 := And.intro @pf5_0 (And.intro @pf5_1 (And.intro @pf5_2 (And.intro @pf5_3 (And.intro @pf5_4 (And.intro @pf5_5 (And.intro @pf5_6 (@pf5_7)))))))
theorem gf6_0 (v0 v1 v2 v3 v4 v5 v6 v7 v8 v9 v10 v11 : Value) : z_gf (some (.inr (6, [v0, v1, v2, v3, v4, v5, v6, v7, v8, v9, v10, v11]))) 6 0 = some v0 := rfl
theorem pf6_0 (v0 v1 v2 v3 v4 v5 v6 v7 v8 v9 v10 v11 w : Value) : z_pf (some (.inr (6, [v0, v1, v2, v3, v4, v5, v6, v7, v8, v9, v10, v11]))) 6 0 w = some (.inr (6, [w, v1, v2, v3, v4, v5, v6, v7, v8, v9, v10, v11])) := rfl
theorem gf6_1 (v0 v1 v2 v3 v4 v5 v6 v7 v8 v9 v10 v11 : Value) : z_gf (some (.inr (6, [v0, v1, v2, v3, v4, v5, v6, v7, v8, v9, v10, v11]))) 6 1 = some v1 := rfl
theorem pf6_1 (v0 v1 v2 v3 v4 v5 v6 v7 v8 v9 v10 v11 w : Value) : z_pf (some (.inr (6, [v0, v1, v2, v3, v4, v5, v6, v7, v8, v9, v10, v11]))) 6 1 w = some (.inr (6, [v0, w, v2, v3, v4, v5, v6, v7, v8, v9, v10, v11])) := rfl
theorem gf6_2 (v0 v1 v2 v3 v4 v5 v6 v7 v8 v9 v10 v11 : Value) : z_gf (some (.inr (6, [v0, v1, v2, v3, v4, v5, v6, v7, v8, v9, v10, v11]))) 6 2 = some v2 := rfl
theorem pf6_2 (v0 v1 v2 v3 v4 v5 v6 v7 v8 v9 v10 v11 w : Value) : z_pf (some (.inr (6, [v0, v1, v2, v3, v4, v5, v6, v7, v8, v9, v10, v11]))) 6 2 w = some (.inr (6, [v0, v1, w, v3, v4, v5, v6, v7, v8, v9, v10, v11])) := rfl
theorem gf6_3 (v0 v1 v2 v3 v4 v5 v6 v7 v8 v9 v10 v11 : Value) : z_gf (some (.inr (6, [v0, v1, v2, v3, v4, v5, v6, v7, v8, v9, v10, v11]))) 6 3 = some v3 := rfl
theorem pf6_3 (v0 v1 v2 v3 v4 v5 v6 v7 v8 v9 v10 v11 w : Value) : z_pf (some (.inr (6, [v0, v1, v2, v3, v4, v5, v6, v7, v8, v9, v10, v11]))) 6 3 w = some (.inr (6, [v0, v1, v2, w, v4, v5, v6, v7, v8, v9, v10, v11])) := rfl
theorem gf6_4 (v0 v1 v2 v3 v4 v5 v6 v7 v8 v9 v10 v11 : Value) : z_gf (some (.inr (6, [v0, v1, v2, v3, v4, v5, v6, v7, v8, v9, v10, v11]))) 6 4 = some v4 := rfl
theorem pf6_4 (v0 v1 v2 v3 v4 v5 v6 v7 v8 v9 v10 v11 w : Value) : z_pf (some (.inr (6, [v0, v1, v2, v3, v4, v5, v6, v7, v8, v9, v10, v11]))) 6 4 w = some (.inr (6, [v0, v1, v2, v3, w, v5, v6, v7, v8, v9, v10, v11])) := rfl
theorem gf6_5 (v0 v1 v2 v3 v4 v5 v6 v7 v8 v9 v10 v11 : Value) : z_gf (some (.inr (6, [v0, v1, v2, v3, v4, v5, v6, v7, v8, v9, v10, v11]))) 6 5 = some v5 := rfl
theorem pf6_5 (v0 v1 v2 v3 v4 v5 v6 v7 v8 v9 v10 v11 w : Value) : z_pf (some (.inr (6, [v0, v1, v2, v3, v4, v5, v6, v7, v8, v9, v10, v11]))) 6 5 w = some (.inr (6, [v0, v1, v2, v3, v4, w, v6, v7, v8, v9, v10, v11])) := rfl
theorem gf6_6 (v0 v1 v2 v3 v4 v5 v6 v7 v8 v9 v10 v11 : Value) : z_gf (some (.inr (6, [v0, v1, v2, v3, v4, v5, v6, v7, v8, v9, v10, v11]))) 6 6 = some v6 := rfl
theorem pf6_6 (v0 v1 v2 v3 v4 v5 v6 v7 v8 v9 v10 v11 w : Value) : z_pf (some (.inr (6, [v0, v1, v2, v3, v4, v5, v6, v7, v8, v9, v10, v11]))) 6 6 w = some (.inr (6, [v0, v1, v2, v3, v4, v5, w, v7, v8, v9, v10, v11])) := rfl
theorem gf6_7 (v0 v1 v2 v3 v4 v5 v6 v7 v8 v9 v10 v11 : Value) : z_gf (some (.inr (6, [v0, v1, v2, v3, v4, v5, v6, v7, v8, v9, v10, v11]))) 6 7 = some v7 := rfl
theorem pf6_7 (v0 v1 v2 v3 v4 v5 v6 v7 v8 v9 v10 v11 w : Value) : z_pf (some (.inr (6, [v0, v1, v2, v3, v4, v5, v6, v7, v8, v9, v10, v11]))) 6 7 w = some (.inr (6, [v0, v1, v2, v3, v4, v5, v6, w, v8, v9, v10, v11])) := rfl
theorem gf6_8 (v0 v1 v2 v3 v4 v5 v6 v7 v8 v9 v10 v11 : Value) : z_gf (some (.inr (6, [v0, v1, v2, v3, v4, v5, v6, v7, v8, v9, v10, v11]))) 6 8 = some v8 := rfl
theorem pf6_8 (v0 v1 v2 v3 v4 v5 v6 v7 v8 v9 v10 v11 w : Value) : z_pf (some (.inr (6, [v0, v1, v2, v3, v4, v5, v6, v7, v8, v9, v10, v11]))) 6 8 w = some (.inr (6, [v0, v1, v2, v3, v4, v5, v6, v7, w, v9, v10, v11])) := rfl
theorem gf6_9 (v0 v1 v2 v3 v4 v5 v6 v7 v8 v9 v10 v11 : Value) : z_gf (some (.inr (6, [v0, v1, v2, v3, v4, v5, v6, v7, v8, v9, v10, v11]))) 6 9 = some v9 := rfl
theorem pf6_9 (v0 v1 v2 v3 v4 v5 v6 v7 v8 v9 v10 v11 w : Value) : z_pf (some (.inr (6, [v0, v1, v2, v3, v4, v5, v6, v7, v8, v9, v10, v11]))) 6 9 w = some (.inr (6, [v0, v1, v2, v3, v4, v5, v6, v7, v8, w, v10, v11])) := rfl
theorem gf6_10 (v0 v1 v2 v3 v4 v5 v6 v7 v8 v9 v10 v11 : Value) : z_gf (some (.inr (6, [v0, v1, v2, v3, v4, v5, v6, v7, v8, v9, v10, v11]))) 6 10 = some v10 := rfl
theorem pf6_10 (v0 v1 v2 v3 v4 v5 v6 v7 v8 v9 v10 v11 w : Value) : z_pf (some (.inr (6, [v0, v1, v2, v3, v4, v5, v6, v7, v8, v9, v10, v11]))) 6 10 w = some (.inr (6, [v0, v1, v2, v3, v4, v5, v6, v7, v8, v9, w, v11])) := rfl
theorem gf6_11 (v0 v1 v2 v3 v4 v5 v6 v7 v8 v9 v10 v11 : Value) : z_gf (some (.inr (6, [v0, v1, v2, v3, v4, v5, v6, v7, v8, v9, v10, v11]))) 6 11 = some v11 := rfl
theorem pf6_11 (v0 v1 v2 v3 v4 v5 v6 v7 v8 v9 v10 v11 w : Value) : z_pf (some (.inr (6, [v0, v1, v2, v3, v4, v5, v6, v7, v8, v9, v10, v11]))) 6 11 w = some (.inr (6, [v0, v1, v2, v3, v4, v5, v6, v7, v8, v9, v10, w])) := rfl
def gfs6 := And.intro @gf6_0 (And.intro @gf6_1 (And.intro @gf6_2 (And.intro @gf6_3 (And.intro @gf6_4 (And.intro @gf6_5 (And.intro @gf6_6 (And.intro @gf6_7 (And.intro @gf6_8 (And.intro @gf6_9 (And.intro @gf6_10 (@gf6_11)))))))))))
def pfs6 := And.intro @pf6_0 (And.intro @pf6_1 (And.intro @pf6_2 (And.intro @pf6_3 (And.intro @pf6_4 (And.intro @pf6_5 (And.intro @pf6_6 (And.intro @pf6_7 (And.intro @pf6_8 (And.intro @pf6_9 (And.intro @pf6_10 (@pf6_11)))))))))))
theorem gf7_0 (v0 v1 v2 v3 v4 v5 v6 v7 : Value) : z_gf (some (.inr (7, [v0, v1, v2, v3, v4, v5, v6, v7]))) 7 0 = some v0 := rfl
theorem pf7_0 (v0 v1 v2 v3 v4 v5 v6 v7 w : Value) : z_pf (some (.inr (7, [v0, v1, v2, v3, v4, v5, v6, v7]))) 7 0 w = some (.inr (7, [w, v1, v2, v3, v4, v5, v6, v7])) := rfl
theorem gf7_1 (v0 v1 v2 v3 v4 v5 v6 v7 : Value) : z_gf (some (.inr (7, [v0, v1, v2, v3, v4, v5, v6, v7]))) 7 1 = some v1 := rfl
theorem pf7_1 (v0 v1 v2 v3 v4 v5 v6 v7 w : Value) : z_pf (some (.inr (7, [v0, v1, v2, v3, v4, v5, v6, v7]))) 7 1 w = some (.inr (7, [v0, w, v2, v3, v4, v5, v6, v7])) := rfl
theorem gf7_2 (v0 v1 v2 v3 v4 v5 v6 v7 : Value) : z_gf (some (.inr (7, [v0, v1, v2, v3, v4, v5, v6, v7]))) 7 2 = some v2 := rfl
theorem pf7_2 (v0 v1 v2 v3 v4 v5 v6 v7 w : Value) : z_pf (some (.inr (7, [v0, v1, v2, v3, v4, v5, v6, v7]))) 7 2 w = some (.inr (7, [v0, v1, w, v3, v4, v5, v6, v7])) := rfl
theorem gf7_3 (v0 v1 v2 v3 v4 v5 v6 v7 : Value) : z_gf (some (.inr (7, [v0, v1, v2, v3, v4, v5, v6, v7]))) 7 3 = some v3 := rfl
theorem pf7_3 (v0 v1 v2 v3 v4 v5 v6 v7 w : Value) : z_pf (some (.inr (7, [v0, v1, v2, v3, v4, v5, v6, v7]))) 7 3 w = some (.inr (7, [v0, v1, v2, w, v4, v5, v6, v7])) := rfl
theorem gf7_4 (v0 v1 v2 v3 v4 v5 v6 v7 : Value) : z_gf (some (.inr (7, [v0, v1, v2, v3, v4, v5, v6, v7]))) 7 4 = some v4 := rfl
theorem pf7_4 (v0 v1 v2 v3 v4 v5 v6 v7 w : Value) : z_pf (some (.inr (7, [v0, v1, v2, v3, v4, v5, v6, v7]))) 7 4 w = some (.inr (7, [v0, v1, v2, v3, w, v5, v6, v7])) := rfl
theorem gf7_5 (v0 v1 v2 v3 v4 v5 v6 v7 : Value) : z_gf (some (.inr (7, [v0, v1, v2, v3, v4, v5, v6, v7]))) 7 5 = some v5 := rfl
theorem pf7_5 (v0 v1 v2 v3 v4 v5 v6 v7 w : Value) : z_pf (some (.inr (7, [v0, v1, v2, v3, v4, v5, v6, v7]))) 7 5 w = some (.inr (7, [v0, v1, v2, v3, v4, w, v6, v7])) := rfl
theorem gf7_6 (v0 v1 v2 v3 v4 v5 v6 v7 : Value) : z_gf (some (.inr (7, [v0, v1, v2, v3, v4, v5, v6, v7]))) 7 6 = some v6 := rfl
theorem pf7_6 (v0 v1 v2 v3 v4 v5 v6 v7 w : Value) : z_pf (some (.inr (7, [v0, v1, v2, v3, v4, v5, v6, v7]))) 7 6 w = some (.inr (7, [v0, v1, v2, v3, v4, v5, w, v7])) := rfl
theorem gf7_7 (v0 v1 v2 v3 v4 v5 v6 v7 : Value) : z_gf (some (.inr (7, [v0, v1, v2, v3, v4, v5, v6, v7]))) 7 7 = some v7 := rfl
theorem pf7_7 (v0 v1 v2 v3 v4 v5 v6 v7 w : Value) : z_pf (some (.inr (7, [v0, v1, v2, v3, v4, v5, v6, v7]))) 7 7 w = some (.inr (7, [v0, v1, v2, v3, v4, v5, v6, w])) := rfl
def gfs7 := And.intro @gf7_0 (And.intro @gf7_1 (And.intro @gf7_2 (And.intro @gf7_3 (And.intro @gf7_4 (And.intro @gf7_5 (And.intro @gf7_6 (@gf7_7)))))))
def pfs7 := And.intro @pf7_0 (And.intro @pf7_1 (And.intro @pf7_2 (And.intro @pf7_3 (And.intro @pf7_4 (And.intro @pf7_5 (And.intro @pf7_6 (@pf7_7)))))))
theorem gf8_0 (v0 v1 v2 v3 : Value) : z_gf (some (.inr (8, [v0, v1, v2, v3]))) 8 0 = some v0 := rfl
theorem pf8_0 (v0 v1 v2 v3 w : Value) : z_pf (some (.inr (8, [v0, v1, v2, v3]))) 8 0 w = some (.inr (8, [w, v1, v2, v3])) := rfl
theorem gf8_1 (v0 v1 v2 v3 : Value) : z_gf (some (.inr (8, [v0, v1, v2, v3]))) 8 1 = some v1 := rfl
theorem pf8_1 (v0 v1 v2 v3 w : Value) : z_pf (some (.inr (8, [v0, v1, v2, v3]))) 8 1 w = some (.inr (8, [v0, w, v2, v3])) := rfl
theorem gf8_2 (v0 v1 v2 v3 : Value) : z_gf (some (.inr (8, [v0, v1, v2, v3]))) 8 2 = some v2 := rfl
theorem pf8_2 (v0 v1 v2 v3 w : Value) : z_pf (some (.inr (8, [v0, v1, v2, v3]))) 8 2 w = some (.inr (8, [v0, v1, w, v3])) := rfl
theorem gf8_3 (v0 v1 v2 v3 : Value) : z_gf (some (.inr (8, [v0, v1, v2, v3]))) 8 3 = some v3 := rfl
theorem pf8_3 (v0 v1 v2 v3 w : Value) : z_pf (some (.inr (8, [v0, v1, v2, v3]))) 8 3 w = some (.inr (8, [v0, v1, v2, w])) := rfl
def gfs8 := And.intro @gf8_0 (And.intro @gf8_1 (And.intro @gf8_2 (@gf8_3)))
def pfs8 := And.intro @pf8_0 (And.intro @pf8_1 (And.intro @pf8_2 (@pf8_3)))
theorem gf9_0 (v0 v1 v2 v3 : Value) : z_gf (some (.inr (9, [v0, v1, v2, v3]))) 9 0 = some v0 := rfl
theorem pf9_0 (v0 v1 v2 v3 w : Value) : z_pf (some (.inr (9, [v0, v1, v2, v3]))) 9 0 w = some (.inr (9, [w, v1, v2, v3])) := rfl
theorem gf9_1 (v0 v1 v2 v3 : Value) : z_gf (some (.inr (9, [v0, v1, v2, v3]))) 9 1 = some v1 := rfl
theorem pf9_1 (v0 v1 v2 v3 w : Value) : z_pf (some (.inr (9, [v0, v1, v2, v3]))) 9 1 w = some (.inr (9, [v0, w, v2, v3])) := rfl
theorem gf9_2 (v0 v1 v2 v3 : Value) : z_gf (some (.inr (9, [v0, v1, v2, v3]))) 9 2 = some v2 := rfl
theorem pf9_2 (v0 v1 v2 v3 w : Value) : z_pf (some (.inr (9, [v0, v1, v2, v3]))) 9 2 w = some (.inr (9, [v0, v1, w, v3])) := rfl
theorem gf9_3 (v0 v1 v2 v3 : Value) : z_gf (some (.inr (9, [v0, v1, v2, v3]))) 9 3 = some v3 := rfl
theorem pf9_3 (v0 v1 v2 v3 w : Value) : z_pf (some (.inr (9, [v0, v1, v2, v3]))) 9 3 w = some (.inr (9, [v0, v1, v2, w])) := rfl
def gfs9 := And.intro @gf9_0 (And.intro @gf9_1 (And.intro @gf9_2 (@gf9_3)))
def pfs9 := And.intro @pf9_0 (And.intro @pf9_1 (And.intro @pf9_2 (@pf9_3)))
theorem gf10_0 (v0 v1 v2 v3 v4 : Value) : z_gf (some (.inr (10, [v0, v1, v2, v3, v4]))) 10 0 = some v0 := rfl
theorem pf10_0 (v0 v1 v2 v3 v4 w : Value) : z_pf (some (.inr (10, [v0, v1, v2, v3, v4]))) 10 0 w = some (.inr (10, [w, v1, v2, v3, v4])) := rfl
theorem gf10_1 (v0 v1 v2 v3 v4 : Value) : z_gf (some (.inr (10, [v0, v1, v2, v3, v4]))) 10 1 = some v1 := rfl
theorem pf10_1 (v0 v1 v2 v3 v4 w : Value) : z_pf (some (.inr (10, [v0, v1, v2, v3, v4]))) 10 1 w = some (.inr (10, [v0, w, v2, v3, v4])) := rfl
theorem gf10_2 (v0 v1 v2 v3 v4 : Value) : z_gf (some (.inr (10, [v0, v1, v2, v3, v4]))) 10 2 = some v2 := rfl
theorem pf10_2 (v0 v1 v2 v3 v4 w : Value) : z_pf (some (.inr (10, [v0, v1, v2, v3, v4]))) 10 2 w = some (.inr (10, [v0, v1, w, v3, v4])) := rfl
theorem gf10_3 (v0 v1 v2 v3 v4 : Value) : z_gf (some (.inr (10, [v0, v1, v2, v3, v4]))) 10 3 = some v3 := rfl
theorem pf10_3 (v0 v1 v2 v3 v4 w : Value) : z_pf (some (.inr (10, [v0, v1, v2, v3, v4]))) 10 3 w = some (.inr (10, [v0, v1, v2, w, v4])) := rfl
theorem gf10_4 (v0 v1 v2 v3 v4 : Value) : z_gf (some (.inr (10, [v0, v1, v2, v3, v4]))) 10 4 = some v4 := rfl
theorem pf10_4 (v0 v1 v2 v3 v4 w : Value) : z_pf (some (.inr (10, [v0, v1, v2, v3, v4]))) 10 4 w = some (.inr (10, [v0, v1, v2, v3, w])) := rfl
def gfs10 := And.intro @gf10_0 (And.intro @gf10_1 (And.intro @gf10_2 (And.intro @gf10_3 (@gf10_4))))
def pfs10 := And.intro @pf10_0 (And.intro @pf10_1 (And.intro @pf10_2 (And.intro @pf10_3 (@pf10_4))))
theorem gf11_0 (v0 v1 v2 v3 v4 v5 v6 v7 v8 v9 v10 v11 v12 v13 : Value) : z_gf (some (.inr (11, [v0, v1, v2, v3, v4, v5, v6, v7, v8, v9, v10, v11, v12, v13]))) 11 0 = some v0 := rfl
theorem pf11_0 (v0 v1 v2 v3 v4 v5 v6 v7 v8 v9 v10 v11 v12 v13 w : Value) : z_pf (some (.inr (11, [v0, v1, v2, v3, v4, v5, v6, v7, v8, v9, v10, v11, v12, v13]))) 11 0 w = some (.inr (11, [w, v1, v2, v3, v4, v5, v6, v7, v8, v9, v10, v11, v12, v13])) := rfl
theorem gf11_1 (v0 v1 v2 v3 v4 v5 v6 v7 v8 v9 v10 v11 v12 v13 : Value) : z_gf (some (.inr (11, [v0, v1, v2, v3, v4, v5, v6, v7, v8, v9, v10, v11, v12, v13]))) 11 1 = some v1 := rfl
theorem pf11_1 (v0 v1 v2 v3 v4 v5 v6 v7 v8 v9 v10 v11 v12 v13 w : Value) : z_pf (some (.inr (11, [v0, v1, v2, v3, v4, v5, v6, v7, v8, v9, v10, v11, v12, v13]))) 11 1 w = some (.inr (11, [v0, w, v2, v3, v4, v5, v6, v7, v8, v9, v10, v11, v12, v13])) := rfl
theorem gf11_2 (v0 v1 v2 v3 v4 v5 v6 v7 v8 v9 v10 v11 v12 v13 : Value) : z_gf (some (.inr (11, [v0, v1, v2, v3, v4, v5, v6, v7, v8, v9, v10, v11, v12, v13]))) 11 2 = some v2 := rfl
theorem pf11_2 (v0 v1 v2 v3 v4 v5 v6 v7 v8 v9 v10 v11 v12 v13 w : Value) : z_pf (some (.inr (11, [v0, v1, v2, v3, v4, v5, v6, v7, v8, v9, v10, v11, v12, v13]))) 11 2 w = some (.inr (11, [v0, v1, w, v3, v4, v5, v6, v7, v8, v9, v10, v11, v12, v13])) := rfl
theorem gf11_3 (v0 v1 v2 v3 v4 v5 v6 v7 v8 v9 v10 v11 v12 v13 : Value) : z_gf (some (.inr (11, [v0, v1, v2, v3, v4, v5, v6, v7, v8, v9, v10, v11, v12, v13]))) 11 3 = some v3 := rfl
theorem pf11_3 (v0 v1 v2 v3 v4 v5 v6 v7 v8 v9 v10 v11 v12 v13 w : Value) : z_pf (some (.inr (11, [v0, v1, v2, v3, v4, v5, v6, v7, v8, v9, v10, v11, v12, v13]))) 11 3 w = some (.inr (11, [v0, v1, v2, w, v4, v5, v6, v7, v8, v9, v10, v11, v12, v13])) := rfl
theorem gf11_4 (v0 v1 v2 v3 v4 v5 v6 v7 v8 v9 v10 v11 v12 v13 : Value) : z_gf (some (.inr (11, [v0, v1, v2, v3, v4, v5, v6, v7, v8, v9, v10, v11, v12, v13]))) 11 4 = some v4 := rfl
theorem pf11_4 (v0 v1 v2 v3 v4 v5 v6 v7 v8 v9 v10 v11 v12 v13 w : Value) : z_pf (some (.inr (11, [v0, v1, v2, v3, v4, v5, v6, v7, v8, v9, v10, v11, v12, v13]))) 11 4 w = some (.inr (11, [v0, v1, v2, v3, w, v5, v6, v7, v8, v9, v10, v11, v12, v13])) := rfl
theorem gf11_5 (v0 v1 v2 v3 v4 v5 v6 v7 v8 v9 v10 v11 v12 v13 : Value) : z_gf (some (.inr (11, [v0, v1, v2, v3, v4, v5, v6, v7, v8, v9, v10, v11, v12, v13]))) 11 5 = some v5 := rfl
theorem pf11_5 (v0 v1 v2 v3 v4 v5 v6 v7 v8 v9 v10 v11 v12 v13 w : Value) : z_pf (some (.inr (11, [v0, v1, v2, v3, v4, v5, v6, v7, v8, v9, v10, v11, v12, v13]))) 11 5 w = some (.inr (11, [v0, v1, v2, v3, v4, w, v6, v7, v8, v9, v10, v11, v12, v13])) := rfl
theorem gf11_6 (v0 v1 v2 v3 v4 v5 v6 v7 v8 v9 v10 v11 v12 v13 : Value) : z_gf (some (.inr (11, [v0, v1, v2, v3, v4, v5, v6, v7, v8, v9, v10, v11, v12, v13]))) 11 6 = some v6 := rfl
theorem pf11_6 (v0 v1 v2 v3 v4 v5 v6 v7 v8 v9 v10 v11 v12 v13 w : Value) : z_pf (some (.inr (11, [v0, v1, v2, v3, v4, v5, v6, v7, v8, v9, v10, v11, v12, v13]))) 11 6 w = some (.inr (11, [v0, v1, v2, v3, v4, v5, w, v7, v8, v9, v10, v11, v12, v13])) := rfl
theorem gf11_7 (v0 v1 v2 v3 v4 v5 v6 v7 v8 v9 v10 v11 v12 v13 : Value) : z_gf (some (.inr (11, [v0, v1, v2, v3, v4, v5, v6, v7, v8, v9, v10, v11, v12, v13]))) 11 7 = some v7 := rfl
theorem pf11_7 (v0 v1 v2 v3 v4 v5 v6 v7 v8 v9 v10 v11 v12 v13 w : Value) : z_pf (some (.inr (11, [v0, v1, v2, v3, v4, v5, v6, v7, v8, v9, v10, v11, v12, v13]))) 11 7 w = some (.inr (11, [v0, v1, v2, v3, v4, v5, v6, w, v8, v9, v10, v11, v12, v13])) := rfl
theorem gf11_8 (v0 v1 v2 v3 v4 v5 v6 v7 v8 v9 v10 v11 v12 v13 : Value) : z_gf (some (.inr (11, [v0, v1, v2, v3, v4, v5, v6, v7, v8, v9, v10, v11, v12, v13]))) 11 8 = some v8 := rfl
theorem pf11_8 (v0 v1 v2 v3 v4 v5 v6 v7 v8 v9 v10 v11 v12 v13 w : Value) : z_pf (some (.inr (11, [v0, v1, v2, v3, v4, v5, v6, v7, v8, v9, v10, v11, v12, v13]))) 11 8 w = some (.inr (11, [v0, v1, v2, v3, v4, v5, v6, v7, w, v9, v10, v11, v12, v13])) := rfl
theorem gf11_9 (v0 v1 v2 v3 v4 v5 v6 v7 v8 v9 v10 v11 v12 v13 : Value) : z_gf (some (.inr (11, [v0, v1, v2, v3, v4, v5, v6, v7, v8, v9, v10, v11, v12, v13]))) 11 9 = some v9 := rfl
theorem pf11_9 (v0 v1 v2 v3 v4 v5 v6 v7 v8 v9 v10 v11 v12 v13 w : Value) : z_pf (some (.inr (11, [v0, v1, v2, v3, v4, v5, v6, v7, v8, v9, v10, v11, v12, v13]))) 11 9 w = some (.inr (11, [v0, v1, v2, v3, v4, v5, v6, v7, v8, w, v10, v11, v12, v13])) := rfl
theorem gf11_10 (v0 v1 v2 v3 v4 v5 v6 v7 v8 v9 v10 v11 v12 v13 : Value) : z_gf (some (.inr (11, [v0, v1, v2, v3, v4, v5, v6, v7, v8, v9, v10, v11, v12, v13]))) 11 10 = some v10 := rfl
theorem pf11_10 (v0 v1 v2 v3 v4 v5 v6 v7 v8 v9 v10 v11 v12 v13 w : Value) : z_pf (some (.inr (11, [v0, v1, v2, v3, v4, v5, v6, v7, v8, v9, v10, v11, v12, v13]))) 11 10 w = some (.inr (11, [v0, v1, v2, v3, v4, v5, v6, v7, v8, v9, w, v11, v12, v13])) := rfl
theorem gf11_11 (v0 v1 v2 v3 v4 v5 v6 v7 v8 v9 v10 v11 v12 v13 : Value) : z_gf (some (.inr (11, [v0, v1, v2, v3, v4, v5, v6, v7, v8, v9, v10, v11, v12, v13]))) 11 11 = some v11 := rfl
theorem pf11_11 (v0 v1 v2 v3 v4 v5 v6 v7 v8 v9 v10 v11 v12 v13 w : Value) : z_pf (some (.inr (11, [v0, v1, v2, v3, v4, v5, v6, v7, v8, v9, v10, v11, v12, v13]))) 11 11 w = some (.inr (11, [v0, v1, v2, v3, v4, v5, v6, v7, v8, v9, v10, w, v12, v13])) := rfl
theorem gf11_12 (v0 v1 v2 v3 v4 v5 v6 v7 v8 v9 v10 v11 v12 v13 : Value) : z_gf (some (.inr (11, [v0, v1, v2, v3, v4, v5, v6, v7, v8, v9, v10, v11, v12, v13]))) 11 12 = some v12 := rfl
theorem pf11_12 (v0 v1 v2 v3 v4 v5 v6 v7 v8 v9 v10 v11 v12 v13 w : Value) : z_pf (some (.inr (11, [v0, v1, v2, v3, v4, v5, v6, v7, v8, v9, v10, v11, v12, v13]))) 11 12 w = some (.inr (11, [v0, v1, v2, v3, v4, v5, v6, v7, v8, v9, v10, v11, w, v13])) := rfl
theorem gf11_13 (v0 v1 v2 v3 v4 v5 v6 v7 v8 v9 v10 v11 v12 v13 : Value) : z_gf (some (.inr (11, [v0, v1, v2, v3, v4, v5, v6, v7, v8, v9, v10, v11, v12, v13]))) 11 13 = some v13 := rfl
theorem pf11_13 (v0 v1 v2 v3 v4 v5 v6 v7 v8 v9 v10 v11 v12 v13 w : Value) : z_pf (some (.inr (11, [v0, v1, v2, v3, v4, v5, v6, v7, v8, v9, v10, v11, v12, v13]))) 11 13 w = some (.inr (11, [v0, v1, v2, v3, v4, v5, v6, v7, v8, v9, v10, v11, v12, w])) := rfl
def gfs11 := And.intro @gf11_0 (And.intro @gf11_1 (And.intro @gf11_2 (And.intro @gf11_3 (And.intro @gf11_4 (And.intro @gf11_5 (And.intro @gf11_6 (And.intro @gf11_7 (And.intro @gf11_8 (And.intro @gf11_9 (And.intro @gf11_10 (And.intro @gf11_11 (And.intro @gf11_12 (@gf11_13)))))))))))))
def pfs11 := And.intro @pf11_0 (And.intro @pf11_1 (And.intro @pf11_2 (And.intro @pf11_3 (And.intro @pf11_4 (And.intro @pf11_5 (And.intro @pf11_6 (And.intro @pf11_7 (And.intro @pf11_8 (And.intro @pf11_9 (And.intro @pf11_10 (And.intro @pf11_11 (And.intro @pf11_12 (@pf11_13)))))))))))))
/-- a region of memory: n cells from a on -/
def rg (M : z_M) (a n : Nat) (f : Nat → z_E) : z_M := (M.1, fun x => if a ≤ x ∧ x < a + n then some (f (x - a)) else M.2 x)
theorem rg_1 (M : z_M) (a n : Nat) (f : Nat → z_E) : (rg M a n f).1 = M.1 := rfl
theorem rg_rd {M : z_M} {a n k : Nat} {f : Nat → z_E} (h : k < n) : (rg M a n f).2 (a + k) = some (f k) := by
  show (if a ≤ a + k ∧ a + k < a + n then some (f (a + k - a)) else M.2 (a + k)) = _
  rw [if_pos (by omega), Nat.add_sub_cancel_left]
theorem rg_out {M : z_M} {a n x : Nat} {f : Nat → z_E} (h : x < a ∨ a + n ≤ x) : (rg M a n f).2 x = M.2 x := by
  show (if a ≤ x ∧ x < a + n then some (f (x - a)) else M.2 x) = _
  rw [if_neg (by omega)]
theorem rg_congr {M : z_M} {a n : Nat} {f g : Nat → z_E} (h : ∀ k, k < n → f k = g k) : rg M a n f = rg M a n g := by
  unfold rg
  congr 1
  funext x
  by_cases hx : a ≤ x ∧ x < a + n
  · rw [if_pos hx, if_pos hx, h _ (by omega)]
  · rw [if_neg hx, if_neg hx]
theorem rg_wr {M : z_M} {a n k : Nat} {f g : Nat → z_E} {e : z_E} (hk : k < n) (he : g k = e) (h : ∀ j, j < n → j ≠ k → g j = f j) : z_up (rg M a n f) (a + k) e = rg M a n g := by
  unfold rg z_up
  congr 1
  funext x
  show (if x = a + k then some e else if a ≤ x ∧ x < a + n then some (f (x - a)) else M.2 x) = _
  by_cases hx : x = a + k
  · subst hx
    rw [if_pos rfl, if_pos (by omega), Nat.add_sub_cancel_left, he]
  · rw [if_neg hx]
    by_cases hr : a ≤ x ∧ x < a + n
    · rw [if_pos hr, if_pos hr, h _ (by omega) (by omega)]
    · rw [if_neg hr, if_neg hr]
theorem rg_wr_out {M : z_M} {a n x : Nat} {f : Nat → z_E} {e : z_E} (h : x < a ∨ a + n ≤ x) : z_up (rg M a n f) x e = rg (z_up M x e) a n f := by
  unfold rg z_up
  congr 1
  funext y
  show (if y = x then some e else if a ≤ y ∧ y < a + n then some (f (y - a)) else M.2 y) = (if a ≤ y ∧ y < a + n then some (f (y - a)) else if y = x then some e else M.2 y)
  by_cases hy : y = x
  · subst hy
    rw [if_pos rfl, if_neg (by omega), if_pos rfl]
  · rw [if_neg hy, if_neg hy]
theorem rg_rg {M : z_M} {a n : Nat} {f g : Nat → z_E} : rg (rg M a n f) a n g = rg M a n g := by
  unfold rg
  congr 1
  funext x
  by_cases hx : a ≤ x ∧ x < a + n
  · rw [if_pos hx, if_pos hx]
  · rw [if_neg hx, if_neg hx]
    show (if a ≤ x ∧ x < a + n then _ else _) = _
    rw [if_neg hx]
theorem rg_comm {M : z_M} {a n b m : Nat} {f g : Nat → z_E} (h : a + n ≤ b ∨ b + m ≤ a) : rg (rg M a n f) b m g = rg (rg M b m g) a n f := by
  unfold rg
  congr 1
  funext x
  show (if b ≤ x ∧ x < b + m then some (g (x - b)) else if a ≤ x ∧ x < a + n then some (f (x - a)) else M.2 x) = (if a ≤ x ∧ x < a + n then some (f (x - a)) else if b ≤ x ∧ x < b + m then some (g (x - b)) else M.2 x)
  by_cases h1 : b ≤ x ∧ x < b + m
  · rw [if_pos h1, if_neg (by omega), if_pos h1]
  · rw [if_neg h1, if_neg h1]
theorem rg_self {M : z_M} {a n : Nat} {f : Nat → z_E} (h : ∀ k, k < n → M.2 (a + k) = some (f k)) : rg M a n f = M := by
  unfold rg
  obtain ⟨s, m⟩ := M
  congr 1
  funext x
  by_cases hx : a ≤ x ∧ x < a + n
  · rw [if_pos hx, ← h (x - a) (by omega), show a + (x - a) = x by omega]
  · rw [if_neg hx]
/-- what a conference holds: numbers, the threshold, rows of ints, rows of floats -/
abbrev z_V : Type := (Nat → Int32) × UInt32 × (Nat → Nat → Int32) × (Nat → Nat → UInt32)
def sS (V : z_V) (i : Nat) (x : Int32) : z_V := (upd V.1 i x, V.2)
def sT (V : z_V) (x : UInt32) : z_V := (V.1, x, V.2.2)
def sA (V : z_V) (i : Nat) (f : Nat → Int32) : z_V := (V.1, V.2.1, (fun j => if j = i then f else V.2.2.1 j), V.2.2.2)
def sF (V : z_V) (i : Nat) (f : Nat → UInt32) : z_V := (V.1, V.2.1, V.2.2.1, fun j => if j = i then f else V.2.2.2 j)
theorem sS_S (V : z_V) (i j : Nat) (x : Int32) : (sS V i x).1 j = if j = i then x else V.1 j := rfl
theorem sS_T (V : z_V) (i : Nat) (x : Int32) : (sS V i x).2 = V.2 := rfl
theorem sT_S (V : z_V) (x : UInt32) : (sT V x).1 = V.1 := rfl
theorem sT_T (V : z_V) (x : UInt32) : (sT V x).2.1 = x := rfl
theorem sT_A (V : z_V) (x : UInt32) : (sT V x).2.2 = V.2.2 := rfl
theorem sA_S (V : z_V) (i : Nat) (f : Nat → Int32) : (sA V i f).1 = V.1 := rfl
theorem sA_T (V : z_V) (i : Nat) (f : Nat → Int32) : (sA V i f).2.1 = V.2.1 := rfl
theorem sA_A (V : z_V) (i j : Nat) (f : Nat → Int32) : (sA V i f).2.2.1 j = if j = i then f else V.2.2.1 j := rfl
theorem sA_F (V : z_V) (i : Nat) (f : Nat → Int32) : (sA V i f).2.2.2 = V.2.2.2 := rfl
theorem sF_S (V : z_V) (i : Nat) (f : Nat → UInt32) : (sF V i f).1 = V.1 := rfl
theorem sF_T (V : z_V) (i : Nat) (f : Nat → UInt32) : (sF V i f).2.1 = V.2.1 := rfl
theorem sF_A (V : z_V) (i : Nat) (f : Nat → UInt32) : (sF V i f).2.2.1 = V.2.2.1 := rfl
theorem sF_F (V : z_V) (i j : Nat) (f : Nat → UInt32) : (sF V i f).2.2.2 j = if j = i then f else V.2.2.2 j := rfl
def sgets := And.intro sS_S (And.intro sS_T (And.intro sT_S (And.intro sT_T (And.intro sT_A (And.intro sA_S (And.intro sA_T (And.intro sA_A (And.intro sA_F (And.intro sF_S (And.intro sF_T (And.intro sF_A sF_F)))))))))))
/-- the cells of a conference at c -/
def cC (c : Nat) (V : z_V) (k : Nat) : z_E := match k with
  | 0 => z_O 0 [.int (V.1 0), .ref (c + 1), .ref (c + 2), .ref (c + 6), .ref (c + 17), .ref (c + 23), .ref (c + 28)]
  | 1 => z_O 7 [.int (V.1 1), .float V.2.1, .int (V.1 2), .int (V.1 3), .int (V.1 4), .int (V.1 5), .int (V.1 6), .int (V.1 7)]
  | 2 => z_O 9 [.int (V.1 8), .ref (c + 3), .ref (c + 4), .ref (c + 5)]
  | 3 => z_I 8 (V.2.2.1 0)
  | 4 => z_I 8 (V.2.2.1 1)
  | 5 => z_I 8 (V.2.2.1 2)
  | 6 => z_O 6 [.int (V.1 9), .int (V.1 10), .ref (c + 7), .ref (c + 8), .ref (c + 9), .ref (c + 10), .ref (c + 11), .ref (c + 12), .ref (c + 13), .ref (c + 14), .ref (c + 15), .ref (c + 16)]
  | 7 => z_I 20 (V.2.2.1 3)
  | 8 => z_I 20 (V.2.2.1 4)
  | 9 => z_I 20 (V.2.2.1 5)
  | 10 => z_I 20 (V.2.2.1 6)
  | 11 => z_F 20 (V.2.2.2 0)
  | 12 => z_I 20 (V.2.2.1 7)
  | 13 => z_I 20 (V.2.2.1 8)
  | 14 => z_I 20 (V.2.2.1 9)
  | 15 => z_I 20 (V.2.2.1 10)
  | 16 => z_F 20 (V.2.2.2 1)
  | 17 => z_O 2 [.int (V.1 11), .ref (c + 18), .ref (c + 19), .ref (c + 20), .ref (c + 21), .ref (c + 22)]
  | 18 => z_I 20 (V.2.2.1 11)
  | 19 => z_I 20 (V.2.2.1 12)
  | 20 => z_I 20 (V.2.2.1 13)
  | 21 => z_I 20 (V.2.2.1 14)
  | 22 => z_I 20 (V.2.2.1 15)
  | 23 => z_O 8 [.ref (c + 24), .ref (c + 25), .ref (c + 26), .ref (c + 27)]
  | 24 => z_I 16 (V.2.2.1 16)
  | 25 => z_I 64 (V.2.2.1 17)
  | 26 => z_I 64 (V.2.2.1 18)
  | 27 => z_F 64 (V.2.2.2 2)
  | 28 => z_O 1 [.int (V.1 12), .int (V.1 13), .ref (c + 29), .ref (c + 30), .ref (c + 31)]
  | 29 => z_I 30 (V.2.2.1 19)
  | 30 => z_I 30 (V.2.2.1 20)
  | 31 => z_I 30 (V.2.2.1 21)
  | _ => z_I 0 (fun _ => 0)
def cS (M : z_M) (c : Nat) (V : z_V) : z_M := rg M c 32 (cC c V)
theorem cS_1 (M : z_M) (c : Nat) (V : z_V) : (cS M c V).1 = M.1 := rfl
theorem crd0 (M : z_M) (c : Nat) (V : z_V) : (cS M c V).2 c = some (z_O 0 [.int (V.1 0), .ref (c + 1), .ref (c + 2), .ref (c + 6), .ref (c + 17), .ref (c + 23), .ref (c + 28)]) := rg_rd (k := 0) (by decide)
theorem crd1 (M : z_M) (c : Nat) (V : z_V) : (cS M c V).2 (c + 1) = some (z_O 7 [.int (V.1 1), .float V.2.1, .int (V.1 2), .int (V.1 3), .int (V.1 4), .int (V.1 5), .int (V.1 6), .int (V.1 7)]) := rg_rd (by decide)
theorem crd2 (M : z_M) (c : Nat) (V : z_V) : (cS M c V).2 (c + 2) = some (z_O 9 [.int (V.1 8), .ref (c + 3), .ref (c + 4), .ref (c + 5)]) := rg_rd (by decide)
theorem crd3 (M : z_M) (c : Nat) (V : z_V) : (cS M c V).2 (c + 3) = some (z_I 8 (V.2.2.1 0)) := rg_rd (by decide)
theorem crd4 (M : z_M) (c : Nat) (V : z_V) : (cS M c V).2 (c + 4) = some (z_I 8 (V.2.2.1 1)) := rg_rd (by decide)
theorem crd5 (M : z_M) (c : Nat) (V : z_V) : (cS M c V).2 (c + 5) = some (z_I 8 (V.2.2.1 2)) := rg_rd (by decide)
theorem crd6 (M : z_M) (c : Nat) (V : z_V) : (cS M c V).2 (c + 6) = some (z_O 6 [.int (V.1 9), .int (V.1 10), .ref (c + 7), .ref (c + 8), .ref (c + 9), .ref (c + 10), .ref (c + 11), .ref (c + 12), .ref (c + 13), .ref (c + 14), .ref (c + 15), .ref (c + 16)]) := rg_rd (by decide)
theorem crd7 (M : z_M) (c : Nat) (V : z_V) : (cS M c V).2 (c + 7) = some (z_I 20 (V.2.2.1 3)) := rg_rd (by decide)
theorem crd8 (M : z_M) (c : Nat) (V : z_V) : (cS M c V).2 (c + 8) = some (z_I 20 (V.2.2.1 4)) := rg_rd (by decide)
theorem crd9 (M : z_M) (c : Nat) (V : z_V) : (cS M c V).2 (c + 9) = some (z_I 20 (V.2.2.1 5)) := rg_rd (by decide)
theorem crd10 (M : z_M) (c : Nat) (V : z_V) : (cS M c V).2 (c + 10) = some (z_I 20 (V.2.2.1 6)) := rg_rd (by decide)
theorem crd11 (M : z_M) (c : Nat) (V : z_V) : (cS M c V).2 (c + 11) = some (z_F 20 (V.2.2.2 0)) := rg_rd (by decide)
theorem crd12 (M : z_M) (c : Nat) (V : z_V) : (cS M c V).2 (c + 12) = some (z_I 20 (V.2.2.1 7)) := rg_rd (by decide)
theorem crd13 (M : z_M) (c : Nat) (V : z_V) : (cS M c V).2 (c + 13) = some (z_I 20 (V.2.2.1 8)) := rg_rd (by decide)
theorem crd14 (M : z_M) (c : Nat) (V : z_V) : (cS M c V).2 (c + 14) = some (z_I 20 (V.2.2.1 9)) := rg_rd (by decide)
theorem crd15 (M : z_M) (c : Nat) (V : z_V) : (cS M c V).2 (c + 15) = some (z_I 20 (V.2.2.1 10)) := rg_rd (by decide)
theorem crd16 (M : z_M) (c : Nat) (V : z_V) : (cS M c V).2 (c + 16) = some (z_F 20 (V.2.2.2 1)) := rg_rd (by decide)
theorem crd17 (M : z_M) (c : Nat) (V : z_V) : (cS M c V).2 (c + 17) = some (z_O 2 [.int (V.1 11), .ref (c + 18), .ref (c + 19), .ref (c + 20), .ref (c + 21), .ref (c + 22)]) := rg_rd (by decide)
theorem crd18 (M : z_M) (c : Nat) (V : z_V) : (cS M c V).2 (c + 18) = some (z_I 20 (V.2.2.1 11)) := rg_rd (by decide)
theorem crd19 (M : z_M) (c : Nat) (V : z_V) : (cS M c V).2 (c + 19) = some (z_I 20 (V.2.2.1 12)) := rg_rd (by decide)
theorem crd20 (M : z_M) (c : Nat) (V : z_V) : (cS M c V).2 (c + 20) = some (z_I 20 (V.2.2.1 13)) := rg_rd (by decide)
theorem crd21 (M : z_M) (c : Nat) (V : z_V) : (cS M c V).2 (c + 21) = some (z_I 20 (V.2.2.1 14)) := rg_rd (by decide)
theorem crd22 (M : z_M) (c : Nat) (V : z_V) : (cS M c V).2 (c + 22) = some (z_I 20 (V.2.2.1 15)) := rg_rd (by decide)
theorem crd23 (M : z_M) (c : Nat) (V : z_V) : (cS M c V).2 (c + 23) = some (z_O 8 [.ref (c + 24), .ref (c + 25), .ref (c + 26), .ref (c + 27)]) := rg_rd (by decide)
theorem crd24 (M : z_M) (c : Nat) (V : z_V) : (cS M c V).2 (c + 24) = some (z_I 16 (V.2.2.1 16)) := rg_rd (by decide)
theorem crd25 (M : z_M) (c : Nat) (V : z_V) : (cS M c V).2 (c + 25) = some (z_I 64 (V.2.2.1 17)) := rg_rd (by decide)
theorem crd26 (M : z_M) (c : Nat) (V : z_V) : (cS M c V).2 (c + 26) = some (z_I 64 (V.2.2.1 18)) := rg_rd (by decide)
theorem crd27 (M : z_M) (c : Nat) (V : z_V) : (cS M c V).2 (c + 27) = some (z_F 64 (V.2.2.2 2)) := rg_rd (by decide)
theorem crd28 (M : z_M) (c : Nat) (V : z_V) : (cS M c V).2 (c + 28) = some (z_O 1 [.int (V.1 12), .int (V.1 13), .ref (c + 29), .ref (c + 30), .ref (c + 31)]) := rg_rd (by decide)
theorem crd29 (M : z_M) (c : Nat) (V : z_V) : (cS M c V).2 (c + 29) = some (z_I 30 (V.2.2.1 19)) := rg_rd (by decide)
theorem crd30 (M : z_M) (c : Nat) (V : z_V) : (cS M c V).2 (c + 30) = some (z_I 30 (V.2.2.1 20)) := rg_rd (by decide)
theorem crd31 (M : z_M) (c : Nat) (V : z_V) : (cS M c V).2 (c + 31) = some (z_I 30 (V.2.2.1 21)) := rg_rd (by decide)
def crd := And.intro crd0 (And.intro crd1 (And.intro crd2 (And.intro crd3 (And.intro crd4 (And.intro crd5 (And.intro crd6 (And.intro crd7 (And.intro crd8 (And.intro crd9 (And.intro crd10 (And.intro crd11 (And.intro crd12 (And.intro crd13 (And.intro crd14 (And.intro crd15 (And.intro crd16 (And.intro crd17 (And.intro crd18 (And.intro crd19 (And.intro crd20 (And.intro crd21 (And.intro crd22 (And.intro crd23 (And.intro crd24 (And.intro crd25 (And.intro crd26 (And.intro crd27 (And.intro crd28 (And.intro crd29 (And.intro crd30 (crd31)))))))))))))))))))))))))))))))
theorem cwS0 (M : z_M) (c : Nat) (V : z_V) (x : Int32)   : z_up (cS M c V) c (z_O 0 [.int x, .ref (c + 1), .ref (c + 2), .ref (c + 6), .ref (c + 17), .ref (c + 23), .ref (c + 28)]) = cS M c (sS V 0 x) := by
  skip
  have h := rg_wr (M := M) (a := c) (n := 32) (k := 0) (f := cC c V) (g := cC c (sS V 0 x)) (by decide) rfl (fun j hj hne => match j, hj, hne with
    | 0, _, h => by first | rfl | exact absurd rfl h
    | 1, _, h => by first | rfl | exact absurd rfl h
    | 2, _, h => by first | rfl | exact absurd rfl h
    | 3, _, h => by first | rfl | exact absurd rfl h
    | 4, _, h => by first | rfl | exact absurd rfl h
    | 5, _, h => by first | rfl | exact absurd rfl h
    | 6, _, h => by first | rfl | exact absurd rfl h
    | 7, _, h => by first | rfl | exact absurd rfl h
    | 8, _, h => by first | rfl | exact absurd rfl h
    | 9, _, h => by first | rfl | exact absurd rfl h
    | 10, _, h => by first | rfl | exact absurd rfl h
    | 11, _, h => by first | rfl | exact absurd rfl h
    | 12, _, h => by first | rfl | exact absurd rfl h
    | 13, _, h => by first | rfl | exact absurd rfl h
    | 14, _, h => by first | rfl | exact absurd rfl h
    | 15, _, h => by first | rfl | exact absurd rfl h
    | 16, _, h => by first | rfl | exact absurd rfl h
    | 17, _, h => by first | rfl | exact absurd rfl h
    | 18, _, h => by first | rfl | exact absurd rfl h
    | 19, _, h => by first | rfl | exact absurd rfl h
    | 20, _, h => by first | rfl | exact absurd rfl h
    | 21, _, h => by first | rfl | exact absurd rfl h
    | 22, _, h => by first | rfl | exact absurd rfl h
    | 23, _, h => by first | rfl | exact absurd rfl h
    | 24, _, h => by first | rfl | exact absurd rfl h
    | 25, _, h => by first | rfl | exact absurd rfl h
    | 26, _, h => by first | rfl | exact absurd rfl h
    | 27, _, h => by first | rfl | exact absurd rfl h
    | 28, _, h => by first | rfl | exact absurd rfl h
    | 29, _, h => by first | rfl | exact absurd rfl h
    | 30, _, h => by first | rfl | exact absurd rfl h
    | 31, _, h => by first | rfl | exact absurd rfl h
    | n + 32, h, _ => absurd h (by omega))
  exact h
theorem cwS1 (M : z_M) (c : Nat) (V : z_V) (x : Int32) (y2 : Int32) (y3 : Int32) (y4 : Int32) (y5 : Int32) (y6 : Int32) (y7 : Int32) (yT : UInt32) (h2 : V.1 2 = y2) (h3 : V.1 3 = y3) (h4 : V.1 4 = y4) (h5 : V.1 5 = y5) (h6 : V.1 6 = y6) (h7 : V.1 7 = y7) (hT : V.2.1 = yT) : z_up (cS M c V) (c + 1) (z_O 7 [.int x, .float yT, .int y2, .int y3, .int y4, .int y5, .int y6, .int y7]) = cS M c (sS V 1 x) := by
  subst h2
  subst h3
  subst h4
  subst h5
  subst h6
  subst h7
  subst hT
  have h := rg_wr (M := M) (a := c) (n := 32) (k := 1) (f := cC c V) (g := cC c (sS V 1 x)) (by decide) rfl (fun j hj hne => match j, hj, hne with
    | 0, _, h => by first | rfl | exact absurd rfl h
    | 1, _, h => by first | rfl | exact absurd rfl h
    | 2, _, h => by first | rfl | exact absurd rfl h
    | 3, _, h => by first | rfl | exact absurd rfl h
    | 4, _, h => by first | rfl | exact absurd rfl h
    | 5, _, h => by first | rfl | exact absurd rfl h
    | 6, _, h => by first | rfl | exact absurd rfl h
    | 7, _, h => by first | rfl | exact absurd rfl h
    | 8, _, h => by first | rfl | exact absurd rfl h
    | 9, _, h => by first | rfl | exact absurd rfl h
    | 10, _, h => by first | rfl | exact absurd rfl h
    | 11, _, h => by first | rfl | exact absurd rfl h
    | 12, _, h => by first | rfl | exact absurd rfl h
    | 13, _, h => by first | rfl | exact absurd rfl h
    | 14, _, h => by first | rfl | exact absurd rfl h
    | 15, _, h => by first | rfl | exact absurd rfl h
    | 16, _, h => by first | rfl | exact absurd rfl h
    | 17, _, h => by first | rfl | exact absurd rfl h
    | 18, _, h => by first | rfl | exact absurd rfl h
    | 19, _, h => by first | rfl | exact absurd rfl h
    | 20, _, h => by first | rfl | exact absurd rfl h
    | 21, _, h => by first | rfl | exact absurd rfl h
    | 22, _, h => by first | rfl | exact absurd rfl h
    | 23, _, h => by first | rfl | exact absurd rfl h
    | 24, _, h => by first | rfl | exact absurd rfl h
    | 25, _, h => by first | rfl | exact absurd rfl h
    | 26, _, h => by first | rfl | exact absurd rfl h
    | 27, _, h => by first | rfl | exact absurd rfl h
    | 28, _, h => by first | rfl | exact absurd rfl h
    | 29, _, h => by first | rfl | exact absurd rfl h
    | 30, _, h => by first | rfl | exact absurd rfl h
    | 31, _, h => by first | rfl | exact absurd rfl h
    | n + 32, h, _ => absurd h (by omega))
  exact h
theorem cwS2 (M : z_M) (c : Nat) (V : z_V) (x : Int32) (y1 : Int32) (y3 : Int32) (y4 : Int32) (y5 : Int32) (y6 : Int32) (y7 : Int32) (yT : UInt32) (h1 : V.1 1 = y1) (h3 : V.1 3 = y3) (h4 : V.1 4 = y4) (h5 : V.1 5 = y5) (h6 : V.1 6 = y6) (h7 : V.1 7 = y7) (hT : V.2.1 = yT) : z_up (cS M c V) (c + 1) (z_O 7 [.int y1, .float yT, .int x, .int y3, .int y4, .int y5, .int y6, .int y7]) = cS M c (sS V 2 x) := by
  subst h1
  subst h3
  subst h4
  subst h5
  subst h6
  subst h7
  subst hT
  have h := rg_wr (M := M) (a := c) (n := 32) (k := 1) (f := cC c V) (g := cC c (sS V 2 x)) (by decide) rfl (fun j hj hne => match j, hj, hne with
    | 0, _, h => by first | rfl | exact absurd rfl h
    | 1, _, h => by first | rfl | exact absurd rfl h
    | 2, _, h => by first | rfl | exact absurd rfl h
    | 3, _, h => by first | rfl | exact absurd rfl h
    | 4, _, h => by first | rfl | exact absurd rfl h
    | 5, _, h => by first | rfl | exact absurd rfl h
    | 6, _, h => by first | rfl | exact absurd rfl h
    | 7, _, h => by first | rfl | exact absurd rfl h
    | 8, _, h => by first | rfl | exact absurd rfl h
    | 9, _, h => by first | rfl | exact absurd rfl h
    | 10, _, h => by first | rfl | exact absurd rfl h
    | 11, _, h => by first | rfl | exact absurd rfl h
    | 12, _, h => by first | rfl | exact absurd rfl h
    | 13, _, h => by first | rfl | exact absurd rfl h
    | 14, _, h => by first | rfl | exact absurd rfl h
    | 15, _, h => by first | rfl | exact absurd rfl h
    | 16, _, h => by first | rfl | exact absurd rfl h
    | 17, _, h => by first | rfl | exact absurd rfl h
    | 18, _, h => by first | rfl | exact absurd rfl h
    | 19, _, h => by first | rfl | exact absurd rfl h
    | 20, _, h => by first | rfl | exact absurd rfl h
    | 21, _, h => by first | rfl | exact absurd rfl h
    | 22, _, h => by first | rfl | exact absurd rfl h
    | 23, _, h => by first | rfl | exact absurd rfl h
    | 24, _, h => by first | rfl | exact absurd rfl h
    | 25, _, h => by first | rfl | exact absurd rfl h
    | 26, _, h => by first | rfl | exact absurd rfl h
    | 27, _, h => by first | rfl | exact absurd rfl h
    | 28, _, h => by first | rfl | exact absurd rfl h
    | 29, _, h => by first | rfl | exact absurd rfl h
    | 30, _, h => by first | rfl | exact absurd rfl h
    | 31, _, h => by first | rfl | exact absurd rfl h
    | n + 32, h, _ => absurd h (by omega))
  exact h
theorem cwS3 (M : z_M) (c : Nat) (V : z_V) (x : Int32) (y1 : Int32) (y2 : Int32) (y4 : Int32) (y5 : Int32) (y6 : Int32) (y7 : Int32) (yT : UInt32) (h1 : V.1 1 = y1) (h2 : V.1 2 = y2) (h4 : V.1 4 = y4) (h5 : V.1 5 = y5) (h6 : V.1 6 = y6) (h7 : V.1 7 = y7) (hT : V.2.1 = yT) : z_up (cS M c V) (c + 1) (z_O 7 [.int y1, .float yT, .int y2, .int x, .int y4, .int y5, .int y6, .int y7]) = cS M c (sS V 3 x) := by
  subst h1
  subst h2
  subst h4
  subst h5
  subst h6
  subst h7
  subst hT
  have h := rg_wr (M := M) (a := c) (n := 32) (k := 1) (f := cC c V) (g := cC c (sS V 3 x)) (by decide) rfl (fun j hj hne => match j, hj, hne with
    | 0, _, h => by first | rfl | exact absurd rfl h
    | 1, _, h => by first | rfl | exact absurd rfl h
    | 2, _, h => by first | rfl | exact absurd rfl h
    | 3, _, h => by first | rfl | exact absurd rfl h
    | 4, _, h => by first | rfl | exact absurd rfl h
    | 5, _, h => by first | rfl | exact absurd rfl h
    | 6, _, h => by first | rfl | exact absurd rfl h
    | 7, _, h => by first | rfl | exact absurd rfl h
    | 8, _, h => by first | rfl | exact absurd rfl h
    | 9, _, h => by first | rfl | exact absurd rfl h
    | 10, _, h => by first | rfl | exact absurd rfl h
    | 11, _, h => by first | rfl | exact absurd rfl h
    | 12, _, h => by first | rfl | exact absurd rfl h
    | 13, _, h => by first | rfl | exact absurd rfl h
    | 14, _, h => by first | rfl | exact absurd rfl h
    | 15, _, h => by first | rfl | exact absurd rfl h
    | 16, _, h => by first | rfl | exact absurd rfl h
    | 17, _, h => by first | rfl | exact absurd rfl h
    | 18, _, h => by first | rfl | exact absurd rfl h
    | 19, _, h => by first | rfl | exact absurd rfl h
    | 20, _, h => by first | rfl | exact absurd rfl h
    | 21, _, h => by first | rfl | exact absurd rfl h
    | 22, _, h => by first | rfl | exact absurd rfl h
    | 23, _, h => by first | rfl | exact absurd rfl h
    | 24, _, h => by first | rfl | exact absurd rfl h
    | 25, _, h => by first | rfl | exact absurd rfl h
    | 26, _, h => by first | rfl | exact absurd rfl h
    | 27, _, h => by first | rfl | exact absurd rfl h
    | 28, _, h => by first | rfl | exact absurd rfl h
    | 29, _, h => by first | rfl | exact absurd rfl h
    | 30, _, h => by first | rfl | exact absurd rfl h
    | 31, _, h => by first | rfl | exact absurd rfl h
    | n + 32, h, _ => absurd h (by omega))
  exact h
theorem cwS4 (M : z_M) (c : Nat) (V : z_V) (x : Int32) (y1 : Int32) (y2 : Int32) (y3 : Int32) (y5 : Int32) (y6 : Int32) (y7 : Int32) (yT : UInt32) (h1 : V.1 1 = y1) (h2 : V.1 2 = y2) (h3 : V.1 3 = y3) (h5 : V.1 5 = y5) (h6 : V.1 6 = y6) (h7 : V.1 7 = y7) (hT : V.2.1 = yT) : z_up (cS M c V) (c + 1) (z_O 7 [.int y1, .float yT, .int y2, .int y3, .int x, .int y5, .int y6, .int y7]) = cS M c (sS V 4 x) := by
  subst h1
  subst h2
  subst h3
  subst h5
  subst h6
  subst h7
  subst hT
  have h := rg_wr (M := M) (a := c) (n := 32) (k := 1) (f := cC c V) (g := cC c (sS V 4 x)) (by decide) rfl (fun j hj hne => match j, hj, hne with
    | 0, _, h => by first | rfl | exact absurd rfl h
    | 1, _, h => by first | rfl | exact absurd rfl h
    | 2, _, h => by first | rfl | exact absurd rfl h
    | 3, _, h => by first | rfl | exact absurd rfl h
    | 4, _, h => by first | rfl | exact absurd rfl h
    | 5, _, h => by first | rfl | exact absurd rfl h
    | 6, _, h => by first | rfl | exact absurd rfl h
    | 7, _, h => by first | rfl | exact absurd rfl h
    | 8, _, h => by first | rfl | exact absurd rfl h
    | 9, _, h => by first | rfl | exact absurd rfl h
    | 10, _, h => by first | rfl | exact absurd rfl h
    | 11, _, h => by first | rfl | exact absurd rfl h
    | 12, _, h => by first | rfl | exact absurd rfl h
    | 13, _, h => by first | rfl | exact absurd rfl h
    | 14, _, h => by first | rfl | exact absurd rfl h
    | 15, _, h => by first | rfl | exact absurd rfl h
    | 16, _, h => by first | rfl | exact absurd rfl h
    | 17, _, h => by first | rfl | exact absurd rfl h
    | 18, _, h => by first | rfl | exact absurd rfl h
    | 19, _, h => by first | rfl | exact absurd rfl h
    | 20, _, h => by first | rfl | exact absurd rfl h
    | 21, _, h => by first | rfl | exact absurd rfl h
    | 22, _, h => by first | rfl | exact absurd rfl h
    | 23, _, h => by first | rfl | exact absurd rfl h
    | 24, _, h => by first | rfl | exact absurd rfl h
    | 25, _, h => by first | rfl | exact absurd rfl h
    | 26, _, h => by first | rfl | exact absurd rfl h
    | 27, _, h => by first | rfl | exact absurd rfl h
    | 28, _, h => by first | rfl | exact absurd rfl h
    | 29, _, h => by first | rfl | exact absurd rfl h
    | 30, _, h => by first | rfl | exact absurd rfl h
    | 31, _, h => by first | rfl | exact absurd rfl h
    | n + 32, h, _ => absurd h (by omega))
  exact h
theorem cwS5 (M : z_M) (c : Nat) (V : z_V) (x : Int32) (y1 : Int32) (y2 : Int32) (y3 : Int32) (y4 : Int32) (y6 : Int32) (y7 : Int32) (yT : UInt32) (h1 : V.1 1 = y1) (h2 : V.1 2 = y2) (h3 : V.1 3 = y3) (h4 : V.1 4 = y4) (h6 : V.1 6 = y6) (h7 : V.1 7 = y7) (hT : V.2.1 = yT) : z_up (cS M c V) (c + 1) (z_O 7 [.int y1, .float yT, .int y2, .int y3, .int y4, .int x, .int y6, .int y7]) = cS M c (sS V 5 x) := by
  subst h1
  subst h2
  subst h3
  subst h4
  subst h6
  subst h7
  subst hT
  have h := rg_wr (M := M) (a := c) (n := 32) (k := 1) (f := cC c V) (g := cC c (sS V 5 x)) (by decide) rfl (fun j hj hne => match j, hj, hne with
    | 0, _, h => by first | rfl | exact absurd rfl h
    | 1, _, h => by first | rfl | exact absurd rfl h
    | 2, _, h => by first | rfl | exact absurd rfl h
    | 3, _, h => by first | rfl | exact absurd rfl h
    | 4, _, h => by first | rfl | exact absurd rfl h
    | 5, _, h => by first | rfl | exact absurd rfl h
    | 6, _, h => by first | rfl | exact absurd rfl h
    | 7, _, h => by first | rfl | exact absurd rfl h
    | 8, _, h => by first | rfl | exact absurd rfl h
    | 9, _, h => by first | rfl | exact absurd rfl h
    | 10, _, h => by first | rfl | exact absurd rfl h
    | 11, _, h => by first | rfl | exact absurd rfl h
    | 12, _, h => by first | rfl | exact absurd rfl h
    | 13, _, h => by first | rfl | exact absurd rfl h
    | 14, _, h => by first | rfl | exact absurd rfl h
    | 15, _, h => by first | rfl | exact absurd rfl h
    | 16, _, h => by first | rfl | exact absurd rfl h
    | 17, _, h => by first | rfl | exact absurd rfl h
    | 18, _, h => by first | rfl | exact absurd rfl h
    | 19, _, h => by first | rfl | exact absurd rfl h
    | 20, _, h => by first | rfl | exact absurd rfl h
    | 21, _, h => by first | rfl | exact absurd rfl h
    | 22, _, h => by first | rfl | exact absurd rfl h
    | 23, _, h => by first | rfl | exact absurd rfl h
    | 24, _, h => by first | rfl | exact absurd rfl h
    | 25, _, h => by first | rfl | exact absurd rfl h
    | 26, _, h => by first | rfl | exact absurd rfl h
    | 27, _, h => by first | rfl | exact absurd rfl h
    | 28, _, h => by first | rfl | exact absurd rfl h
    | 29, _, h => by first | rfl | exact absurd rfl h
    | 30, _, h => by first | rfl | exact absurd rfl h
    | 31, _, h => by first | rfl | exact absurd rfl h
    | n + 32, h, _ => absurd h (by omega))
  exact h
theorem cwS6 (M : z_M) (c : Nat) (V : z_V) (x : Int32) (y1 : Int32) (y2 : Int32) (y3 : Int32) (y4 : Int32) (y5 : Int32) (y7 : Int32) (yT : UInt32) (h1 : V.1 1 = y1) (h2 : V.1 2 = y2) (h3 : V.1 3 = y3) (h4 : V.1 4 = y4) (h5 : V.1 5 = y5) (h7 : V.1 7 = y7) (hT : V.2.1 = yT) : z_up (cS M c V) (c + 1) (z_O 7 [.int y1, .float yT, .int y2, .int y3, .int y4, .int y5, .int x, .int y7]) = cS M c (sS V 6 x) := by
  subst h1
  subst h2
  subst h3
  subst h4
  subst h5
  subst h7
  subst hT
  have h := rg_wr (M := M) (a := c) (n := 32) (k := 1) (f := cC c V) (g := cC c (sS V 6 x)) (by decide) rfl (fun j hj hne => match j, hj, hne with
    | 0, _, h => by first | rfl | exact absurd rfl h
    | 1, _, h => by first | rfl | exact absurd rfl h
    | 2, _, h => by first | rfl | exact absurd rfl h
    | 3, _, h => by first | rfl | exact absurd rfl h
    | 4, _, h => by first | rfl | exact absurd rfl h
    | 5, _, h => by first | rfl | exact absurd rfl h
    | 6, _, h => by first | rfl | exact absurd rfl h
    | 7, _, h => by first | rfl | exact absurd rfl h
    | 8, _, h => by first | rfl | exact absurd rfl h
    | 9, _, h => by first | rfl | exact absurd rfl h
    | 10, _, h => by first | rfl | exact absurd rfl h
    | 11, _, h => by first | rfl | exact absurd rfl h
    | 12, _, h => by first | rfl | exact absurd rfl h
    | 13, _, h => by first | rfl | exact absurd rfl h
    | 14, _, h => by first | rfl | exact absurd rfl h
    | 15, _, h => by first | rfl | exact absurd rfl h
    | 16, _, h => by first | rfl | exact absurd rfl h
    | 17, _, h => by first | rfl | exact absurd rfl h
    | 18, _, h => by first | rfl | exact absurd rfl h
    | 19, _, h => by first | rfl | exact absurd rfl h
    | 20, _, h => by first | rfl | exact absurd rfl h
    | 21, _, h => by first | rfl | exact absurd rfl h
    | 22, _, h => by first | rfl | exact absurd rfl h
    | 23, _, h => by first | rfl | exact absurd rfl h
    | 24, _, h => by first | rfl | exact absurd rfl h
    | 25, _, h => by first | rfl | exact absurd rfl h
    | 26, _, h => by first | rfl | exact absurd rfl h
    | 27, _, h => by first | rfl | exact absurd rfl h
    | 28, _, h => by first | rfl | exact absurd rfl h
    | 29, _, h => by first | rfl | exact absurd rfl h
    | 30, _, h => by first | rfl | exact absurd rfl h
    | 31, _, h => by first | rfl | exact absurd rfl h
    | n + 32, h, _ => absurd h (by omega))
  exact h
theorem cwS7 (M : z_M) (c : Nat) (V : z_V) (x : Int32) (y1 : Int32) (y2 : Int32) (y3 : Int32) (y4 : Int32) (y5 : Int32) (y6 : Int32) (yT : UInt32) (h1 : V.1 1 = y1) (h2 : V.1 2 = y2) (h3 : V.1 3 = y3) (h4 : V.1 4 = y4) (h5 : V.1 5 = y5) (h6 : V.1 6 = y6) (hT : V.2.1 = yT) : z_up (cS M c V) (c + 1) (z_O 7 [.int y1, .float yT, .int y2, .int y3, .int y4, .int y5, .int y6, .int x]) = cS M c (sS V 7 x) := by
  subst h1
  subst h2
  subst h3
  subst h4
  subst h5
  subst h6
  subst hT
  have h := rg_wr (M := M) (a := c) (n := 32) (k := 1) (f := cC c V) (g := cC c (sS V 7 x)) (by decide) rfl (fun j hj hne => match j, hj, hne with
    | 0, _, h => by first | rfl | exact absurd rfl h
    | 1, _, h => by first | rfl | exact absurd rfl h
    | 2, _, h => by first | rfl | exact absurd rfl h
    | 3, _, h => by first | rfl | exact absurd rfl h
    | 4, _, h => by first | rfl | exact absurd rfl h
    | 5, _, h => by first | rfl | exact absurd rfl h
    | 6, _, h => by first | rfl | exact absurd rfl h
    | 7, _, h => by first | rfl | exact absurd rfl h
    | 8, _, h => by first | rfl | exact absurd rfl h
    | 9, _, h => by first | rfl | exact absurd rfl h
    | 10, _, h => by first | rfl | exact absurd rfl h
    | 11, _, h => by first | rfl | exact absurd rfl h
    | 12, _, h => by first | rfl | exact absurd rfl h
    | 13, _, h => by first | rfl | exact absurd rfl h
    | 14, _, h => by first | rfl | exact absurd rfl h
    | 15, _, h => by first | rfl | exact absurd rfl h
    | 16, _, h => by first | rfl | exact absurd rfl h
    | 17, _, h => by first | rfl | exact absurd rfl h
    | 18, _, h => by first | rfl | exact absurd rfl h
    | 19, _, h => by first | rfl | exact absurd rfl h
    | 20, _, h => by first | rfl | exact absurd rfl h
    | 21, _, h => by first | rfl | exact absurd rfl h
    | 22, _, h => by first | rfl | exact absurd rfl h
    | 23, _, h => by first | rfl | exact absurd rfl h
    | 24, _, h => by first | rfl | exact absurd rfl h
    | 25, _, h => by first | rfl | exact absurd rfl h
    | 26, _, h => by first | rfl | exact absurd rfl h
    | 27, _, h => by first | rfl | exact absurd rfl h
    | 28, _, h => by first | rfl | exact absurd rfl h
    | 29, _, h => by first | rfl | exact absurd rfl h
    | 30, _, h => by first | rfl | exact absurd rfl h
    | 31, _, h => by first | rfl | exact absurd rfl h
    | n + 32, h, _ => absurd h (by omega))
  exact h
theorem cwT (M : z_M) (c : Nat) (V : z_V) (x : UInt32) (y1 : Int32) (y2 : Int32) (y3 : Int32) (y4 : Int32) (y5 : Int32) (y6 : Int32) (y7 : Int32) (h1 : V.1 1 = y1) (h2 : V.1 2 = y2) (h3 : V.1 3 = y3) (h4 : V.1 4 = y4) (h5 : V.1 5 = y5) (h6 : V.1 6 = y6) (h7 : V.1 7 = y7) : z_up (cS M c V) (c + 1) (z_O 7 [.int y1, .float x, .int y2, .int y3, .int y4, .int y5, .int y6, .int y7]) = cS M c (sT V x) := by
  subst h1
  subst h2
  subst h3
  subst h4
  subst h5
  subst h6
  subst h7
  have h := rg_wr (M := M) (a := c) (n := 32) (k := 1) (f := cC c V) (g := cC c (sT V x)) (by decide) rfl (fun j hj hne => match j, hj, hne with
    | 0, _, h => by first | rfl | exact absurd rfl h
    | 1, _, h => by first | rfl | exact absurd rfl h
    | 2, _, h => by first | rfl | exact absurd rfl h
    | 3, _, h => by first | rfl | exact absurd rfl h
    | 4, _, h => by first | rfl | exact absurd rfl h
    | 5, _, h => by first | rfl | exact absurd rfl h
    | 6, _, h => by first | rfl | exact absurd rfl h
    | 7, _, h => by first | rfl | exact absurd rfl h
    | 8, _, h => by first | rfl | exact absurd rfl h
    | 9, _, h => by first | rfl | exact absurd rfl h
    | 10, _, h => by first | rfl | exact absurd rfl h
    | 11, _, h => by first | rfl | exact absurd rfl h
    | 12, _, h => by first | rfl | exact absurd rfl h
    | 13, _, h => by first | rfl | exact absurd rfl h
    | 14, _, h => by first | rfl | exact absurd rfl h
    | 15, _, h => by first | rfl | exact absurd rfl h
    | 16, _, h => by first | rfl | exact absurd rfl h
    | 17, _, h => by first | rfl | exact absurd rfl h
    | 18, _, h => by first | rfl | exact absurd rfl h
    | 19, _, h => by first | rfl | exact absurd rfl h
    | 20, _, h => by first | rfl | exact absurd rfl h
    | 21, _, h => by first | rfl | exact absurd rfl h
    | 22, _, h => by first | rfl | exact absurd rfl h
    | 23, _, h => by first | rfl | exact absurd rfl h
    | 24, _, h => by first | rfl | exact absurd rfl h
    | 25, _, h => by first | rfl | exact absurd rfl h
    | 26, _, h => by first | rfl | exact absurd rfl h
    | 27, _, h => by first | rfl | exact absurd rfl h
    | 28, _, h => by first | rfl | exact absurd rfl h
    | 29, _, h => by first | rfl | exact absurd rfl h
    | 30, _, h => by first | rfl | exact absurd rfl h
    | 31, _, h => by first | rfl | exact absurd rfl h
    | n + 32, h, _ => absurd h (by omega))
  exact h
theorem cwS8 (M : z_M) (c : Nat) (V : z_V) (x : Int32)   : z_up (cS M c V) (c + 2) (z_O 9 [.int x, .ref (c + 3), .ref (c + 4), .ref (c + 5)]) = cS M c (sS V 8 x) := by
  skip
  have h := rg_wr (M := M) (a := c) (n := 32) (k := 2) (f := cC c V) (g := cC c (sS V 8 x)) (by decide) rfl (fun j hj hne => match j, hj, hne with
    | 0, _, h => by first | rfl | exact absurd rfl h
    | 1, _, h => by first | rfl | exact absurd rfl h
    | 2, _, h => by first | rfl | exact absurd rfl h
    | 3, _, h => by first | rfl | exact absurd rfl h
    | 4, _, h => by first | rfl | exact absurd rfl h
    | 5, _, h => by first | rfl | exact absurd rfl h
    | 6, _, h => by first | rfl | exact absurd rfl h
    | 7, _, h => by first | rfl | exact absurd rfl h
    | 8, _, h => by first | rfl | exact absurd rfl h
    | 9, _, h => by first | rfl | exact absurd rfl h
    | 10, _, h => by first | rfl | exact absurd rfl h
    | 11, _, h => by first | rfl | exact absurd rfl h
    | 12, _, h => by first | rfl | exact absurd rfl h
    | 13, _, h => by first | rfl | exact absurd rfl h
    | 14, _, h => by first | rfl | exact absurd rfl h
    | 15, _, h => by first | rfl | exact absurd rfl h
    | 16, _, h => by first | rfl | exact absurd rfl h
    | 17, _, h => by first | rfl | exact absurd rfl h
    | 18, _, h => by first | rfl | exact absurd rfl h
    | 19, _, h => by first | rfl | exact absurd rfl h
    | 20, _, h => by first | rfl | exact absurd rfl h
    | 21, _, h => by first | rfl | exact absurd rfl h
    | 22, _, h => by first | rfl | exact absurd rfl h
    | 23, _, h => by first | rfl | exact absurd rfl h
    | 24, _, h => by first | rfl | exact absurd rfl h
    | 25, _, h => by first | rfl | exact absurd rfl h
    | 26, _, h => by first | rfl | exact absurd rfl h
    | 27, _, h => by first | rfl | exact absurd rfl h
    | 28, _, h => by first | rfl | exact absurd rfl h
    | 29, _, h => by first | rfl | exact absurd rfl h
    | 30, _, h => by first | rfl | exact absurd rfl h
    | 31, _, h => by first | rfl | exact absurd rfl h
    | n + 32, h, _ => absurd h (by omega))
  exact h
theorem cwA0 (M : z_M) (c : Nat) (V : z_V) (g : Nat → Int32) : z_up (cS M c V) (c + 3) (z_I 8 g) = cS M c (sA V 0 g) := by
  have h := rg_wr (M := M) (a := c) (n := 32) (k := 3) (f := cC c V) (g := cC c (sA V 0 g)) (e := z_I 8 g) (by decide) rfl (fun j hj hne => match j, hj, hne with
    | 0, _, h => by first | rfl | exact absurd rfl h
    | 1, _, h => by first | rfl | exact absurd rfl h
    | 2, _, h => by first | rfl | exact absurd rfl h
    | 3, _, h => by first | rfl | exact absurd rfl h
    | 4, _, h => by first | rfl | exact absurd rfl h
    | 5, _, h => by first | rfl | exact absurd rfl h
    | 6, _, h => by first | rfl | exact absurd rfl h
    | 7, _, h => by first | rfl | exact absurd rfl h
    | 8, _, h => by first | rfl | exact absurd rfl h
    | 9, _, h => by first | rfl | exact absurd rfl h
    | 10, _, h => by first | rfl | exact absurd rfl h
    | 11, _, h => by first | rfl | exact absurd rfl h
    | 12, _, h => by first | rfl | exact absurd rfl h
    | 13, _, h => by first | rfl | exact absurd rfl h
    | 14, _, h => by first | rfl | exact absurd rfl h
    | 15, _, h => by first | rfl | exact absurd rfl h
    | 16, _, h => by first | rfl | exact absurd rfl h
    | 17, _, h => by first | rfl | exact absurd rfl h
    | 18, _, h => by first | rfl | exact absurd rfl h
    | 19, _, h => by first | rfl | exact absurd rfl h
    | 20, _, h => by first | rfl | exact absurd rfl h
    | 21, _, h => by first | rfl | exact absurd rfl h
    | 22, _, h => by first | rfl | exact absurd rfl h
    | 23, _, h => by first | rfl | exact absurd rfl h
    | 24, _, h => by first | rfl | exact absurd rfl h
    | 25, _, h => by first | rfl | exact absurd rfl h
    | 26, _, h => by first | rfl | exact absurd rfl h
    | 27, _, h => by first | rfl | exact absurd rfl h
    | 28, _, h => by first | rfl | exact absurd rfl h
    | 29, _, h => by first | rfl | exact absurd rfl h
    | 30, _, h => by first | rfl | exact absurd rfl h
    | 31, _, h => by first | rfl | exact absurd rfl h
    | n + 32, h, _ => absurd h (by omega))
  exact h
theorem cwA1 (M : z_M) (c : Nat) (V : z_V) (g : Nat → Int32) : z_up (cS M c V) (c + 4) (z_I 8 g) = cS M c (sA V 1 g) := by
  have h := rg_wr (M := M) (a := c) (n := 32) (k := 4) (f := cC c V) (g := cC c (sA V 1 g)) (e := z_I 8 g) (by decide) rfl (fun j hj hne => match j, hj, hne with
    | 0, _, h => by first | rfl | exact absurd rfl h
    | 1, _, h => by first | rfl | exact absurd rfl h
    | 2, _, h => by first | rfl | exact absurd rfl h
    | 3, _, h => by first | rfl | exact absurd rfl h
    | 4, _, h => by first | rfl | exact absurd rfl h
    | 5, _, h => by first | rfl | exact absurd rfl h
    | 6, _, h => by first | rfl | exact absurd rfl h
    | 7, _, h => by first | rfl | exact absurd rfl h
    | 8, _, h => by first | rfl | exact absurd rfl h
    | 9, _, h => by first | rfl | exact absurd rfl h
    | 10, _, h => by first | rfl | exact absurd rfl h
    | 11, _, h => by first | rfl | exact absurd rfl h
    | 12, _, h => by first | rfl | exact absurd rfl h
    | 13, _, h => by first | rfl | exact absurd rfl h
    | 14, _, h => by first | rfl | exact absurd rfl h
    | 15, _, h => by first | rfl | exact absurd rfl h
    | 16, _, h => by first | rfl | exact absurd rfl h
    | 17, _, h => by first | rfl | exact absurd rfl h
    | 18, _, h => by first | rfl | exact absurd rfl h
    | 19, _, h => by first | rfl | exact absurd rfl h
    | 20, _, h => by first | rfl | exact absurd rfl h
    | 21, _, h => by first | rfl | exact absurd rfl h
    | 22, _, h => by first | rfl | exact absurd rfl h
    | 23, _, h => by first | rfl | exact absurd rfl h
    | 24, _, h => by first | rfl | exact absurd rfl h
    | 25, _, h => by first | rfl | exact absurd rfl h
    | 26, _, h => by first | rfl | exact absurd rfl h
    | 27, _, h => by first | rfl | exact absurd rfl h
    | 28, _, h => by first | rfl | exact absurd rfl h
    | 29, _, h => by first | rfl | exact absurd rfl h
    | 30, _, h => by first | rfl | exact absurd rfl h
    | 31, _, h => by first | rfl | exact absurd rfl h
    | n + 32, h, _ => absurd h (by omega))
  exact h
theorem cwA2 (M : z_M) (c : Nat) (V : z_V) (g : Nat → Int32) : z_up (cS M c V) (c + 5) (z_I 8 g) = cS M c (sA V 2 g) := by
  have h := rg_wr (M := M) (a := c) (n := 32) (k := 5) (f := cC c V) (g := cC c (sA V 2 g)) (e := z_I 8 g) (by decide) rfl (fun j hj hne => match j, hj, hne with
    | 0, _, h => by first | rfl | exact absurd rfl h
    | 1, _, h => by first | rfl | exact absurd rfl h
    | 2, _, h => by first | rfl | exact absurd rfl h
    | 3, _, h => by first | rfl | exact absurd rfl h
    | 4, _, h => by first | rfl | exact absurd rfl h
    | 5, _, h => by first | rfl | exact absurd rfl h
    | 6, _, h => by first | rfl | exact absurd rfl h
    | 7, _, h => by first | rfl | exact absurd rfl h
    | 8, _, h => by first | rfl | exact absurd rfl h
    | 9, _, h => by first | rfl | exact absurd rfl h
    | 10, _, h => by first | rfl | exact absurd rfl h
    | 11, _, h => by first | rfl | exact absurd rfl h
    | 12, _, h => by first | rfl | exact absurd rfl h
    | 13, _, h => by first | rfl | exact absurd rfl h
    | 14, _, h => by first | rfl | exact absurd rfl h
    | 15, _, h => by first | rfl | exact absurd rfl h
    | 16, _, h => by first | rfl | exact absurd rfl h
    | 17, _, h => by first | rfl | exact absurd rfl h
    | 18, _, h => by first | rfl | exact absurd rfl h
    | 19, _, h => by first | rfl | exact absurd rfl h
    | 20, _, h => by first | rfl | exact absurd rfl h
    | 21, _, h => by first | rfl | exact absurd rfl h
    | 22, _, h => by first | rfl | exact absurd rfl h
    | 23, _, h => by first | rfl | exact absurd rfl h
    | 24, _, h => by first | rfl | exact absurd rfl h
    | 25, _, h => by first | rfl | exact absurd rfl h
    | 26, _, h => by first | rfl | exact absurd rfl h
    | 27, _, h => by first | rfl | exact absurd rfl h
    | 28, _, h => by first | rfl | exact absurd rfl h
    | 29, _, h => by first | rfl | exact absurd rfl h
    | 30, _, h => by first | rfl | exact absurd rfl h
    | 31, _, h => by first | rfl | exact absurd rfl h
    | n + 32, h, _ => absurd h (by omega))
  exact h
theorem cwS9 (M : z_M) (c : Nat) (V : z_V) (x : Int32) (y10 : Int32) (h10 : V.1 10 = y10) : z_up (cS M c V) (c + 6) (z_O 6 [.int x, .int y10, .ref (c + 7), .ref (c + 8), .ref (c + 9), .ref (c + 10), .ref (c + 11), .ref (c + 12), .ref (c + 13), .ref (c + 14), .ref (c + 15), .ref (c + 16)]) = cS M c (sS V 9 x) := by
  subst h10
  have h := rg_wr (M := M) (a := c) (n := 32) (k := 6) (f := cC c V) (g := cC c (sS V 9 x)) (by decide) rfl (fun j hj hne => match j, hj, hne with
    | 0, _, h => by first | rfl | exact absurd rfl h
    | 1, _, h => by first | rfl | exact absurd rfl h
    | 2, _, h => by first | rfl | exact absurd rfl h
    | 3, _, h => by first | rfl | exact absurd rfl h
    | 4, _, h => by first | rfl | exact absurd rfl h
    | 5, _, h => by first | rfl | exact absurd rfl h
    | 6, _, h => by first | rfl | exact absurd rfl h
    | 7, _, h => by first | rfl | exact absurd rfl h
    | 8, _, h => by first | rfl | exact absurd rfl h
    | 9, _, h => by first | rfl | exact absurd rfl h
    | 10, _, h => by first | rfl | exact absurd rfl h
    | 11, _, h => by first | rfl | exact absurd rfl h
    | 12, _, h => by first | rfl | exact absurd rfl h
    | 13, _, h => by first | rfl | exact absurd rfl h
    | 14, _, h => by first | rfl | exact absurd rfl h
    | 15, _, h => by first | rfl | exact absurd rfl h
    | 16, _, h => by first | rfl | exact absurd rfl h
    | 17, _, h => by first | rfl | exact absurd rfl h
    | 18, _, h => by first | rfl | exact absurd rfl h
    | 19, _, h => by first | rfl | exact absurd rfl h
    | 20, _, h => by first | rfl | exact absurd rfl h
    | 21, _, h => by first | rfl | exact absurd rfl h
    | 22, _, h => by first | rfl | exact absurd rfl h
    | 23, _, h => by first | rfl | exact absurd rfl h
    | 24, _, h => by first | rfl | exact absurd rfl h
    | 25, _, h => by first | rfl | exact absurd rfl h
    | 26, _, h => by first | rfl | exact absurd rfl h
    | 27, _, h => by first | rfl | exact absurd rfl h
    | 28, _, h => by first | rfl | exact absurd rfl h
    | 29, _, h => by first | rfl | exact absurd rfl h
    | 30, _, h => by first | rfl | exact absurd rfl h
    | 31, _, h => by first | rfl | exact absurd rfl h
    | n + 32, h, _ => absurd h (by omega))
  exact h
theorem cwS10 (M : z_M) (c : Nat) (V : z_V) (x : Int32) (y9 : Int32) (h9 : V.1 9 = y9) : z_up (cS M c V) (c + 6) (z_O 6 [.int y9, .int x, .ref (c + 7), .ref (c + 8), .ref (c + 9), .ref (c + 10), .ref (c + 11), .ref (c + 12), .ref (c + 13), .ref (c + 14), .ref (c + 15), .ref (c + 16)]) = cS M c (sS V 10 x) := by
  subst h9
  have h := rg_wr (M := M) (a := c) (n := 32) (k := 6) (f := cC c V) (g := cC c (sS V 10 x)) (by decide) rfl (fun j hj hne => match j, hj, hne with
    | 0, _, h => by first | rfl | exact absurd rfl h
    | 1, _, h => by first | rfl | exact absurd rfl h
    | 2, _, h => by first | rfl | exact absurd rfl h
    | 3, _, h => by first | rfl | exact absurd rfl h
    | 4, _, h => by first | rfl | exact absurd rfl h
    | 5, _, h => by first | rfl | exact absurd rfl h
    | 6, _, h => by first | rfl | exact absurd rfl h
    | 7, _, h => by first | rfl | exact absurd rfl h
    | 8, _, h => by first | rfl | exact absurd rfl h
    | 9, _, h => by first | rfl | exact absurd rfl h
    | 10, _, h => by first | rfl | exact absurd rfl h
    | 11, _, h => by first | rfl | exact absurd rfl h
    | 12, _, h => by first | rfl | exact absurd rfl h
    | 13, _, h => by first | rfl | exact absurd rfl h
    | 14, _, h => by first | rfl | exact absurd rfl h
    | 15, _, h => by first | rfl | exact absurd rfl h
    | 16, _, h => by first | rfl | exact absurd rfl h
    | 17, _, h => by first | rfl | exact absurd rfl h
    | 18, _, h => by first | rfl | exact absurd rfl h
    | 19, _, h => by first | rfl | exact absurd rfl h
    | 20, _, h => by first | rfl | exact absurd rfl h
    | 21, _, h => by first | rfl | exact absurd rfl h
    | 22, _, h => by first | rfl | exact absurd rfl h
    | 23, _, h => by first | rfl | exact absurd rfl h
    | 24, _, h => by first | rfl | exact absurd rfl h
    | 25, _, h => by first | rfl | exact absurd rfl h
    | 26, _, h => by first | rfl | exact absurd rfl h
    | 27, _, h => by first | rfl | exact absurd rfl h
    | 28, _, h => by first | rfl | exact absurd rfl h
    | 29, _, h => by first | rfl | exact absurd rfl h
    | 30, _, h => by first | rfl | exact absurd rfl h
    | 31, _, h => by first | rfl | exact absurd rfl h
    | n + 32, h, _ => absurd h (by omega))
  exact h
theorem cwA3 (M : z_M) (c : Nat) (V : z_V) (g : Nat → Int32) : z_up (cS M c V) (c + 7) (z_I 20 g) = cS M c (sA V 3 g) := by
  have h := rg_wr (M := M) (a := c) (n := 32) (k := 7) (f := cC c V) (g := cC c (sA V 3 g)) (e := z_I 20 g) (by decide) rfl (fun j hj hne => match j, hj, hne with
    | 0, _, h => by first | rfl | exact absurd rfl h
    | 1, _, h => by first | rfl | exact absurd rfl h
    | 2, _, h => by first | rfl | exact absurd rfl h
    | 3, _, h => by first | rfl | exact absurd rfl h
    | 4, _, h => by first | rfl | exact absurd rfl h
    | 5, _, h => by first | rfl | exact absurd rfl h
    | 6, _, h => by first | rfl | exact absurd rfl h
    | 7, _, h => by first | rfl | exact absurd rfl h
    | 8, _, h => by first | rfl | exact absurd rfl h
    | 9, _, h => by first | rfl | exact absurd rfl h
    | 10, _, h => by first | rfl | exact absurd rfl h
    | 11, _, h => by first | rfl | exact absurd rfl h
    | 12, _, h => by first | rfl | exact absurd rfl h
    | 13, _, h => by first | rfl | exact absurd rfl h
    | 14, _, h => by first | rfl | exact absurd rfl h
    | 15, _, h => by first | rfl | exact absurd rfl h
    | 16, _, h => by first | rfl | exact absurd rfl h
    | 17, _, h => by first | rfl | exact absurd rfl h
    | 18, _, h => by first | rfl | exact absurd rfl h
    | 19, _, h => by first | rfl | exact absurd rfl h
    | 20, _, h => by first | rfl | exact absurd rfl h
    | 21, _, h => by first | rfl | exact absurd rfl h
    | 22, _, h => by first | rfl | exact absurd rfl h
    | 23, _, h => by first | rfl | exact absurd rfl h
    | 24, _, h => by first | rfl | exact absurd rfl h
    | 25, _, h => by first | rfl | exact absurd rfl h
    | 26, _, h => by first | rfl | exact absurd rfl h
    | 27, _, h => by first | rfl | exact absurd rfl h
    | 28, _, h => by first | rfl | exact absurd rfl h
    | 29, _, h => by first | rfl | exact absurd rfl h
    | 30, _, h => by first | rfl | exact absurd rfl h
    | 31, _, h => by first | rfl | exact absurd rfl h
    | n + 32, h, _ => absurd h (by omega))
  exact h
theorem cwA4 (M : z_M) (c : Nat) (V : z_V) (g : Nat → Int32) : z_up (cS M c V) (c + 8) (z_I 20 g) = cS M c (sA V 4 g) := by
  have h := rg_wr (M := M) (a := c) (n := 32) (k := 8) (f := cC c V) (g := cC c (sA V 4 g)) (e := z_I 20 g) (by decide) rfl (fun j hj hne => match j, hj, hne with
    | 0, _, h => by first | rfl | exact absurd rfl h
    | 1, _, h => by first | rfl | exact absurd rfl h
    | 2, _, h => by first | rfl | exact absurd rfl h
    | 3, _, h => by first | rfl | exact absurd rfl h
    | 4, _, h => by first | rfl | exact absurd rfl h
    | 5, _, h => by first | rfl | exact absurd rfl h
    | 6, _, h => by first | rfl | exact absurd rfl h
    | 7, _, h => by first | rfl | exact absurd rfl h
    | 8, _, h => by first | rfl | exact absurd rfl h
    | 9, _, h => by first | rfl | exact absurd rfl h
    | 10, _, h => by first | rfl | exact absurd rfl h
    | 11, _, h => by first | rfl | exact absurd rfl h
    | 12, _, h => by first | rfl | exact absurd rfl h
    | 13, _, h => by first | rfl | exact absurd rfl h
    | 14, _, h => by first | rfl | exact absurd rfl h
    | 15, _, h => by first | rfl | exact absurd rfl h
    | 16, _, h => by first | rfl | exact absurd rfl h
    | 17, _, h => by first | rfl | exact absurd rfl h
    | 18, _, h => by first | rfl | exact absurd rfl h
    | 19, _, h => by first | rfl | exact absurd rfl h
    | 20, _, h => by first | rfl | exact absurd rfl h
    | 21, _, h => by first | rfl | exact absurd rfl h
    | 22, _, h => by first | rfl | exact absurd rfl h
    | 23, _, h => by first | rfl | exact absurd rfl h
    | 24, _, h => by first | rfl | exact absurd rfl h
    | 25, _, h => by first | rfl | exact absurd rfl h
    | 26, _, h => by first | rfl | exact absurd rfl h
    | 27, _, h => by first | rfl | exact absurd rfl h
    | 28, _, h => by first | rfl | exact absurd rfl h
    | 29, _, h => by first | rfl | exact absurd rfl h
    | 30, _, h => by first | rfl | exact absurd rfl h
    | 31, _, h => by first | rfl | exact absurd rfl h
    | n + 32, h, _ => absurd h (by omega))
  exact h
theorem cwA5 (M : z_M) (c : Nat) (V : z_V) (g : Nat → Int32) : z_up (cS M c V) (c + 9) (z_I 20 g) = cS M c (sA V 5 g) := by
  have h := rg_wr (M := M) (a := c) (n := 32) (k := 9) (f := cC c V) (g := cC c (sA V 5 g)) (e := z_I 20 g) (by decide) rfl (fun j hj hne => match j, hj, hne with
    | 0, _, h => by first | rfl | exact absurd rfl h
    | 1, _, h => by first | rfl | exact absurd rfl h
    | 2, _, h => by first | rfl | exact absurd rfl h
    | 3, _, h => by first | rfl | exact absurd rfl h
    | 4, _, h => by first | rfl | exact absurd rfl h
    | 5, _, h => by first | rfl | exact absurd rfl h
    | 6, _, h => by first | rfl | exact absurd rfl h
    | 7, _, h => by first | rfl | exact absurd rfl h
    | 8, _, h => by first | rfl | exact absurd rfl h
    | 9, _, h => by first | rfl | exact absurd rfl h
    | 10, _, h => by first | rfl | exact absurd rfl h
    | 11, _, h => by first | rfl | exact absurd rfl h
    | 12, _, h => by first | rfl | exact absurd rfl h
    | 13, _, h => by first | rfl | exact absurd rfl h
    | 14, _, h => by first | rfl | exact absurd rfl h
    | 15, _, h => by first | rfl | exact absurd rfl h
    | 16, _, h => by first | rfl | exact absurd rfl h
    | 17, _, h => by first | rfl | exact absurd rfl h
    | 18, _, h => by first | rfl | exact absurd rfl h
    | 19, _, h => by first | rfl | exact absurd rfl h
    | 20, _, h => by first | rfl | exact absurd rfl h
    | 21, _, h => by first | rfl | exact absurd rfl h
    | 22, _, h => by first | rfl | exact absurd rfl h
    | 23, _, h => by first | rfl | exact absurd rfl h
    | 24, _, h => by first | rfl | exact absurd rfl h
    | 25, _, h => by first | rfl | exact absurd rfl h
    | 26, _, h => by first | rfl | exact absurd rfl h
    | 27, _, h => by first | rfl | exact absurd rfl h
    | 28, _, h => by first | rfl | exact absurd rfl h
    | 29, _, h => by first | rfl | exact absurd rfl h
    | 30, _, h => by first | rfl | exact absurd rfl h
    | 31, _, h => by first | rfl | exact absurd rfl h
    | n + 32, h, _ => absurd h (by omega))
  exact h
theorem cwA6 (M : z_M) (c : Nat) (V : z_V) (g : Nat → Int32) : z_up (cS M c V) (c + 10) (z_I 20 g) = cS M c (sA V 6 g) := by
  have h := rg_wr (M := M) (a := c) (n := 32) (k := 10) (f := cC c V) (g := cC c (sA V 6 g)) (e := z_I 20 g) (by decide) rfl (fun j hj hne => match j, hj, hne with
    | 0, _, h => by first | rfl | exact absurd rfl h
    | 1, _, h => by first | rfl | exact absurd rfl h
    | 2, _, h => by first | rfl | exact absurd rfl h
    | 3, _, h => by first | rfl | exact absurd rfl h
    | 4, _, h => by first | rfl | exact absurd rfl h
    | 5, _, h => by first | rfl | exact absurd rfl h
    | 6, _, h => by first | rfl | exact absurd rfl h
    | 7, _, h => by first | rfl | exact absurd rfl h
    | 8, _, h => by first | rfl | exact absurd rfl h
    | 9, _, h => by first | rfl | exact absurd rfl h
    | 10, _, h => by first | rfl | exact absurd rfl h
    | 11, _, h => by first | rfl | exact absurd rfl h
    | 12, _, h => by first | rfl | exact absurd rfl h
    | 13, _, h => by first | rfl | exact absurd rfl h
    | 14, _, h => by first | rfl | exact absurd rfl h
    | 15, _, h => by first | rfl | exact absurd rfl h
    | 16, _, h => by first | rfl | exact absurd rfl h
    | 17, _, h => by first | rfl | exact absurd rfl h
    | 18, _, h => by first | rfl | exact absurd rfl h
    | 19, _, h => by first | rfl | exact absurd rfl h
    | 20, _, h => by first | rfl | exact absurd rfl h
    | 21, _, h => by first | rfl | exact absurd rfl h
    | 22, _, h => by first | rfl | exact absurd rfl h
    | 23, _, h => by first | rfl | exact absurd rfl h
    | 24, _, h => by first | rfl | exact absurd rfl h
    | 25, _, h => by first | rfl | exact absurd rfl h
    | 26, _, h => by first | rfl | exact absurd rfl h
    | 27, _, h => by first | rfl | exact absurd rfl h
    | 28, _, h => by first | rfl | exact absurd rfl h
    | 29, _, h => by first | rfl | exact absurd rfl h
    | 30, _, h => by first | rfl | exact absurd rfl h
    | 31, _, h => by first | rfl | exact absurd rfl h
    | n + 32, h, _ => absurd h (by omega))
  exact h
theorem cwF0 (M : z_M) (c : Nat) (V : z_V) (g : Nat → UInt32) : z_up (cS M c V) (c + 11) (z_F 20 g) = cS M c (sF V 0 g) := by
  have h := rg_wr (M := M) (a := c) (n := 32) (k := 11) (f := cC c V) (g := cC c (sF V 0 g)) (e := z_F 20 g) (by decide) rfl (fun j hj hne => match j, hj, hne with
    | 0, _, h => by first | rfl | exact absurd rfl h
    | 1, _, h => by first | rfl | exact absurd rfl h
    | 2, _, h => by first | rfl | exact absurd rfl h
    | 3, _, h => by first | rfl | exact absurd rfl h
    | 4, _, h => by first | rfl | exact absurd rfl h
    | 5, _, h => by first | rfl | exact absurd rfl h
    | 6, _, h => by first | rfl | exact absurd rfl h
    | 7, _, h => by first | rfl | exact absurd rfl h
    | 8, _, h => by first | rfl | exact absurd rfl h
    | 9, _, h => by first | rfl | exact absurd rfl h
    | 10, _, h => by first | rfl | exact absurd rfl h
    | 11, _, h => by first | rfl | exact absurd rfl h
    | 12, _, h => by first | rfl | exact absurd rfl h
    | 13, _, h => by first | rfl | exact absurd rfl h
    | 14, _, h => by first | rfl | exact absurd rfl h
    | 15, _, h => by first | rfl | exact absurd rfl h
    | 16, _, h => by first | rfl | exact absurd rfl h
    | 17, _, h => by first | rfl | exact absurd rfl h
    | 18, _, h => by first | rfl | exact absurd rfl h
    | 19, _, h => by first | rfl | exact absurd rfl h
    | 20, _, h => by first | rfl | exact absurd rfl h
    | 21, _, h => by first | rfl | exact absurd rfl h
    | 22, _, h => by first | rfl | exact absurd rfl h
    | 23, _, h => by first | rfl | exact absurd rfl h
    | 24, _, h => by first | rfl | exact absurd rfl h
    | 25, _, h => by first | rfl | exact absurd rfl h
    | 26, _, h => by first | rfl | exact absurd rfl h
    | 27, _, h => by first | rfl | exact absurd rfl h
    | 28, _, h => by first | rfl | exact absurd rfl h
    | 29, _, h => by first | rfl | exact absurd rfl h
    | 30, _, h => by first | rfl | exact absurd rfl h
    | 31, _, h => by first | rfl | exact absurd rfl h
    | n + 32, h, _ => absurd h (by omega))
  exact h
theorem cwA7 (M : z_M) (c : Nat) (V : z_V) (g : Nat → Int32) : z_up (cS M c V) (c + 12) (z_I 20 g) = cS M c (sA V 7 g) := by
  have h := rg_wr (M := M) (a := c) (n := 32) (k := 12) (f := cC c V) (g := cC c (sA V 7 g)) (e := z_I 20 g) (by decide) rfl (fun j hj hne => match j, hj, hne with
    | 0, _, h => by first | rfl | exact absurd rfl h
    | 1, _, h => by first | rfl | exact absurd rfl h
    | 2, _, h => by first | rfl | exact absurd rfl h
    | 3, _, h => by first | rfl | exact absurd rfl h
    | 4, _, h => by first | rfl | exact absurd rfl h
    | 5, _, h => by first | rfl | exact absurd rfl h
    | 6, _, h => by first | rfl | exact absurd rfl h
    | 7, _, h => by first | rfl | exact absurd rfl h
    | 8, _, h => by first | rfl | exact absurd rfl h
    | 9, _, h => by first | rfl | exact absurd rfl h
    | 10, _, h => by first | rfl | exact absurd rfl h
    | 11, _, h => by first | rfl | exact absurd rfl h
    | 12, _, h => by first | rfl | exact absurd rfl h
    | 13, _, h => by first | rfl | exact absurd rfl h
    | 14, _, h => by first | rfl | exact absurd rfl h
    | 15, _, h => by first | rfl | exact absurd rfl h
    | 16, _, h => by first | rfl | exact absurd rfl h
    | 17, _, h => by first | rfl | exact absurd rfl h
    | 18, _, h => by first | rfl | exact absurd rfl h
    | 19, _, h => by first | rfl | exact absurd rfl h
    | 20, _, h => by first | rfl | exact absurd rfl h
    | 21, _, h => by first | rfl | exact absurd rfl h
    | 22, _, h => by first | rfl | exact absurd rfl h
    | 23, _, h => by first | rfl | exact absurd rfl h
    | 24, _, h => by first | rfl | exact absurd rfl h
    | 25, _, h => by first | rfl | exact absurd rfl h
    | 26, _, h => by first | rfl | exact absurd rfl h
    | 27, _, h => by first | rfl | exact absurd rfl h
    | 28, _, h => by first | rfl | exact absurd rfl h
    | 29, _, h => by first | rfl | exact absurd rfl h
    | 30, _, h => by first | rfl | exact absurd rfl h
    | 31, _, h => by first | rfl | exact absurd rfl h
    | n + 32, h, _ => absurd h (by omega))
  exact h
theorem cwA8 (M : z_M) (c : Nat) (V : z_V) (g : Nat → Int32) : z_up (cS M c V) (c + 13) (z_I 20 g) = cS M c (sA V 8 g) := by
  have h := rg_wr (M := M) (a := c) (n := 32) (k := 13) (f := cC c V) (g := cC c (sA V 8 g)) (e := z_I 20 g) (by decide) rfl (fun j hj hne => match j, hj, hne with
    | 0, _, h => by first | rfl | exact absurd rfl h
    | 1, _, h => by first | rfl | exact absurd rfl h
    | 2, _, h => by first | rfl | exact absurd rfl h
    | 3, _, h => by first | rfl | exact absurd rfl h
    | 4, _, h => by first | rfl | exact absurd rfl h
    | 5, _, h => by first | rfl | exact absurd rfl h
    | 6, _, h => by first | rfl | exact absurd rfl h
    | 7, _, h => by first | rfl | exact absurd rfl h
    | 8, _, h => by first | rfl | exact absurd rfl h
    | 9, _, h => by first | rfl | exact absurd rfl h
    | 10, _, h => by first | rfl | exact absurd rfl h
    | 11, _, h => by first | rfl | exact absurd rfl h
    | 12, _, h => by first | rfl | exact absurd rfl h
    | 13, _, h => by first | rfl | exact absurd rfl h
    | 14, _, h => by first | rfl | exact absurd rfl h
    | 15, _, h => by first | rfl | exact absurd rfl h
    | 16, _, h => by first | rfl | exact absurd rfl h
    | 17, _, h => by first | rfl | exact absurd rfl h
    | 18, _, h => by first | rfl | exact absurd rfl h
    | 19, _, h => by first | rfl | exact absurd rfl h
    | 20, _, h => by first | rfl | exact absurd rfl h
    | 21, _, h => by first | rfl | exact absurd rfl h
    | 22, _, h => by first | rfl | exact absurd rfl h
    | 23, _, h => by first | rfl | exact absurd rfl h
    | 24, _, h => by first | rfl | exact absurd rfl h
    | 25, _, h => by first | rfl | exact absurd rfl h
    | 26, _, h => by first | rfl | exact absurd rfl h
    | 27, _, h => by first | rfl | exact absurd rfl h
    | 28, _, h => by first | rfl | exact absurd rfl h
    | 29, _, h => by first | rfl | exact absurd rfl h
    | 30, _, h => by first | rfl | exact absurd rfl h
    | 31, _, h => by first | rfl | exact absurd rfl h
    | n + 32, h, _ => absurd h (by omega))
  exact h
theorem cwA9 (M : z_M) (c : Nat) (V : z_V) (g : Nat → Int32) : z_up (cS M c V) (c + 14) (z_I 20 g) = cS M c (sA V 9 g) := by
  have h := rg_wr (M := M) (a := c) (n := 32) (k := 14) (f := cC c V) (g := cC c (sA V 9 g)) (e := z_I 20 g) (by decide) rfl (fun j hj hne => match j, hj, hne with
    | 0, _, h => by first | rfl | exact absurd rfl h
    | 1, _, h => by first | rfl | exact absurd rfl h
    | 2, _, h => by first | rfl | exact absurd rfl h
    | 3, _, h => by first | rfl | exact absurd rfl h
    | 4, _, h => by first | rfl | exact absurd rfl h
    | 5, _, h => by first | rfl | exact absurd rfl h
    | 6, _, h => by first | rfl | exact absurd rfl h
    | 7, _, h => by first | rfl | exact absurd rfl h
    | 8, _, h => by first | rfl | exact absurd rfl h
    | 9, _, h => by first | rfl | exact absurd rfl h
    | 10, _, h => by first | rfl | exact absurd rfl h
    | 11, _, h => by first | rfl | exact absurd rfl h
    | 12, _, h => by first | rfl | exact absurd rfl h
    | 13, _, h => by first | rfl | exact absurd rfl h
    | 14, _, h => by first | rfl | exact absurd rfl h
    | 15, _, h => by first | rfl | exact absurd rfl h
    | 16, _, h => by first | rfl | exact absurd rfl h
    | 17, _, h => by first | rfl | exact absurd rfl h
    | 18, _, h => by first | rfl | exact absurd rfl h
    | 19, _, h => by first | rfl | exact absurd rfl h
    | 20, _, h => by first | rfl | exact absurd rfl h
    | 21, _, h => by first | rfl | exact absurd rfl h
    | 22, _, h => by first | rfl | exact absurd rfl h
    | 23, _, h => by first | rfl | exact absurd rfl h
    | 24, _, h => by first | rfl | exact absurd rfl h
    | 25, _, h => by first | rfl | exact absurd rfl h
    | 26, _, h => by first | rfl | exact absurd rfl h
    | 27, _, h => by first | rfl | exact absurd rfl h
    | 28, _, h => by first | rfl | exact absurd rfl h
    | 29, _, h => by first | rfl | exact absurd rfl h
    | 30, _, h => by first | rfl | exact absurd rfl h
    | 31, _, h => by first | rfl | exact absurd rfl h
    | n + 32, h, _ => absurd h (by omega))
  exact h
theorem cwA10 (M : z_M) (c : Nat) (V : z_V) (g : Nat → Int32) : z_up (cS M c V) (c + 15) (z_I 20 g) = cS M c (sA V 10 g) := by
  have h := rg_wr (M := M) (a := c) (n := 32) (k := 15) (f := cC c V) (g := cC c (sA V 10 g)) (e := z_I 20 g) (by decide) rfl (fun j hj hne => match j, hj, hne with
    | 0, _, h => by first | rfl | exact absurd rfl h
    | 1, _, h => by first | rfl | exact absurd rfl h
    | 2, _, h => by first | rfl | exact absurd rfl h
    | 3, _, h => by first | rfl | exact absurd rfl h
    | 4, _, h => by first | rfl | exact absurd rfl h
    | 5, _, h => by first | rfl | exact absurd rfl h
    | 6, _, h => by first | rfl | exact absurd rfl h
    | 7, _, h => by first | rfl | exact absurd rfl h
    | 8, _, h => by first | rfl | exact absurd rfl h
    | 9, _, h => by first | rfl | exact absurd rfl h
    | 10, _, h => by first | rfl | exact absurd rfl h
    | 11, _, h => by first | rfl | exact absurd rfl h
    | 12, _, h => by first | rfl | exact absurd rfl h
    | 13, _, h => by first | rfl | exact absurd rfl h
    | 14, _, h => by first | rfl | exact absurd rfl h
    | 15, _, h => by first | rfl | exact absurd rfl h
    | 16, _, h => by first | rfl | exact absurd rfl h
    | 17, _, h => by first | rfl | exact absurd rfl h
    | 18, _, h => by first | rfl | exact absurd rfl h
    | 19, _, h => by first | rfl | exact absurd rfl h
    | 20, _, h => by first | rfl | exact absurd rfl h
    | 21, _, h => by first | rfl | exact absurd rfl h
    | 22, _, h => by first | rfl | exact absurd rfl h
    | 23, _, h => by first | rfl | exact absurd rfl h
    | 24, _, h => by first | rfl | exact absurd rfl h
    | 25, _, h => by first | rfl | exact absurd rfl h
    | 26, _, h => by first | rfl | exact absurd rfl h
    | 27, _, h => by first | rfl | exact absurd rfl h
    | 28, _, h => by first | rfl | exact absurd rfl h
    | 29, _, h => by first | rfl | exact absurd rfl h
    | 30, _, h => by first | rfl | exact absurd rfl h
    | 31, _, h => by first | rfl | exact absurd rfl h
    | n + 32, h, _ => absurd h (by omega))
  exact h
theorem cwF1 (M : z_M) (c : Nat) (V : z_V) (g : Nat → UInt32) : z_up (cS M c V) (c + 16) (z_F 20 g) = cS M c (sF V 1 g) := by
  have h := rg_wr (M := M) (a := c) (n := 32) (k := 16) (f := cC c V) (g := cC c (sF V 1 g)) (e := z_F 20 g) (by decide) rfl (fun j hj hne => match j, hj, hne with
    | 0, _, h => by first | rfl | exact absurd rfl h
    | 1, _, h => by first | rfl | exact absurd rfl h
    | 2, _, h => by first | rfl | exact absurd rfl h
    | 3, _, h => by first | rfl | exact absurd rfl h
    | 4, _, h => by first | rfl | exact absurd rfl h
    | 5, _, h => by first | rfl | exact absurd rfl h
    | 6, _, h => by first | rfl | exact absurd rfl h
    | 7, _, h => by first | rfl | exact absurd rfl h
    | 8, _, h => by first | rfl | exact absurd rfl h
    | 9, _, h => by first | rfl | exact absurd rfl h
    | 10, _, h => by first | rfl | exact absurd rfl h
    | 11, _, h => by first | rfl | exact absurd rfl h
    | 12, _, h => by first | rfl | exact absurd rfl h
    | 13, _, h => by first | rfl | exact absurd rfl h
    | 14, _, h => by first | rfl | exact absurd rfl h
    | 15, _, h => by first | rfl | exact absurd rfl h
    | 16, _, h => by first | rfl | exact absurd rfl h
    | 17, _, h => by first | rfl | exact absurd rfl h
    | 18, _, h => by first | rfl | exact absurd rfl h
    | 19, _, h => by first | rfl | exact absurd rfl h
    | 20, _, h => by first | rfl | exact absurd rfl h
    | 21, _, h => by first | rfl | exact absurd rfl h
    | 22, _, h => by first | rfl | exact absurd rfl h
    | 23, _, h => by first | rfl | exact absurd rfl h
    | 24, _, h => by first | rfl | exact absurd rfl h
    | 25, _, h => by first | rfl | exact absurd rfl h
    | 26, _, h => by first | rfl | exact absurd rfl h
    | 27, _, h => by first | rfl | exact absurd rfl h
    | 28, _, h => by first | rfl | exact absurd rfl h
    | 29, _, h => by first | rfl | exact absurd rfl h
    | 30, _, h => by first | rfl | exact absurd rfl h
    | 31, _, h => by first | rfl | exact absurd rfl h
    | n + 32, h, _ => absurd h (by omega))
  exact h
theorem cwS11 (M : z_M) (c : Nat) (V : z_V) (x : Int32)   : z_up (cS M c V) (c + 17) (z_O 2 [.int x, .ref (c + 18), .ref (c + 19), .ref (c + 20), .ref (c + 21), .ref (c + 22)]) = cS M c (sS V 11 x) := by
  skip
  have h := rg_wr (M := M) (a := c) (n := 32) (k := 17) (f := cC c V) (g := cC c (sS V 11 x)) (by decide) rfl (fun j hj hne => match j, hj, hne with
    | 0, _, h => by first | rfl | exact absurd rfl h
    | 1, _, h => by first | rfl | exact absurd rfl h
    | 2, _, h => by first | rfl | exact absurd rfl h
    | 3, _, h => by first | rfl | exact absurd rfl h
    | 4, _, h => by first | rfl | exact absurd rfl h
    | 5, _, h => by first | rfl | exact absurd rfl h
    | 6, _, h => by first | rfl | exact absurd rfl h
    | 7, _, h => by first | rfl | exact absurd rfl h
    | 8, _, h => by first | rfl | exact absurd rfl h
    | 9, _, h => by first | rfl | exact absurd rfl h
    | 10, _, h => by first | rfl | exact absurd rfl h
    | 11, _, h => by first | rfl | exact absurd rfl h
    | 12, _, h => by first | rfl | exact absurd rfl h
    | 13, _, h => by first | rfl | exact absurd rfl h
    | 14, _, h => by first | rfl | exact absurd rfl h
    | 15, _, h => by first | rfl | exact absurd rfl h
    | 16, _, h => by first | rfl | exact absurd rfl h
    | 17, _, h => by first | rfl | exact absurd rfl h
    | 18, _, h => by first | rfl | exact absurd rfl h
    | 19, _, h => by first | rfl | exact absurd rfl h
    | 20, _, h => by first | rfl | exact absurd rfl h
    | 21, _, h => by first | rfl | exact absurd rfl h
    | 22, _, h => by first | rfl | exact absurd rfl h
    | 23, _, h => by first | rfl | exact absurd rfl h
    | 24, _, h => by first | rfl | exact absurd rfl h
    | 25, _, h => by first | rfl | exact absurd rfl h
    | 26, _, h => by first | rfl | exact absurd rfl h
    | 27, _, h => by first | rfl | exact absurd rfl h
    | 28, _, h => by first | rfl | exact absurd rfl h
    | 29, _, h => by first | rfl | exact absurd rfl h
    | 30, _, h => by first | rfl | exact absurd rfl h
    | 31, _, h => by first | rfl | exact absurd rfl h
    | n + 32, h, _ => absurd h (by omega))
  exact h
theorem cwA11 (M : z_M) (c : Nat) (V : z_V) (g : Nat → Int32) : z_up (cS M c V) (c + 18) (z_I 20 g) = cS M c (sA V 11 g) := by
  have h := rg_wr (M := M) (a := c) (n := 32) (k := 18) (f := cC c V) (g := cC c (sA V 11 g)) (e := z_I 20 g) (by decide) rfl (fun j hj hne => match j, hj, hne with
    | 0, _, h => by first | rfl | exact absurd rfl h
    | 1, _, h => by first | rfl | exact absurd rfl h
    | 2, _, h => by first | rfl | exact absurd rfl h
    | 3, _, h => by first | rfl | exact absurd rfl h
    | 4, _, h => by first | rfl | exact absurd rfl h
    | 5, _, h => by first | rfl | exact absurd rfl h
    | 6, _, h => by first | rfl | exact absurd rfl h
    | 7, _, h => by first | rfl | exact absurd rfl h
    | 8, _, h => by first | rfl | exact absurd rfl h
    | 9, _, h => by first | rfl | exact absurd rfl h
    | 10, _, h => by first | rfl | exact absurd rfl h
    | 11, _, h => by first | rfl | exact absurd rfl h
    | 12, _, h => by first | rfl | exact absurd rfl h
    | 13, _, h => by first | rfl | exact absurd rfl h
    | 14, _, h => by first | rfl | exact absurd rfl h
    | 15, _, h => by first | rfl | exact absurd rfl h
    | 16, _, h => by first | rfl | exact absurd rfl h
    | 17, _, h => by first | rfl | exact absurd rfl h
    | 18, _, h => by first | rfl | exact absurd rfl h
    | 19, _, h => by first | rfl | exact absurd rfl h
    | 20, _, h => by first | rfl | exact absurd rfl h
    | 21, _, h => by first | rfl | exact absurd rfl h
    | 22, _, h => by first | rfl | exact absurd rfl h
    | 23, _, h => by first | rfl | exact absurd rfl h
    | 24, _, h => by first | rfl | exact absurd rfl h
    | 25, _, h => by first | rfl | exact absurd rfl h
    | 26, _, h => by first | rfl | exact absurd rfl h
    | 27, _, h => by first | rfl | exact absurd rfl h
    | 28, _, h => by first | rfl | exact absurd rfl h
    | 29, _, h => by first | rfl | exact absurd rfl h
    | 30, _, h => by first | rfl | exact absurd rfl h
    | 31, _, h => by first | rfl | exact absurd rfl h
    | n + 32, h, _ => absurd h (by omega))
  exact h
theorem cwA12 (M : z_M) (c : Nat) (V : z_V) (g : Nat → Int32) : z_up (cS M c V) (c + 19) (z_I 20 g) = cS M c (sA V 12 g) := by
  have h := rg_wr (M := M) (a := c) (n := 32) (k := 19) (f := cC c V) (g := cC c (sA V 12 g)) (e := z_I 20 g) (by decide) rfl (fun j hj hne => match j, hj, hne with
    | 0, _, h => by first | rfl | exact absurd rfl h
    | 1, _, h => by first | rfl | exact absurd rfl h
    | 2, _, h => by first | rfl | exact absurd rfl h
    | 3, _, h => by first | rfl | exact absurd rfl h
    | 4, _, h => by first | rfl | exact absurd rfl h
    | 5, _, h => by first | rfl | exact absurd rfl h
    | 6, _, h => by first | rfl | exact absurd rfl h
    | 7, _, h => by first | rfl | exact absurd rfl h
    | 8, _, h => by first | rfl | exact absurd rfl h
    | 9, _, h => by first | rfl | exact absurd rfl h
    | 10, _, h => by first | rfl | exact absurd rfl h
    | 11, _, h => by first | rfl | exact absurd rfl h
    | 12, _, h => by first | rfl | exact absurd rfl h
    | 13, _, h => by first | rfl | exact absurd rfl h
    | 14, _, h => by first | rfl | exact absurd rfl h
    | 15, _, h => by first | rfl | exact absurd rfl h
    | 16, _, h => by first | rfl | exact absurd rfl h
    | 17, _, h => by first | rfl | exact absurd rfl h
    | 18, _, h => by first | rfl | exact absurd rfl h
    | 19, _, h => by first | rfl | exact absurd rfl h
    | 20, _, h => by first | rfl | exact absurd rfl h
    | 21, _, h => by first | rfl | exact absurd rfl h
    | 22, _, h => by first | rfl | exact absurd rfl h
    | 23, _, h => by first | rfl | exact absurd rfl h
    | 24, _, h => by first | rfl | exact absurd rfl h
    | 25, _, h => by first | rfl | exact absurd rfl h
    | 26, _, h => by first | rfl | exact absurd rfl h
    | 27, _, h => by first | rfl | exact absurd rfl h
    | 28, _, h => by first | rfl | exact absurd rfl h
    | 29, _, h => by first | rfl | exact absurd rfl h
    | 30, _, h => by first | rfl | exact absurd rfl h
    | 31, _, h => by first | rfl | exact absurd rfl h
    | n + 32, h, _ => absurd h (by omega))
  exact h
theorem cwA13 (M : z_M) (c : Nat) (V : z_V) (g : Nat → Int32) : z_up (cS M c V) (c + 20) (z_I 20 g) = cS M c (sA V 13 g) := by
  have h := rg_wr (M := M) (a := c) (n := 32) (k := 20) (f := cC c V) (g := cC c (sA V 13 g)) (e := z_I 20 g) (by decide) rfl (fun j hj hne => match j, hj, hne with
    | 0, _, h => by first | rfl | exact absurd rfl h
    | 1, _, h => by first | rfl | exact absurd rfl h
    | 2, _, h => by first | rfl | exact absurd rfl h
    | 3, _, h => by first | rfl | exact absurd rfl h
    | 4, _, h => by first | rfl | exact absurd rfl h
    | 5, _, h => by first | rfl | exact absurd rfl h
    | 6, _, h => by first | rfl | exact absurd rfl h
    | 7, _, h => by first | rfl | exact absurd rfl h
    | 8, _, h => by first | rfl | exact absurd rfl h
    | 9, _, h => by first | rfl | exact absurd rfl h
    | 10, _, h => by first | rfl | exact absurd rfl h
    | 11, _, h => by first | rfl | exact absurd rfl h
    | 12, _, h => by first | rfl | exact absurd rfl h
    | 13, _, h => by first | rfl | exact absurd rfl h
    | 14, _, h => by first | rfl | exact absurd rfl h
    | 15, _, h => by first | rfl | exact absurd rfl h
    | 16, _, h => by first | rfl | exact absurd rfl h
    | 17, _, h => by first | rfl | exact absurd rfl h
    | 18, _, h => by first | rfl | exact absurd rfl h
    | 19, _, h => by first | rfl | exact absurd rfl h
    | 20, _, h => by first | rfl | exact absurd rfl h
    | 21, _, h => by first | rfl | exact absurd rfl h
    | 22, _, h => by first | rfl | exact absurd rfl h
    | 23, _, h => by first | rfl | exact absurd rfl h
    | 24, _, h => by first | rfl | exact absurd rfl h
    | 25, _, h => by first | rfl | exact absurd rfl h
    | 26, _, h => by first | rfl | exact absurd rfl h
    | 27, _, h => by first | rfl | exact absurd rfl h
    | 28, _, h => by first | rfl | exact absurd rfl h
    | 29, _, h => by first | rfl | exact absurd rfl h
    | 30, _, h => by first | rfl | exact absurd rfl h
    | 31, _, h => by first | rfl | exact absurd rfl h
    | n + 32, h, _ => absurd h (by omega))
  exact h
theorem cwA14 (M : z_M) (c : Nat) (V : z_V) (g : Nat → Int32) : z_up (cS M c V) (c + 21) (z_I 20 g) = cS M c (sA V 14 g) := by
  have h := rg_wr (M := M) (a := c) (n := 32) (k := 21) (f := cC c V) (g := cC c (sA V 14 g)) (e := z_I 20 g) (by decide) rfl (fun j hj hne => match j, hj, hne with
    | 0, _, h => by first | rfl | exact absurd rfl h
    | 1, _, h => by first | rfl | exact absurd rfl h
    | 2, _, h => by first | rfl | exact absurd rfl h
    | 3, _, h => by first | rfl | exact absurd rfl h
    | 4, _, h => by first | rfl | exact absurd rfl h
    | 5, _, h => by first | rfl | exact absurd rfl h
    | 6, _, h => by first | rfl | exact absurd rfl h
    | 7, _, h => by first | rfl | exact absurd rfl h
    | 8, _, h => by first | rfl | exact absurd rfl h
    | 9, _, h => by first | rfl | exact absurd rfl h
    | 10, _, h => by first | rfl | exact absurd rfl h
    | 11, _, h => by first | rfl | exact absurd rfl h
    | 12, _, h => by first | rfl | exact absurd rfl h
    | 13, _, h => by first | rfl | exact absurd rfl h
    | 14, _, h => by first | rfl | exact absurd rfl h
    | 15, _, h => by first | rfl | exact absurd rfl h
    | 16, _, h => by first | rfl | exact absurd rfl h
    | 17, _, h => by first | rfl | exact absurd rfl h
    | 18, _, h => by first | rfl | exact absurd rfl h
    | 19, _, h => by first | rfl | exact absurd rfl h
    | 20, _, h => by first | rfl | exact absurd rfl h
    | 21, _, h => by first | rfl | exact absurd rfl h
    | 22, _, h => by first | rfl | exact absurd rfl h
    | 23, _, h => by first | rfl | exact absurd rfl h
    | 24, _, h => by first | rfl | exact absurd rfl h
    | 25, _, h => by first | rfl | exact absurd rfl h
    | 26, _, h => by first | rfl | exact absurd rfl h
    | 27, _, h => by first | rfl | exact absurd rfl h
    | 28, _, h => by first | rfl | exact absurd rfl h
    | 29, _, h => by first | rfl | exact absurd rfl h
    | 30, _, h => by first | rfl | exact absurd rfl h
    | 31, _, h => by first | rfl | exact absurd rfl h
    | n + 32, h, _ => absurd h (by omega))
  exact h
theorem cwA15 (M : z_M) (c : Nat) (V : z_V) (g : Nat → Int32) : z_up (cS M c V) (c + 22) (z_I 20 g) = cS M c (sA V 15 g) := by
  have h := rg_wr (M := M) (a := c) (n := 32) (k := 22) (f := cC c V) (g := cC c (sA V 15 g)) (e := z_I 20 g) (by decide) rfl (fun j hj hne => match j, hj, hne with
    | 0, _, h => by first | rfl | exact absurd rfl h
    | 1, _, h => by first | rfl | exact absurd rfl h
    | 2, _, h => by first | rfl | exact absurd rfl h
    | 3, _, h => by first | rfl | exact absurd rfl h
    | 4, _, h => by first | rfl | exact absurd rfl h
    | 5, _, h => by first | rfl | exact absurd rfl h
    | 6, _, h => by first | rfl | exact absurd rfl h
    | 7, _, h => by first | rfl | exact absurd rfl h
    | 8, _, h => by first | rfl | exact absurd rfl h
    | 9, _, h => by first | rfl | exact absurd rfl h
    | 10, _, h => by first | rfl | exact absurd rfl h
    | 11, _, h => by first | rfl | exact absurd rfl h
    | 12, _, h => by first | rfl | exact absurd rfl h
    | 13, _, h => by first | rfl | exact absurd rfl h
    | 14, _, h => by first | rfl | exact absurd rfl h
    | 15, _, h => by first | rfl | exact absurd rfl h
    | 16, _, h => by first | rfl | exact absurd rfl h
    | 17, _, h => by first | rfl | exact absurd rfl h
    | 18, _, h => by first | rfl | exact absurd rfl h
    | 19, _, h => by first | rfl | exact absurd rfl h
    | 20, _, h => by first | rfl | exact absurd rfl h
    | 21, _, h => by first | rfl | exact absurd rfl h
    | 22, _, h => by first | rfl | exact absurd rfl h
    | 23, _, h => by first | rfl | exact absurd rfl h
    | 24, _, h => by first | rfl | exact absurd rfl h
    | 25, _, h => by first | rfl | exact absurd rfl h
    | 26, _, h => by first | rfl | exact absurd rfl h
    | 27, _, h => by first | rfl | exact absurd rfl h
    | 28, _, h => by first | rfl | exact absurd rfl h
    | 29, _, h => by first | rfl | exact absurd rfl h
    | 30, _, h => by first | rfl | exact absurd rfl h
    | 31, _, h => by first | rfl | exact absurd rfl h
    | n + 32, h, _ => absurd h (by omega))
  exact h
theorem cwA16 (M : z_M) (c : Nat) (V : z_V) (g : Nat → Int32) : z_up (cS M c V) (c + 24) (z_I 16 g) = cS M c (sA V 16 g) := by
  have h := rg_wr (M := M) (a := c) (n := 32) (k := 24) (f := cC c V) (g := cC c (sA V 16 g)) (e := z_I 16 g) (by decide) rfl (fun j hj hne => match j, hj, hne with
    | 0, _, h => by first | rfl | exact absurd rfl h
    | 1, _, h => by first | rfl | exact absurd rfl h
    | 2, _, h => by first | rfl | exact absurd rfl h
    | 3, _, h => by first | rfl | exact absurd rfl h
    | 4, _, h => by first | rfl | exact absurd rfl h
    | 5, _, h => by first | rfl | exact absurd rfl h
    | 6, _, h => by first | rfl | exact absurd rfl h
    | 7, _, h => by first | rfl | exact absurd rfl h
    | 8, _, h => by first | rfl | exact absurd rfl h
    | 9, _, h => by first | rfl | exact absurd rfl h
    | 10, _, h => by first | rfl | exact absurd rfl h
    | 11, _, h => by first | rfl | exact absurd rfl h
    | 12, _, h => by first | rfl | exact absurd rfl h
    | 13, _, h => by first | rfl | exact absurd rfl h
    | 14, _, h => by first | rfl | exact absurd rfl h
    | 15, _, h => by first | rfl | exact absurd rfl h
    | 16, _, h => by first | rfl | exact absurd rfl h
    | 17, _, h => by first | rfl | exact absurd rfl h
    | 18, _, h => by first | rfl | exact absurd rfl h
    | 19, _, h => by first | rfl | exact absurd rfl h
    | 20, _, h => by first | rfl | exact absurd rfl h
    | 21, _, h => by first | rfl | exact absurd rfl h
    | 22, _, h => by first | rfl | exact absurd rfl h
    | 23, _, h => by first | rfl | exact absurd rfl h
    | 24, _, h => by first | rfl | exact absurd rfl h
    | 25, _, h => by first | rfl | exact absurd rfl h
    | 26, _, h => by first | rfl | exact absurd rfl h
    | 27, _, h => by first | rfl | exact absurd rfl h
    | 28, _, h => by first | rfl | exact absurd rfl h
    | 29, _, h => by first | rfl | exact absurd rfl h
    | 30, _, h => by first | rfl | exact absurd rfl h
    | 31, _, h => by first | rfl | exact absurd rfl h
    | n + 32, h, _ => absurd h (by omega))
  exact h
theorem cwA17 (M : z_M) (c : Nat) (V : z_V) (g : Nat → Int32) : z_up (cS M c V) (c + 25) (z_I 64 g) = cS M c (sA V 17 g) := by
  have h := rg_wr (M := M) (a := c) (n := 32) (k := 25) (f := cC c V) (g := cC c (sA V 17 g)) (e := z_I 64 g) (by decide) rfl (fun j hj hne => match j, hj, hne with
    | 0, _, h => by first | rfl | exact absurd rfl h
    | 1, _, h => by first | rfl | exact absurd rfl h
    | 2, _, h => by first | rfl | exact absurd rfl h
    | 3, _, h => by first | rfl | exact absurd rfl h
    | 4, _, h => by first | rfl | exact absurd rfl h
    | 5, _, h => by first | rfl | exact absurd rfl h
    | 6, _, h => by first | rfl | exact absurd rfl h
    | 7, _, h => by first | rfl | exact absurd rfl h
    | 8, _, h => by first | rfl | exact absurd rfl h
    | 9, _, h => by first | rfl | exact absurd rfl h
    | 10, _, h => by first | rfl | exact absurd rfl h
    | 11, _, h => by first | rfl | exact absurd rfl h
    | 12, _, h => by first | rfl | exact absurd rfl h
    | 13, _, h => by first | rfl | exact absurd rfl h
    | 14, _, h => by first | rfl | exact absurd rfl h
    | 15, _, h => by first | rfl | exact absurd rfl h
    | 16, _, h => by first | rfl | exact absurd rfl h
    | 17, _, h => by first | rfl | exact absurd rfl h
    | 18, _, h => by first | rfl | exact absurd rfl h
    | 19, _, h => by first | rfl | exact absurd rfl h
    | 20, _, h => by first | rfl | exact absurd rfl h
    | 21, _, h => by first | rfl | exact absurd rfl h
    | 22, _, h => by first | rfl | exact absurd rfl h
    | 23, _, h => by first | rfl | exact absurd rfl h
    | 24, _, h => by first | rfl | exact absurd rfl h
    | 25, _, h => by first | rfl | exact absurd rfl h
    | 26, _, h => by first | rfl | exact absurd rfl h
    | 27, _, h => by first | rfl | exact absurd rfl h
    | 28, _, h => by first | rfl | exact absurd rfl h
    | 29, _, h => by first | rfl | exact absurd rfl h
    | 30, _, h => by first | rfl | exact absurd rfl h
    | 31, _, h => by first | rfl | exact absurd rfl h
    | n + 32, h, _ => absurd h (by omega))
  exact h
theorem cwA18 (M : z_M) (c : Nat) (V : z_V) (g : Nat → Int32) : z_up (cS M c V) (c + 26) (z_I 64 g) = cS M c (sA V 18 g) := by
  have h := rg_wr (M := M) (a := c) (n := 32) (k := 26) (f := cC c V) (g := cC c (sA V 18 g)) (e := z_I 64 g) (by decide) rfl (fun j hj hne => match j, hj, hne with
    | 0, _, h => by first | rfl | exact absurd rfl h
    | 1, _, h => by first | rfl | exact absurd rfl h
    | 2, _, h => by first | rfl | exact absurd rfl h
    | 3, _, h => by first | rfl | exact absurd rfl h
    | 4, _, h => by first | rfl | exact absurd rfl h
    | 5, _, h => by first | rfl | exact absurd rfl h
    | 6, _, h => by first | rfl | exact absurd rfl h
    | 7, _, h => by first | rfl | exact absurd rfl h
    | 8, _, h => by first | rfl | exact absurd rfl h
    | 9, _, h => by first | rfl | exact absurd rfl h
    | 10, _, h => by first | rfl | exact absurd rfl h
    | 11, _, h => by first | rfl | exact absurd rfl h
    | 12, _, h => by first | rfl | exact absurd rfl h
    | 13, _, h => by first | rfl | exact absurd rfl h
    | 14, _, h => by first | rfl | exact absurd rfl h
    | 15, _, h => by first | rfl | exact absurd rfl h
    | 16, _, h => by first | rfl | exact absurd rfl h
    | 17, _, h => by first | rfl | exact absurd rfl h
    | 18, _, h => by first | rfl | exact absurd rfl h
    | 19, _, h => by first | rfl | exact absurd rfl h
    | 20, _, h => by first | rfl | exact absurd rfl h
    | 21, _, h => by first | rfl | exact absurd rfl h
    | 22, _, h => by first | rfl | exact absurd rfl h
    | 23, _, h => by first | rfl | exact absurd rfl h
    | 24, _, h => by first | rfl | exact absurd rfl h
    | 25, _, h => by first | rfl | exact absurd rfl h
    | 26, _, h => by first | rfl | exact absurd rfl h
    | 27, _, h => by first | rfl | exact absurd rfl h
    | 28, _, h => by first | rfl | exact absurd rfl h
    | 29, _, h => by first | rfl | exact absurd rfl h
    | 30, _, h => by first | rfl | exact absurd rfl h
    | 31, _, h => by first | rfl | exact absurd rfl h
    | n + 32, h, _ => absurd h (by omega))
  exact h
theorem cwF2 (M : z_M) (c : Nat) (V : z_V) (g : Nat → UInt32) : z_up (cS M c V) (c + 27) (z_F 64 g) = cS M c (sF V 2 g) := by
  have h := rg_wr (M := M) (a := c) (n := 32) (k := 27) (f := cC c V) (g := cC c (sF V 2 g)) (e := z_F 64 g) (by decide) rfl (fun j hj hne => match j, hj, hne with
    | 0, _, h => by first | rfl | exact absurd rfl h
    | 1, _, h => by first | rfl | exact absurd rfl h
    | 2, _, h => by first | rfl | exact absurd rfl h
    | 3, _, h => by first | rfl | exact absurd rfl h
    | 4, _, h => by first | rfl | exact absurd rfl h
    | 5, _, h => by first | rfl | exact absurd rfl h
    | 6, _, h => by first | rfl | exact absurd rfl h
    | 7, _, h => by first | rfl | exact absurd rfl h
    | 8, _, h => by first | rfl | exact absurd rfl h
    | 9, _, h => by first | rfl | exact absurd rfl h
    | 10, _, h => by first | rfl | exact absurd rfl h
    | 11, _, h => by first | rfl | exact absurd rfl h
    | 12, _, h => by first | rfl | exact absurd rfl h
    | 13, _, h => by first | rfl | exact absurd rfl h
    | 14, _, h => by first | rfl | exact absurd rfl h
    | 15, _, h => by first | rfl | exact absurd rfl h
    | 16, _, h => by first | rfl | exact absurd rfl h
    | 17, _, h => by first | rfl | exact absurd rfl h
    | 18, _, h => by first | rfl | exact absurd rfl h
    | 19, _, h => by first | rfl | exact absurd rfl h
    | 20, _, h => by first | rfl | exact absurd rfl h
    | 21, _, h => by first | rfl | exact absurd rfl h
    | 22, _, h => by first | rfl | exact absurd rfl h
    | 23, _, h => by first | rfl | exact absurd rfl h
    | 24, _, h => by first | rfl | exact absurd rfl h
    | 25, _, h => by first | rfl | exact absurd rfl h
    | 26, _, h => by first | rfl | exact absurd rfl h
    | 27, _, h => by first | rfl | exact absurd rfl h
    | 28, _, h => by first | rfl | exact absurd rfl h
    | 29, _, h => by first | rfl | exact absurd rfl h
    | 30, _, h => by first | rfl | exact absurd rfl h
    | 31, _, h => by first | rfl | exact absurd rfl h
    | n + 32, h, _ => absurd h (by omega))
  exact h
theorem cwS12 (M : z_M) (c : Nat) (V : z_V) (x : Int32) (y13 : Int32) (h13 : V.1 13 = y13) : z_up (cS M c V) (c + 28) (z_O 1 [.int x, .int y13, .ref (c + 29), .ref (c + 30), .ref (c + 31)]) = cS M c (sS V 12 x) := by
  subst h13
  have h := rg_wr (M := M) (a := c) (n := 32) (k := 28) (f := cC c V) (g := cC c (sS V 12 x)) (by decide) rfl (fun j hj hne => match j, hj, hne with
    | 0, _, h => by first | rfl | exact absurd rfl h
    | 1, _, h => by first | rfl | exact absurd rfl h
    | 2, _, h => by first | rfl | exact absurd rfl h
    | 3, _, h => by first | rfl | exact absurd rfl h
    | 4, _, h => by first | rfl | exact absurd rfl h
    | 5, _, h => by first | rfl | exact absurd rfl h
    | 6, _, h => by first | rfl | exact absurd rfl h
    | 7, _, h => by first | rfl | exact absurd rfl h
    | 8, _, h => by first | rfl | exact absurd rfl h
    | 9, _, h => by first | rfl | exact absurd rfl h
    | 10, _, h => by first | rfl | exact absurd rfl h
    | 11, _, h => by first | rfl | exact absurd rfl h
    | 12, _, h => by first | rfl | exact absurd rfl h
    | 13, _, h => by first | rfl | exact absurd rfl h
    | 14, _, h => by first | rfl | exact absurd rfl h
    | 15, _, h => by first | rfl | exact absurd rfl h
    | 16, _, h => by first | rfl | exact absurd rfl h
    | 17, _, h => by first | rfl | exact absurd rfl h
    | 18, _, h => by first | rfl | exact absurd rfl h
    | 19, _, h => by first | rfl | exact absurd rfl h
    | 20, _, h => by first | rfl | exact absurd rfl h
    | 21, _, h => by first | rfl | exact absurd rfl h
    | 22, _, h => by first | rfl | exact absurd rfl h
    | 23, _, h => by first | rfl | exact absurd rfl h
    | 24, _, h => by first | rfl | exact absurd rfl h
    | 25, _, h => by first | rfl | exact absurd rfl h
    | 26, _, h => by first | rfl | exact absurd rfl h
    | 27, _, h => by first | rfl | exact absurd rfl h
    | 28, _, h => by first | rfl | exact absurd rfl h
    | 29, _, h => by first | rfl | exact absurd rfl h
    | 30, _, h => by first | rfl | exact absurd rfl h
    | 31, _, h => by first | rfl | exact absurd rfl h
    | n + 32, h, _ => absurd h (by omega))
  exact h
theorem cwS13 (M : z_M) (c : Nat) (V : z_V) (x : Int32) (y12 : Int32) (h12 : V.1 12 = y12) : z_up (cS M c V) (c + 28) (z_O 1 [.int y12, .int x, .ref (c + 29), .ref (c + 30), .ref (c + 31)]) = cS M c (sS V 13 x) := by
  subst h12
  have h := rg_wr (M := M) (a := c) (n := 32) (k := 28) (f := cC c V) (g := cC c (sS V 13 x)) (by decide) rfl (fun j hj hne => match j, hj, hne with
    | 0, _, h => by first | rfl | exact absurd rfl h
    | 1, _, h => by first | rfl | exact absurd rfl h
    | 2, _, h => by first | rfl | exact absurd rfl h
    | 3, _, h => by first | rfl | exact absurd rfl h
    | 4, _, h => by first | rfl | exact absurd rfl h
    | 5, _, h => by first | rfl | exact absurd rfl h
    | 6, _, h => by first | rfl | exact absurd rfl h
    | 7, _, h => by first | rfl | exact absurd rfl h
    | 8, _, h => by first | rfl | exact absurd rfl h
    | 9, _, h => by first | rfl | exact absurd rfl h
    | 10, _, h => by first | rfl | exact absurd rfl h
    | 11, _, h => by first | rfl | exact absurd rfl h
    | 12, _, h => by first | rfl | exact absurd rfl h
    | 13, _, h => by first | rfl | exact absurd rfl h
    | 14, _, h => by first | rfl | exact absurd rfl h
    | 15, _, h => by first | rfl | exact absurd rfl h
    | 16, _, h => by first | rfl | exact absurd rfl h
    | 17, _, h => by first | rfl | exact absurd rfl h
    | 18, _, h => by first | rfl | exact absurd rfl h
    | 19, _, h => by first | rfl | exact absurd rfl h
    | 20, _, h => by first | rfl | exact absurd rfl h
    | 21, _, h => by first | rfl | exact absurd rfl h
    | 22, _, h => by first | rfl | exact absurd rfl h
    | 23, _, h => by first | rfl | exact absurd rfl h
    | 24, _, h => by first | rfl | exact absurd rfl h
    | 25, _, h => by first | rfl | exact absurd rfl h
    | 26, _, h => by first | rfl | exact absurd rfl h
    | 27, _, h => by first | rfl | exact absurd rfl h
    | 28, _, h => by first | rfl | exact absurd rfl h
    | 29, _, h => by first | rfl | exact absurd rfl h
    | 30, _, h => by first | rfl | exact absurd rfl h
    | 31, _, h => by first | rfl | exact absurd rfl h
    | n + 32, h, _ => absurd h (by omega))
  exact h
theorem cwA19 (M : z_M) (c : Nat) (V : z_V) (g : Nat → Int32) : z_up (cS M c V) (c + 29) (z_I 30 g) = cS M c (sA V 19 g) := by
  have h := rg_wr (M := M) (a := c) (n := 32) (k := 29) (f := cC c V) (g := cC c (sA V 19 g)) (e := z_I 30 g) (by decide) rfl (fun j hj hne => match j, hj, hne with
    | 0, _, h => by first | rfl | exact absurd rfl h
    | 1, _, h => by first | rfl | exact absurd rfl h
    | 2, _, h => by first | rfl | exact absurd rfl h
    | 3, _, h => by first | rfl | exact absurd rfl h
    | 4, _, h => by first | rfl | exact absurd rfl h
    | 5, _, h => by first | rfl | exact absurd rfl h
    | 6, _, h => by first | rfl | exact absurd rfl h
    | 7, _, h => by first | rfl | exact absurd rfl h
    | 8, _, h => by first | rfl | exact absurd rfl h
    | 9, _, h => by first | rfl | exact absurd rfl h
    | 10, _, h => by first | rfl | exact absurd rfl h
    | 11, _, h => by first | rfl | exact absurd rfl h
    | 12, _, h => by first | rfl | exact absurd rfl h
    | 13, _, h => by first | rfl | exact absurd rfl h
    | 14, _, h => by first | rfl | exact absurd rfl h
    | 15, _, h => by first | rfl | exact absurd rfl h
    | 16, _, h => by first | rfl | exact absurd rfl h
    | 17, _, h => by first | rfl | exact absurd rfl h
    | 18, _, h => by first | rfl | exact absurd rfl h
    | 19, _, h => by first | rfl | exact absurd rfl h
    | 20, _, h => by first | rfl | exact absurd rfl h
    | 21, _, h => by first | rfl | exact absurd rfl h
    | 22, _, h => by first | rfl | exact absurd rfl h
    | 23, _, h => by first | rfl | exact absurd rfl h
    | 24, _, h => by first | rfl | exact absurd rfl h
    | 25, _, h => by first | rfl | exact absurd rfl h
    | 26, _, h => by first | rfl | exact absurd rfl h
    | 27, _, h => by first | rfl | exact absurd rfl h
    | 28, _, h => by first | rfl | exact absurd rfl h
    | 29, _, h => by first | rfl | exact absurd rfl h
    | 30, _, h => by first | rfl | exact absurd rfl h
    | 31, _, h => by first | rfl | exact absurd rfl h
    | n + 32, h, _ => absurd h (by omega))
  exact h
theorem cwA20 (M : z_M) (c : Nat) (V : z_V) (g : Nat → Int32) : z_up (cS M c V) (c + 30) (z_I 30 g) = cS M c (sA V 20 g) := by
  have h := rg_wr (M := M) (a := c) (n := 32) (k := 30) (f := cC c V) (g := cC c (sA V 20 g)) (e := z_I 30 g) (by decide) rfl (fun j hj hne => match j, hj, hne with
    | 0, _, h => by first | rfl | exact absurd rfl h
    | 1, _, h => by first | rfl | exact absurd rfl h
    | 2, _, h => by first | rfl | exact absurd rfl h
    | 3, _, h => by first | rfl | exact absurd rfl h
    | 4, _, h => by first | rfl | exact absurd rfl h
    | 5, _, h => by first | rfl | exact absurd rfl h
    | 6, _, h => by first | rfl | exact absurd rfl h
    | 7, _, h => by first | rfl | exact absurd rfl h
    | 8, _, h => by first | rfl | exact absurd rfl h
    | 9, _, h => by first | rfl | exact absurd rfl h
    | 10, _, h => by first | rfl | exact absurd rfl h
    | 11, _, h => by first | rfl | exact absurd rfl h
    | 12, _, h => by first | rfl | exact absurd rfl h
    | 13, _, h => by first | rfl | exact absurd rfl h
    | 14, _, h => by first | rfl | exact absurd rfl h
    | 15, _, h => by first | rfl | exact absurd rfl h
    | 16, _, h => by first | rfl | exact absurd rfl h
    | 17, _, h => by first | rfl | exact absurd rfl h
    | 18, _, h => by first | rfl | exact absurd rfl h
    | 19, _, h => by first | rfl | exact absurd rfl h
    | 20, _, h => by first | rfl | exact absurd rfl h
    | 21, _, h => by first | rfl | exact absurd rfl h
    | 22, _, h => by first | rfl | exact absurd rfl h
    | 23, _, h => by first | rfl | exact absurd rfl h
    | 24, _, h => by first | rfl | exact absurd rfl h
    | 25, _, h => by first | rfl | exact absurd rfl h
    | 26, _, h => by first | rfl | exact absurd rfl h
    | 27, _, h => by first | rfl | exact absurd rfl h
    | 28, _, h => by first | rfl | exact absurd rfl h
    | 29, _, h => by first | rfl | exact absurd rfl h
    | 30, _, h => by first | rfl | exact absurd rfl h
    | 31, _, h => by first | rfl | exact absurd rfl h
    | n + 32, h, _ => absurd h (by omega))
  exact h
theorem cwA21 (M : z_M) (c : Nat) (V : z_V) (g : Nat → Int32) : z_up (cS M c V) (c + 31) (z_I 30 g) = cS M c (sA V 21 g) := by
  have h := rg_wr (M := M) (a := c) (n := 32) (k := 31) (f := cC c V) (g := cC c (sA V 21 g)) (e := z_I 30 g) (by decide) rfl (fun j hj hne => match j, hj, hne with
    | 0, _, h => by first | rfl | exact absurd rfl h
    | 1, _, h => by first | rfl | exact absurd rfl h
    | 2, _, h => by first | rfl | exact absurd rfl h
    | 3, _, h => by first | rfl | exact absurd rfl h
    | 4, _, h => by first | rfl | exact absurd rfl h
    | 5, _, h => by first | rfl | exact absurd rfl h
    | 6, _, h => by first | rfl | exact absurd rfl h
    | 7, _, h => by first | rfl | exact absurd rfl h
    | 8, _, h => by first | rfl | exact absurd rfl h
    | 9, _, h => by first | rfl | exact absurd rfl h
    | 10, _, h => by first | rfl | exact absurd rfl h
    | 11, _, h => by first | rfl | exact absurd rfl h
    | 12, _, h => by first | rfl | exact absurd rfl h
    | 13, _, h => by first | rfl | exact absurd rfl h
    | 14, _, h => by first | rfl | exact absurd rfl h
    | 15, _, h => by first | rfl | exact absurd rfl h
    | 16, _, h => by first | rfl | exact absurd rfl h
    | 17, _, h => by first | rfl | exact absurd rfl h
    | 18, _, h => by first | rfl | exact absurd rfl h
    | 19, _, h => by first | rfl | exact absurd rfl h
    | 20, _, h => by first | rfl | exact absurd rfl h
    | 21, _, h => by first | rfl | exact absurd rfl h
    | 22, _, h => by first | rfl | exact absurd rfl h
    | 23, _, h => by first | rfl | exact absurd rfl h
    | 24, _, h => by first | rfl | exact absurd rfl h
    | 25, _, h => by first | rfl | exact absurd rfl h
    | 26, _, h => by first | rfl | exact absurd rfl h
    | 27, _, h => by first | rfl | exact absurd rfl h
    | 28, _, h => by first | rfl | exact absurd rfl h
    | 29, _, h => by first | rfl | exact absurd rfl h
    | 30, _, h => by first | rfl | exact absurd rfl h
    | 31, _, h => by first | rfl | exact absurd rfl h
    | n + 32, h, _ => absurd h (by omega))
  exact h
def cwr := And.intro cwS0 (And.intro @cwS1 (And.intro @cwS2 (And.intro @cwS3 (And.intro @cwS4 (And.intro @cwS5 (And.intro @cwS6 (And.intro @cwS7 (And.intro @cwT (And.intro cwS8 (And.intro cwA0 (And.intro cwA1 (And.intro cwA2 (And.intro @cwS9 (And.intro @cwS10 (And.intro cwA3 (And.intro cwA4 (And.intro cwA5 (And.intro cwA6 (And.intro cwF0 (And.intro cwA7 (And.intro cwA8 (And.intro cwA9 (And.intro cwA10 (And.intro cwF1 (And.intro cwS11 (And.intro cwA11 (And.intro cwA12 (And.intro cwA13 (And.intro cwA14 (And.intro cwA15 (And.intro cwA16 (And.intro cwA17 (And.intro cwA18 (And.intro cwF2 (And.intro @cwS12 (And.intro @cwS13 (And.intro cwA19 (And.intro cwA20 (cwA21)))))))))))))))))))))))))))))))))))))))
/-- n rounds -/
def it {σ : Type} (f : Nat → σ → σ) : Nat → σ → σ
  | 0, s => s
  | n + 1, s => f n (it f n s)
theorem it_for {σ : Type} {ρ : Type} (E : Nat → σ → ρ) (f : Nat → σ → σ) (P : Nat → σ → Prop) (n : Nat) (hb : ∀ i s, i < n → P i s → E i s = E (i + 1) (f i s) ∧ P (i + 1) (f i s)) (s : σ) (h0 : P 0 s) : ∀ k, k ≤ n → E 0 s = E k (it f k s) ∧ P k (it f k s) := by
  intro k
  induction k with
  | zero => intro _; exact ⟨rfl, h0⟩
  | succ k ih =>
    intro hk
    obtain ⟨h1, h2⟩ := ih (by omega)
    obtain ⟨h3, h4⟩ := hb k _ (by omega) h2
    exact ⟨h1.trans h3, h4⟩
