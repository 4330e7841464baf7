/-! regions: mixer (x), history (h), text (t), model (o): printed by wip/whole/gen/base2.py -/
theorem cS_out {M : z_M} {c x : Nat} {V : z_V} (h : x < c ∨ c + 32 ≤ x) : (cS M c V).2 x = M.2 x := rg_out h
theorem cS_wr_out {M : z_M} {c x : Nat} {V : z_V} {e : z_E} (h : x < c ∨ c + 32 ≤ x) : z_up (cS M c V) x e = cS (z_up M x e) c V := rg_wr_out h
def xC (x : Nat) (V : z_V) (k : Nat) : z_E := match k with
  | 0 => z_O 4 [.ref (x + 1), .ref (x + 2), .ref (x + 3)]
  | 1 => z_I 20 (V.2.2.1 0)
  | 2 => z_F 20 (V.2.2.2 0)
  | 3 => z_O 8 [.ref (x + 4), .ref (x + 5), .ref (x + 6), .ref (x + 7)]
  | 4 => z_I 16 (V.2.2.1 1)
  | 5 => z_I 64 (V.2.2.1 2)
  | 6 => z_I 64 (V.2.2.1 3)
  | 7 => z_F 64 (V.2.2.2 1)
  | _ => z_I 0 (fun _ => 0)
def xS (M : z_M) (x : Nat) (V : z_V) : z_M := rg M x 8 (xC x V)
theorem xS_1 (M : z_M) (x : Nat) (V : z_V) : (xS M x V).1 = M.1 := rfl
theorem xS_out {M : z_M} {x y : Nat} {V : z_V} (h : y < x ∨ x + 8 ≤ y) : (xS M x V).2 y = M.2 y := rg_out h
theorem xS_wr_out {M : z_M} {x y : Nat} {V : z_V} {e : z_E} (h : y < x ∨ x + 8 ≤ y) : z_up (xS M x V) y e = xS (z_up M y e) x V := rg_wr_out h
theorem xrd0 (M : z_M) (x : Nat) (V : z_V) : (xS M x V).2 x = some (z_O 4 [.ref (x + 1), .ref (x + 2), .ref (x + 3)]) := rg_rd (k := 0) (by decide)
theorem xrd1 (M : z_M) (x : Nat) (V : z_V) : (xS M x V).2 (x + 1) = some (z_I 20 (V.2.2.1 0)) := rg_rd (by decide)
theorem xrd2 (M : z_M) (x : Nat) (V : z_V) : (xS M x V).2 (x + 2) = some (z_F 20 (V.2.2.2 0)) := rg_rd (by decide)
theorem xrd3 (M : z_M) (x : Nat) (V : z_V) : (xS M x V).2 (x + 3) = some (z_O 8 [.ref (x + 4), .ref (x + 5), .ref (x + 6), .ref (x + 7)]) := rg_rd (by decide)
theorem xrd4 (M : z_M) (x : Nat) (V : z_V) : (xS M x V).2 (x + 4) = some (z_I 16 (V.2.2.1 1)) := rg_rd (by decide)
theorem xrd5 (M : z_M) (x : Nat) (V : z_V) : (xS M x V).2 (x + 5) = some (z_I 64 (V.2.2.1 2)) := rg_rd (by decide)
theorem xrd6 (M : z_M) (x : Nat) (V : z_V) : (xS M x V).2 (x + 6) = some (z_I 64 (V.2.2.1 3)) := rg_rd (by decide)
theorem xrd7 (M : z_M) (x : Nat) (V : z_V) : (xS M x V).2 (x + 7) = some (z_F 64 (V.2.2.2 1)) := rg_rd (by decide)
def xrd := And.intro xrd0 (And.intro xrd1 (And.intro xrd2 (And.intro xrd3 (And.intro xrd4 (And.intro xrd5 (And.intro xrd6 (xrd7)))))))
theorem xwA0 (M : z_M) (x : Nat) (V : z_V) (g : Nat → Int32)  : z_up (xS M x V) (x + 1) (z_I 20 g) = xS M x (sA V 0 g) := by
  skip
  have h := rg_wr (M := M) (a := x) (n := 8) (k := 1) (f := xC x V) (g := xC x (sA V 0 g)) (by decide) rfl (fun j hj hne => match j, hj, hne with
    | 0, _, h => by first | rfl | exact absurd rfl h
    | 1, _, h => by first | rfl | exact absurd rfl h
    | 2, _, h => by first | rfl | exact absurd rfl h
    | 3, _, h => by first | rfl | exact absurd rfl h
    | 4, _, h => by first | rfl | exact absurd rfl h
    | 5, _, h => by first | rfl | exact absurd rfl h
    | 6, _, h => by first | rfl | exact absurd rfl h
    | 7, _, h => by first | rfl | exact absurd rfl h
    | n + 8, h, _ => absurd h (by omega))
  exact h
theorem xwF0 (M : z_M) (x : Nat) (V : z_V) (g : Nat → UInt32)  : z_up (xS M x V) (x + 2) (z_F 20 g) = xS M x (sF V 0 g) := by
  skip
  have h := rg_wr (M := M) (a := x) (n := 8) (k := 2) (f := xC x V) (g := xC x (sF V 0 g)) (by decide) rfl (fun j hj hne => match j, hj, hne with
    | 0, _, h => by first | rfl | exact absurd rfl h
    | 1, _, h => by first | rfl | exact absurd rfl h
    | 2, _, h => by first | rfl | exact absurd rfl h
    | 3, _, h => by first | rfl | exact absurd rfl h
    | 4, _, h => by first | rfl | exact absurd rfl h
    | 5, _, h => by first | rfl | exact absurd rfl h
    | 6, _, h => by first | rfl | exact absurd rfl h
    | 7, _, h => by first | rfl | exact absurd rfl h
    | n + 8, h, _ => absurd h (by omega))
  exact h
theorem xwA1 (M : z_M) (x : Nat) (V : z_V) (g : Nat → Int32)  : z_up (xS M x V) (x + 4) (z_I 16 g) = xS M x (sA V 1 g) := by
  skip
  have h := rg_wr (M := M) (a := x) (n := 8) (k := 4) (f := xC x V) (g := xC x (sA V 1 g)) (by decide) rfl (fun j hj hne => match j, hj, hne with
    | 0, _, h => by first | rfl | exact absurd rfl h
    | 1, _, h => by first | rfl | exact absurd rfl h
    | 2, _, h => by first | rfl | exact absurd rfl h
    | 3, _, h => by first | rfl | exact absurd rfl h
    | 4, _, h => by first | rfl | exact absurd rfl h
    | 5, _, h => by first | rfl | exact absurd rfl h
    | 6, _, h => by first | rfl | exact absurd rfl h
    | 7, _, h => by first | rfl | exact absurd rfl h
    | n + 8, h, _ => absurd h (by omega))
  exact h
theorem xwA2 (M : z_M) (x : Nat) (V : z_V) (g : Nat → Int32)  : z_up (xS M x V) (x + 5) (z_I 64 g) = xS M x (sA V 2 g) := by
  skip
  have h := rg_wr (M := M) (a := x) (n := 8) (k := 5) (f := xC x V) (g := xC x (sA V 2 g)) (by decide) rfl (fun j hj hne => match j, hj, hne with
    | 0, _, h => by first | rfl | exact absurd rfl h
    | 1, _, h => by first | rfl | exact absurd rfl h
    | 2, _, h => by first | rfl | exact absurd rfl h
    | 3, _, h => by first | rfl | exact absurd rfl h
    | 4, _, h => by first | rfl | exact absurd rfl h
    | 5, _, h => by first | rfl | exact absurd rfl h
    | 6, _, h => by first | rfl | exact absurd rfl h
    | 7, _, h => by first | rfl | exact absurd rfl h
    | n + 8, h, _ => absurd h (by omega))
  exact h
theorem xwA3 (M : z_M) (x : Nat) (V : z_V) (g : Nat → Int32)  : z_up (xS M x V) (x + 6) (z_I 64 g) = xS M x (sA V 3 g) := by
  skip
  have h := rg_wr (M := M) (a := x) (n := 8) (k := 6) (f := xC x V) (g := xC x (sA V 3 g)) (by decide) rfl (fun j hj hne => match j, hj, hne with
    | 0, _, h => by first | rfl | exact absurd rfl h
    | 1, _, h => by first | rfl | exact absurd rfl h
    | 2, _, h => by first | rfl | exact absurd rfl h
    | 3, _, h => by first | rfl | exact absurd rfl h
    | 4, _, h => by first | rfl | exact absurd rfl h
    | 5, _, h => by first | rfl | exact absurd rfl h
    | 6, _, h => by first | rfl | exact absurd rfl h
    | 7, _, h => by first | rfl | exact absurd rfl h
    | n + 8, h, _ => absurd h (by omega))
  exact h
theorem xwF1 (M : z_M) (x : Nat) (V : z_V) (g : Nat → UInt32)  : z_up (xS M x V) (x + 7) (z_F 64 g) = xS M x (sF V 1 g) := by
  skip
  have h := rg_wr (M := M) (a := x) (n := 8) (k := 7) (f := xC x V) (g := xC x (sF V 1 g)) (by decide) rfl (fun j hj hne => match j, hj, hne with
    | 0, _, h => by first | rfl | exact absurd rfl h
    | 1, _, h => by first | rfl | exact absurd rfl h
    | 2, _, h => by first | rfl | exact absurd rfl h
    | 3, _, h => by first | rfl | exact absurd rfl h
    | 4, _, h => by first | rfl | exact absurd rfl h
    | 5, _, h => by first | rfl | exact absurd rfl h
    | 6, _, h => by first | rfl | exact absurd rfl h
    | 7, _, h => by first | rfl | exact absurd rfl h
    | n + 8, h, _ => absurd h (by omega))
  exact h
def xwr := And.intro xwA0 (And.intro xwF0 (And.intro xwA1 (And.intro xwA2 (And.intro xwA3 (xwF1)))))
def tC (t : Nat) (V : z_V) (k : Nat) : z_E := match k with
  | 0 => z_O 5 [.ref (t + 1), .int (V.1 0), .int (V.1 1), .int (V.1 2), .int (V.1 3), .ref (t + 2), .ref (t + 3), .ref (t + 4)]
  | 1 => z_I 100 (V.2.2.1 0)
  | 2 => z_I 100 (V.2.2.1 1)
  | 3 => z_I 100 (V.2.2.1 2)
  | 4 => z_I 100 (V.2.2.1 3)
  | _ => z_I 0 (fun _ => 0)
def tS (M : z_M) (t : Nat) (V : z_V) : z_M := rg M t 5 (tC t V)
theorem tS_1 (M : z_M) (t : Nat) (V : z_V) : (tS M t V).1 = M.1 := rfl
theorem tS_out {M : z_M} {t y : Nat} {V : z_V} (h : y < t ∨ t + 5 ≤ y) : (tS M t V).2 y = M.2 y := rg_out h
theorem tS_wr_out {M : z_M} {t y : Nat} {V : z_V} {e : z_E} (h : y < t ∨ t + 5 ≤ y) : z_up (tS M t V) y e = tS (z_up M y e) t V := rg_wr_out h
theorem trd0 (M : z_M) (t : Nat) (V : z_V) : (tS M t V).2 t = some (z_O 5 [.ref (t + 1), .int (V.1 0), .int (V.1 1), .int (V.1 2), .int (V.1 3), .ref (t + 2), .ref (t + 3), .ref (t + 4)]) := rg_rd (k := 0) (by decide)
theorem trd1 (M : z_M) (t : Nat) (V : z_V) : (tS M t V).2 (t + 1) = some (z_I 100 (V.2.2.1 0)) := rg_rd (by decide)
theorem trd2 (M : z_M) (t : Nat) (V : z_V) : (tS M t V).2 (t + 2) = some (z_I 100 (V.2.2.1 1)) := rg_rd (by decide)
theorem trd3 (M : z_M) (t : Nat) (V : z_V) : (tS M t V).2 (t + 3) = some (z_I 100 (V.2.2.1 2)) := rg_rd (by decide)
theorem trd4 (M : z_M) (t : Nat) (V : z_V) : (tS M t V).2 (t + 4) = some (z_I 100 (V.2.2.1 3)) := rg_rd (by decide)
def trd := And.intro trd0 (And.intro trd1 (And.intro trd2 (And.intro trd3 (trd4))))
theorem twS0 (M : z_M) (t : Nat) (V : z_V) (x : Int32) (y1 : Int32) (y2 : Int32) (y3 : Int32) (h1 : V.1 1 = y1) (h2 : V.1 2 = y2) (h3 : V.1 3 = y3) : z_up (tS M t V) t (z_O 5 [.ref (t + 1), .int x, .int y1, .int y2, .int y3, .ref (t + 2), .ref (t + 3), .ref (t + 4)]) = tS M t (sS V 0 x) := by
  subst h1
  subst h2
  subst h3
  have h := rg_wr (M := M) (a := t) (n := 5) (k := 0) (f := tC t V) (g := tC t (sS V 0 x)) (by decide) rfl (fun j hj hne => match j, hj, hne with
    | 0, _, h => by first | rfl | exact absurd rfl h
    | 1, _, h => by first | rfl | exact absurd rfl h
    | 2, _, h => by first | rfl | exact absurd rfl h
    | 3, _, h => by first | rfl | exact absurd rfl h
    | 4, _, h => by first | rfl | exact absurd rfl h
    | n + 5, h, _ => absurd h (by omega))
  exact h
theorem twS1 (M : z_M) (t : Nat) (V : z_V) (y0 : Int32) (x : Int32) (y2 : Int32) (y3 : Int32) (h0 : V.1 0 = y0) (h2 : V.1 2 = y2) (h3 : V.1 3 = y3) : z_up (tS M t V) t (z_O 5 [.ref (t + 1), .int y0, .int x, .int y2, .int y3, .ref (t + 2), .ref (t + 3), .ref (t + 4)]) = tS M t (sS V 1 x) := by
  subst h0
  subst h2
  subst h3
  have h := rg_wr (M := M) (a := t) (n := 5) (k := 0) (f := tC t V) (g := tC t (sS V 1 x)) (by decide) rfl (fun j hj hne => match j, hj, hne with
    | 0, _, h => by first | rfl | exact absurd rfl h
    | 1, _, h => by first | rfl | exact absurd rfl h
    | 2, _, h => by first | rfl | exact absurd rfl h
    | 3, _, h => by first | rfl | exact absurd rfl h
    | 4, _, h => by first | rfl | exact absurd rfl h
    | n + 5, h, _ => absurd h (by omega))
  exact h
theorem twS2 (M : z_M) (t : Nat) (V : z_V) (y0 : Int32) (y1 : Int32) (x : Int32) (y3 : Int32) (h0 : V.1 0 = y0) (h1 : V.1 1 = y1) (h3 : V.1 3 = y3) : z_up (tS M t V) t (z_O 5 [.ref (t + 1), .int y0, .int y1, .int x, .int y3, .ref (t + 2), .ref (t + 3), .ref (t + 4)]) = tS M t (sS V 2 x) := by
  subst h0
  subst h1
  subst h3
  have h := rg_wr (M := M) (a := t) (n := 5) (k := 0) (f := tC t V) (g := tC t (sS V 2 x)) (by decide) rfl (fun j hj hne => match j, hj, hne with
    | 0, _, h => by first | rfl | exact absurd rfl h
    | 1, _, h => by first | rfl | exact absurd rfl h
    | 2, _, h => by first | rfl | exact absurd rfl h
    | 3, _, h => by first | rfl | exact absurd rfl h
    | 4, _, h => by first | rfl | exact absurd rfl h
    | n + 5, h, _ => absurd h (by omega))
  exact h
theorem twS3 (M : z_M) (t : Nat) (V : z_V) (y0 : Int32) (y1 : Int32) (y2 : Int32) (x : Int32) (h0 : V.1 0 = y0) (h1 : V.1 1 = y1) (h2 : V.1 2 = y2) : z_up (tS M t V) t (z_O 5 [.ref (t + 1), .int y0, .int y1, .int y2, .int x, .ref (t + 2), .ref (t + 3), .ref (t + 4)]) = tS M t (sS V 3 x) := by
  subst h0
  subst h1
  subst h2
  have h := rg_wr (M := M) (a := t) (n := 5) (k := 0) (f := tC t V) (g := tC t (sS V 3 x)) (by decide) rfl (fun j hj hne => match j, hj, hne with
    | 0, _, h => by first | rfl | exact absurd rfl h
    | 1, _, h => by first | rfl | exact absurd rfl h
    | 2, _, h => by first | rfl | exact absurd rfl h
    | 3, _, h => by first | rfl | exact absurd rfl h
    | 4, _, h => by first | rfl | exact absurd rfl h
    | n + 5, h, _ => absurd h (by omega))
  exact h
theorem twA0 (M : z_M) (t : Nat) (V : z_V) (g : Nat → Int32)  : z_up (tS M t V) (t + 1) (z_I 100 g) = tS M t (sA V 0 g) := by
  skip
  have h := rg_wr (M := M) (a := t) (n := 5) (k := 1) (f := tC t V) (g := tC t (sA V 0 g)) (by decide) rfl (fun j hj hne => match j, hj, hne with
    | 0, _, h => by first | rfl | exact absurd rfl h
    | 1, _, h => by first | rfl | exact absurd rfl h
    | 2, _, h => by first | rfl | exact absurd rfl h
    | 3, _, h => by first | rfl | exact absurd rfl h
    | 4, _, h => by first | rfl | exact absurd rfl h
    | n + 5, h, _ => absurd h (by omega))
  exact h
theorem twA1 (M : z_M) (t : Nat) (V : z_V) (g : Nat → Int32)  : z_up (tS M t V) (t + 2) (z_I 100 g) = tS M t (sA V 1 g) := by
  skip
  have h := rg_wr (M := M) (a := t) (n := 5) (k := 2) (f := tC t V) (g := tC t (sA V 1 g)) (by decide) rfl (fun j hj hne => match j, hj, hne with
    | 0, _, h => by first | rfl | exact absurd rfl h
    | 1, _, h => by first | rfl | exact absurd rfl h
    | 2, _, h => by first | rfl | exact absurd rfl h
    | 3, _, h => by first | rfl | exact absurd rfl h
    | 4, _, h => by first | rfl | exact absurd rfl h
    | n + 5, h, _ => absurd h (by omega))
  exact h
theorem twA2 (M : z_M) (t : Nat) (V : z_V) (g : Nat → Int32)  : z_up (tS M t V) (t + 3) (z_I 100 g) = tS M t (sA V 2 g) := by
  skip
  have h := rg_wr (M := M) (a := t) (n := 5) (k := 3) (f := tC t V) (g := tC t (sA V 2 g)) (by decide) rfl (fun j hj hne => match j, hj, hne with
    | 0, _, h => by first | rfl | exact absurd rfl h
    | 1, _, h => by first | rfl | exact absurd rfl h
    | 2, _, h => by first | rfl | exact absurd rfl h
    | 3, _, h => by first | rfl | exact absurd rfl h
    | 4, _, h => by first | rfl | exact absurd rfl h
    | n + 5, h, _ => absurd h (by omega))
  exact h
theorem twA3 (M : z_M) (t : Nat) (V : z_V) (g : Nat → Int32)  : z_up (tS M t V) (t + 4) (z_I 100 g) = tS M t (sA V 3 g) := by
  skip
  have h := rg_wr (M := M) (a := t) (n := 5) (k := 4) (f := tC t V) (g := tC t (sA V 3 g)) (by decide) rfl (fun j hj hne => match j, hj, hne with
    | 0, _, h => by first | rfl | exact absurd rfl h
    | 1, _, h => by first | rfl | exact absurd rfl h
    | 2, _, h => by first | rfl | exact absurd rfl h
    | 3, _, h => by first | rfl | exact absurd rfl h
    | 4, _, h => by first | rfl | exact absurd rfl h
    | n + 5, h, _ => absurd h (by omega))
  exact h
def twr := And.intro @twS0 (And.intro @twS1 (And.intro @twS2 (And.intro @twS3 (And.intro twA0 (And.intro twA1 (And.intro twA2 (twA3)))))))
def hC (r : Nat) (V : z_V) (k : Nat) : z_E := match k with
  | 0 => z_O 3 [.ref (r + 1), .int (V.1 0), .int (V.1 1)]
  | 1 => z_Q 6 (fun k => if k < 6 then some (r + 2 + 32 * k) else none)
  | _ => z_I 0 (fun _ => 0)
def hS (M : z_M) (r : Nat) (V : z_V) : z_M := rg M r 2 (hC r V)
theorem hS_1 (M : z_M) (r : Nat) (V : z_V) : (hS M r V).1 = M.1 := rfl
theorem hS_out {M : z_M} {r y : Nat} {V : z_V} (h : y < r ∨ r + 2 ≤ y) : (hS M r V).2 y = M.2 y := rg_out h
theorem hS_wr_out {M : z_M} {r y : Nat} {V : z_V} {e : z_E} (h : y < r ∨ r + 2 ≤ y) : z_up (hS M r V) y e = hS (z_up M y e) r V := rg_wr_out h
theorem hrd0 (M : z_M) (r : Nat) (V : z_V) : (hS M r V).2 r = some (z_O 3 [.ref (r + 1), .int (V.1 0), .int (V.1 1)]) := rg_rd (k := 0) (by decide)
theorem hrd1 (M : z_M) (r : Nat) (V : z_V) : (hS M r V).2 (r + 1) = some (z_Q 6 (fun k => if k < 6 then some (r + 2 + 32 * k) else none)) := rg_rd (by decide)
def hrd := And.intro hrd0 (hrd1)
theorem hwS0 (M : z_M) (r : Nat) (V : z_V) (x : Int32) (y1 : Int32) (h1 : V.1 1 = y1) : z_up (hS M r V) r (z_O 3 [.ref (r + 1), .int x, .int y1]) = hS M r (sS V 0 x) := by
  subst h1
  have h := rg_wr (M := M) (a := r) (n := 2) (k := 0) (f := hC r V) (g := hC r (sS V 0 x)) (by decide) rfl (fun j hj hne => match j, hj, hne with
    | 0, _, h => by first | rfl | exact absurd rfl h
    | 1, _, h => by first | rfl | exact absurd rfl h
    | n + 2, h, _ => absurd h (by omega))
  exact h
theorem hwS1 (M : z_M) (r : Nat) (V : z_V) (y0 : Int32) (x : Int32) (h0 : V.1 0 = y0) : z_up (hS M r V) r (z_O 3 [.ref (r + 1), .int y0, .int x]) = hS M r (sS V 1 x) := by
  subst h0
  have h := rg_wr (M := M) (a := r) (n := 2) (k := 0) (f := hC r V) (g := hC r (sS V 1 x)) (by decide) rfl (fun j hj hne => match j, hj, hne with
    | 0, _, h => by first | rfl | exact absurd rfl h
    | 1, _, h => by first | rfl | exact absurd rfl h
    | n + 2, h, _ => absurd h (by omega))
  exact h
def hwr := And.intro @hwS0 (@hwS1)
def oC (o : Nat) (V : z_V) (w : Int64) (k : Nat) : z_E := match k with
  | 0 => z_O 11 [.ref (o + 1), .ref (o + 2), .int (V.1 0), .ref (o + 3), .int (V.1 1), .ref (o + 4), .ref (o + 5), .ref (o + 6), .ref (o + 7), .ref (o + 8), .int (V.1 2), .int (V.1 3), .int (V.1 4), .long w]
  | 1 => z_I 6797 (V.2.2.1 0)
  | 2 => z_F 2072 (V.2.2.2 0)
  | 3 => z_F 3 (V.2.2.2 1)
  | 4 => z_I 20 (V.2.2.1 1)
  | 5 => z_F 20 (V.2.2.2 2)
  | 6 => z_I 576 (V.2.2.1 2)
  | 7 => z_F 256 (V.2.2.2 3)
  | 8 => z_I 100 (V.2.2.1 3)
  | _ => z_I 0 (fun _ => 0)
def oS (M : z_M) (o : Nat) (V : z_V) (w : Int64) : z_M := rg M o 9 (oC o V w)
theorem oS_1 (M : z_M) (o : Nat) (V : z_V) (w : Int64) : (oS M o V w).1 = M.1 := rfl
theorem oS_out {M : z_M} {o y : Nat} {V : z_V} {w : Int64} (h : y < o ∨ o + 9 ≤ y) : (oS M o V w).2 y = M.2 y := rg_out h
theorem oS_wr_out {M : z_M} {o y : Nat} {V : z_V} {w : Int64} {e : z_E} (h : y < o ∨ o + 9 ≤ y) : z_up (oS M o V w) y e = oS (z_up M y e) o V w := rg_wr_out h
theorem ord0 (M : z_M) (o : Nat) (V : z_V) (w : Int64) : (oS M o V w).2 o = some (z_O 11 [.ref (o + 1), .ref (o + 2), .int (V.1 0), .ref (o + 3), .int (V.1 1), .ref (o + 4), .ref (o + 5), .ref (o + 6), .ref (o + 7), .ref (o + 8), .int (V.1 2), .int (V.1 3), .int (V.1 4), .long w]) := rg_rd (k := 0) (by decide)
theorem ord1 (M : z_M) (o : Nat) (V : z_V) (w : Int64) : (oS M o V w).2 (o + 1) = some (z_I 6797 (V.2.2.1 0)) := rg_rd (by decide)
theorem ord2 (M : z_M) (o : Nat) (V : z_V) (w : Int64) : (oS M o V w).2 (o + 2) = some (z_F 2072 (V.2.2.2 0)) := rg_rd (by decide)
theorem ord3 (M : z_M) (o : Nat) (V : z_V) (w : Int64) : (oS M o V w).2 (o + 3) = some (z_F 3 (V.2.2.2 1)) := rg_rd (by decide)
theorem ord4 (M : z_M) (o : Nat) (V : z_V) (w : Int64) : (oS M o V w).2 (o + 4) = some (z_I 20 (V.2.2.1 1)) := rg_rd (by decide)
theorem ord5 (M : z_M) (o : Nat) (V : z_V) (w : Int64) : (oS M o V w).2 (o + 5) = some (z_F 20 (V.2.2.2 2)) := rg_rd (by decide)
theorem ord6 (M : z_M) (o : Nat) (V : z_V) (w : Int64) : (oS M o V w).2 (o + 6) = some (z_I 576 (V.2.2.1 2)) := rg_rd (by decide)
theorem ord7 (M : z_M) (o : Nat) (V : z_V) (w : Int64) : (oS M o V w).2 (o + 7) = some (z_F 256 (V.2.2.2 3)) := rg_rd (by decide)
theorem ord8 (M : z_M) (o : Nat) (V : z_V) (w : Int64) : (oS M o V w).2 (o + 8) = some (z_I 100 (V.2.2.1 3)) := rg_rd (by decide)
def ord := And.intro ord0 (And.intro ord1 (And.intro ord2 (And.intro ord3 (And.intro ord4 (And.intro ord5 (And.intro ord6 (And.intro ord7 (ord8))))))))
theorem owS0 (M : z_M) (o : Nat) (V : z_V) (w : Int64) (x : Int32) (y1 : Int32) (y2 : Int32) (y3 : Int32) (y4 : Int32) (h1 : V.1 1 = y1) (h2 : V.1 2 = y2) (h3 : V.1 3 = y3) (h4 : V.1 4 = y4) : z_up (oS M o V w) o (z_O 11 [.ref (o + 1), .ref (o + 2), .int x, .ref (o + 3), .int y1, .ref (o + 4), .ref (o + 5), .ref (o + 6), .ref (o + 7), .ref (o + 8), .int y2, .int y3, .int y4, .long w]) = oS M o (sS V 0 x) w := by
  subst h1
  subst h2
  subst h3
  subst h4
  have h := rg_wr (M := M) (a := o) (n := 9) (k := 0) (f := oC o V w) (g := oC o (sS V 0 x) w) (by decide) rfl (fun j hj hne => match j, hj, hne with
    | 0, _, h => by first | rfl | exact absurd rfl h
    | 1, _, h => by first | rfl | exact absurd rfl h
    | 2, _, h => by first | rfl | exact absurd rfl h
    | 3, _, h => by first | rfl | exact absurd rfl h
    | 4, _, h => by first | rfl | exact absurd rfl h
    | 5, _, h => by first | rfl | exact absurd rfl h
    | 6, _, h => by first | rfl | exact absurd rfl h
    | 7, _, h => by first | rfl | exact absurd rfl h
    | 8, _, h => by first | rfl | exact absurd rfl h
    | n + 9, h, _ => absurd h (by omega))
  exact h
theorem owS1 (M : z_M) (o : Nat) (V : z_V) (w : Int64) (y0 : Int32) (x : Int32) (y2 : Int32) (y3 : Int32) (y4 : Int32) (h0 : V.1 0 = y0) (h2 : V.1 2 = y2) (h3 : V.1 3 = y3) (h4 : V.1 4 = y4) : z_up (oS M o V w) o (z_O 11 [.ref (o + 1), .ref (o + 2), .int y0, .ref (o + 3), .int x, .ref (o + 4), .ref (o + 5), .ref (o + 6), .ref (o + 7), .ref (o + 8), .int y2, .int y3, .int y4, .long w]) = oS M o (sS V 1 x) w := by
  subst h0
  subst h2
  subst h3
  subst h4
  have h := rg_wr (M := M) (a := o) (n := 9) (k := 0) (f := oC o V w) (g := oC o (sS V 1 x) w) (by decide) rfl (fun j hj hne => match j, hj, hne with
    | 0, _, h => by first | rfl | exact absurd rfl h
    | 1, _, h => by first | rfl | exact absurd rfl h
    | 2, _, h => by first | rfl | exact absurd rfl h
    | 3, _, h => by first | rfl | exact absurd rfl h
    | 4, _, h => by first | rfl | exact absurd rfl h
    | 5, _, h => by first | rfl | exact absurd rfl h
    | 6, _, h => by first | rfl | exact absurd rfl h
    | 7, _, h => by first | rfl | exact absurd rfl h
    | 8, _, h => by first | rfl | exact absurd rfl h
    | n + 9, h, _ => absurd h (by omega))
  exact h
theorem owS2 (M : z_M) (o : Nat) (V : z_V) (w : Int64) (y0 : Int32) (y1 : Int32) (x : Int32) (y3 : Int32) (y4 : Int32) (h0 : V.1 0 = y0) (h1 : V.1 1 = y1) (h3 : V.1 3 = y3) (h4 : V.1 4 = y4) : z_up (oS M o V w) o (z_O 11 [.ref (o + 1), .ref (o + 2), .int y0, .ref (o + 3), .int y1, .ref (o + 4), .ref (o + 5), .ref (o + 6), .ref (o + 7), .ref (o + 8), .int x, .int y3, .int y4, .long w]) = oS M o (sS V 2 x) w := by
  subst h0
  subst h1
  subst h3
  subst h4
  have h := rg_wr (M := M) (a := o) (n := 9) (k := 0) (f := oC o V w) (g := oC o (sS V 2 x) w) (by decide) rfl (fun j hj hne => match j, hj, hne with
    | 0, _, h => by first | rfl | exact absurd rfl h
    | 1, _, h => by first | rfl | exact absurd rfl h
    | 2, _, h => by first | rfl | exact absurd rfl h
    | 3, _, h => by first | rfl | exact absurd rfl h
    | 4, _, h => by first | rfl | exact absurd rfl h
    | 5, _, h => by first | rfl | exact absurd rfl h
    | 6, _, h => by first | rfl | exact absurd rfl h
    | 7, _, h => by first | rfl | exact absurd rfl h
    | 8, _, h => by first | rfl | exact absurd rfl h
    | n + 9, h, _ => absurd h (by omega))
  exact h
theorem owS3 (M : z_M) (o : Nat) (V : z_V) (w : Int64) (y0 : Int32) (y1 : Int32) (y2 : Int32) (x : Int32) (y4 : Int32) (h0 : V.1 0 = y0) (h1 : V.1 1 = y1) (h2 : V.1 2 = y2) (h4 : V.1 4 = y4) : z_up (oS M o V w) o (z_O 11 [.ref (o + 1), .ref (o + 2), .int y0, .ref (o + 3), .int y1, .ref (o + 4), .ref (o + 5), .ref (o + 6), .ref (o + 7), .ref (o + 8), .int y2, .int x, .int y4, .long w]) = oS M o (sS V 3 x) w := by
  subst h0
  subst h1
  subst h2
  subst h4
  have h := rg_wr (M := M) (a := o) (n := 9) (k := 0) (f := oC o V w) (g := oC o (sS V 3 x) w) (by decide) rfl (fun j hj hne => match j, hj, hne with
    | 0, _, h => by first | rfl | exact absurd rfl h
    | 1, _, h => by first | rfl | exact absurd rfl h
    | 2, _, h => by first | rfl | exact absurd rfl h
    | 3, _, h => by first | rfl | exact absurd rfl h
    | 4, _, h => by first | rfl | exact absurd rfl h
    | 5, _, h => by first | rfl | exact absurd rfl h
    | 6, _, h => by first | rfl | exact absurd rfl h
    | 7, _, h => by first | rfl | exact absurd rfl h
    | 8, _, h => by first | rfl | exact absurd rfl h
    | n + 9, h, _ => absurd h (by omega))
  exact h
theorem owS4 (M : z_M) (o : Nat) (V : z_V) (w : Int64) (y0 : Int32) (y1 : Int32) (y2 : Int32) (y3 : Int32) (x : Int32) (h0 : V.1 0 = y0) (h1 : V.1 1 = y1) (h2 : V.1 2 = y2) (h3 : V.1 3 = y3) : z_up (oS M o V w) o (z_O 11 [.ref (o + 1), .ref (o + 2), .int y0, .ref (o + 3), .int y1, .ref (o + 4), .ref (o + 5), .ref (o + 6), .ref (o + 7), .ref (o + 8), .int y2, .int y3, .int x, .long w]) = oS M o (sS V 4 x) w := by
  subst h0
  subst h1
  subst h2
  subst h3
  have h := rg_wr (M := M) (a := o) (n := 9) (k := 0) (f := oC o V w) (g := oC o (sS V 4 x) w) (by decide) rfl (fun j hj hne => match j, hj, hne with
    | 0, _, h => by first | rfl | exact absurd rfl h
    | 1, _, h => by first | rfl | exact absurd rfl h
    | 2, _, h => by first | rfl | exact absurd rfl h
    | 3, _, h => by first | rfl | exact absurd rfl h
    | 4, _, h => by first | rfl | exact absurd rfl h
    | 5, _, h => by first | rfl | exact absurd rfl h
    | 6, _, h => by first | rfl | exact absurd rfl h
    | 7, _, h => by first | rfl | exact absurd rfl h
    | 8, _, h => by first | rfl | exact absurd rfl h
    | n + 9, h, _ => absurd h (by omega))
  exact h
theorem owSW (M : z_M) (o : Nat) (V : z_V) (w : Int64) (y0 : Int32) (y1 : Int32) (y2 : Int32) (y3 : Int32) (y4 : Int32) (x : Int64) (h0 : V.1 0 = y0) (h1 : V.1 1 = y1) (h2 : V.1 2 = y2) (h3 : V.1 3 = y3) (h4 : V.1 4 = y4) : z_up (oS M o V w) o (z_O 11 [.ref (o + 1), .ref (o + 2), .int y0, .ref (o + 3), .int y1, .ref (o + 4), .ref (o + 5), .ref (o + 6), .ref (o + 7), .ref (o + 8), .int y2, .int y3, .int y4, .long x]) = oS M o (V) x := by
  subst h0
  subst h1
  subst h2
  subst h3
  subst h4
  have h := rg_wr (M := M) (a := o) (n := 9) (k := 0) (f := oC o V w) (g := oC o (V) x) (by decide) rfl (fun j hj hne => match j, hj, hne with
    | 0, _, h => by first | rfl | exact absurd rfl h
    | 1, _, h => by first | rfl | exact absurd rfl h
    | 2, _, h => by first | rfl | exact absurd rfl h
    | 3, _, h => by first | rfl | exact absurd rfl h
    | 4, _, h => by first | rfl | exact absurd rfl h
    | 5, _, h => by first | rfl | exact absurd rfl h
    | 6, _, h => by first | rfl | exact absurd rfl h
    | 7, _, h => by first | rfl | exact absurd rfl h
    | 8, _, h => by first | rfl | exact absurd rfl h
    | n + 9, h, _ => absurd h (by omega))
  exact h
theorem owA0 (M : z_M) (o : Nat) (V : z_V) (w : Int64) (g : Nat → Int32)  : z_up (oS M o V w) (o + 1) (z_I 6797 g) = oS M o (sA V 0 g) w := by
  skip
  have h := rg_wr (M := M) (a := o) (n := 9) (k := 1) (f := oC o V w) (g := oC o (sA V 0 g) w) (by decide) rfl (fun j hj hne => match j, hj, hne with
    | 0, _, h => by first | rfl | exact absurd rfl h
    | 1, _, h => by first | rfl | exact absurd rfl h
    | 2, _, h => by first | rfl | exact absurd rfl h
    | 3, _, h => by first | rfl | exact absurd rfl h
    | 4, _, h => by first | rfl | exact absurd rfl h
    | 5, _, h => by first | rfl | exact absurd rfl h
    | 6, _, h => by first | rfl | exact absurd rfl h
    | 7, _, h => by first | rfl | exact absurd rfl h
    | 8, _, h => by first | rfl | exact absurd rfl h
    | n + 9, h, _ => absurd h (by omega))
  exact h
theorem owF0 (M : z_M) (o : Nat) (V : z_V) (w : Int64) (g : Nat → UInt32)  : z_up (oS M o V w) (o + 2) (z_F 2072 g) = oS M o (sF V 0 g) w := by
  skip
  have h := rg_wr (M := M) (a := o) (n := 9) (k := 2) (f := oC o V w) (g := oC o (sF V 0 g) w) (by decide) rfl (fun j hj hne => match j, hj, hne with
    | 0, _, h => by first | rfl | exact absurd rfl h
    | 1, _, h => by first | rfl | exact absurd rfl h
    | 2, _, h => by first | rfl | exact absurd rfl h
    | 3, _, h => by first | rfl | exact absurd rfl h
    | 4, _, h => by first | rfl | exact absurd rfl h
    | 5, _, h => by first | rfl | exact absurd rfl h
    | 6, _, h => by first | rfl | exact absurd rfl h
    | 7, _, h => by first | rfl | exact absurd rfl h
    | 8, _, h => by first | rfl | exact absurd rfl h
    | n + 9, h, _ => absurd h (by omega))
  exact h
theorem owF1 (M : z_M) (o : Nat) (V : z_V) (w : Int64) (g : Nat → UInt32)  : z_up (oS M o V w) (o + 3) (z_F 3 g) = oS M o (sF V 1 g) w := by
  skip
  have h := rg_wr (M := M) (a := o) (n := 9) (k := 3) (f := oC o V w) (g := oC o (sF V 1 g) w) (by decide) rfl (fun j hj hne => match j, hj, hne with
    | 0, _, h => by first | rfl | exact absurd rfl h
    | 1, _, h => by first | rfl | exact absurd rfl h
    | 2, _, h => by first | rfl | exact absurd rfl h
    | 3, _, h => by first | rfl | exact absurd rfl h
    | 4, _, h => by first | rfl | exact absurd rfl h
    | 5, _, h => by first | rfl | exact absurd rfl h
    | 6, _, h => by first | rfl | exact absurd rfl h
    | 7, _, h => by first | rfl | exact absurd rfl h
    | 8, _, h => by first | rfl | exact absurd rfl h
    | n + 9, h, _ => absurd h (by omega))
  exact h
theorem owA1 (M : z_M) (o : Nat) (V : z_V) (w : Int64) (g : Nat → Int32)  : z_up (oS M o V w) (o + 4) (z_I 20 g) = oS M o (sA V 1 g) w := by
  skip
  have h := rg_wr (M := M) (a := o) (n := 9) (k := 4) (f := oC o V w) (g := oC o (sA V 1 g) w) (by decide) rfl (fun j hj hne => match j, hj, hne with
    | 0, _, h => by first | rfl | exact absurd rfl h
    | 1, _, h => by first | rfl | exact absurd rfl h
    | 2, _, h => by first | rfl | exact absurd rfl h
    | 3, _, h => by first | rfl | exact absurd rfl h
    | 4, _, h => by first | rfl | exact absurd rfl h
    | 5, _, h => by first | rfl | exact absurd rfl h
    | 6, _, h => by first | rfl | exact absurd rfl h
    | 7, _, h => by first | rfl | exact absurd rfl h
    | 8, _, h => by first | rfl | exact absurd rfl h
    | n + 9, h, _ => absurd h (by omega))
  exact h
theorem owF2 (M : z_M) (o : Nat) (V : z_V) (w : Int64) (g : Nat → UInt32)  : z_up (oS M o V w) (o + 5) (z_F 20 g) = oS M o (sF V 2 g) w := by
  skip
  have h := rg_wr (M := M) (a := o) (n := 9) (k := 5) (f := oC o V w) (g := oC o (sF V 2 g) w) (by decide) rfl (fun j hj hne => match j, hj, hne with
    | 0, _, h => by first | rfl | exact absurd rfl h
    | 1, _, h => by first | rfl | exact absurd rfl h
    | 2, _, h => by first | rfl | exact absurd rfl h
    | 3, _, h => by first | rfl | exact absurd rfl h
    | 4, _, h => by first | rfl | exact absurd rfl h
    | 5, _, h => by first | rfl | exact absurd rfl h
    | 6, _, h => by first | rfl | exact absurd rfl h
    | 7, _, h => by first | rfl | exact absurd rfl h
    | 8, _, h => by first | rfl | exact absurd rfl h
    | n + 9, h, _ => absurd h (by omega))
  exact h
theorem owA2 (M : z_M) (o : Nat) (V : z_V) (w : Int64) (g : Nat → Int32)  : z_up (oS M o V w) (o + 6) (z_I 576 g) = oS M o (sA V 2 g) w := by
  skip
  have h := rg_wr (M := M) (a := o) (n := 9) (k := 6) (f := oC o V w) (g := oC o (sA V 2 g) w) (by decide) rfl (fun j hj hne => match j, hj, hne with
    | 0, _, h => by first | rfl | exact absurd rfl h
    | 1, _, h => by first | rfl | exact absurd rfl h
    | 2, _, h => by first | rfl | exact absurd rfl h
    | 3, _, h => by first | rfl | exact absurd rfl h
    | 4, _, h => by first | rfl | exact absurd rfl h
    | 5, _, h => by first | rfl | exact absurd rfl h
    | 6, _, h => by first | rfl | exact absurd rfl h
    | 7, _, h => by first | rfl | exact absurd rfl h
    | 8, _, h => by first | rfl | exact absurd rfl h
    | n + 9, h, _ => absurd h (by omega))
  exact h
theorem owF3 (M : z_M) (o : Nat) (V : z_V) (w : Int64) (g : Nat → UInt32)  : z_up (oS M o V w) (o + 7) (z_F 256 g) = oS M o (sF V 3 g) w := by
  skip
  have h := rg_wr (M := M) (a := o) (n := 9) (k := 7) (f := oC o V w) (g := oC o (sF V 3 g) w) (by decide) rfl (fun j hj hne => match j, hj, hne with
    | 0, _, h => by first | rfl | exact absurd rfl h
    | 1, _, h => by first | rfl | exact absurd rfl h
    | 2, _, h => by first | rfl | exact absurd rfl h
    | 3, _, h => by first | rfl | exact absurd rfl h
    | 4, _, h => by first | rfl | exact absurd rfl h
    | 5, _, h => by first | rfl | exact absurd rfl h
    | 6, _, h => by first | rfl | exact absurd rfl h
    | 7, _, h => by first | rfl | exact absurd rfl h
    | 8, _, h => by first | rfl | exact absurd rfl h
    | n + 9, h, _ => absurd h (by omega))
  exact h
theorem owA3 (M : z_M) (o : Nat) (V : z_V) (w : Int64) (g : Nat → Int32)  : z_up (oS M o V w) (o + 8) (z_I 100 g) = oS M o (sA V 3 g) w := by
  skip
  have h := rg_wr (M := M) (a := o) (n := 9) (k := 8) (f := oC o V w) (g := oC o (sA V 3 g) w) (by decide) rfl (fun j hj hne => match j, hj, hne with
    | 0, _, h => by first | rfl | exact absurd rfl h
    | 1, _, h => by first | rfl | exact absurd rfl h
    | 2, _, h => by first | rfl | exact absurd rfl h
    | 3, _, h => by first | rfl | exact absurd rfl h
    | 4, _, h => by first | rfl | exact absurd rfl h
    | 5, _, h => by first | rfl | exact absurd rfl h
    | 6, _, h => by first | rfl | exact absurd rfl h
    | 7, _, h => by first | rfl | exact absurd rfl h
    | 8, _, h => by first | rfl | exact absurd rfl h
    | n + 9, h, _ => absurd h (by omega))
  exact h
def owr := And.intro @owS0 (And.intro @owS1 (And.intro @owS2 (And.intro @owS3 (And.intro @owS4 (And.intro @owSW (And.intro owA0 (And.intro owF0 (And.intro owF1 (And.intro owA1 (And.intro owF2 (And.intro owA2 (And.intro owF3 (owA3)))))))))))))
