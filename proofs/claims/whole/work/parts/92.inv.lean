/-! class and model side by side: what holds between two orders of the law -/
def iE (c J S Hy B k m L : Nat) (Ss : Nat → z_V) (V H T : z_V) (Hs : Nat → z_V) (Y : z_V) : Prop :=
  Rl c J S Hy B V Y ∧ hdOk V ∧ okH H k m ∧ okSv Y m Ss ∧ rX L T Y ∧ Y.1 14 = nI 0 ∧ okb Y ∧ ∀ t, t < m → (∃ J S Hy B, Rl c J S Hy B (Hs ((k + 5 - t) % 6)) (Ss (m - t))) ∧ hdOk (Hs ((k + 5 - t) % 6))
def inv (c : Nat) (V H T : z_V) (Hs : Nat → z_V) (Y : z_V) : Prop := ∃ J S Hy B k m L Ss, iE c J S Hy B k m L Ss V H T Hs Y
theorem upH_ne {Hs : Nat → z_V} {k j : Nat} {W : z_V} (h : j ≠ k) : upH Hs k W j = Hs j := if_neg h
theorem upH_eq {Hs : Nat → z_V} {k : Nat} {W : z_V} : upH Hs k W k = W := if_pos rfl
theorem hol_kZ {Y Z W : z_V} {k : Nat} (h : kZ Y Z) (hk : 0 < k) (hh : hol Y k W) : hol Z k W := by
  refine ⟨fun i hi => ?_, fun i hi => ?_⟩
  · rw [enc_rest (by omega), h.2.2.2.1, ← enc_rest (by omega)]; exact hh.1 i hi
  · rw [encF_rest (by omega), h.2.2.2.2.2.1, ← encF_rest (by omega)]; exact hh.2 i hi
theorem okSv_kZ {Y Z : z_V} {s : Nat} {Ss : Nat → z_V} (h : kZ Y Z) (hs : okSv Y s Ss) : okSv Z s Ss :=
  ⟨hs.1, by rw [h.1]; exact hs.2.1, fun k a b => hol_kZ h (by omega) (hs.2.2 k a b)⟩
theorem rX_kZ {Y Z T : z_V} {L : Nat} (h : kZ Y Z) (hx : rX L T Y) : rX L T Z :=
  ⟨hx.1, hx.2.1, by rw [h.2.2.1]; exact hx.2.2.1, by rw [h.2.2.2.2.1]; exact hx.2.2.2.1, hx.2.2.2.2⟩
theorem kV_z {Y Z : z_V} (h : kV Y Z) : Z.1 14 = Y.1 14 ∧ Z.1 15 = Y.1 15 ∧ Z.2.2.1 28 = Y.2.2.1 28 ∧ Z.2.2.2 4 = Y.2.2.2 4 :=
  ⟨h.1 14 (by omega), h.1 15 (by omega), h.2.1 28 (by omega), h.2.2 4 (by omega)⟩
section
variable {c J S Hy B k m L : Nat} {Ss : Nat → z_V} {V H T : z_V} {Hs : Nat → z_V} {Y : z_V}
theorem iE_G (h : iE c J S Hy B k m L Ss V H T Hs Y) : okG V H T J S Hy B k m L := ⟨h.1.1, h.1.2.1, h.2.2.1, h.2.2.2.2.1.1, h.2.2.2.2.1.2.1⟩
theorem iE_X (h : iE c J S Hy B k m L Ss V H T Hs Y) : okX Y := ⟨m, h.2.2.2.1.1, h.2.2.2.1.2.1⟩
theorem inv_no (h : iE c J S Hy B k m L Ss V H T Hs Y) {d J' S' Hy' B' : Nat} {V' : z_V} (hR : Rl d J' S' Hy' B' V' Y) (hd : hdOk V') (hcd : c ≤ d) : inv d V' H T (upH Hs k V) Y := by
  obtain ⟨h1, h2, h3, h4, h5, h6, h7, h8⟩ := h
  refine ⟨J', S', Hy', B', k, m, L, Ss, hR, hd, h3, h4, h5, h6, h7, fun t ht => ?_⟩
  have hk := h3.1
  have hm := h3.2.1
  rw [upH_ne (by omega)]
  obtain ⟨⟨a, b, e, f, g⟩, g2⟩ := h8 t ht
  exact ⟨⟨a, b, e, f, Rl_le hcd g⟩, g2⟩
theorem inv_do (h : iE c J S Hy B k m L Ss V H T Hs Y) {d J' S' Hy' B' : Nat} {V' Z : z_V} (hR : Rl d J' S' Hy' B' V' Z) (hd : hdOk V') (hcd : c ≤ d) (hz : kZ (svY Y) Z) {a : Int32} (ha : ¬ a < nI 0) : inv d V' (setR H a) T (upH Hs k V) Z := by
  obtain ⟨h1, h2, h3, h4, h5, h6, h7, h8⟩ := h
  obtain ⟨v14, v15, v28, v4⟩ := kV_z (sv_kV (Y := Y))
  have hk := h3.1
  have hm := h3.2.1
  have hH : okH (setR H a) ((k + 1) % 6) (if m = 5 then 5 else m + 1) := by
    unfold setR
    rw [if_neg ha, nV_of h3.2.2.1 (by omega), nV_of h3.2.2.2 (by omega)]
    refine ⟨by omega, by split <;> omega, rfl, ?_⟩
    show nI (if 5 ≤ m then 5 else m + 1) = _
    by_cases c5 : m = 5
    · rw [if_pos c5, if_pos (by omega)]
    · rw [if_neg c5, if_neg (by omega)]
  refine ⟨J', S', Hy', B', (k + 1) % 6, (if m = 5 then 5 else m + 1), L, svS Y m Ss, hR, hd, hH, okSv_kZ hz (sv_ok h4 h6), ?_, ?_, ?_, fun t ht => ?_⟩
  · exact ⟨h5.1, h5.2.1, by rw [hz.2.2.1, v15]; exact h5.2.2.1, by rw [hz.2.2.2.2.1, v28]; exact h5.2.2.2.1, h5.2.2.2.2⟩
  · rw [hz.2.1, v14]; exact h6
  · exact kZ_b hz (kV_b sv_kV h7)
  · by_cases ht0 : t = 0
    · subst ht0
      rw [show ((k + 1) % 6 + 5 - 0) % 6 = k by omega, upH_eq]
      refine ⟨⟨J, S, Hy, B, ?_⟩, h2⟩
      have e : svS Y m Ss ((if m = 5 then 5 else m + 1) - 0) = Y := by
        unfold svS
        by_cases c5 : m = 5
        · rw [if_pos c5, if_pos c5]; rfl
        · rw [if_neg c5, if_neg c5]; exact if_pos rfl
      rw [e]
      exact Rl_le hcd h1
    · have htm : t - 1 < m := by
        by_cases c5 : m = 5
        · rw [if_pos c5] at ht; omega
        · rw [if_neg c5] at ht; omega
      rw [show ((k + 1) % 6 + 5 - t) % 6 = (k + 5 - (t - 1)) % 6 by omega, upH_ne (by omega)]
      obtain ⟨⟨a, b, e, f, g⟩, g2⟩ := h8 (t - 1) htm
      refine ⟨⟨a, b, e, f, ?_⟩, g2⟩
      have e2 : svS Y m Ss ((if m = 5 then 5 else m + 1) - t) = Ss (m - (t - 1)) := by
        unfold svS
        by_cases c5 : m = 5
        · rw [if_pos c5, if_pos c5]
          show (if 5 - t = 5 then Y else Ss (5 - t + 1)) = _
          rw [if_neg (by omega)]
          congr 1
          omega
        · rw [if_neg c5, if_neg c5]
          show (if m + 1 - t = m + 1 then Y else Ss (m + 1 - t)) = _
          rw [if_neg (by omega)]
          congr 1
          omega
      rw [e2]
      exact Rl_le hcd g
theorem inv_at (h : iE c J S Hy B k m L Ss V H T Hs Y) {d L' : Nat} {T' Z : z_V} (hcd : c ≤ d) (hR : Rl c J S Hy B V Z) (hs : okSv Z m Ss) (hx : rX L' T' Z) (h14 : Z.1 14 = Y.1 14) (h4 : Z.2.2.2 4 = Y.2.2.2 4) : inv d V H T' Hs Z := by
  obtain ⟨h1, h2, h3, h4', h5, h6, h7, h8⟩ := h
  refine ⟨J, S, Hy, B, k, m, L', Ss, Rl_le hcd hR, h2, h3, hs, hx, h14.trans h6, ?_, fun t ht => ?_⟩
  · unfold okb at *; rw [h4]; exact h7
  · obtain ⟨⟨a, b, e, f, g⟩, g2⟩ := h8 t ht
    exact ⟨⟨a, b, e, f, Rl_le hcd g⟩, g2⟩
theorem iE_at (h : iE c J S Hy B k m L Ss V H T Hs Y) {L' : Nat} {T' Z : z_V} (hR : Rl c J S Hy B V Z) (hs : okSv Z m Ss) (hx : rX L' T' Z) (h14 : Z.1 14 = Y.1 14) (h4 : Z.2.2.2 4 = Y.2.2.2 4) : iE c J S Hy B k m L' Ss V H T' Hs Z := by
  obtain ⟨h1, h2, h3, h4', h5, h6, h7, h8⟩ := h
  refine ⟨hR, h2, h3, hs, hx, h14.trans h6, ?_, h8⟩
  unfold okb at *; rw [h4]; exact h7
end
theorem gM_yS (M : z_M) (n : Nat) (V Vt U H T : z_V) (Hs : Nat → z_V) (Y : z_V) (w : Int64) : gM (yS M (n + 272) Y w) n V Vt U H T Hs = yS (gM M n V Vt U H T Hs) (n + 272) Y w := by
  unfold gM cS xS hS slS tS yS oS
  rw [rg_wr_out (by omega), rg_comm (a := n + 272) (n := 9) (b := n + 267) (m := 5) (by omega), rg_comm (a := n + 272) (n := 9) (b := n + 75) (m := 192) (by omega), rg_comm (a := n + 272) (n := 9) (b := n + 73) (m := 2) (by omega), rg_comm (a := n + 272) (n := 9) (b := n + 33) (m := 32) (by omega), rg_comm (a := n + 272) (n := 9) (b := n + 65) (m := 8) (by omega), rg_comm (a := n + 272) (n := 9) (b := n + 1) (m := 32) (by omega)]
theorem gM_out (M : z_M) (n : Nat) (V Vt U H T : z_V) (Hs : Nat → z_V) {a : Nat} (h : a < n ∨ n + 272 ≤ a) : (gM M n V Vt U H T Hs).2 a = M.2 a := by
  unfold gM cS xS hS slS tS
  rw [rg_out (by omega), rg_out (by omega), rg_out (by omega), rg_out (by omega), rg_out (by omega), rg_out (by omega)]
  show (if a = n then some (ob n) else M.2 a) = M.2 a
  rw [if_neg (by omega)]
theorem gM_tr {M : z_M} {n : Nat} {V Vt U H T V' Vt' U' H' T' : z_V} {Hs Hs' : Nat → z_V} {Y : z_V} {w : Int64} (h : gM (yS M (n + 272) Y w) n V Vt U H T Hs = gM (yS M (n + 272) Y w) n V' Vt' U' H' T' Hs') : gM M n V Vt U H T Hs = gM M n V' Vt' U' H' T' Hs' := by
  rw [gM_yS, gM_yS] at h
  refine Prod.ext ((gM_1 M n V Vt U H T Hs).trans (gM_1 M n V' Vt' U' H' T' Hs').symm) (funext fun a => ?_)
  by_cases c : n + 272 ≤ a ∧ a < n + 272 + 9
  · rw [gM_out _ _ _ _ _ _ _ _ (by omega), gM_out _ _ _ _ _ _ _ _ (by omega)]
  · have e := congrFun (congrArg Prod.snd h) a
    unfold yS at e
    rw [oS_out (by omega), oS_out (by omega)] at e
    exact e
/-- a call on both sides, in the law -/
def stp (mc mm : Nat) (As : List Value) : Prop := ∀ (M : z_M) (n c : Nat) (V Vt U H T Y : z_V) (Hs : Nat → z_V) (w : Int64), c < 2 ^ 27 → inv c V H T Hs Y → ∃ r V' Vt' U' H' T' Y' Hs', z_cl mc (.ref n :: As) (gM (yS M (n + 272) Y w) n V Vt U H T Hs) = some (some (.int r), gM (yS M (n + 272) Y w) n V' Vt' U' H' T' Hs') ∧ z_cl mm (.ref (n + 272) :: As) (yS (gM M n V' Vt' U' H' T' Hs') (n + 272) Y w) = some (some (.int r), yS (gM M n V' Vt' U' H' T' Hs') (n + 272) Y' w) ∧ inv (c + 101) V' H' T' Hs' Y'
theorem sord {mc mm : Nat} {As : List Value} {M : z_M} {n c d J S Hy B k m L : Nat} {Ss : Nat → z_V} {V Vt U U' H T : z_V} {Hs : Nat → z_V} {Y : z_V} {w : Int64} {R : Int32 × z_V} (h : iE c J S Hy B k m L Ss V H T Hs Y) (hc : z_cl mc (.ref n :: As) (gM (yS M (n + 272) Y w) n V Vt U H T Hs) = some (some (.int R.1), gM (yS M (n + 272) Y w) n R.2 Vt U' (setR H R.1) T (upH Hs k V))) (hs : sim (gM M n R.2 Vt U' (setR H R.1) T (upH Hs k V)) (n + 272) w mm As Y R d) (hcd : c ≤ d) (hd : d ≤ c + 101) (hh : hdOk R.2) : ∃ r V' Vt' U' H' T' Y' Hs', z_cl mc (.ref n :: As) (gM (yS M (n + 272) Y w) n V Vt U H T Hs) = some (some (.int r), gM (yS M (n + 272) Y w) n V' Vt' U' H' T' Hs') ∧ z_cl mm (.ref (n + 272) :: As) (yS (gM M n V' Vt' U' H' T' Hs') (n + 272) Y w) = some (some (.int r), yS (gM M n V' Vt' U' H' T' Hs') (n + 272) Y' w) ∧ inv (c + 101) V' H' T' Hs' Y' := by
  obtain ⟨Z, z1, ⟨J', S', Hy', B', z2⟩, z3, z4⟩ := hs
  refine ⟨R.1, R.2, Vt, U', setR H R.1, T, Z, upH Hs k V, hc, z1, ?_⟩
  by_cases hr : R.1 < nI 0
  · have e := z3 hr
    subst e
    rw [show setR H R.1 = H by unfold setR; rw [if_pos hr]]
    exact inv_no h (Rl_le hd z2) hh (by omega)
  · exact inv_do h (Rl_le hd z2) hh (by omega) (z4 hr).z hr
section
variable (x y z v : Int32) (u : Bool)
theorem t_0 : stp 73 108 [.int x, .int y, .int (bI u)] := by
  rintro M n c V Vt U H T Y Hs w hc ⟨J, S, Hy, B, k, m, L, Ss, h⟩
  exact sord (R := linkR V B x y u) h (g73 _ n V Vt U H T Hs J S Hy B k m L (iE_G h) x y u) (s108 _ _ w h.1 (iE_X h) x y u) (Nat.le_refl c) (by omega) (hd_link h.2.1 B x y u)
theorem t_1 : stp 75 114 [.int x, .int y] := by
  rintro M n c V Vt U H T Y Hs w hc ⟨J, S, Hy, B, k, m, L, Ss, h⟩
  exact sord (R := admR V J x y) h (g75 _ n V Vt U H T Hs J S Hy B k m L (iE_G h) x y) (s114 _ _ w h.1 (iE_X h) x y) (Nat.le_refl c) (by omega) (hd_adm h.2.1 J x y)
theorem t_2 : stp 76 119 [.int x] := by
  rintro M n c V Vt U H T Y Hs w hc ⟨J, S, Hy, B, k, m, L, Ss, h⟩
  exact sord (R := disR V (nV V 11) x) h (g76 _ n V Vt U H T Hs J S Hy B k m L (iE_G h) x) (s119 _ _ w h.1 (iE_X h) x) (Nat.le_refl c) (by omega) (hd_dis h.2.1 _ x)
theorem t_3 : stp 77 122 [.int x, .int y] := by
  rintro M n c V Vt U H T Y Hs w hc ⟨J, S, Hy, B, k, m, L, Ss, h⟩
  exact sord (R := trnR V J x y) h (g77 _ n V Vt U H T Hs J S Hy B k m L (iE_G h) x y) (s122 _ _ w h.1 (iE_X h) x y) (Nat.le_refl c) (by omega) (hd_trn h.2.1 J x y)
theorem t_4 : stp 78 123 [.int x, .int y] := by
  rintro M n c V Vt U H T Y Hs w hc ⟨J, S, Hy, B, k, m, L, Ss, h⟩
  exact sord (R := lvlR V x y) h (g78 _ n V Vt U H T Hs J S Hy B k m L (iE_G h) x y) (s123 _ _ w h.1 (iE_X h) x y) (Nat.le_refl c) (by omega) (hd_lvl h.2.1 x y)
theorem t_5 : stp 79 124 [.int x, .int (bI u)] := by
  rintro M n c V Vt U H T Y Hs w hc ⟨J, S, Hy, B, k, m, L, Ss, h⟩
  exact sord (R := mutR V x u) h (g79 _ n V Vt U H T Hs J S Hy B k m L (iE_G h) x u) (s124 _ _ w h.1 (iE_X h) x u) (Nat.le_refl c) (by omega) (hd_mut h.2.1 x u)
theorem t_6 : stp 80 125 [.int x, .int y, .int z, .int v] := by
  rintro M n c V Vt U H T Y Hs w hc ⟨J, S, Hy, B, k, m, L, Ss, h⟩
  exact sord (R := selR V x y z v) h (g80 _ n V Vt U H T Hs J S Hy B k m L (iE_G h) x y z v) (s125 _ _ w h.1 (iE_X h) x y z v) (Nat.le_refl c) (by omega) (hd_sel h.2.1 x y z v)
theorem t_7 : stp 81 126 [.int (bI u), .int x, .int y, .int z] := by
  rintro M n c V Vt U H T Y Hs w hc ⟨J, S, Hy, B, k, m, L, Ss, h⟩
  exact sord (R := flrR V u x y z) h (g81 _ n V Vt U H T Hs J S Hy B k m L (iE_G h) u x y z) (s126 _ _ w h.1 (iE_X h) u x y z) (Nat.le_refl c) (by omega) (hd_flr h.2.1 u x y z)
theorem t_8 : stp 82 127 [.int x, .int y] := by
  rintro M n c V Vt U H T Y Hs w hc ⟨J, S, Hy, B, k, m, L, Ss, h⟩
  exact sord (R := askR V x y) h (g82 _ n V Vt U H T Hs J S Hy B k m L (iE_G h) x y) (s127 _ _ w h.1 (by omega) (iE_X h) x y) (show c ≤ c + 1 by omega) (by omega) (hd_ask h.2.1 x y)
theorem t_9 : stp 83 129 [.int x] := by
  rintro M n c V Vt U H T Y Hs w hc ⟨J, S, Hy, B, k, m, L, Ss, h⟩
  exact sord (R := yieR V x) h (g83 _ n V Vt U H T Hs J S Hy B k m L (iE_G h) x) (s129 _ _ w h.1 (iE_X h) x) (Nat.le_refl c) (by omega) (hd_yie h.2.1 x)
theorem t_10 : stp 84 130 [.int x] := by
  rintro M n c V Vt U H T Y Hs w hc ⟨J, S, Hy, B, k, m, L, Ss, h⟩
  exact sord (R := ((tckR V U J S B x).1, (tckR V U J S B x).2.2)) h (g84 _ n V Vt U H T Hs J S Hy B k m L (iE_G h) x) (s130 _ _ w h.1 (iE_X h) h.2.2.2.2.2.2.1 (by omega) U x) (Nat.le_refl c) (by omega) (hd_tck h.1.1 h.2.1 x)
theorem t_11 : stp 85 153 [] := by
  rintro M n c V Vt U H T Y Hs w hc ⟨J, S, Hy, B, k, m, L, Ss, h⟩
  have h' := h
  obtain ⟨h1, h2, h3, h4, h5, h6, h7, h8⟩ := h'
  cases m with
  | zero =>
    exact ⟨_, V, Vt, U, H, T, Y, Hs, g85n _ n V Vt U H T Hs h3.2.2.2, m153n _ _ Y w h4.2.1, inv_at h (by omega) h1 h4 h5 rfl rfl⟩
  | succ m =>
    obtain ⟨⟨J', S', Hy', B', g⟩, g2⟩ := h8 0 (by omega)
    obtain ⟨f, hf⟩ := g.2.1
    obtain ⟨a1, a2⟩ := m153 (gM M n (Hs ((k + 5) % 6)) Vt U (sS (sS H 1 (nI ((k + 5) % 6))) 0 (nI m)) T Hs) (n + 272) Y w m Ss h4
    refine ⟨_, Hs ((k + 5) % 6), Vt, U, sS (sS H 1 (nI ((k + 5) % 6))) 0 (nI m), T, _, Hs, g85 _ n V Vt U H T Hs k m _ h3 rfl f hf, a1, ?_⟩
    have hk := h3.1
    have hm := h3.2.1
    refine ⟨J', S', Hy', B', (k + 5) % 6, m, L, Ss, Rl_le (by omega) (Rl_s (by omega) (Rl_re g)), g2, ⟨by omega, by omega, rfl, rfl⟩, a2, h5, h6, h7, fun t ht => ?_⟩
    obtain ⟨⟨a, b, e, f, g⟩, g2⟩ := h8 (t + 1) (by omega)
    rw [show ((k + 5) % 6 + 5 - t) % 6 = (k + 5 - (t + 1)) % 6 by omega, show m - t = m + 1 - (t + 1) by omega]
    exact ⟨⟨a, b, e, f, Rl_le (by omega) g⟩, g2⟩
theorem t_12 : stp 86 154 [.int x] := by
  rintro M n c V Vt U H T Y Hs w hc ⟨J, S, Hy, B, k, m, L, Ss, h⟩
  obtain ⟨L', a1, a2⟩ := s154 (gM M n V Vt U H (appR T L x).2 Hs) (n + 272) w h.2.2.2.2.1 x
  refine ⟨_, V, Vt, U, H, (appR T L x).2, _, Hs, g86 _ n V Vt U H T Hs L h.2.2.2.2.1.1 h.2.2.2.2.1.2.1 x, a1, ?_⟩
  by_cases hy : ¬ (nI 0 ≤ x ∧ x ≤ nI 255) ∨ 100 ≤ L
  · rw [if_pos hy] at a2 ⊢
    exact inv_at h (by omega) h.1 h.2.2.2.1 a2 rfl rfl
  · rw [if_neg hy] at a2 ⊢
    refine inv_at h (by omega) (Rl_Y (fun i hi => by simp only [sgets, show i ≠ 15 by omega, if_false]) (fun i hi => by simp only [sgets, show i ≠ 28 by omega, if_false]) (fun _ _ => rfl) h.1) ?_ a2 rfl rfl
    have h4 := h.2.2.2.1
    exact ⟨h4.1, h4.2.1, fun k a b => ⟨fun i hi => by rw [enc_rest (by omega)]; exact ((enc_rest (Y := Y) (by omega)).symm.trans ((h4.2.2 k a b).1 i hi)), fun i hi => by rw [encF_rest (by omega)]; exact ((encF_rest (Y := Y) (by omega)).symm.trans ((h4.2.2 k a b).2 i hi))⟩⟩
theorem hol_s' {Y Z : z_V} {k i : Nat} {x : Int32} (hi : 12 < i) (h : hol Y k Z) : hol (sS Y i x) k Z := by
  refine ⟨fun j hj => ?_, h.2⟩
  rw [show enc (sS Y i x) = enc Y from enc_kp (fun j hj => by simp only [sgets, show j ≠ i by omega, if_false]) (fun _ _ => rfl)]
  exact h.1 j hj
theorem okSv_s {Y : z_V} {s i : Nat} {x : Int32} {Ss : Nat → z_V} (hi : 13 < i) (hs : okSv Y s Ss) : okSv (sS Y i x) s Ss :=
  ⟨hs.1, by simp only [sgets, show 13 ≠ i by omega, if_false]; exact hs.2.1, fun k a b => hol_s' (by omega) (hs.2.2 k a b)⟩
theorem t_13 : stp 87 155 [] := by
  rintro M n c V Vt U H T Y Hs w hc ⟨J, S, Hy, B, k, m, L, Ss, h⟩
  obtain ⟨a1, a2⟩ := s155 (gM M n V Vt U H (sS T 0 (nI 0)) Hs) (n + 272) w h.2.2.2.2.1
  exact ⟨_, V, Vt, U, H, sS T 0 (nI 0), _, Hs, g87 _ n V Vt U H T Hs, a1, inv_at h (by omega) (Rl_s (by omega) h.1) (okSv_s (by omega) h.2.2.2.1) a2 rfl rfl⟩
theorem rX_scn {T Y : z_V} {L : Nat} (hx : rX L T Y) : rX L (scnR T L) Y := by
  obtain ⟨m, -, hb, hT, -⟩ := scnR_sp hx.1 hx.2.1
  refine ⟨hx.1, ?_, hx.2.2.1, ?_, ?_⟩
  · rw [hT]
  · rw [hb]; exact hx.2.2.2.1
  · rw [hb]; exact hx.2.2.2.2
theorem rX_1617 {T Y : z_V} {L : Nat} (hx : rX L T Y) (a b : Int32) : rX L T (sS (sS Y 16 a) 17 b) := hx
theorem t_14 : stp 88 156 [] := by
  rintro M n c V Vt U H T Y Hs w hc ⟨J, S, Hy, B, k, m, L, Ss, h⟩
  obtain ⟨a, b, e⟩ := s156 (gM M n V Vt U H (scnR T L) Hs) (n + 272) w h.2.2.2.2.1
  exact ⟨_, V, Vt, U, H, scnR T L, _, Hs, g88 _ n V Vt U H T Hs L h.2.2.2.2.1.1 h.2.2.2.2.1.2.1, e, inv_at h (by omega) (Rl_s (by omega) (Rl_s (by omega) h.1)) (okSv_s (by omega) (okSv_s (by omega) h.2.2.2.1)) (rX_1617 (rX_scn h.2.2.2.2.1) a b) rfl rfl⟩
theorem t_15 : stp 89 161 [] := by
  rintro M n c V Vt U H T Y Hs w hc ⟨J, S, Hy, B, k, m, L, Ss, h⟩
  have go := fun M' => run_all (yS M (n + 272) Y w) n V Vt U H T Hs M' (n + 272) w (iE_G h) h.1 h.2.1 h.2.2.2.2.1 (by omega) (iE_X h) h.2.2.2.2.2.2.1 h.2.2.2.2.2.1
  rcases go (gM M n V Vt U H (scnR T L) Hs) with ⟨a, b, e1, e2⟩ | ⟨r, V', U', Z, a, hr, e1, e2, ⟨J', S', Hy', B', e3⟩, e4, e5⟩
  · exact ⟨_, V, Vt, U, H, scnR T L, _, Hs, e1, e2, inv_at h (by omega) (Rl_s (by omega) (Rl_s (by omega) h.1)) (okSv_s (by omega) (okSv_s (by omega) h.2.2.2.1)) (rX_1617 (rX_scn h.2.2.2.2.1) a b) rfl rfl⟩
  · rcases go (gM M n V' Vt U' (setR H (nI r)) (scnR T L) (upH Hs k V)) with ⟨a', b', f1, f2⟩ | ⟨r', V'', U'', Z', a', hr', f1, f2, ⟨J'', S'', Hy'', B'', f3⟩, f4, f5⟩
    · rw [e1] at f1
      have := congrArg (fun o => o.map (·.1)) f1
      simp only [Option.map_some, Option.some.injEq, Value.int.injEq] at this
      have h2 : nI r < nI 0 := by rw [this]; decide
      exact absurd h2 (nI_nn (by omega))
    · have f1' := f1
      rw [e1] at f1'
      have he := congrArg (fun o => o.map (·.2)) f1'
      simp only [Option.map_some, Option.some.injEq] at he
      rw [gM_tr he] at f2
      refine ⟨_, V'', Vt, U'', setR H (nI r'), scnR T L, Z', upH Hs k V, f1, f2, ?_⟩
      have h1 : iE c J S Hy B k m L Ss V H (scnR T L) Hs (sS (sS Y 16 a') 17 (nI 1)) := iE_at h (Rl_s (by omega) (Rl_s (by omega) h.1)) (okSv_s (by omega) (okSv_s (by omega) h.2.2.2.1)) (rX_1617 (rX_scn h.2.2.2.2.1) a' (nI 1)) rfl rfl
      exact inv_do h1 f3 f5 (by omega) f4 (nI_nn (by omega))
/-- a question, on both sides -/
theorem squ {mc mm : Nat} {As : List Value} {M : z_M} {n c J S Hy B k m L : Nat} {Ss : Nat → z_V} {V Vt U H T : z_V} {Hs : Nat → z_V} {Y : z_V} {w : Int64} (h : iE c J S Hy B k m L Ss V H T Hs Y) (hq : qE (yS M (n + 272) Y w) n V Vt U H T Hs (gM M n V Vt U H T Hs) (n + 272) w mc mm As Y) : ∃ r V' Vt' U' H' T' Y' Hs', z_cl mc (.ref n :: As) (gM (yS M (n + 272) Y w) n V Vt U H T Hs) = some (some (.int r), gM (yS M (n + 272) Y w) n V' Vt' U' H' T' Hs') ∧ z_cl mm (.ref (n + 272) :: As) (yS (gM M n V' Vt' U' H' T' Hs') (n + 272) Y w) = some (some (.int r), yS (gM M n V' Vt' U' H' T' Hs') (n + 272) Y' w) ∧ inv (c + 101) V' H' T' Hs' Y' := by
  obtain ⟨r, e1, e2⟩ := hq
  exact ⟨r, V, Vt, U, H, T, Y, Hs, e1, e2, inv_at h (by omega) h.1 h.2.2.2.1 h.2.2.2.2.1 rfl rfl⟩
theorem t_16 : stp 91 162 [.int x] := by
  rintro M n c V Vt U H T Y Hs w hc ⟨J, S, Hy, B, k, m, L, Ss, h⟩
  exact squ h (q_count _ n V Vt U H T Hs _ _ w h.1 x)
theorem t_17 : stp 92 163 [.int x, .int y] := by
  rintro M n c V Vt U H T Y Hs w hc ⟨J, S, Hy, B, k, m, L, Ss, h⟩
  exact squ h (q_prop _ n V Vt U H T Hs _ _ w h.1 h.2.1 x y)
theorem t_18 : stp 93 166 [.int x] := by
  rintro M n c V Vt U H T Y Hs w hc ⟨J, S, Hy, B, k, m, L, Ss, h⟩
  exact squ h (q_loud _ n V Vt U H T Hs _ _ w h.1 x)
theorem t_19 : stp 95 167 [.int x] := by
  rintro M n c V Vt U H T Y Hs w hc ⟨J, S, Hy, B, k, m, L, Ss, h⟩
  exact squ h (q_mixb _ n V Vt U H T Hs _ _ w h.1 x)
theorem t_20 : stp 96 168 [.int x] := by
  rintro M n c V Vt U H T Y Hs w hc ⟨J, S, Hy, B, k, m, L, Ss, h⟩
  exact squ h (q_mix _ n V Vt U H T Hs _ _ w h.1 x)
theorem t_21 : stp 97 169 [.int x, .int y] := by
  rintro M n c V Vt U H T Y Hs w hc ⟨J, S, Hy, B, k, m, L, Ss, h⟩
  exact squ h (q_hears _ n V Vt U H T Hs _ _ w h.1 x y)
theorem t_22 : stp 98 170 [.int x, .int y, .int z, .int v] := by
  rintro M n c V Vt U H T Y Hs w hc ⟨J, S, Hy, B, k, m, L, Ss, h⟩
  exact squ h (q_strm _ n V Vt U H T Hs _ _ w h.1 x y z v)
theorem t_23 : stp 99 171 [.int x, .int y] := by
  rintro M n c V Vt U H T Y Hs w hc ⟨J, S, Hy, B, k, m, L, Ss, h⟩
  exact squ h (q_dist _ n V Vt U H T Hs _ _ w h.1 x y)
theorem t_24 : stp 100 172 [.int x] := by
  rintro M n c V Vt U H T Y Hs w hc ⟨J, S, Hy, B, k, m, L, Ss, h⟩
  exact squ h (q_wait _ n V Vt U H T Hs _ _ w h.1 (by omega) x)
theorem t_25 : stp 101 173 [.int x, .int y] := by
  rintro M n c V Vt U H T Y Hs w hc ⟨J, S, Hy, B, k, m, L, Ss, h⟩
  have go := fun M' => q_fore (yS M (n + 272) Y w) n V Vt U H T Hs M' (n + 272) w h.1 h.2.2.2.2.2.2.1 (by omega) x y
  obtain ⟨r, Vt', Z, e1, e2, e3, e4⟩ := go M
  obtain ⟨r', Vt'', Z', f1, f2, f3, f4⟩ := go (gM M n V Vt' U H T Hs)
  have f1' := f1
  rw [e1] at f1'
  have he := congrArg (fun o => o.map (·.2)) f1'
  simp only [Option.map_some, Option.some.injEq] at he
  rw [gM_tr he] at f2
  refine ⟨r', V, Vt'', U, H, T, Z', Hs, f1, f2, inv_at (L' := L) h (by omega) f3 (okSv_kX f4 h.2.2.2.1) ?_ (f4.1 14 (by omega)) f4.2.2.1⟩
  have hx := h.2.2.2.2.1
  exact ⟨hx.1, hx.2.1, by rw [f4.1 15 (by omega)]; exact hx.2.2.1, by rw [f4.2.1]; exact hx.2.2.2.1, hx.2.2.2.2⟩
theorem t_26 : stp 102 174 [.int x, .int y] := by
  rintro M n c V Vt U H T Y Hs w hc ⟨J, S, Hy, B, k, m, L, Ss, h⟩
  exact squ h (q_event _ n V Vt U H T Hs _ _ w h.1 x y)
end
