/-! the model's memory by fields: Y. Numbers 0..12 as the row's first, 13 saved, 14 silent, 15 length, 16 at, 17 fine; rows 0..3 of bridges, 4..16 of persons, 17..19 of events, 20 streams' numbers by link, 21 speakers, 22 ages, 23 the row's rest, 24 age, 25..27 sent, 28 text; floats 0 loudness, 1 mix, 2 streams, 3 the rest, 4 base, 5 loud, 6 sent -/
def enc (Y : z_V) (i : Nat) : Int32 :=
  if i < 13 then Y.1 i else if i < 45 then Y.2.2.1 ((i - 13) % 4) ((i - 13) / 4) else if i < 305 then Y.2.2.1 (4 + (i - 45) % 13) ((i - 45) / 13) else
  if i < 395 then Y.2.2.1 (17 + (i - 305) % 3) ((i - 305) / 3) else if i < 971 then
    (if (i - 395) % 9 = 0 then Y.2.2.1 20 ((i - 395) / 9) else if (i - 395) % 9 % 2 = 1 then Y.2.2.1 21 (4 * ((i - 395) / 9) + ((i - 395) % 9 - 1) / 2) else Y.2.2.1 22 (4 * ((i - 395) / 9) + ((i - 395) % 9 - 2) / 2))
  else Y.2.2.1 23 i
def encS (Y : z_V) (i : Nat) : Int32 :=
  if i % 9 = 0 then Y.2.2.1 25 (i / 9) else if i % 9 % 2 = 1 then Y.2.2.1 26 (4 * (i / 9) + (i % 9 - 1) / 2) else Y.2.2.1 27 (4 * (i / 9) + (i % 9 - 2) / 2)
def encF (Y : z_V) (i : Nat) : UInt32 := if i < 20 then Y.2.2.2 0 i else if i < 40 then Y.2.2.2 1 (i - 20) else if i < 296 then Y.2.2.2 2 (i - 40) else Y.2.2.2 3 i
def dec (Y : z_V) : z_V := (fun i => Y.1 (13 + i), 0, fun j => if j = 0 then enc Y else if j = 1 then Y.2.2.1 24 else if j = 2 then encS Y else if j = 3 then Y.2.2.1 28 else fun _ => 0, fun j => if j = 0 then encF Y else if j = 1 then Y.2.2.2 4 else if j = 2 then Y.2.2.2 5 else if j = 3 then Y.2.2.2 6 else fun _ => 0)
abbrev yS (M : z_M) (o : Nat) (Y : z_V) (w : Int64) : z_M := oS M o (dec Y) w
theorem dec_S (Y : z_V) (i : Nat) : (dec Y).1 i = Y.1 (13 + i) := rfl
theorem dec_A0 (Y : z_V) : (dec Y).2.2.1 0 = enc Y := rfl
theorem dec_A1 (Y : z_V) : (dec Y).2.2.1 1 = Y.2.2.1 24 := rfl
theorem dec_A2 (Y : z_V) : (dec Y).2.2.1 2 = encS Y := rfl
theorem dec_A3 (Y : z_V) : (dec Y).2.2.1 3 = Y.2.2.1 28 := rfl
theorem dec_F0 (Y : z_V) : (dec Y).2.2.2 0 = encF Y := rfl
theorem dec_F1 (Y : z_V) : (dec Y).2.2.2 1 = Y.2.2.2 4 := rfl
theorem dec_F2 (Y : z_V) : (dec Y).2.2.2 2 = Y.2.2.2 5 := rfl
theorem dec_F3 (Y : z_V) : (dec Y).2.2.2 3 = Y.2.2.2 6 := rfl
theorem enc_s {Y : z_V} {i : Nat} (h : i < 13) : enc Y i = Y.1 i := by unfold enc; rw [if_pos h]
theorem enc_b {Y : z_V} {b w : Nat} (hb : b < 8) (hw : w < 4) : enc Y (13 + 4 * b + w) = Y.2.2.1 w b := by
  unfold enc
  rw [if_neg (by omega), if_pos (by omega), show (13 + 4 * b + w - 13) % 4 = w by omega, show (13 + 4 * b + w - 13) / 4 = b by omega]
theorem enc_p {Y : z_V} {p w : Nat} (hp : p < 20) (hw : w < 13) : enc Y (45 + 13 * p + w) = Y.2.2.1 (4 + w) p := by
  unfold enc
  rw [if_neg (by omega), if_neg (by omega), if_pos (by omega), show (45 + 13 * p + w - 45) % 13 = w by omega, show (45 + 13 * p + w - 45) / 13 = p by omega]
theorem enc_e {Y : z_V} {i j : Nat} (hi : i < 30) (hj : j < 3) : enc Y (305 + 3 * i + j) = Y.2.2.1 (17 + j) i := by
  unfold enc
  rw [if_neg (by omega), if_neg (by omega), if_neg (by omega), if_pos (by omega), show (305 + 3 * i + j - 305) % 3 = j by omega, show (305 + 3 * i + j - 305) / 3 = i by omega]
theorem enc_l {Y : z_V} {l : Nat} (hl : l < 64) : enc Y (395 + 9 * l) = Y.2.2.1 20 l := by
  unfold enc
  rw [if_neg (by omega), if_neg (by omega), if_neg (by omega), if_neg (by omega), if_pos (by omega), if_pos (by omega), show (395 + 9 * l - 395) / 9 = l by omega]
theorem enc_k {Y : z_V} {l k : Nat} (hl : l < 64) (hk : k < 4) : enc Y (395 + 9 * l + 1 + 2 * k) = Y.2.2.1 21 (4 * l + k) := by
  unfold enc
  rw [if_neg (by omega), if_neg (by omega), if_neg (by omega), if_neg (by omega), if_pos (by omega), if_neg (by omega), if_pos (by omega), show 4 * ((395 + 9 * l + 1 + 2 * k - 395) / 9) + ((395 + 9 * l + 1 + 2 * k - 395) % 9 - 1) / 2 = 4 * l + k by omega]
theorem enc_a {Y : z_V} {l k : Nat} (hl : l < 64) (hk : k < 4) : enc Y (395 + 9 * l + 2 + 2 * k) = Y.2.2.1 22 (4 * l + k) := by
  unfold enc
  rw [if_neg (by omega), if_neg (by omega), if_neg (by omega), if_neg (by omega), if_pos (by omega), if_neg (by omega), if_neg (by omega), show 4 * ((395 + 9 * l + 2 + 2 * k - 395) / 9) + ((395 + 9 * l + 2 + 2 * k - 395) % 9 - 2) / 2 = 4 * l + k by omega]
theorem enF_l {Y : z_V} {p : Nat} (hp : p < 20) : encF Y p = Y.2.2.2 0 p := by unfold encF; rw [if_pos hp]
theorem enF_m {Y : z_V} {p : Nat} (hp : p < 20) : encF Y (20 + p) = Y.2.2.2 1 p := by
  unfold encF
  rw [if_neg (by omega), if_pos (by omega), Nat.add_sub_cancel_left]
theorem enF_s {Y : z_V} {l k : Nat} (hl : l < 64) (hk : k < 4) : encF Y (40 + 4 * l + k) = Y.2.2.2 2 (4 * l + k) := by
  unfold encF
  rw [if_neg (by omega), if_neg (by omega), if_pos (by omega), show 40 + 4 * l + k - 40 = 4 * l + k by omega]
def yrd := And.intro dec_S (And.intro dec_A0 (And.intro dec_A1 (And.intro dec_A2 (And.intro dec_A3 (And.intro dec_F0 (And.intro dec_F1 (And.intro dec_F2 (And.intro dec_F3 (And.intro @enc_s (And.intro @enc_b (And.intro @enc_p (And.intro @enc_e (And.intro @enc_l (And.intro @enc_k (And.intro @enc_a (And.intro @enF_l (And.intro @enF_m @enF_s)))))))))))))))))
theorem enc_kp {Y Z : z_V} (h1 : ∀ i, i < 13 → Y.1 i = Z.1 i) (h2 : ∀ a, a < 24 → Y.2.2.1 a = Z.2.2.1 a) : enc Y = enc Z := by
  funext i
  unfold enc
  by_cases c1 : i < 13
  · rw [if_pos c1, if_pos c1, h1 i c1]
  · rw [if_neg c1, if_neg c1, h2 ((i - 13) % 4) (by omega), h2 (4 + (i - 45) % 13) (by omega), h2 (17 + (i - 305) % 3) (by omega), h2 20 (by omega), h2 21 (by omega), h2 22 (by omega), h2 23 (by omega)]
theorem encS_kp {Y Z : z_V} (h1 : Y.2.2.1 25 = Z.2.2.1 25) (h2 : Y.2.2.1 26 = Z.2.2.1 26) (h3 : Y.2.2.1 27 = Z.2.2.1 27) : encS Y = encS Z := by
  funext i
  unfold encS
  rw [h1, h2, h3]
theorem encF_kp {Y Z : z_V} (h : ∀ a, a < 4 → Y.2.2.2 a = Z.2.2.2 a) : encF Y = encF Z := by
  funext i
  unfold encF
  rw [h 0 (by omega), h 1 (by omega), h 2 (by omega), h 3 (by omega)]
theorem dec_ext {Y Z : z_V} (V : z_V) (h0 : ∀ i, V.1 i = Z.1 (13 + i)) (ht : V.2.1 = 0) (a0 : V.2.2.1 0 = enc Z) (a1 : V.2.2.1 1 = Z.2.2.1 24) (a2 : V.2.2.1 2 = encS Z) (a3 : V.2.2.1 3 = Z.2.2.1 28) (a4 : ∀ j, 3 < j → V.2.2.1 j = fun _ => 0) (f0 : V.2.2.2 0 = encF Z) (f1 : V.2.2.2 1 = Z.2.2.2 4) (f2 : V.2.2.2 2 = Z.2.2.2 5) (f3 : V.2.2.2 3 = Z.2.2.2 6) (f4 : ∀ j, 3 < j → V.2.2.2 j = fun _ => 0) : V = dec Z := by
  refine V_ext (funext h0) ht (funext fun j => ?_) (funext fun j => ?_)
  · match j with
    | 0 => exact a0
    | 1 => exact a1
    | 2 => exact a2
    | 3 => exact a3
    | n + 4 => rw [a4 (n + 4) (by omega)]; rfl
  · match j with
    | 0 => exact f0
    | 1 => exact f1
    | 2 => exact f2
    | 3 => exact f3
    | n + 4 => rw [f4 (n + 4) (by omega)]; rfl
/-- the row written -/
theorem dw_A0 (Y Z : z_V) (g : Nat → Int32) (hg : g = enc Z) (h1 : ∀ i, 12 < i → Y.1 i = Z.1 i) (h2 : ∀ a, 23 < a → Y.2.2.1 a = Z.2.2.1 a) (h3 : Y.2.2.2 = Z.2.2.2) : sA (dec Y) 0 g = dec Z := by
  refine dec_ext (Y := Y) _ (fun i => h1 _ (by omega)) rfl hg (h2 24 (by omega)) (encS_kp (h2 25 (by omega)) (h2 26 (by omega)) (h2 27 (by omega))) (h2 28 (by omega)) (fun j hj => ?_) (encF_kp fun a _ => by rw [h3]) (by rw [← h3]; rfl) (by rw [← h3]; rfl) (by rw [← h3]; rfl) (fun j hj => ?_)
  · match j, hj with
    | n + 4, _ => rfl
  · match j, hj with
    | n + 4, _ => rfl
theorem dw_s {Y : z_V} {i : Nat} {v : Int32} (h : i < 13) : sA (dec Y) 0 (upd (enc Y) i v) = dec (sS Y i v) := by
  refine dw_A0 _ _ _ (funext fun j => ?_) (fun j hj => by simp only [sgets, show j ≠ i by omega, if_false]) (fun _ _ => rfl) rfl
  unfold upd
  by_cases c : j = i
  · subst c
    rw [if_pos rfl, enc_s h]
    simp only [sgets, if_true]
  · rw [if_neg c]
    unfold enc
    simp only [sgets, c, if_false]
theorem dw_b {Y : z_V} {b w : Nat} {v : Int32} (hb : b < 8) (hw : w < 4) : sA (dec Y) 0 (upd (enc Y) (13 + 4 * b + w) v) = dec (sA Y w (upd (Y.2.2.1 w) b v)) := by
  refine dw_A0 _ _ _ (funext fun j => ?_) (fun _ _ => rfl) (fun a ha => by simp only [sgets, show a ≠ w by omega, if_false]) rfl
  unfold upd
  by_cases c : j = 13 + 4 * b + w
  · subst c
    rw [if_pos rfl, enc_b hb hw]
    simp only [sgets, if_true]
  · rw [if_neg c]
    unfold enc
    simp only [sgets]
    by_cases c1 : j < 13
    · rw [if_pos c1, if_pos c1]
    · rw [if_neg c1, if_neg c1]
      by_cases c2 : j < 45
      · rw [if_pos c2, if_pos c2]
        by_cases c3 : (j - 13) % 4 = w
        · rw [if_pos c3, if_neg (by omega), c3]
        · rw [if_neg c3]
      · rw [if_neg c2, if_neg c2, if_neg (show ¬ 4 + (j - 45) % 13 = w by omega), if_neg (show ¬ 17 + (j - 305) % 3 = w by omega), if_neg (show ¬ 20 = w by omega), if_neg (show ¬ 21 = w by omega), if_neg (show ¬ 22 = w by omega), if_neg (show ¬ 23 = w by omega)]
theorem dw_p {Y : z_V} {p w : Nat} {v : Int32} (hp : p < 20) (hw : w < 13) : sA (dec Y) 0 (upd (enc Y) (45 + 13 * p + w) v) = dec (sA Y (4 + w) (upd (Y.2.2.1 (4 + w)) p v)) := by
  refine dw_A0 _ _ _ (funext fun j => ?_) (fun _ _ => rfl) (fun a ha => by simp only [sgets, show a ≠ 4 + w by omega, if_false]) rfl
  unfold upd
  by_cases c : j = 45 + 13 * p + w
  · subst c
    rw [if_pos rfl, enc_p hp hw]
    simp only [sgets, if_true]
  · rw [if_neg c]
    unfold enc
    simp only [sgets]
    by_cases c1 : j < 13
    · rw [if_pos c1, if_pos c1]
    · rw [if_neg c1, if_neg c1]
      by_cases c2 : j < 45
      · rw [if_pos c2, if_pos c2, if_neg (by omega)]
      · rw [if_neg c2, if_neg c2]
        by_cases c4 : j < 305
        · rw [if_pos c4, if_pos c4]
          by_cases c3 : (j - 45) % 13 = w
          · rw [if_pos (by omega), if_neg (by omega), c3]
          · rw [if_neg (by omega)]
        · rw [if_neg c4, if_neg c4, if_neg (show ¬ 17 + (j - 305) % 3 = 4 + w by omega), if_neg (show ¬ 20 = 4 + w by omega), if_neg (show ¬ 21 = 4 + w by omega), if_neg (show ¬ 22 = 4 + w by omega), if_neg (show ¬ 23 = 4 + w by omega)]
theorem dw_e {Y : z_V} {i k : Nat} {v : Int32} (hi : i < 30) (hk : k < 3) : sA (dec Y) 0 (upd (enc Y) (305 + 3 * i + k) v) = dec (sA Y (17 + k) (upd (Y.2.2.1 (17 + k)) i v)) := by
  refine dw_A0 _ _ _ (funext fun j => ?_) (fun _ _ => rfl) (fun a ha => by simp only [sgets, show a ≠ 17 + k by omega, if_false]) rfl
  unfold upd
  by_cases c : j = 305 + 3 * i + k
  · subst c
    rw [if_pos rfl, enc_e hi hk]
    simp only [sgets, if_true]
  · rw [if_neg c]
    unfold enc
    simp only [sgets]
    by_cases c1 : j < 13
    · rw [if_pos c1, if_pos c1]
    · rw [if_neg c1, if_neg c1]
      by_cases c2 : j < 45
      · rw [if_pos c2, if_pos c2, if_neg (by omega)]
      · rw [if_neg c2, if_neg c2]
        by_cases c4 : j < 305
        · rw [if_pos c4, if_pos c4, if_neg (by omega)]
        · rw [if_neg c4, if_neg c4]
          by_cases c5 : j < 395
          · rw [if_pos c5, if_pos c5]
            by_cases c3 : (j - 305) % 3 = k
            · rw [if_pos (by omega), if_neg (by omega), c3]
            · rw [if_neg (by omega)]
          · rw [if_neg c5, if_neg c5, if_neg (show ¬ 20 = 17 + k by omega), if_neg (show ¬ 21 = 17 + k by omega), if_neg (show ¬ 22 = 17 + k by omega), if_neg (show ¬ 23 = 17 + k by omega)]
theorem dw_e0 {Y : z_V} {i : Nat} {v : Int32} (hi : i < 30) : sA (dec Y) 0 (upd (enc Y) (305 + 3 * i) v) = dec (sA Y 17 (upd (Y.2.2.1 17) i v)) := dw_e (k := 0) hi (by omega)
theorem enc_e0 {Y : z_V} {i : Nat} (hi : i < 30) : enc Y (305 + 3 * i) = Y.2.2.1 17 i := enc_e (j := 0) hi (by omega)
theorem dw_F0 (Y Z : z_V) (g : Nat → UInt32) (hg : g = encF Z) (h1 : Y.1 = Z.1) (h2 : Y.2.2.1 = Z.2.2.1) (h3 : ∀ a, 3 < a → Y.2.2.2 a = Z.2.2.2 a) : sF (dec Y) 0 g = dec Z := by
  refine dec_ext (Y := Y) _ (fun i => by rw [← h1]; rfl) rfl (enc_kp (fun i _ => by rw [h1]) (fun i _ => by rw [h2])) (by rw [← h2]; rfl) (encS_kp (by rw [h2]) (by rw [h2]) (by rw [h2])) (by rw [← h2]; rfl) (fun j hj => ?_) hg (h3 4 (by omega)) (h3 5 (by omega)) (h3 6 (by omega)) (fun j hj => ?_)
  · match j, hj with
    | n + 4, _ => rfl
  · match j, hj with
    | n + 4, _ => rfl
theorem dw_l {Y : z_V} {p : Nat} {v : UInt32} (hp : p < 20) : sF (dec Y) 0 (vf_upd (encF Y) p v) = dec (sF Y 0 (vf_upd (Y.2.2.2 0) p v)) := by
  refine dw_F0 _ _ _ (funext fun j => ?_) rfl rfl (fun a ha => by simp only [sgets, show a ≠ 0 by omega, if_false])
  unfold vf_upd
  by_cases c : j = p
  · subst c
    rw [if_pos rfl, enF_l hp]
    simp only [sgets, if_true]
  · rw [if_neg c]
    unfold encF
    simp only [sgets, Nat.reduceEqDiff, if_false, if_true, c]
theorem dw_m {Y : z_V} {p : Nat} {v : UInt32} (hp : p < 20) : sF (dec Y) 0 (vf_upd (encF Y) (20 + p) v) = dec (sF Y 1 (vf_upd (Y.2.2.2 1) p v)) := by
  refine dw_F0 _ _ _ (funext fun j => ?_) rfl rfl (fun a ha => by simp only [sgets, show a ≠ 1 by omega, if_false])
  unfold vf_upd
  by_cases c : j = 20 + p
  · subst c
    rw [if_pos rfl, enF_m hp]
    simp only [sgets, if_true]
  · rw [if_neg c]
    unfold encF
    simp only [sgets, Nat.reduceEqDiff, if_false, if_true]
    by_cases c1 : j < 20
    · rw [if_pos c1, if_pos c1]
    · rw [if_neg c1, if_neg c1]
      by_cases c2 : j < 40
      · rw [if_pos c2, if_pos c2, if_neg (by omega)]
      · rw [if_neg c2, if_neg c2]
theorem dw_A1 (Y : z_V) (g : Nat → Int32) : sA (dec Y) 1 g = dec (sA Y 24 g) := by
  refine dec_ext (Y := Y) _ (fun i => rfl) rfl (enc_kp (fun i _ => rfl) (fun a ha => by simp only [sgets, show a ≠ 24 by omega, if_false])) rfl (encS_kp rfl rfl rfl) rfl (fun j hj => ?_) (encF_kp fun _ _ => rfl) rfl rfl rfl (fun j hj => ?_)
  · match j, hj with
    | n + 4, _ => rfl
  · match j, hj with
    | n + 4, _ => rfl
theorem dw_F2 (Y : z_V) (g : Nat → UInt32) : sF (dec Y) 2 g = dec (sF Y 5 g) := by
  refine dec_ext (Y := Y) _ (fun i => rfl) rfl (enc_kp (fun i _ => rfl) (fun a ha => rfl)) rfl (encS_kp rfl rfl rfl) rfl (fun j hj => ?_) (encF_kp fun a ha => by simp only [sgets, show a ≠ 5 by omega, if_false]) rfl rfl rfl (fun j hj => ?_)
  · match j, hj with
    | n + 4, _ => rfl
  · match j, hj with
    | n + 4, _ => rfl
theorem dw_F3 (Y : z_V) (g : Nat → UInt32) : sF (dec Y) 3 g = dec (sF Y 6 g) := by
  refine dec_ext (Y := Y) _ (fun i => rfl) rfl (enc_kp (fun i _ => rfl) (fun a ha => rfl)) rfl (encS_kp rfl rfl rfl) rfl (fun j hj => ?_) (encF_kp fun a ha => by simp only [sgets, show a ≠ 6 by omega, if_false]) rfl rfl rfl (fun j hj => ?_)
  · match j, hj with
    | n + 4, _ => rfl
  · match j, hj with
    | n + 4, _ => rfl
theorem dw_A3 (Y : z_V) (g : Nat → Int32) : sA (dec Y) 3 g = dec (sA Y 28 g) := by
  refine dec_ext (Y := Y) _ (fun i => rfl) rfl (enc_kp (fun i _ => rfl) (fun a ha => by simp only [sgets, show a ≠ 28 by omega, if_false])) rfl (encS_kp rfl rfl rfl) rfl (fun j hj => ?_) (encF_kp fun _ _ => rfl) rfl rfl rfl (fun j hj => ?_)
  · match j, hj with
    | n + 4, _ => rfl
  · match j, hj with
    | n + 4, _ => rfl
theorem dw_A2 (Y Z : z_V) (g : Nat → Int32) (hg : g = encS Z) (h1 : Y.1 = Z.1) (h2 : ∀ a, a < 25 ∨ 27 < a → Y.2.2.1 a = Z.2.2.1 a) (h3 : Y.2.2.2 = Z.2.2.2) : sA (dec Y) 2 g = dec Z := by
  refine dec_ext (Y := Y) _ (fun i => by rw [← h1]; rfl) rfl (enc_kp (fun i _ => by rw [h1]) (fun a ha => h2 a (by omega))) (h2 24 (by omega)) hg (h2 28 (by omega)) (fun j hj => ?_) (encF_kp fun a _ => by rw [h3]) (by rw [← h3]; rfl) (by rw [← h3]; rfl) (by rw [← h3]; rfl) (fun j hj => ?_)
  · match j, hj with
    | n + 4, _ => rfl
  · match j, hj with
    | n + 4, _ => rfl
theorem dw_n {Y : z_V} {l : Nat} {v : Int32} : sA (dec Y) 2 (upd (encS Y) (9 * l) v) = dec (sA Y 25 (upd (Y.2.2.1 25) l v)) := by
  refine dw_A2 _ _ _ (funext fun j => ?_) rfl (fun a ha => by simp only [sgets, show a ≠ 25 by omega, if_false]) rfl
  unfold upd encS
  simp only [sgets, Nat.reduceEqDiff, if_true, if_false]
  by_cases c : j = 9 * l
  · subst c
    rw [if_pos rfl, if_pos (by omega), if_pos (by omega)]
  · rw [if_neg c]
    by_cases c1 : j % 9 = 0
    · rw [if_pos c1, if_pos c1, if_neg (by omega)]
    · rw [if_neg c1, if_neg c1]
theorem dw_k {Y : z_V} {l k : Nat} {v : Int32} (hk : k < 4) : sA (dec Y) 2 (upd (encS Y) (9 * l + 1 + 2 * k) v) = dec (sA Y 26 (upd (Y.2.2.1 26) (4 * l + k) v)) := by
  refine dw_A2 _ _ _ (funext fun j => ?_) rfl (fun a ha => by simp only [sgets, show a ≠ 26 by omega, if_false]) rfl
  unfold upd encS
  simp only [sgets, Nat.reduceEqDiff, if_true, if_false]
  by_cases c : j = 9 * l + 1 + 2 * k
  · subst c
    rw [if_pos rfl, if_neg (by omega), if_pos (by omega), if_pos (by omega)]
  · rw [if_neg c]
    by_cases c1 : j % 9 = 0
    · rw [if_pos c1, if_pos c1]
    · rw [if_neg c1, if_neg c1]
      by_cases c2 : j % 9 % 2 = 1
      · rw [if_pos c2, if_pos c2, if_neg (by omega)]
      · rw [if_neg c2, if_neg c2]
theorem dw_a {Y : z_V} {l k : Nat} {v : Int32} (hk : k < 4) : sA (dec Y) 2 (upd (encS Y) (9 * l + 2 + 2 * k) v) = dec (sA Y 27 (upd (Y.2.2.1 27) (4 * l + k) v)) := by
  refine dw_A2 _ _ _ (funext fun j => ?_) rfl (fun a ha => by simp only [sgets, show a ≠ 27 by omega, if_false]) rfl
  unfold upd encS
  simp only [sgets, Nat.reduceEqDiff, if_true, if_false]
  by_cases c : j = 9 * l + 2 + 2 * k
  · subst c
    rw [if_pos rfl, if_neg (by omega), if_neg (by omega), if_pos (by omega)]
  · rw [if_neg c]
    by_cases c1 : j % 9 = 0
    · rw [if_pos c1, if_pos c1]
    · rw [if_neg c1, if_neg c1]
      by_cases c2 : j % 9 % 2 = 1
      · rw [if_pos c2, if_pos c2]
      · rw [if_neg c2, if_neg c2, if_neg (by omega)]
theorem dw_S (Y : z_V) (i : Nat) (v : Int32) : sS (dec Y) i v = dec (sS Y (13 + i) v) := by
  refine dec_ext (Y := Y) _ (fun j => ?_) rfl (enc_kp (fun j hj => ?_) (fun a ha => rfl)) rfl (encS_kp rfl rfl rfl) rfl (fun j hj => ?_) (encF_kp fun a ha => rfl) rfl rfl rfl (fun j hj => ?_)
  · simp only [sgets, dec_S]
    by_cases c : j = i
    · rw [if_pos c, if_pos (by omega)]
    · rw [if_neg c, if_neg (by omega)]
  · simp only [sgets, show j ≠ 13 + i by omega, if_false]
  · match j, hj with
    | n + 4, _ => rfl
  · match j, hj with
    | n + 4, _ => rfl
def ywr := And.intro @dw_s (And.intro @dw_b (And.intro @dw_p (And.intro @dw_e0 (And.intro @dw_e (And.intro @dw_l (And.intro @dw_m (And.intro dw_A1 (And.intro dw_F2 (And.intro dw_F3 (And.intro dw_A3 (And.intro @dw_n (And.intro @dw_k (And.intro @dw_a dw_S)))))))))))))
theorem yw13 {M : z_M} {o : Nat} {Y : z_V} {w : Int64} {x : Int32} {y14 : Int32} {y15 : Int32} {y16 : Int32} {y17 : Int32} (h14 : Y.1 14 = y14) (h15 : Y.1 15 = y15) (h16 : Y.1 16 = y16) (h17 : Y.1 17 = y17) : z_up (oS M o (dec Y) w) o (z_O 11 [.ref (o + 1), .ref (o + 2), .int x, .ref (o + 3), .int y14, .ref (o + 4), .ref (o + 5), .ref (o + 6), .ref (o + 7), .ref (o + 8), .int y15, .int y16, .int y17, .long w]) = oS M o (dec (sS Y 13 x)) w := by
  subst h14
  subst h15
  subst h16
  subst h17
  have h := owS0 M o (dec Y) w x _ _ _ _ rfl rfl rfl rfl
  rw [dw_S] at h
  exact h
theorem yw14 {M : z_M} {o : Nat} {Y : z_V} {w : Int64} {x : Int32} {y13 : Int32} {y15 : Int32} {y16 : Int32} {y17 : Int32} (h13 : Y.1 13 = y13) (h15 : Y.1 15 = y15) (h16 : Y.1 16 = y16) (h17 : Y.1 17 = y17) : z_up (oS M o (dec Y) w) o (z_O 11 [.ref (o + 1), .ref (o + 2), .int y13, .ref (o + 3), .int x, .ref (o + 4), .ref (o + 5), .ref (o + 6), .ref (o + 7), .ref (o + 8), .int y15, .int y16, .int y17, .long w]) = oS M o (dec (sS Y 14 x)) w := by
  subst h13
  subst h15
  subst h16
  subst h17
  have h := owS1 M o (dec Y) w _ x _ _ _ rfl rfl rfl rfl
  rw [dw_S] at h
  exact h
theorem yw15 {M : z_M} {o : Nat} {Y : z_V} {w : Int64} {x : Int32} {y13 : Int32} {y14 : Int32} {y16 : Int32} {y17 : Int32} (h13 : Y.1 13 = y13) (h14 : Y.1 14 = y14) (h16 : Y.1 16 = y16) (h17 : Y.1 17 = y17) : z_up (oS M o (dec Y) w) o (z_O 11 [.ref (o + 1), .ref (o + 2), .int y13, .ref (o + 3), .int y14, .ref (o + 4), .ref (o + 5), .ref (o + 6), .ref (o + 7), .ref (o + 8), .int x, .int y16, .int y17, .long w]) = oS M o (dec (sS Y 15 x)) w := by
  subst h13
  subst h14
  subst h16
  subst h17
  have h := owS2 M o (dec Y) w _ _ x _ _ rfl rfl rfl rfl
  rw [dw_S] at h
  exact h
theorem yw16 {M : z_M} {o : Nat} {Y : z_V} {w : Int64} {x : Int32} {y13 : Int32} {y14 : Int32} {y15 : Int32} {y17 : Int32} (h13 : Y.1 13 = y13) (h14 : Y.1 14 = y14) (h15 : Y.1 15 = y15) (h17 : Y.1 17 = y17) : z_up (oS M o (dec Y) w) o (z_O 11 [.ref (o + 1), .ref (o + 2), .int y13, .ref (o + 3), .int y14, .ref (o + 4), .ref (o + 5), .ref (o + 6), .ref (o + 7), .ref (o + 8), .int y15, .int x, .int y17, .long w]) = oS M o (dec (sS Y 16 x)) w := by
  subst h13
  subst h14
  subst h15
  subst h17
  have h := owS3 M o (dec Y) w _ _ _ x _ rfl rfl rfl rfl
  rw [dw_S] at h
  exact h
theorem yw17 {M : z_M} {o : Nat} {Y : z_V} {w : Int64} {x : Int32} {y13 : Int32} {y14 : Int32} {y15 : Int32} {y16 : Int32} (h13 : Y.1 13 = y13) (h14 : Y.1 14 = y14) (h15 : Y.1 15 = y15) (h16 : Y.1 16 = y16) : z_up (oS M o (dec Y) w) o (z_O 11 [.ref (o + 1), .ref (o + 2), .int y13, .ref (o + 3), .int y14, .ref (o + 4), .ref (o + 5), .ref (o + 6), .ref (o + 7), .ref (o + 8), .int y15, .int y16, .int x, .long w]) = oS M o (dec (sS Y 17 x)) w := by
  subst h13
  subst h14
  subst h15
  subst h16
  have h := owS4 M o (dec Y) w _ _ _ _ x rfl rfl rfl rfl
  rw [dw_S] at h
  exact h
theorem ywW {M : z_M} {o : Nat} {Y : z_V} {w : Int64} {x : Int64} {y13 : Int32} {y14 : Int32} {y15 : Int32} {y16 : Int32} {y17 : Int32} (h13 : Y.1 13 = y13) (h14 : Y.1 14 = y14) (h15 : Y.1 15 = y15) (h16 : Y.1 16 = y16) (h17 : Y.1 17 = y17) : z_up (oS M o (dec Y) w) o (z_O 11 [.ref (o + 1), .ref (o + 2), .int y13, .ref (o + 3), .int y14, .ref (o + 4), .ref (o + 5), .ref (o + 6), .ref (o + 7), .ref (o + 8), .int y15, .int y16, .int y17, .long x]) = oS M o (dec Y) x := by
  subst h13
  subst h14
  subst h15
  subst h16
  subst h17
  exact owSW M o (dec Y) w _ _ _ _ _ x rfl rfl rfl rfl rfl
def ywo := And.intro @yw13 (And.intro @yw14 (And.intro @yw15 (And.intro @yw16 (And.intro @yw17 (@ywW)))))
