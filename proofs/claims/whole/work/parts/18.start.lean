/-! from what the light machine says of the law to the law itself -/
/-- the memory at the law's entry: the script alone -/
def z_M0 (n0 b L : Nat) (xs : Nat → Int32) : z_M := (n0, fun a => if a = b then some (.inr (99, (List.range L).map (fun j => Value.int (xs j)))) else none)
/-- what is wanted of the light machine -/
def z_Law : Prop := ∀ (n0 b L : Nat) (xs : Nat → Int32), b < n0 → L ≤ 2560 → ∃ M, z_ex 192 (n0 + 281) 0 [some (.ref b), none, none, none] [] (z_M0 n0 b L xs) = some (some (.int 1), M)
theorem z_start (hLaw : z_Law) {p : Program} {e : Env} {s : State} {m : MethodId} {below : List Frame} {meth : Method} {c : Code} (l : Launch) {b L : Nat} {xs : Nat → Int32} (hL : L ≤ 2560) (C0 : lw_At p s m meth c b L xs) : W p l e room_1 s m #[Value.ref b] below meth c s.heap [] 0 0 (lw_Z below #[Value.ref b] s) (entryFrame m ([Value.ref b] : List Value).toArray 4) := by
  obtain ⟨hx, hb, hr, hml, hown, hts, hX, hbl, hlocks, -⟩ := C0
  have htsU : ∀ w ∈ z_wsU, w.before #[Value.ref b] s = true := fun w hw => hts w (List.mem_filter.mp hw).1
  have hkn : ∀ ci : Nat, ∃ q : ClassId × (Nat → Nat), ∀ r : vw_C, vwCl[ci]? = some r → u_Kn s r.1 r.2.1 r.2.2 q.1 q.2 := by
    intro ci
    cases hq : vwCl[ci]? with
    | none => exact ⟨(0, fun _ => 0), fun r hr => by cases hr⟩
    | some r =>
      obtain ⟨hin, -, -, -, hinst, -⟩ := z_okC_all ci r hq
      obtain ⟨cC, iS, h⟩ := u_known htsU hin (htsU _ hinst)
      exact ⟨(cC, iS), fun r' hr' => by cases hr'; exact h⟩
  have hD : ∃ D : va_G, ∀ (ci : Nat) (r : vw_C), vwCl[ci]? = some r → u_Kn s r.1 r.2.1 r.2.2 (D.1 ci) (D.2 ci) :=
    ⟨(fun ci => (hkn ci).choose.1, fun ci => (hkn ci).choose.2), fun ci r hr => (hkn ci).choose_spec r hr⟩
  obtain ⟨D, hD⟩ := hD
  obtain ⟨cI, kI, compI, i1, i2, i3⟩ := Cond.arrayClass_spec (htsU _ z_wI)
  obtain ⟨cF, kF, compF, f1, f2, f3⟩ := Cond.arrayClass_spec (htsU _ z_wF)
  have hAO : va_AO RX0 s := va_AO.of (hts _ z_wQ)
  obtain ⟨compR, cR, kR, r1, r2, r3, r4, r5⟩ := Cond.arrayOver_spec hAO
  obtain ⟨scr, x1, x2, x3, x4, x5⟩ := hX
  have hEnv : z_Env (D, cI, cF, cR, s.heap.size, scr) s := by
    refine ⟨⟨fun ci q hq => hD ci q hq, fun k q hk => ?_⟩, fun w hw => va_Nw.of ?_ (hts w (z_nest_in w hw)), hAO, x2, x3⟩
    · have hz : k < 3 := (List.getElem?_eq_some_iff.mp hk).1
      match k, hz, hk with
      | 0, _, hk =>
        cases hk
        exact ⟨fun n z => ⟨fun k h => (by cases h), kI, i2, compI, i3⟩, i1⟩
      | 1, _, hk =>
        cases hk
        exact ⟨fun n z => ⟨fun k h => (by cases h), kF, f2, compF, f3⟩, f1⟩
      | 2, _, hk =>
        cases hk
        exact ⟨fun n z => ⟨fun k h => (by cases h), kR, r3, compR, r4⟩, kR, compR, r3, r4, r1, r5⟩
    · simp only [z_nest, List.mem_cons, List.not_mem_nil, or_false] at hw
      rcases hw with rfl | rfl | rfl | rfl | rfl | rfl | rfl | rfl | rfl | rfl | rfl | rfl | rfl | rfl <;> rfl
  obtain ⟨M, hM⟩ := hLaw s.heap.size b L xs hbl hL
  obtain ⟨n, hn⟩ := z_ex_run hM
  have hsim := z_sound l (D, cI, cF, cR, s.heap.size, scr) n 192 z_t192 _ 0 _ [] _ _ rfl hn
  rw [lg_entry_eq]
  have hent : z_ent z_t192 [.ref b] = some [some (.ref b), none, none, none] := rfl
  refine hsim p e room_1 s m _ below meth c _ ⟨hx, hb, hml, hown, htsU, hEnv, hr, hlocks, fun h => by exact absurd h (by decide +kernel), Nat.le_of_ble_eq_true rfl, Nat.le_of_ble_eq_true rfl, Nat.le_of_ble_eq_true rfl, Nat.le_of_ble_eq_true rfl⟩ s.heap [] 0 0 _ ⟨z_LH.entry hent, ⟨rfl, Nat.le_refl _, fun a e' ha => ?_⟩, va_S.rf, Nat.le_refl _, rfl, rfl, Nat.le_add_right _ _, rfl⟩ ?_
  · have ha' : (if a = b then some (Sum.inr (99, (List.range L).map (fun j => Value.int (xs j)))) else none) = some e' := ha
    by_cases hab : a = b
    · subst hab
      rw [if_pos rfl] at ha'
      obtain rfl := Option.some.inj ha'
      refine Or.inr ⟨_, rfl, hbl, x1, by rw [List.length_map, List.length_range]; exact x4.symm, fun j v hj => ?_⟩
      rw [List.getElem?_map] at hj
      by_cases hjL : j < L
      · rw [List.getElem?_range hjL] at hj
        obtain rfl := Option.some.inj hj
        exact x5 j hjL
      · rw [List.getElem?_eq_none (by rw [List.length_range]; omega)] at hj
        cases hj
    · rw [if_neg hab] at ha'
      cases ha'
  · intro H locs ls pc st hG' hS' hlim hrp
    rcases hrp with ⟨x, ht, hd, rfl, hv⟩ | ⟨x, ht, hd, rfl, hv, hx'⟩ | ⟨x, ht, hd, rfl, hv⟩ | ⟨x, ht, hd, rfl, hv⟩ | ⟨ht, hd, rfl, hv⟩
    · cases ht
    · obtain rfl : (1 : Int32) = x := by cases hv; rfl
      refine va_forget (fun q hq => hS'.2.2 q hq) ?_
      refine W.widen (k := 600000) (n := 7302250) (Nat.le_of_ble_eq_true rfl) (Nat.le_of_ble_eq_true rfl) ?_
      refine W.base ?_
      exact lw_ret (Drawn.sameBut.refl s.drawn lw_cs) hx hb hr hlocks hd
    · cases ht
    · cases ht
    · cases ht
