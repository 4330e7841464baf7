/-! the light machine is the machine: what it comes to, the machine comes to -/
abbrev z_P : Type := va_G × ClassId × ClassId × ClassId × Nat × Cell
abbrev z_D (Z : z_P) : va_G := Z.1
abbrev z_cI (Z : z_P) : ClassId := Z.2.1
abbrev z_cF (Z : z_P) : ClassId := Z.2.2.1
abbrev z_cR (Z : z_P) : ClassId := Z.2.2.2.1
abbrev z_n0 (Z : z_P) : Nat := Z.2.2.2.2.1
abbrev z_sc (Z : z_P) : Cell := Z.2.2.2.2.2
def z_cid (Z : z_P) (x : vp_A) : ClassId := match x.2 with
  | .inl _ => z_cI Z
  | .inr (.inr (.inl _)) => z_cF Z
  | _ => z_cR Z
def z_e (Z : z_P) (e : z_E) : va_E := match e with
  | .inl x => .inl (z_cid Z x, x)
  | .inr o => .inr o
def z_hold (Z : z_P) (a : Nat) (e : z_E) (H : Heap) : Prop := (z_n0 Z ≤ a ∧ va_at (z_D Z) vwCl (a, z_e Z e) H) ∨ (∃ fs, e = .inr (99, fs) ∧ a < z_n0 Z ∧ H[a]? = some (z_sc Z) ∧ fs.length = (z_sc Z).slots.size ∧ ∀ (j : Nat) (v : Value), fs[j]? = some v → (z_sc Z).slots[j]? = some v)
def z_G (Z : z_P) (M : z_M) (H : Heap) : Prop := H.size = M.1 ∧ z_n0 Z ≤ M.1 ∧ ∀ a e, M.2 a = some e → z_hold Z a e H
abbrev z_tys (Z : z_P) : List (ClassId × FieldType) := [(z_cI Z, .int), (z_cF Z, .float), (z_cR Z, .object RX0)]
def z_Env (Z : z_P) (U : State) : Prop := va_K (z_D Z) vwCl (z_tys Z) U ∧ (∀ w ∈ z_nest, va_Nw w U) ∧ va_AO RX0 U ∧ U.isArrayOf (z_sc Z) .int ∧ (z_sc Z).vm ≠ .unknown
theorem z_Env.warm {Z : z_P} {s U : State} (hW : s.WarmedH U.vm) (h : z_Env Z s) : z_Env Z U := by
  refine ⟨h.1.moved hW.alike, fun w hw => ?_, h.2.2.1.moved hW.alike, State.isArrayOf_alike hW.alike h.2.2.2.1, h.2.2.2.2⟩
  have h1 := h.2.1 w hw
  simp only [z_nest, List.mem_cons, List.not_mem_nil, or_false] at hw
  rcases hw with rfl | rfl | rfl | rfl | rfl | rfl | rfl | rfl | rfl | rfl | rfl | rfl | rfl | rfl <;> exact va_Nw.warmM hW h1
/-- a frame of the method T -/
def z_K (Z : z_P) (T : z_T) (p : Program) (R : Room) (s : State) (m : MethodId) (args : Array Value) (meth : Method) (c : Code) : Prop :=
  p.tables.exec = Jvm.exec ∧ c.code = z_cc T ∧ c.maxLocals = z_mL T ∧ s.vm.findClass (z_on (z_ow T)) = some m.cls ∧ (∀ w ∈ z_wsU, w.before args s = true) ∧ z_Env Z s ∧ meth.sig.returnType = z_rt T ∧ meth.locks = false ∧ (T.1.name = "<init>" → meth.name = "<init>") ∧ z_fr T ≤ R.frames ∧ z_lo T ≤ R.locals ∧ z_mc T ≤ R.cells ∧ 6797 * z_mc T ≤ R.slots
def z_as (L : z_L) : List (Nat × Value) := (List.range L.length).filterMap (fun k => (L[k]?).join.map (fun v => (k, v)))
theorem z_as_mem {L : z_L} {k : Nat} {v : Value} : (k, v) ∈ z_as L ↔ L[k]? = some (some v) := by
  unfold z_as
  rw [List.mem_filterMap]
  constructor
  · rintro ⟨j, -, hj⟩
    cases h : (L[j]?).join with
    | none => rw [h] at hj; cases hj
    | some w =>
      rw [h] at hj
      simp at hj
      obtain ⟨rfl, rfl⟩ := hj
      exact Option.join_eq_some_iff.mp h
  · intro h
    refine ⟨k, List.mem_range.mpr (List.getElem?_eq_some_iff.mp h).1, ?_⟩
    rw [h]
    rfl
def z_LH (lg : Bool) (nL : Nat) (ls : Array Slot) (L : z_L) : Prop := L.length = nL ∧ lv_has ls nL (z_as L) ∧ (lg = false → ∀ (k : Nat) (v : Value), L[k]? = some (some v) → v.category = 1)
theorem z_LH.get {lg : Bool} {nL : Nat} {ls : Array Slot} {L : z_L} (h : z_LH lg nL ls L) {k : Nat} {v : Value} (hk : L[k]? = some (some v)) : ls[k]? = some (.val v) := h.2.1.2.2 (k, v) (z_as_mem.mpr hk)
theorem z_LH.set {lg : Bool} {nL : Nat} {ls ls' : Array Slot} {L : z_L} (h : z_LH lg nL ls L) {i : Nat} {v : Value} (hi : i < L.length) (h2 : lg = false ∨ z_ok2 L i = true) (hv : v.category = 1)
    (h' : lv_has ls' nL ((i, v) :: (z_as L).filter (fun q => !(q.1 == i) && !(q.1 + 1 == i && q.2.category == 2)))) : z_LH lg nL ls' (L.set i (some v)) := by
  have key : ∀ (k : Nat) (w : Value), (L.set i (some v))[k]? = some (some w) → (k = i ∧ w = v) ∨ (k ≠ i ∧ L[k]? = some (some w)) := by
    intro k w hk
    by_cases hki : k = i
    · subst hki
      rw [List.getElem?_set_self hi] at hk
      exact Or.inl ⟨rfl, (Option.some.inj (Option.some.inj hk)).symm⟩
    · rw [List.getElem?_set_ne (Ne.symm hki)] at hk
      exact Or.inr ⟨hki, hk⟩
  refine ⟨by rw [List.length_set]; exact h.1, ⟨h'.1, h'.2.1, fun q hq => ?_⟩, fun hl k w hk => ?_⟩
  · obtain ⟨k, w⟩ := q
    rcases key k w (z_as_mem.mp hq) with ⟨rfl, rfl⟩ | ⟨hne, hL⟩
    · exact h'.2.2 _ List.mem_cons_self
    · refine h'.2.2 _ (List.mem_cons_of_mem _ (List.mem_filter.mpr ⟨z_as_mem.mpr hL, ?_⟩))
      have hc : ¬ (k + 1 = i ∧ w.category = 2) := by
        rintro ⟨rfl, hw⟩
        rcases h2 with h2 | h2
        · rw [h.2.2 h2 k w hL] at hw; cases hw
        · simp only [z_ok2, hL, beq_iff_eq] at h2
          rw [h2] at hw; cases hw
      simp only [Bool.and_eq_true, Bool.not_eq_true', beq_eq_false_iff_ne, ne_eq, Bool.and_eq_false_iff]
      refine ⟨hne, ?_⟩
      by_cases h1 : k + 1 = i
      · exact Or.inr (fun h3 => hc ⟨h1, h3⟩)
      · exact Or.inl h1
  · rcases key k w hk with ⟨rfl, rfl⟩ | ⟨hne, hL⟩
    · exact hv
    · exact h.2.2 hl k w hL
theorem z_LH.setL {nL : Nat} {ls ls' : Array Slot} {L : z_L} (h : z_LH true nL ls L) {i : Nat} {x : Int64} (hi : i + 1 < L.length) (h2 : z_ok2 L i = true)
    (h' : lv_has ls' nL ((i, Value.long x) :: (z_as L).filter (fun q => !(q.1 == i) && (!(q.1 == i + 1) && !(q.1 + 1 == i && q.2.category == 2))))) : z_LH true nL ls' ((L.set i (some (.long x))).set (i + 1) none) := by
  refine ⟨by rw [List.length_set, List.length_set]; exact h.1, ⟨h'.1, h'.2.1, fun q hq => ?_⟩, fun hl => by cases hl⟩
  obtain ⟨k, w⟩ := q
  have hk := z_as_mem.mp hq
  by_cases h1 : k = i + 1
  · subst h1
    rw [List.getElem?_set_self (by rw [List.length_set]; exact hi)] at hk
    cases hk
  · rw [List.getElem?_set_ne (Ne.symm h1)] at hk
    by_cases hki : k = i
    · subst hki
      rw [List.getElem?_set_self (by omega)] at hk
      obtain rfl := Option.some.inj (Option.some.inj hk)
      exact h'.2.2 _ List.mem_cons_self
    · rw [List.getElem?_set_ne (Ne.symm hki)] at hk
      refine h'.2.2 _ (List.mem_cons_of_mem _ (List.mem_filter.mpr ⟨z_as_mem.mpr hk, ?_⟩))
      have hc : ¬ (k + 1 = i ∧ w.category = 2) := by
        rintro ⟨rfl, hw⟩
        simp only [z_ok2, hk, beq_iff_eq] at h2
        rw [h2] at hw; cases hw
      simp only [Bool.and_eq_true, Bool.not_eq_true', beq_eq_false_iff_ne, ne_eq, Bool.and_eq_false_iff]
      refine ⟨hki, h1, ?_⟩
      by_cases h3 : k + 1 = i
      · exact Or.inr (fun h4 => hc ⟨h3, h4⟩)
      · exact Or.inl h3
theorem z_LH.entry {T : z_T} {As : List Value} {L : z_L} (h : z_ent T As = some L) : z_LH (z_lg T) (z_mL T) ((lg_sl As ++ List.replicate (z_mL T - (lg_sl As).length) Slot.unset).toArray) L := by
  unfold z_ent at h
  split at h
  · rename_i hc
    obtain ⟨hc1, hc2⟩ := hc
    obtain rfl := Option.some.inj h
    have he := lv_entry As (n := z_mL T) hc2
    have key : ∀ (k : Nat) (v : Value), ((lg_sl As ++ List.replicate (z_mL T - (lg_sl As).length) Slot.unset).map z_phi)[k]? = some (some v) → (lg_sl As ++ List.replicate (z_mL T - (lg_sl As).length) Slot.unset)[k]? = some (.val v) := by
      intro k v hk
      rw [List.getElem?_map] at hk
      cases hs : (lg_sl As ++ List.replicate (z_mL T - (lg_sl As).length) Slot.unset)[k]? with
      | none => rw [hs] at hk; cases hk
      | some sl =>
        rw [hs] at hk
        have hk2 := Option.some.inj hk
        cases sl with
        | unset => cases hk2
        | second => cases hk2
        | val w => rw [Option.some.inj (show some w = some v from hk2)]
    refine ⟨by rw [List.length_map, List.length_append, List.length_replicate]; omega, ⟨he.1, he.2.1, fun q hq => ?_⟩, fun hl k v hk => ?_⟩
    · obtain ⟨k, v⟩ := q
      have := key k v (z_as_mem.mp hq)
      simpa using this
    · rcases hc1 with hc1 | hc1
      · rw [hl] at hc1; cases hc1
      · have hm := List.mem_of_getElem? (key k v hk)
        rcases List.mem_append.mp hm with hm | hm
        · unfold lg_sl at hm
          obtain ⟨w, hw, hm⟩ := List.mem_flatMap.mp hm
          have hcat := List.all_eq_true.mp hc1 w hw
          simp only [beq_iff_eq] at hcat
          rw [if_neg (by rw [hcat]; decide)] at hm
          have := List.mem_singleton.mp hm
          cases this
          exact hcat
        · have := (List.mem_replicate.mp hm).2
          cases this
  · cases h
def z_In (Z : z_P) (T : z_T) (lim : Nat) (L : z_L) (M : z_M) (s : State) (H : Heap) (locs : List Loc) (cells slots : Nat) (ls : Array Slot) : Prop :=
  z_LH (z_lg T) (z_mL T) ls L ∧ z_G Z M H ∧ va_S (fun q => z_n0 Z ≤ q) s.heap H locs ∧ z_n0 Z ≤ s.heap.size ∧ M.1 = s.heap.size + cells ∧ slots = 6797 * cells ∧ M.1 ≤ lim ∧ lim = s.heap.size + z_mc T
/-- the frame stands at its end, with this answer -/
def z_rp (T : z_T) (pc : Nat) (st : List Value) (v : Option Value) : Prop :=
  (∃ x, z_rt T = some .int ∧ decode (z_cc T) pc = .ok (.ireturn, 1) ∧ st = [.int x] ∧ v = some (.int x)) ∨
  (∃ x, z_rt T = some .boolean ∧ decode (z_cc T) pc = .ok (.ireturn, 1) ∧ st = [.int x] ∧ v = some (.int x) ∧ (x = 0 ∨ x = 1)) ∨
  (∃ x, z_rt T = some .long ∧ decode (z_cc T) pc = .ok (.lreturn, 1) ∧ st = [.long x] ∧ v = some (.long x)) ∨
  (∃ x, z_rt T = some .float ∧ decode (z_cc T) pc = .ok (.freturn, 1) ∧ st = [.float x] ∧ v = some (.float x)) ∨
  (z_rt T = none ∧ decode (z_cc T) pc = .ok (.return_, 1) ∧ st = [] ∧ v = none)
def z_Rt (l : Launch) (Z : z_P) (T : z_T) (lim : Nat) (r : z_R) (p : Program) (e : Env) (R : Room) (s : State) (m : MethodId) (args : Array Value) (below : List Frame) (meth : Method) (c : Code) (Q : State → Prop) : Prop :=
  ∀ (H : Heap) (locs : List Loc) (ls : Array Slot) (pc : Nat) (st : List Value), z_G Z r.2 H → va_S (fun q => z_n0 Z ≤ q) s.heap H locs → r.2.1 = lim → z_rp T pc st r.1 → W p l e R s m args below meth c H locs (z_mc T) (6797 * z_mc T) Q (F0 m pc ls st)
def z_Sim (l : Launch) (Z : z_P) (T : z_T) (lim pc : Nat) (L : z_L) (st : List Value) (M : z_M) (r : z_R) : Prop :=
  ∀ (p : Program) (e : Env) (R : Room) (s : State) (m : MethodId) (args : Array Value) (below : List Frame) (meth : Method) (c : Code) (Q : State → Prop), z_K Z T p R s m args meth c →
  ∀ (H : Heap) (locs : List Loc) (cells slots : Nat) (ls : Array Slot), z_In Z T lim L M s H locs cells slots ls → z_Rt l Z T lim r p e R s m args below meth c Q → W p l e R s m args below meth c H locs cells slots Q (F0 m pc ls st)
section ZS
variable {l : Launch} {Z : z_P} {T : z_T} {lim pc : Nat} {L : z_L} {st : List Value} {M : z_M} {r : z_R}
/-- an instruction that moves the stack alone -/
theorem z_pure {pc' : Nat} {st' : List Value} (hW : ∀ {p : Program} {e : Env} {R : Room} {s : State} {m : MethodId} {args : Array Value} {below : List Frame} {meth : Method} {c : Code} {Q : State → Prop} {H : Heap} {locs : List Loc} {cells slots : Nat} {ls : Array Slot}, z_K Z T p R s m args meth c → z_In Z T lim L M s H locs cells slots ls → W p l e R s m args below meth c H locs cells slots Q (F0 m pc' ls st') → W p l e R s m args below meth c H locs cells slots Q (F0 m pc ls st))
    (k : z_Sim l Z T lim pc' L st' M r) : z_Sim l Z T lim pc L st M r := by
  intro p e R s m args below meth c Q K H locs cells slots ls I hr
  exact hW K I (k p e R s m args below meth c Q K H locs cells slots ls I hr)
/-- an instruction that writes a local -/
theorem z_loc {pc' : Nat} {st' : List Value} {L' : z_L} (hW : ∀ {p : Program} {e : Env} {R : Room} {s : State} {m : MethodId} {args : Array Value} {below : List Frame} {meth : Method} {c : Code} {Q : State → Prop} {H : Heap} {locs : List Loc} {cells slots : Nat} {ls : Array Slot}, z_K Z T p R s m args meth c → z_LH (z_lg T) (z_mL T) ls L → (∀ ls', z_LH (z_lg T) (z_mL T) ls' L' → W p l e R s m args below meth c H locs cells slots Q (F0 m pc' ls' st')) → W p l e R s m args below meth c H locs cells slots Q (F0 m pc ls st))
    (k : z_Sim l Z T lim pc' L' st' M r) : z_Sim l Z T lim pc L st M r := by
  intro p e R s m args below meth c Q K H locs cells slots ls I hr
  exact hW K I.1 (fun ls' h' => k p e R s m args below meth c Q K H locs cells slots ls' ⟨h', I.2⟩ hr)
theorem z_hold.kept {a : Nat} {e : z_E} {H H1 : Heap} (h : z_hold Z a e H) (hq : H1[a]? = H[a]?) : z_hold Z a e H1 := by
  rcases h with ⟨h1, h2⟩ | ⟨fs, h1, h2, h3, h4⟩
  · exact Or.inl ⟨h1, h2.kept hq⟩
  · exact Or.inr ⟨fs, h1, h2, by rw [hq]; exact h3, h4⟩
/-- a cell was written -/
theorem z_G.put {a : Nat} {e : z_E} {H H1 : Heap} (h : z_G Z M H) (ha : z_n0 Z ≤ a) (he : va_at (z_D Z) vwCl (a, z_e Z e) H1) (hz : H1.size = H.size) (ho : ∀ q, q ≠ a → H1[q]? = H[q]?) : z_G Z (z_up M a e) H1 := by
  refine ⟨hz.trans h.1, h.2.1, fun x e' hx => ?_⟩
  show z_hold Z x e' H1
  have hx' : (if x = a then some e else M.2 x) = some e' := hx
  by_cases hxa : x = a
  · subst hxa
    rw [if_pos rfl] at hx'
    obtain rfl := Option.some.inj hx'
    exact Or.inl ⟨ha, he⟩
  · rw [if_neg hxa] at hx'
    exact (h.2.2 x e' hx').kept (ho x hxa)
/-- a cell was made -/
theorem z_G.push {e : z_E} {H H1 : Heap} (h : z_G Z M H) (he : va_at (z_D Z) vwCl (M.1, z_e Z e) H1) (hz : H1.size = M.1 + 1) (ho : ∀ q, q < M.1 → H1[q]? = H[q]?) : z_G Z (z_nw M e) H1 := by
  refine ⟨hz, Nat.le_succ_of_le h.2.1, fun x e' hx => ?_⟩
  have hx' : (if x = M.1 then some e else M.2 x) = some e' := hx
  by_cases hxa : x = M.1
  · subst hxa
    rw [if_pos rfl] at hx'
    obtain rfl := Option.some.inj hx'
    exact Or.inl ⟨h.2.1, he⟩
  · rw [if_neg hxa] at hx'
    have h1 := h.2.2 x e' hx'
    have hlt : x < M.1 := by
      rw [← h.1]
      rcases h1 with ⟨-, h2⟩ | ⟨fs, -, -, h2, -⟩
      · exact h2.lt
      · exact (Array.getElem?_eq_some_iff.mp h2).1
    exact h1.kept (ho x hlt)
/-- the heap's cell of an object or array that isn't the script -/
theorem z_G.at {a : Nat} {e : z_E} {H : Heap} (h : z_G Z M H) (hm : M.2 a = some e) (hne : ∀ fs, e ≠ .inr (99, fs)) : z_n0 Z ≤ a ∧ va_at (z_D Z) vwCl (a, z_e Z e) H := by
  rcases h.2.2 a e hm with h1 | ⟨fs, h1, -⟩
  · exact h1
  · exact absurd h1 (hne fs)
/-- going on over a heap with a cell written -/
theorem z_wrote {pc' : Nat} {st' : List Value} {a : Nat} {e : z_E} (k : z_Sim l Z T lim pc' L st' (z_up M a e) r) {p : Program} {en : Env} {R : Room} {s : State} {m : MethodId} {args : Array Value} {below : List Frame} {meth : Method} {c : Code} {Q : State → Prop} {H H1 : Heap} {locs : List Loc} {cells slots j : Nat} {ls : Array Slot} (K : z_K Z T p R s m args meth c) (I : z_In Z T lim L M s H locs cells slots ls) (hr : z_Rt l Z T lim r p en R s m args below meth c Q)
    (ha : z_n0 Z ≤ a) (he : va_at (z_D Z) vwCl (a, z_e Z e) H1) (hz : H1.size = H.size) (ho : ∀ q, q ≠ a → H1[q]? = H[q]?) : W p l en R s m args below meth c H1 (locs ++ [⟨a, j⟩]) cells slots Q (F0 m pc' ls st') :=
  k p en R s m args below meth c Q K H1 _ cells slots ls ⟨I.1, I.2.1.put ha he hz ho, I.2.2.1.put hz ho ha, I.2.2.2⟩ hr
end ZS
