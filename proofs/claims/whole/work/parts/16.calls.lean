/-! natives, ends of methods, calls; and the whole: what the light machine comes to, the machine comes to -/
theorem z_cat (l : List Value) : (l.map fun v => v.category).sum ≤ 2 * l.length := by
  induction l with
  | nil => simp
  | cons v l ih =>
    have : v.category ≤ 2 := by cases v <;> simp [Value.category]
    simp only [List.map_cons, List.sum_cons, List.length_cons]
    omega
section ZCOPY
variable {p : Program} {l : Launch} {e : Env} {R : Room} {s : State} {m : MethodId} {args : Array Value} {below : List Frame} {meth : Method} {c : Code} {H : Heap} {locs : List Loc} {cells slots : Nat} {Q : State → Prop} {pc a a0 : Nat} {ls : Array Slot} {rest : List Value}
theorem zf_copy {cc : ByteArray} (hexec : p.tables.exec = Jvm.exec) (hb : c.code = cc) (hml : c.maxLocals = ls.size) {own : String} {index : Nat} (hown : s.vm.findClass own = some m.cls) (hlink : (Cond.methodLink own index arraycopyName).before args s = true) (hnat : (Cond.native arraycopyName).before args s = true) (hstat : (Cond.static arraycopyName).before args s = true) (hini : (Cond.initialized "java/lang/System").before args s = true)
    {α : Type} (mk : α → Value) (ty : FieldType) (cA : ClassId) (hA : ArrOfT s cA ty) {n0 n1 : Nat} {f g : Nat → α} (hc0 : H[a0]? = some (arrV cA n0 (fun j => mk (f j)))) (hc1 : H[a]? = some (arrV cA n1 (fun j => mk (g j)))) (hprim : refKind ty = false)
    {sp dp n : Int32} (h1 : ¬ sp < 0) (h2 : ¬ dp < 0) (h3 : ¬ n < 0) (h4 : sp.toNatClampNeg + n.toNatClampNeg ≤ n0) (h5 : dp.toNatClampNeg + n.toNatClampNeg ≤ n1) (hfit : ∀ x, fits ty (mk x) = true) (htk : ∀ (U : State) (cm : ClassId) (x : α), U.takes cm (mk x))
    (hframes : 1 ≤ R.frames) (hlocals : (rest.map fun v => v.category).sum + 18 ≤ R.locals) (hdg : decode cc pc = .ok (.invokestatic index, 3))
    (kk : ∀ (H1 : Heap) (locs1 : List Loc), H1[a]? = some (arrV cA n1 (fun j => mk (va_cpy f g sp.toNatClampNeg dp.toNatClampNeg n.toNatClampNeg j))) → H1.size = H.size → (∀ q : Nat, q ≠ a → H1[q]? = H[q]?) → (∀ q ∈ locs1, q ∈ locs ∨ q.base = a) → W p l e R s m args below meth c H1 locs1 cells slots Q (F0 m (pc + 3) ls rest)) : W p l e R s m args below meth c H locs cells slots Q (F0 m pc ls (.int n :: .int dp :: .ref a :: .int sp :: .ref a0 :: rest)) := by
  have nn : ∀ z : Int32, ¬ z < 0 → z.toInt = (z.toNatClampNeg : Int) := by
    intro z hz
    have hz0 : (0 : Int) ≤ z.toInt := by
      have := Int32.not_lt.mp hz
      simpa using Int32.le_iff_toInt_le.mp this
    show z.toInt = ((z.toInt.toNat : Nat) : Int)
    omega
  intro T hT X
  have hw : nativeFrameWords "java/lang/System" "arraycopy" 5 = 7 := by decide
  obtain ⟨-, k0, hk0, cm0, hkk0⟩ := hA n0 (fun j => mk (f j))
  obtain ⟨-, k1, hk1, cm1, hkk1⟩ := hA n1 (fun j => mk (g j))
  obtain ⟨vm', X', step⟩ := X.arraycopy hexec hown hlink hnat hstat hini (src := a0) (dst := a) (cs := arrV cA n0 (fun j => mk (f j))) (cd := arrV cA n1 (fun j => mk (g j))) (srcPos := sp) (destPos := dp) (n := n) (by rw [hT]; exact hc0) (by rw [hT]; exact hc1)
    (fun _ h => by cases h) (fun _ h => by cases h) (fun h => by cases h) (fun h => by cases h) hk0 hk1 hkk0 hkk1 (by simp [hprim]) h1 h2 h3
    (by rw [nn sp h1, nn n h3, arrV_size]; omega)
    (by rw [nn dp h2, nn n h3, arrV_size]; omega)
    (fun vm₁ _ i hi => by
      have e : (arrV cA n0 (fun j => mk (f j))).slots.getD (sp.toNatClampNeg + i) .null = mk (f (sp.toNatClampNeg + i)) := by
        rw [Array.getD_eq_getD_getElem?, arrV_read _ _ (by omega)]
        rfl
      refine ⟨?_, ?_⟩
      · rw [e]
        exact hfit _
      · rw [e]
        exact htk _ _ _)
    (g := F0 m pc ls (.int n :: .int dp :: .ref a :: .int sp :: .ref a0 :: rest)) rfl (by rw [hml]) (rest := rest) rfl (by rw [hb]; exact hdg) hframes (by show 2 * 0 + _ + _ ≤ _; omega)
  have e1 : copied (arrV cA n0 (fun j => mk (f j))) (arrV cA n1 (fun j => mk (g j))) sp dp n = arrV cA n1 (fun j => mk (va_cpy f g sp.toNatClampNeg dp.toNatClampNeg n.toNatClampNeg j)) := va_copied mk cA cA f g h4
  rw [e1] at X' step
  have hl : a < H.size := (Array.getElem?_eq_some_iff.mp hc1).1
  have hheap : ((T.setVm vm').setCell a (arrV cA n1 (fun j => mk (va_cpy f g sp.toNatClampNeg dp.toNatClampNeg n.toNatClampNeg j)))).heap = H.setIfInBounds a (arrV cA n1 (fun j => mk (va_cpy f g sp.toNatClampNeg dp.toNatClampNeg n.toNatClampNeg j))) := by rw [← hT]; rfl
  obtain ⟨t, a1, b1⟩ := kk _ _ (show (H.setIfInBounds a _)[a]? = some _ by simp [Array.getElem?_setIfInBounds, hl]) (by simp) (fun q hq => by simp [Array.getElem?_setIfInBounds, Ne.symm hq]) (fun q hq => by
      rcases List.mem_append.mp hq with h | h
      · exact Or.inl h
      · obtain ⟨z, -, hz⟩ := List.mem_map.mp h
        rw [← hz]
        exact Or.inr rfl) _ hheap X'
  exact ⟨t, step t a1, b1⟩
end ZCOPY
theorem arrV_congr (cA : ClassId) {N : Nat} {f g : Nat → Value} (h : ∀ j, j < N → f j = g j) : arrV cA N f = arrV cA N g := by
  unfold arrV
  congr 1
  apply congrArg
  funext j
  exact h j.1 j.2
theorem va_cpy_all {α : Type} (f g : Nat → α) {n k : Nat} (h : k < n) : va_cpy f g 0 0 n k = f k := by
  unfold va_cpy
  rw [if_pos (by omega), Nat.zero_add, Nat.sub_zero]
section ZNAT
variable {l : Launch} {Z : z_P} {T : z_T} {lim pc : Nat} {L : z_L} {st : List Value} {M : z_M} {r : z_R} {o : z_S}
theorem z_wrote2 {pc' : Nat} {st' : List Value} {a : Nat} {e : z_E} (k : z_Sim l Z T lim pc' L st' (z_up M a e) r) {p : Program} {en : Env} {R : Room} {s : State} {m : MethodId} {args : Array Value} {below : List Frame} {meth : Method} {c : Code} {Q : State → Prop} {H H1 : Heap} {locs locs1 : List Loc} {cells slots : Nat} {ls : Array Slot} (K : z_K Z T p R s m args meth c) (I : z_In Z T lim L M s H locs cells slots ls) (hr : z_Rt l Z T lim r p en R s m args below meth c Q)
    (ha : z_n0 Z ≤ a) (he : va_at (z_D Z) vwCl (a, z_e Z e) H1) (hz : H1.size = H.size) (ho : ∀ q, q ≠ a → H1[q]? = H[q]?) (hl : ∀ q ∈ locs1, q ∈ locs ∨ q.base = a) : W p l en R s m args below meth c H1 locs1 cells slots Q (F0 m pc' ls st') := by
  have h3 := I.2.2.1
  refine k p en R s m args below meth c Q K H1 _ cells slots ls ⟨I.1, I.2.1.put ha he hz ho, ⟨by rw [hz]; exact h3.1, fun q h1 h2 => ?_, fun q hq => ?_⟩, I.2.2.2⟩ hr
  · rw [ho q (fun e => h2 (by rw [e]; exact ha))]
    exact h3.2.1 q h1 h2
  · rcases hl q hq with h | h
    · exact h3.2.2 q h
    · rw [h]; exact ha
theorem zs_nat {kd i : Nat} (hd2 : kd = 2 → decode (z_cc T) pc = .ok (.invokespecial i, 3)) (hd0 : kd = 0 → decode (z_cc T) pc = .ok (.invokestatic i, 3)) (h : z_nat T kd i pc L st M = some o) (c : z_Cont l Z T lim o r) : z_Sim l Z T lim pc L st M r := by
  unfold z_nat at h
  split at h
  · rename_i a st' hnt
    split at h
    · rename_i hc
      obtain ⟨hc1, hc2, hc3⟩ := hc
      obtain rfl := Option.some.inj h
      have hw := z_cat st'
      refine z_pure (fun K I w => ?_) c
      have k1 := K.2.2.2.2.2.2.2.2.2.1
      have k2 := K.2.2.2.2.2.2.2.2.2.2.1
      exact W.objInit K.1 K.2.1 K.2.2.2.1 (K.2.2.2.2.1 _ (z_okR_all hnt)) (K.2.2.2.2.1 _ z_wO1) (K.2.2.2.2.1 _ z_wO2) rfl (by rw [K.2.2.1]; exact I.1.2.1.1) rfl (hd2 rfl) (by omega) (by show 2 * 0 + _ + _ ≤ _; omega) w
    · cases h
  · rename_i n dp a sp a0 st' hnt
    split at h
    · rename_i hc
      obtain ⟨hc1, hc2, hc3⟩ := hc
      have hw := z_cat st'
      cases hz : z_cpy (M.2 a0) (M.2 a) sp dp n with
      | none => rw [hz] at h; cases h
      | some e' =>
        rw [hz] at h
        obtain rfl := Option.some.inj h
        unfold z_cpy at hz
        split at hz
        · rename_i n0 f n1 g hm0 hm1
          split at hz
          · rename_i hx
            obtain ⟨rfl, rfl, x3, rfl, x5⟩ := hx
            obtain rfl := Option.some.inj hz
            have z0 : (0 : Int32).toNatClampNeg = 0 := by decide
            have zn : ¬ (0 : Int32) < 0 := by decide
            intro p e R s m args below meth cd Q K H locs cells slots ls I hr
            have k1 := K.2.2.2.2.2.2.2.2.2.1
            have k2 := K.2.2.2.2.2.2.2.2.2.2.1
            have hat0 := z_inArr I.2.1 hm0
            have hat1 := z_inArr I.2.1 hm1
            exact zf_copy (n0 := n.toNatClampNeg) (n1 := n1) (f := f) (g := g) K.1 K.2.1 (by rw [K.2.2.1]; exact I.1.2.1.1.symm) K.2.2.2.1 (K.2.2.2.2.1 _ (z_okR_all hnt)) (K.2.2.2.2.1 _ z_wA1) (K.2.2.2.2.1 _ z_wA2) (K.2.2.2.2.1 _ z_wA3) Value.int .int (z_cI Z) (K.2.2.2.2.2.1.1.2 0 _ rfl).1 hat0.2 hat1.2 rfl zn zn x3 (by omega) (by omega) (fun _ => rfl) (fun _ _ _ => trivial) (by omega) (by omega) (hd0 rfl)
              (fun H1 locs1 e1 e2 e3 e4 => by
                refine z_wrote2 c K I hr hat1.1 ?_ e2 e3 e4
                show H1[a]? = some (arrV (z_cI Z) n1 (fun j => Value.int (f j)))
                refine Eq.trans e1 (congrArg some (arrV_congr (z_cI Z) (N := n1) (fun j hj => ?_)))
                rw [z0, va_cpy_all _ _ (by omega)])
          · cases hz
        · rename_i n0 f n1 g hm0 hm1
          split at hz
          · rename_i hx
            obtain ⟨rfl, rfl, x3, rfl, x5⟩ := hx
            obtain rfl := Option.some.inj hz
            have z0 : (0 : Int32).toNatClampNeg = 0 := by decide
            have zn : ¬ (0 : Int32) < 0 := by decide
            intro p e R s m args below meth cd Q K H locs cells slots ls I hr
            have k1 := K.2.2.2.2.2.2.2.2.2.1
            have k2 := K.2.2.2.2.2.2.2.2.2.2.1
            have hat0 := z_inArr I.2.1 hm0
            have hat1 := z_inArr I.2.1 hm1
            exact zf_copy (n0 := n.toNatClampNeg) (n1 := n1) (f := f) (g := g) K.1 K.2.1 (by rw [K.2.2.1]; exact I.1.2.1.1.symm) K.2.2.2.1 (K.2.2.2.2.1 _ (z_okR_all hnt)) (K.2.2.2.2.1 _ z_wA1) (K.2.2.2.2.1 _ z_wA2) (K.2.2.2.2.1 _ z_wA3) Value.float .float (z_cF Z) (K.2.2.2.2.2.1.1.2 1 _ rfl).1 hat0.2 hat1.2 rfl zn zn x3 (by omega) (by omega) (fun _ => rfl) (fun _ _ _ => trivial) (by omega) (by omega) (hd0 rfl)
              (fun H1 locs1 e1 e2 e3 e4 => by
                refine z_wrote2 c K I hr hat1.1 ?_ e2 e3 e4
                show H1[a]? = some (arrV (z_cF Z) n1 (fun j => Value.float (f j)))
                refine Eq.trans e1 (congrArg some (arrV_congr (z_cF Z) (N := n1) (fun j hj => ?_)))
                rw [z0, va_cpy_all _ _ (by omega)])
          · cases hz
        · cases hz
    · cases h
  · rename_i x st' hnt
    split at h
    · rename_i hc
      obtain ⟨hc1, hc2, hc3⟩ := hc
      obtain rfl := Option.some.inj h
      have hw := z_cat st'
      refine z_pure (fun K I w => ?_) c
      have k1 := K.2.2.2.2.2.2.2.2.2.1
      have k2 := K.2.2.2.2.2.2.2.2.2.2.1
      exact vn_f2i K.1 K.2.1 (by rw [K.2.2.1]; exact I.1.2.1.1.symm) K.2.2.2.1 (K.2.2.2.2.1 _ (z_okR_all hnt)) (K.2.2.2.2.1 _ z_wF1) (K.2.2.2.2.1 _ z_wF2) (K.2.2.2.2.1 _ z_wF3) (by omega) (by omega) (hd0 rfl) w
    · cases h
  · cases h
/-- the ends -/
theorem z_end {v : Option Value} (h : z_fin0 T lim v M = some o) (c : z_Cont l Z T lim o r) (hrp : z_rp T pc st v) : z_Sim l Z T lim pc L st M r := by
  unfold z_fin0 at h
  split at h
  · rename_i hc
    obtain rfl := Option.some.inj h
    obtain rfl : (v, M) = r := c
    intro p e R s m args below meth cd Q K H locs cells slots ls I hr
    obtain ⟨i1, i2, i3, i4, i5, i6, i7, i8⟩ := I
    have hl : M.1 = lim := by
      rcases hc with hc | hc
      · rw [hc] at i8; omega
      · exact hc
    have hcells : cells = z_mc T := by omega
    subst hcells
    subst i6
    exact hr H locs ls pc st i2 i3 hl hrp
  · cases h
theorem zs_iret (hd : decode (z_cc T) pc = .ok (.ireturn, 1)) (h : z_iret T lim st M = some o) (c : z_Cont l Z T lim o r) : z_Sim l Z T lim pc L st M r := by
  unfold z_iret at h
  split at h
  · rename_i x ht
    exact z_end h c (Or.inl ⟨x, ht, hd, rfl, rfl⟩)
  · rename_i x ht
    split at h
    · rename_i hx
      exact z_end h c (Or.inr (Or.inl ⟨x, ht, hd, rfl, rfl, hx⟩))
    · cases h
  · cases h
theorem zs_lret (hd : decode (z_cc T) pc = .ok (.lreturn, 1)) (h : z_lret T lim st M = some o) (c : z_Cont l Z T lim o r) : z_Sim l Z T lim pc L st M r := by
  unfold z_lret at h
  split at h
  · rename_i x ht
    exact z_end h c (Or.inr (Or.inr (Or.inl ⟨x, ht, hd, rfl, rfl⟩)))
  · cases h
theorem zs_fret (hd : decode (z_cc T) pc = .ok (.freturn, 1)) (h : z_fret T lim st M = some o) (c : z_Cont l Z T lim o r) : z_Sim l Z T lim pc L st M r := by
  unfold z_fret at h
  split at h
  · rename_i x ht
    exact z_end h c (Or.inr (Or.inr (Or.inr (Or.inl ⟨x, ht, hd, rfl, rfl⟩))))
  · cases h
theorem zs_vret (hd : decode (z_cc T) pc = .ok (.return_, 1)) (h : z_vret T lim st M = some o) (c : z_Cont l Z T lim o r) : z_Sim l Z T lim pc L st M r := by
  unfold z_vret at h
  split at h
  · rename_i ht
    exact z_end h c (Or.inr (Or.inr (Or.inr (Or.inr ⟨ht, hd, rfl, rfl⟩))))
  · cases h
end ZNAT
/-- as Met.ofW, for a class that has rows of natives, of a method that has none -/
theorem z_ofWF {l : Launch} {y : MethodName} {ws ws' : List Cond} {rm : Room} {Pc : Array Value → State → Prop} {Qc : Array Value → State → Outcome → State → Prop} {mc ms : Nat} {free : Addr → Prop} {cc : ByteArray} {maxL : Nat} {ret : Option FieldType}
    (hy : plainFor y = true) (hw : ws = Cond.code y cc maxL ret :: ws')
    (body : ∀ p e s m args below meth c s₁, BodyLoose p l y (headSpec ws rm) cc maxL ret e s m args below meth c s₁ → c.maxLocals = maxL → Pc args s →
      W p l e (headSpec ws rm).room s m args below meth c s.heap [] 0 0 (MQ below Qc args s mc ms free) (entryFrame m args maxL)) : Met l y ws rm Pc Qc mc ms free := by
  refine MetFree.of_bodySF (code := cc) (maxLocals := maxL) (ret := ret) hy ?_ ?_
  · intro args s m h hn
    obtain ⟨meth, c, h1, h2, h3, h4, h5, h6, -, -⟩ := Cond.code_spec hn (atoms_spec (ws := ws) h _ (by rw [hw]; exact List.mem_cons_self))
    exact ⟨meth, c, h1, h2, h3, h4, h5, h6⟩
  · intro p e s m args below meth c s₁ B hml hP _
    have hh0 : s₁.heap = s.heap := by rw [B.state]; rfl
    obtain ⟨t, a1, o, b1, b2, b3⟩ := body p e s m args below meth c s₁ B hml hP s₁ hh0 (Stand.of_body B)
    exact ⟨t, o, a1, b1, b2, ⟨b3.1, b3.2⟩⟩
def z_rm (T : z_T) : Room := { frames := z_fr T, cells := z_mc T, slots := 6797 * z_mc T, locals := z_lo T }
def z_Pc (Z : z_P) (As : List Value) (M : z_M) : Array Value → State → Prop := fun v U => v = As.toArray ∧ z_G Z M U.heap ∧ z_Env Z U
def z_Qc (Z : z_P) (T : z_T) (M : z_M) (r : z_R) : Array Value → State → Outcome → State → Prop := fun _ st o t => o = .returned r.1 ∧ z_G Z r.2 t.heap ∧ r.2.1 = M.1 + z_mc T ∧ va_F (fun q => z_n0 Z ≤ q) st t
abbrev z_wsT (T : z_T) : List Cond := Cond.code T.1 (z_cc T) (z_mL T) (z_rt T) :: z_wsU
abbrev z_Mt (l : Launch) (Z : z_P) (T : z_T) (As : List Value) (M : z_M) (r : z_R) : Prop := Met l T.1 (z_wsT T) (z_rm T) (z_Pc Z As M) (z_Qc Z T M r) (z_mc T) (6797 * z_mc T) (fun q => z_n0 Z ≤ q)
theorem z_Pc_blind {Z : z_P} {As : List Value} {M : z_M} : FrameBlind (z_Pc Z As M) := by
  intro a U g mk h
  exact ⟨h.1, h.2.1, z_Env.warm (s := U) (State.WarmedH.refl U) h.2.2⟩
theorem z_Met {l : Launch} {Z : z_P} {T : z_T} {L : z_L} {As : List Value} {M : z_M} {r : z_R} (hT : z_okT T) (hE : z_ent T As = some L) (h : z_Sim l Z T (M.1 + z_mc T) 0 L [] M r) : z_Mt l Z T As M r := by
  refine z_ofWF (cc := z_cc T) (maxL := z_mL T) (ret := z_rt T) hT.1 rfl ?_
  intro p e s m args below meth c s₁ B hml hv
  obtain ⟨rfl, hG, hEn⟩ := hv
  have hts := atoms_spec (ws := z_wsT T) B.pre
  have hown : s.vm.findClass T.1.cls = some m.cls := findClass_of_methodNamed B.named
  rw [hT.2.2.2.2.2] at hown
  rw [lg_entry_eq]
  have hsz := hG.1
  refine h p e _ s m _ below meth c _ ⟨B.exec, B.bytes, hml, hown, fun w hw => hts w (List.mem_cons_of_mem _ hw), hEn, B.returns, B.notSynchronized, fun hn => (name_of_methodNamed B.named B.method).1.trans hn, Nat.le_refl _, Nat.le_refl _, Nat.le_refl _, Nat.le_refl _⟩ s.heap [] 0 0 _ ⟨z_LH.entry hE, hG, va_S.rf, by rw [hsz]; exact hG.2.1, by omega, rfl, by omega, by omega⟩ ?_
  intro H locs ls pc st hG' hS' hlim hrp
  have hr := B.returns
  have hlocks := B.notSynchronized
  rcases hrp with ⟨x, ht, hd, rfl, hv⟩ | ⟨x, ht, hd, rfl, hv, hx⟩ | ⟨x, ht, hd, rfl, hv⟩ | ⟨x, ht, hd, rfl, hv⟩ | ⟨ht, hd, rfl, hv⟩
  · rw [ht] at hr
    exact W.iret B.exec B.bytes hr (fun t ht hW => ⟨by rw [hv], by rw [ht]; exact hG', hlim, hS'.F ht⟩) hS'.2.2 hd
  · rw [ht] at hr
    exact W.zret B.exec B.bytes hr (by rcases hx with rfl | rfl <;> rfl) (fun t ht hW => ⟨by rw [hv], by rw [ht]; exact hG', hlim, hS'.F ht⟩) hS'.2.2 hd
  · rw [ht] at hr
    exact W.lret B.exec B.bytes hr (fun t ht hW => ⟨by rw [hv], by rw [ht]; exact hG', hlim, hS'.F ht⟩) hS'.2.2 hd
  · rw [ht] at hr
    exact W.fret B.exec B.bytes hr (fun t ht hW => ⟨by rw [hv], by rw [ht]; exact hG', hlim, hS'.F ht⟩) hS'.2.2 hd
  · rw [ht] at hr
    exact W.vret B.exec B.bytes hr (fun t ht hW => ⟨by rw [hv], by rw [ht]; exact hG', hlim, hS'.F ht⟩) hS'.2.2 hd
section ZCALL
variable {l : Launch} {Z : z_P} {T : z_T} {lim pc : Nat} {L : z_L} {st : List Value} {M : z_M} {r : z_R} {o : z_S}
theorem z_goodIn {T' : z_T} (hT : z_okT T') : GoodIn z_wsU (z_wsT T') := by
  intro w hw
  rcases List.mem_cons.mp hw with rfl | hw
  · exact ⟨hT.2.2.2.1, good_of_word (List.mem_filter.mp hT.2.2.2.1).2⟩
  · exact ⟨hw, good_of_word (List.mem_filter.mp hw).2⟩
/-- behind a call -/
theorem z_back {T' : z_T} {As rest : List Value} {r' : z_R} (k : z_Sim l Z T lim (pc + 3) L (r'.1.toList ++ rest) r'.2 r) (hlim : z_mc T' = 0 ∨ M.1 + z_mc T' ≤ lim) {p : Program} {e : Env} {R : Room} {s : State} {m : MethodId} {args : Array Value} {below : List Frame} {meth : Method} {c : Code} {Q : State → Prop} {H : Heap} {locs : List Loc} {cells slots : Nat} {ls : Array Slot} (K : z_K Z T p R s m args meth c) (I : z_In Z T lim L M s H locs cells slots ls) (hr : z_Rt l Z T lim r p e R s m args below meth c Q)
    (hrun : va_Run p l e R s m args below meth c H locs cells slots (z_mc T') (6797 * z_mc T') (F0 m pc ls st) rest (z_Qc Z T' M r' As.toArray) (fun q => z_n0 Z ≤ q)) : W p l e R s m args below meth c H locs cells slots Q (F0 m pc ls st) := by
  intro T0 hT0 X
  obtain ⟨v, st₀, t, T1, L1, h0, X', hL, e1, e2, ⟨hv, hG', hsz, hz, hk⟩, go⟩ := hrun T0 hT0 X
  obtain rfl : v = r'.1 := by cases hv; rfl
  obtain ⟨i1, i2, i3, i4, i5, i6, i7, i8⟩ := I
  rw [h0] at hz hk
  have hS1 : va_S (fun q => z_n0 Z ≤ q) s.heap T1.heap (locs ++ L1) := by
    refine ⟨Nat.le_trans i3.1 (by rw [e1]; exact hz), fun q h1 h2 => ?_, fun q hq => ?_⟩
    · rw [e1, hk q (Nat.lt_of_lt_of_le h1 i3.1) h2]
      exact i3.2.1 q h1 h2
    · rcases List.mem_append.mp hq with h | h
      · exact i3.2.2 q h
      · exact hL q h
  obtain ⟨t2, a1, b1⟩ := k p e R s m args below meth c Q K T1.heap (locs ++ L1) (cells + z_mc T') (slots + 6797 * z_mc T') ls ⟨i1, by rw [e1]; exact hG', hS1, i4, by omega, by omega, by omega, i8⟩ hr T1 rfl X'
  exact ⟨t2, go t2 a1, b1⟩
theorem zs_inv {cal : Nat → List Value → z_M → Option z_R} (hcal : ∀ mid T' As M' r', z_tab mid = some T' → z_okT T' → cal mid As M' = some r' → z_Mt l Z T' As M' r') {kd i : Nat} (hd1 : kd = 1 → decode (z_cc T) pc = .ok (.invokevirtual i, 3)) (hd2 : kd = 2 → decode (z_cc T) pc = .ok (.invokespecial i, 3)) (hd0 : kd = 0 → decode (z_cc T) pc = .ok (.invokestatic i, 3)) (h : z_inv cal T kd i lim pc L st M = some o) (c : z_Cont l Z T lim o r) : z_Sim l Z T lim pc L st M r := by
  unfold z_inv at h
  split at h
  · rename_i mid n kd' hml
    split at h
    · rename_i T' hT'
      split at h
      · rename_i hc
        obtain ⟨rfl, hn, hrest, hfr, hlo, hlim, hrcv⟩ := hc
        cases hz : cal mid (st.take n).reverse M with
        | none => rw [hz] at h; cases h
        | some r' =>
          rw [hz] at h
          obtain rfl := Option.some.inj h
          obtain ⟨T2, hT2, hok, hlink, hkd⟩ := z_okM_all hml
          have : T2 = T' := Option.some.inj (hT2.symm.trans hT')
          subst this
          have hM := hcal mid T2 _ M r' hT2 hok hz
          have hst : st = st.take n ++ st.drop n := (List.take_append_drop n st).symm
          have hlen : (st.take n).reverse.length = n := by rw [List.length_reverse, List.length_take]; omega
          have hcat := z_cat (st.drop n)
          generalize hAs : (st.take n).reverse = As at *
          generalize hrs : st.drop n = rest at *
          have hst2 : st = As.reverse ++ rest := by rw [hst, ← hAs, List.reverse_reverse]
          intro p e R s m args below meth cd Q K H locs cells slots ls I hr
          have hW : 2 * (F0 m pc ls st).monitorRoom + (rest.map fun v => v.category).sum ≤ 8 := by show 2 * 0 + _ ≤ _; omega
          have hsize : (F0 m pc ls st).locals.size = z_mL T := I.1.2.1.1
          have hcf : CallFix p m cd (z_cc T) (z_mL T) s args z_wsU (z_on (z_ow T)) := ⟨K.1, K.2.1, K.2.2.1, K.2.2.2.1, K.2.2.2.2.1⟩
          have hf : cells + z_mc T2 ≤ R.cells ∧ slots + 6797 * z_mc T2 ≤ R.slots := by
            obtain ⟨i1, i2, i3, i4, i5, i6, i7, i8⟩ := I
            have h1 := K.2.2.2.2.2.2.2.2.2.2.2.1
            have h2 := K.2.2.2.2.2.2.2.2.2.2.2.2
            constructor <;> omega
          have hroom : (z_rm T2).frames + 1 ≤ R.frames ∧ 8 + (z_mL T2 + 11) + (z_rm T2).locals ≤ R.locals := by
            have h1 := K.2.2.2.2.2.2.2.2.2.1
            have h2 := K.2.2.2.2.2.2.2.2.2.2.1
            constructor
            · show z_fr T2 + 1 ≤ _; omega
            · show 8 + (z_mL T2 + 11) + z_lo T2 ≤ _; omega
          have hPre : ∀ U : State, U.heap = H → s.WarmedH U.vm → z_Pc Z As M As.toArray U := fun U hU hWm => ⟨rfl, by rw [hU]; exact I.2.1, z_Env.warm hWm K.2.2.2.2.2.1⟩
          have hini := K.2.2.2.2.1 _ hok.2.2.2.2.1
          have hnest : ∀ {w : Cond}, w ∈ z_nest → va_Nw w s := fun hw => K.2.2.2.2.2.1.2.1 _ hw
          rcases hkd with ⟨rfl, hstat, hpar⟩ | ⟨rfl, hinst, hsel, k, hk, hpar⟩ | ⟨rfl, hinst, hname, hret, k, hk, hpar⟩
          · have hn' : n = n := rfl
            rcases hlink with hlink | hlink
            · exact z_back c hlim K I hr (va_runS hcf hM ⟨callB_of n K.2.2.2.2.1 (z_goodIn hok) rfl rfl rfl hini (K.2.2.2.2.1 _ hlink) ⟨hok.2.1, hok.2.2.1, hpar⟩ hroom, K.2.2.2.2.1 _ hstat⟩ ⟨z_Pc_blind, hPre⟩ rfl hlen hsize hst2 hW (hd0 rfl) hf)
            · exact z_back c hlim K I hr (va_runSN hcf hM ⟨va_cnB n K.2.2.2.2.1 (z_goodIn hok) rfl rfl rfl (hnest hlink) hini ⟨hok.2.1, hok.2.2.1, hpar⟩ hroom, K.2.2.2.2.1 _ hstat, trivial⟩ ⟨z_Pc_blind, hPre⟩ rfl hlen hsize hst2 hW (hd0 rfl) hf)
          · dsimp only at hk
            match As, hrcv, hlen, hst2, hPre, hM with
            | .ref b :: As2, hrcv, hlen, hst2, hPre, hM =>
              have hlen2 : As2.length = k := by simp at hlen; omega
              have hst3 : st = As2.reverse ++ .ref b :: rest := by rw [hst2]; simp
              have hrecv : ∃ cellB : Cell, H[b]? = some cellB ∧ cellB.vm.isStatics = false ∧ s.vm.findClass T2.1.cls = some cellB.cls := by
                have hb : z_isO (M.2 b) (z_ow T2) = true := hrcv
                unfold z_isO at hb
                split at hb
                · rename_i cb fb hmb
                  obtain ⟨hcb, h99⟩ : cb = z_ow T2 ∧ cb ≠ 99 := by simpa using hb
                  rcases I.2.1.2.2 b _ hmb with ⟨-, q, hq, cell, g1, g2, g3, -⟩ | ⟨fs, hq, -⟩
                  · refine ⟨cell, g1, by rw [g3]; rfl, ?_⟩
                    have h1 := (K.2.2.2.2.2.1.1.1 cb q hq).2.1
                    have h2 := (z_okC_all _ _ hq).2.2.2.2.2.2.2.2.1
                    rw [hok.2.2.2.2.2, ← hcb, h2, g2]
                    exact h1
                  · exfalso
                    cases hq
                    exact h99 rfl
                · cases hb
              rcases hlink with hlink | hlink
              · exact z_back c hlim K I hr (va_runV hcf hM ⟨callB_of k K.2.2.2.2.1 (z_goodIn hok) rfl rfl rfl hini (K.2.2.2.2.1 _ hlink) ⟨hok.2.1, hok.2.2.1, hpar⟩ hroom, K.2.2.2.2.1 _ hinst, K.2.2.2.2.1 _ hsel⟩ ⟨z_Pc_blind, hrecv, hPre⟩ rfl hlen2 hsize hst3 hW (hd1 rfl) hf)
              · exact z_back c hlim K I hr (va_runVN hcf hM ⟨va_cnB k K.2.2.2.2.1 (z_goodIn hok) rfl rfl rfl (hnest hlink) hini ⟨hok.2.1, hok.2.2.1, hpar⟩ hroom, K.2.2.2.2.1 _ hinst, K.2.2.2.2.1 _ hsel⟩ ⟨z_Pc_blind, hrecv, hPre⟩ rfl hlen2 hsize hst3 hW (hd1 rfl) hf)
          · dsimp only at hk
            match As, hrcv, hlen, hst2, hPre, hM with
            | .ref b :: As2, hrcv, hlen, hst2, hPre, hM =>
              have hlen2 : As2.length = k := by simp at hlen; omega
              have hst3 : st = As2.reverse ++ .ref b :: rest := by rw [hst2]; simp
              unfold z_Mt z_wsT at hM
              rw [hret] at hM
              have hgi := z_goodIn hok
              unfold z_wsT at hgi
              rw [hret] at hgi
              rcases hlink with hlink | hlink
              · exact z_back c hlim K I hr (va_runI hcf hM ⟨callB_of k K.2.2.2.2.1 hgi rfl rfl rfl hini (K.2.2.2.2.1 _ hlink) ⟨hok.2.1, hok.2.2.1, hpar⟩ hroom, hname, K.2.2.2.2.1 _ hinst⟩ ⟨z_Pc_blind, hPre⟩ rfl hlen2 hsize hst3 hW (hd2 rfl) hf)
              · exact z_back c hlim K I hr (va_runIN hcf hM ⟨va_cnB k K.2.2.2.2.1 hgi rfl rfl rfl (hnest hlink) hini ⟨hok.2.1, hok.2.2.1, hpar⟩ hroom, hname, K.2.2.2.2.1 _ hinst⟩ ⟨z_Pc_blind, hPre⟩ rfl hlen2 hsize hst3 hW (hd2 rfl) hf)
      · cases h
    · cases h
  · cases h
theorem zs_call {cal : Nat → List Value → z_M → Option z_R} (hcal : ∀ mid T' As M' r', z_tab mid = some T' → z_okT T' → cal mid As M' = some r' → z_Mt l Z T' As M' r') {kd i : Nat} (hd1 : kd = 1 → decode (z_cc T) pc = .ok (.invokevirtual i, 3)) (hd2 : kd = 2 → decode (z_cc T) pc = .ok (.invokespecial i, 3)) (hd0 : kd = 0 → decode (z_cc T) pc = .ok (.invokestatic i, 3)) (h : z_call cal T kd i lim pc L st M = some o) (c : z_Cont l Z T lim o r) : z_Sim l Z T lim pc L st M r := by
  unfold z_call at h
  split at h
  · exact zs_inv hcal hd1 hd2 hd0 h c
  · exact zs_nat hd2 hd0 h c
theorem zs_ins {cal : Nat → List Value → z_M → Option z_R} (hcal : ∀ mid T' As M' r', z_tab mid = some T' → z_okT T' → cal mid As M' = some r' → z_Mt l Z T' As M' r') {ins : Instr} {len : Nat} (hd : decode (z_cc T) pc = .ok (ins, len)) (hlen : z_len ins = 0 ∨ z_len ins = len) (h : z_ins cal T lim ins pc L st M = some o) (c : z_Cont l Z T lim o r) : z_Sim l Z T lim pc L st M r := by
  cases ins with
  | iload k => rcases hlen with h0 | rfl; cases h0; exact zs_iload hd h c
  | iload_n k => rcases hlen with h0 | rfl; cases h0; exact zs_iload_n hd h c
  | aload k => rcases hlen with h0 | rfl; cases h0; exact zs_aload hd h c
  | aload_n k => rcases hlen with h0 | rfl; cases h0; exact zs_aload_n hd h c
  | fload k => rcases hlen with h0 | rfl; cases h0; exact zs_fload hd h c
  | fload_n k => rcases hlen with h0 | rfl; cases h0; exact zs_fload_n hd h c
  | lload_n k => rcases hlen with h0 | rfl; cases h0; exact zs_lload_n hd h c
  | istore k => rcases hlen with h0 | rfl; cases h0; exact zs_istore hd h c
  | istore_n k => rcases hlen with h0 | rfl; cases h0; exact zs_istore_n hd h c
  | astore k => rcases hlen with h0 | rfl; cases h0; exact zs_astore hd h c
  | astore_n k => rcases hlen with h0 | rfl; cases h0; exact zs_astore_n hd h c
  | fstore k => rcases hlen with h0 | rfl; cases h0; exact zs_fstore hd h c
  | fstore_n k => rcases hlen with h0 | rfl; cases h0; exact zs_fstore_n hd h c
  | lstore_n k => rcases hlen with h0 | rfl; cases h0; exact zs_lstore_n hd h c
  | iinc k n => rcases hlen with h0 | rfl; cases h0; exact zs_iinc hd h c
  | iconst n => rcases hlen with h0 | rfl; cases h0; obtain rfl := Option.some.inj h; exact zs_iconst hd c
  | bipush n => rcases hlen with h0 | rfl; cases h0; obtain rfl := Option.some.inj h; exact zs_bipush hd c
  | sipush n => rcases hlen with h0 | rfl; cases h0; obtain rfl := Option.some.inj h; exact zs_sipush hd c
  | fconst f => rcases hlen with h0 | rfl; cases h0; exact zs_fconst hd h c
  | ldc i => rcases hlen with h0 | rfl; cases h0; exact zs_ldc hd h c
  | ldc_w i => rcases hlen with h0 | rfl; cases h0; exact zs_ldcw hd h c
  | ldc2_w i => rcases hlen with h0 | rfl; cases h0; exact zs_ldc2 hd h c
  | iadd => rcases hlen with h0 | rfl; cases h0; exact zs_iadd hd h c
  | isub => rcases hlen with h0 | rfl; cases h0; exact zs_isub hd h c
  | imul => rcases hlen with h0 | rfl; cases h0; exact zs_imul hd h c
  | idiv => rcases hlen with h0 | rfl; cases h0; exact zs_idiv hd h c
  | irem => rcases hlen with h0 | rfl; cases h0; exact zs_irem hd h c
  | ishl => rcases hlen with h0 | rfl; cases h0; exact zs_ishl hd h c
  | ishr => rcases hlen with h0 | rfl; cases h0; exact zs_ishr hd h c
  | iushr => rcases hlen with h0 | rfl; cases h0; exact zs_iushr hd h c
  | iand => rcases hlen with h0 | rfl; cases h0; exact zs_iand hd h c
  | ior => rcases hlen with h0 | rfl; cases h0; exact zs_ior hd h c
  | ixor => rcases hlen with h0 | rfl; cases h0; exact zs_ixor hd h c
  | ladd => rcases hlen with h0 | rfl; cases h0; exact zs_ladd hd h c
  | lmul => rcases hlen with h0 | rfl; cases h0; exact zs_lmul hd h c
  | fadd => rcases hlen with h0 | rfl; cases h0; exact zs_fadd hd h c
  | fsub => rcases hlen with h0 | rfl; cases h0; exact zs_fsub hd h c
  | fmul => rcases hlen with h0 | rfl; cases h0; exact zs_fmul hd h c
  | fdiv => rcases hlen with h0 | rfl; cases h0; exact zs_fdiv hd h c
  | fcmp op => rcases hlen with h0 | rfl; cases h0; exact zs_fcmp hd h c
  | lcmp => rcases hlen with h0 | rfl; cases h0; exact zs_lcmp hd h c
  | i2f => rcases hlen with h0 | rfl; cases h0; exact zs_i2f hd h c
  | f2i => rcases hlen with h0 | rfl; cases h0; exact zs_f2i hd h c
  | i2l => rcases hlen with h0 | rfl; cases h0; exact zs_i2l hd h c
  | dup => rcases hlen with h0 | rfl; cases h0; exact zs_dup hd h c
  | dup2 => rcases hlen with h0 | rfl; cases h0; exact zs_dup2 hd h c
  | goto off => rcases hlen with h0 | rfl; cases h0; exact zs_goto hd h c
  | if_icmp cnd off => rcases hlen with h0 | rfl; cases h0; exact zs_icmp hd h c
  | ifCond cnd off => rcases hlen with h0 | rfl; cases h0; exact zs_ifc hd h c
  | tableswitch d lo hi offs => exact zs_tsw hd h c
  | lookupswitch d ps => exact zs_lsw hd h c
  | getfield i => rcases hlen with h0 | rfl; cases h0; exact zs_getf hd h c
  | putfield i => rcases hlen with h0 | rfl; cases h0; exact zs_putf hd h c
  | iaload => rcases hlen with h0 | rfl; cases h0; exact zs_iald hd h c
  | faload => rcases hlen with h0 | rfl; cases h0; exact zs_fald hd h c
  | aaload => rcases hlen with h0 | rfl; cases h0; exact zs_aald hd h c
  | iastore => rcases hlen with h0 | rfl; cases h0; exact zs_iast hd h c
  | fastore => rcases hlen with h0 | rfl; cases h0; exact zs_fast hd h c
  | aastore => rcases hlen with h0 | rfl; cases h0; exact zs_aast hd h c
  | arraylength => rcases hlen with h0 | rfl; cases h0; exact zs_alen hd h c
  | new i => rcases hlen with h0 | rfl; cases h0; exact zs_new hd h c
  | newarray ty => rcases hlen with h0 | rfl; cases h0; exact zs_newa hd h c
  | anewarray i => rcases hlen with h0 | rfl; cases h0; exact zs_anew hd h c
  | invokevirtual i => rcases hlen with h0 | rfl; cases h0; exact zs_call hcal (fun _ => hd) (fun h => by cases h) (fun h => by cases h) h c
  | invokestatic i => rcases hlen with h0 | rfl; cases h0; exact zs_call hcal (fun h => by cases h) (fun h => by cases h) (fun _ => hd) h c
  | invokespecial i => rcases hlen with h0 | rfl; cases h0; exact zs_call hcal (fun h => by cases h) (fun _ => hd) (fun h => by cases h) h c
  | ireturn => rcases hlen with h0 | rfl; cases h0; exact zs_iret hd h c
  | lreturn => rcases hlen with h0 | rfl; cases h0; exact zs_lret hd h c
  | freturn => rcases hlen with h0 | rfl; cases h0; exact zs_fret hd h c
  | return_ => rcases hlen with h0 | rfl; cases h0; exact zs_vret hd h c
  | _ => cases h
end ZCALL
/-- SOUND -/
theorem z_sound (l : Launch) (Z : z_P) (n : Nat) : ∀ (mid : Nat) (T : z_T) (lim pc : Nat) (L : z_L) (st : List Value) (M : z_M) (r : z_R), z_tab mid = some T → z_run n mid lim pc L st M = some r → z_Sim l Z T lim pc L st M r := by
  induction n with
  | zero => intro mid T lim pc L st M r _ h; cases h
  | succ n ih =>
    intro mid T lim pc L st M r hT h
    rw [z_run, hT] at h
    simp only at h
    cases h2 : z_step (z_cal (z_run n)) T lim pc L st M with
    | none => rw [h2] at h; cases h
    | some o =>
      rw [h2] at h
      have hc : z_Cont l Z T lim o r := by
        rcases o with ⟨pc', L', st', M'⟩ | r'
        · exact ih mid T lim pc' L' st' M' r hT h
        · exact Option.some.inj h
      unfold z_step at h2
      split at h2
      · rename_i ins len hd
        split at h2
        · rename_i hlen
          refine zs_ins (fun mid' T' As M' r' hT' hok hcl => ?_) hd hlen h2 hc
          unfold z_cal at hcl
          rw [hT'] at hcl
          simp only at hcl
          cases hE : z_ent T' As with
          | none => rw [hE] at hcl; cases hcl
          | some L' =>
            rw [hE] at hcl
            exact z_Met hok hE (ih mid' T' _ 0 L' [] M' r' hT' hcl)
        · cases h2
      · cases h2
