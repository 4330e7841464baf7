/-! fields, arrays, new cells: the light machine's are the machine's -/
theorem z_P1 {D : va_G} {cl : List vw_C} {q : Nat × va_E} {H : Heap} (h : va_at D cl q H) : va_P D cl [q] H := by
  intro k x hk
  have hz : k < 1 := (List.getElem?_eq_some_iff.mp hk).1
  rw [show k = 0 by omega] at hk
  obtain rfl := Option.some.inj hk
  exact h
theorem z_ne99 {ci : Nat} {q : vw_C} (h : vwCl[ci]? = some q) : ci ≠ 99 := by
  rintro rfl
  cases h
theorem z_inObj {Z : z_P} {M : z_M} {H : Heap} {a ci : Nat} {q : vw_C} {fs : List Value} (h : z_G Z M H) (hm : M.2 a = some (.inr (ci, fs))) (hq : vwCl[ci]? = some q) : z_n0 Z ≤ a ∧ va_at (z_D Z) vwCl (a, .inr (ci, fs)) H :=
  h.at hm (fun fs' he => z_ne99 hq (by cases he; rfl))
theorem z_inArr {Z : z_P} {M : z_M} {H : Heap} {a : Nat} {x : vp_A} (h : z_G Z M H) (hm : M.2 a = some (.inl x)) : z_n0 Z ≤ a ∧ va_at (z_D Z) vwCl (a, .inl (z_cid Z x, x)) H :=
  h.at hm (fun fs' he => by cases he)
theorem z_ixb_in {i : Int32} {n : Nat} (h : z_ixb i n = true) : vp_in i n := by
  have h1 := of_decide_eq_true h
  rintro (h2 | h2)
  · exact h1.1 h2
  · omega
theorem z_pok_n {ty : FieldType} {v : Value} (h : z_pok ty v = true) : narrow ty v = v ∧ fits ty v = true := by
  unfold z_pok at h
  split at h
  · exact ⟨rfl, rfl⟩
  · rename_i x
    simp only [Bool.or_eq_true, beq_iff_eq] at h
    rcases h with rfl | rfl <;> exact ⟨rfl, rfl⟩
  · exact ⟨rfl, rfl⟩
  · exact ⟨rfl, rfl⟩
  · exact ⟨rfl, rfl⟩
  · exact ⟨rfl, rfl⟩
  · cases h
section ZMEM
variable {l : Launch} {Z : z_P} {T : z_T} {lim pc : Nat} {L : z_L} {st : List Value} {M : z_M} {r : z_R} {o : z_S}
theorem zs_getf {i : Nat} (hd : decode (z_cc T) pc = .ok (.getfield i, 3)) (h : z_getf (z_ow T) i pc L st M = some o) (c : z_Cont l Z T lim o r) : z_Sim l Z T lim pc L st M r := by
  unfold z_getf at h
  split at h
  · rename_i ci k a st' hfl
    cases hz : z_gf (M.2 a) ci k with
    | none => rw [hz] at h; cases h
    | some v =>
      rw [hz] at h
      obtain rfl := Option.some.inj h
      unfold z_gf at hz
      split at hz
      · rename_i cc fs hm
        split at hz
        · rename_i hc
          subst hc
          obtain ⟨⟨C, F, N⟩, hq, hk, hlink⟩ := z_okF_all hfl
          obtain ⟨hin, -, -, hsm, -⟩ := z_okC_all _ _ hq
          refine z_pure (fun K I w => ?_) c
          exact va_get K.1 K.2.1 K.2.2.2.2.1 hin K.2.2.2.1 K.2.2.2.2.2.1.1 (z_P1 (z_inObj I.2.1 hm hq).2) 0 rfl hq k hk (K.2.2.2.2.1 _ hlink) (fun x hx => by rw [hsm k hk] at hx; exact hx) hz hd w
        · cases hz
      · cases hz
  · cases h
/-- putfield, with what is known of the heap behind it -/
theorem zf_put {p : Program} {e : Env} {R : Room} {s : State} {m : MethodId} {args : Array Value} {below : List Frame} {meth : Method} {c : Code} {Q : State → Prop} {H : Heap} {locs : List Loc} {cells slots pc : Nat} {ls : Array Slot} {rest : List Value} {cc : ByteArray} {D : va_G} {tys : List (ClassId × FieldType)} {a : Nat} (hexec : p.tables.exec = Jvm.exec) (hb : c.code = cc) {own C : String} {F : u_T} {N ci index : Nat} {Ts : List Cond} (hts : ∀ w ∈ Ts, w.before args s = true) (hin : ∀ w ∈ u_ws C F N, w ∈ Ts) (ty0 : Nat → FieldType) (hty : ∀ k, k < N → parseFieldDescriptor (F k).2.2.1 = some (ty0 k)) (hnm : ∀ a, a < N → ∀ b, b < N → a ≠ b → (F a).2.1 ≠ (F b).2.1) (hown : s.vm.findClass own = some m.cls) (hK : va_K D vwCl tys s) {fs : List Value} (he : va_at D vwCl (a, .inr (ci, fs)) H) (hc : vwCl[ci]? = some (C, F, N)) (k : Nat) (hk : k < N) (hlink : (Cond.fieldLink own index C (F k).2.1 (F k).2.2.1).before args s = true) (hsm : (F k).1 = C)
    (hfin : (F k).2.2.2 = false ∨ (meth.name = "<init>" ∧ own = C)) {v : Value} (hn : narrow (ty0 k) v = v) (hfit : fits (ty0 k) v = true) (hl : k < fs.length) (hdg : decode cc pc = .ok (.putfield index, 3))
    (kk : ∀ (H1 : Heap) (j : Nat), va_at D vwCl (a, .inr (ci, fs.set k v)) H1 → H1.size = H.size → (∀ q : Nat, q ≠ a → H1[q]? = H[q]?) → W p l e R s m args below meth c H1 (locs ++ [⟨a, j⟩]) cells slots Q (F0 m (pc + 3) ls rest)) : W p l e R s m args below meth c H locs cells slots Q (F0 m pc ls (v :: .ref a :: rest)) := by
  have hap := va_apart (own := own) hts hin ty0 hty hnm hK hc
  obtain ⟨r, h1, cell, q1, q2, q3, q4⟩ := he
  have hr : r = (C, F, N) := Option.some.inj (h1.symm.trans hc)
  subst hr
  obtain ⟨hS, hfc, kC, hkC, hkind⟩ := hK.1 ci _ hc
  obtain ⟨cf, kf, fi, f, hi, hsl⟩ := hS k hk
  have hlay := hts _ (hin _ (u_in_lay hk))
  unfold u_lay at hlay
  have hst := (u_facts hfc hkC (u_lays hts hin hk) hi).1
  have hi' := hi
  rw [hsm] at hi'
  by_cases hf : (F k).2.2.2 = true
  · rw [if_pos hf] at hlay
    obtain ⟨hin2, hdecl⟩ : meth.name = "<init>" ∧ own = C := by
      rcases hfin with h | h
      · rw [hf] at h; cases h
      · exact h
    have hcf : m.cls = cf := by
      obtain ⟨_, _, c', _, _, _, -, -, hf', -, -, -, hown2, -⟩ := Cond.laysFinal_spec hlay
      have e1 : c' = cf := by have := hi.symm.trans hf'; simp at this; exact this.1.symm
      rw [hsm, ← hdecl] at hown2
      rw [← e1]; exact Option.some.inj (hown.symm.trans hown2)
    have h6 := u_fits hfc hkC hkind (Or.inr hlay) hi (hty k hk) hn hfit
    refine W.putFinK hexec hb hown hlink hi' hst hcf hin2 (by rw [q2]; exact h6) q1 q3 (by rw [hsl]; exact k2_hasslot (q4 k hk)) rfl rfl hdg fun H' e1 e2 e3 => ?_
    rw [hsl] at e1
    exact kk H' _ ⟨_, hc, t_OB.to (V := updV (vp_V fs) k v) ⟨_, e1, q2, q3, t_set q4 hap hk v⟩ (fun j _ => vp_updV_set hl v j)⟩ e2 e3
  · rw [if_neg hf] at hlay
    have h6 := u_store hfc hkC hkind hlay hi (hty k hk) hn hfit
    refine W.putK hexec hb (f := f) ⟨hown, hlink, ⟨_, _, _, hi'⟩, hst⟩ (by rw [q2]; exact h6) q1 q3 (by rw [hsl]; exact k2_hasslot (q4 k hk)) rfl rfl hdg fun H' e1 e2 e3 => ?_
    rw [hsl] at e1
    exact kk H' _ ⟨_, hc, t_OB.to (V := updV (vp_V fs) k v) ⟨_, e1, q2, q3, t_set q4 hap hk v⟩ (fun j _ => vp_updV_set hl v j)⟩ e2 e3
theorem zs_putf {i : Nat} (hd : decode (z_cc T) pc = .ok (.putfield i, 3)) (h : z_putf T i pc L st M = some o) (c : z_Cont l Z T lim o r) : z_Sim l Z T lim pc L st M r := by
  unfold z_putf at h
  split at h
  · rename_i ci k v a st' hfl
    split at h
    · rename_i hc
      obtain ⟨hp, hf⟩ := hc
      cases hz : z_pf (M.2 a) ci k v with
      | none => rw [hz] at h; cases h
      | some e' =>
        rw [hz] at h
        obtain rfl := Option.some.inj h
        unfold z_pf at hz
        split at hz
        · rename_i cc fs hm
          split at hz
          · rename_i hc
            obtain ⟨rfl, hlen⟩ := hc
            obtain rfl := Option.some.inj hz
            obtain ⟨⟨C, F, N⟩, hq, hk, hlink⟩ := z_okF_all hfl
            obtain ⟨hin, hty, hnm, hsm, -, -, -, -, hon, -⟩ := z_okC_all _ _ hq
            obtain ⟨hn, hfit⟩ := z_pok_n hp
            intro p e R s m args below meth cd Q K H locs cells slots ls I hr
            have hat := z_inObj I.2.1 hm hq
            refine zf_put K.1 K.2.1 K.2.2.2.2.1 hin _ hty hnm K.2.2.2.1 K.2.2.2.2.2.1.1 hat.2 hq k hk (K.2.2.2.2.1 _ hlink) (hsm k hk) ?_ hn hfit hlen hd (fun H1 j e1 e2 e3 => z_wrote c K I hr hat.1 e1 e2 e3)
            rcases hf with hf | ⟨hf1, hf2⟩
            · left
              unfold z_fin at hf
              rw [hq] at hf
              exact hf
            · right
              exact ⟨K.2.2.2.2.2.2.2.2.1 hf1, by rw [hf2]; exact hon⟩
          · cases hz
        · cases hz
    · cases h
  · cases h
theorem zs_iald (hd : decode (z_cc T) pc = .ok (.iaload, 1)) (h : z_iald pc L st M = some o) (c : z_Cont l Z T lim o r) : z_Sim l Z T lim pc L st M r := by
  unfold z_iald at h
  split at h
  · rename_i i a st'
    cases hz : z_ia (M.2 a) i with
    | none => rw [hz] at h; cases h
    | some v =>
      rw [hz] at h
      obtain rfl := Option.some.inj h
      unfold z_ia at hz
      split at hz
      · rename_i n f hm
        split at hz
        · rename_i hx
          obtain rfl := Option.some.inj hz
          exact z_pure (fun K I w => va_iald K.1 K.2.1 K.2.2.2.2.2.1.1 (z_P1 (z_inArr I.2.1 hm).2) 0 0 rfl rfl (z_ixb_in hx) hd w) c
        · cases hz
      · rename_i cc fs hm
        split at hz
        · rename_i hx
          obtain ⟨rfl, hx⟩ := hx
          unfold z_sa at hz
          split at hz
          · rename_i x hv
            obtain rfl := Option.some.inj hz
            refine z_pure (fun K I w => ?_) c
            rcases I.2.1.2.2 a _ hm with ⟨-, q, h1, -⟩ | ⟨fs', h1, h2, h3, h4, h5⟩
            · cases h1
            · cases h1
              exact W.iald K.1 K.2.1 h3 K.2.2.2.2.2.1.2.2.2.1 K.2.2.2.2.2.1.2.2.2.2 (by rw [← h4]; exact z_ixb_in hx) (h5 _ _ hv) rfl rfl hd w
          · cases hz
        · cases hz
      · cases hz
  · cases h
theorem zs_fald (hd : decode (z_cc T) pc = .ok (.faload, 1)) (h : z_fald pc L st M = some o) (c : z_Cont l Z T lim o r) : z_Sim l Z T lim pc L st M r := by
  unfold z_fald at h
  split at h
  · rename_i i a st'
    cases hz : z_fa (M.2 a) i with
    | none => rw [hz] at h; cases h
    | some v =>
      rw [hz] at h
      obtain rfl := Option.some.inj h
      unfold z_fa at hz
      split at hz
      · rename_i n f hm
        split at hz
        · rename_i hx
          obtain rfl := Option.some.inj hz
          exact z_pure (fun K I w => va_fald K.1 K.2.1 K.2.2.2.2.2.1.1 (z_P1 (z_inArr I.2.1 hm).2) 0 1 rfl rfl (z_ixb_in hx) hd w) c
        · cases hz
      · cases hz
  · cases h
theorem zs_aald (hd : decode (z_cc T) pc = .ok (.aaload, 1)) (h : z_aald pc L st M = some o) (c : z_Cont l Z T lim o r) : z_Sim l Z T lim pc L st M r := by
  unfold z_aald at h
  split at h
  · rename_i i a st'
    cases hz : z_qa (M.2 a) i with
    | none => rw [hz] at h; cases h
    | some v =>
      rw [hz] at h
      obtain rfl := Option.some.inj h
      unfold z_qa at hz
      split at hz
      · rename_i n f hm
        split at hz
        · rename_i hx
          cases hf : f i.toNatClampNeg with
          | none => rw [hf] at hz; cases hz
          | some b =>
            rw [hf] at hz
            obtain rfl := Option.some.inj hz
            refine z_pure (fun K I w => va_aldq K.1 K.2.1 K.2.2.2.2.2.1.1 (z_P1 (z_inArr I.2.1 hm).2) 0 2 rfl rfl (z_ixb_in hx) hd ?_) c
            rw [hf]
            exact w
        · cases hz
      · cases hz
  · cases h
theorem zs_iast (hd : decode (z_cc T) pc = .ok (.iastore, 1)) (h : z_iast pc L st M = some o) (c : z_Cont l Z T lim o r) : z_Sim l Z T lim pc L st M r := by
  unfold z_iast at h
  split at h
  · rename_i x i a st'
    cases hz : z_is (M.2 a) i x with
    | none => rw [hz] at h; cases h
    | some v =>
      rw [hz] at h
      obtain rfl := Option.some.inj h
      unfold z_is at hz
      split at hz
      · rename_i n f hm
        split at hz
        · rename_i hx
          obtain rfl := Option.some.inj hz
          intro p e R s m args below meth cd Q K H locs cells slots ls I hr
          have hat := z_inArr I.2.1 hm
          have hin := z_ixb_in hx
          refine W.iast K.1 K.2.1 hat.2 ((K.2.2.2.2.2.1.1.2 0 _ rfl).1 n (fun j => .int (f j))) (fun q => by cases q) (by show ¬ (i < 0 ∨ (arrV _ _ _).slots.size ≤ _); rw [arrV_size]; exact hin) rfl rfl hd fun H1 e1 z oq => ?_
          refine z_wrote c K I hr hat.1 ?_ z oq
          show H1[a]? = some (vp_cell (z_cI Z) _)
          rw [e1]
          show some ((vp_cell (z_cI Z) (n, .inl f)).setSlot _ _) = _
          rw [vp_cell_i, vp_cell_i, arrV_store]
          congr 2
          funext q
          by_cases hq : q = i.toNatClampNeg
          · subst hq
            simp [updV, upd]
          · simp [updV, upd, hq]
        · cases hz
      · cases hz
  · cases h
theorem zs_fast (hd : decode (z_cc T) pc = .ok (.fastore, 1)) (h : z_fast pc L st M = some o) (c : z_Cont l Z T lim o r) : z_Sim l Z T lim pc L st M r := by
  unfold z_fast at h
  split at h
  · rename_i x i a st'
    cases hz : z_fs (M.2 a) i x with
    | none => rw [hz] at h; cases h
    | some v =>
      rw [hz] at h
      obtain rfl := Option.some.inj h
      unfold z_fs at hz
      split at hz
      · rename_i n f hm
        split at hz
        · rename_i hx
          obtain rfl := Option.some.inj hz
          intro p e R s m args below meth cd Q K H locs cells slots ls I hr
          have hat := z_inArr I.2.1 hm
          have hin := z_ixb_in hx
          refine W.fast K.1 K.2.1 hat.2 ((K.2.2.2.2.2.1.1.2 1 _ rfl).1 n (fun j => .float (f j))) (fun q => by cases q) (by show ¬ (i < 0 ∨ (arrV _ _ _).slots.size ≤ _); rw [arrV_size]; exact hin) rfl rfl hd fun H1 e1 z oq => ?_
          refine z_wrote c K I hr hat.1 ?_ z oq
          show H1[a]? = some (vp_cell (z_cF Z) _)
          rw [e1]
          show some ((vp_cell (z_cF Z) (n, .inr (.inr (.inl f)))).setSlot _ _) = _
          rw [vp_cell_f, vp_cell_f, arrV_store]
          congr 2
          funext q
          by_cases hq : q = i.toNatClampNeg
          · subst hq
            simp [updV, vf_upd]
          · simp [updV, vf_upd, hq]
        · cases hz
      · cases hz
  · cases h
theorem zs_aast (hd : decode (z_cc T) pc = .ok (.aastore, 1)) (h : z_aast pc L st M = some o) (c : z_Cont l Z T lim o r) : z_Sim l Z T lim pc L st M r := by
  unfold z_aast at h
  split at h
  · rename_i v i a st'
    cases hz : z_qs (M.2 a) (M.2 v) i v with
    | none => rw [hz] at h; cases h
    | some e' =>
      rw [hz] at h
      obtain rfl := Option.some.inj h
      unfold z_qs at hz
      split at hz
      · rename_i n f hm
        split at hz
        · rename_i hx
          obtain ⟨hx, hv⟩ := hx
          obtain rfl := Option.some.inj hz
          unfold z_isO at hv
          split at hv
          · rename_i cv fv hmv
            have hcv : cv = 0 := by simp at hv; exact hv.1
            subst hcv
            intro p e R s m args below meth cd Q K H locs cells slots ls I hr
            have hat := z_inArr I.2.1 hm
            have hin := z_ixb_in hx
            have hlt : i.toNatClampNeg < n := (of_decide_eq_true hx).2
            have h0 : ¬ i < 0 := (of_decide_eq_true hx).1
            obtain ⟨-, r', hr', cellV, g1, g2, g3, -⟩ := z_inObj I.2.1 hmv (ci := 0) (q := (RX0, TX0, 7)) rfl
            have hcls := (K.2.2.2.2.2.1.1.1 0 (RX0, TX0, 7) rfl).2
            obtain ⟨kA, comp, k1, k2, k3, -⟩ := (K.2.2.2.2.2.1.1.2 2 _ rfl).2
            have hcomp : comp = (z_D Z).1 0 := Option.some.inj (k3.symm.trans hcls.1)
            subst hcomp
            obtain ⟨kC, hkC, -⟩ := hcls.2
            refine W.aast K.1 K.2.1 hat.2 (fun q h => by cases h) (fun h => by cases h) k1 k2 rfl hkC ⟨h0, by show _ < (arrV _ _ _).slots.size; rw [arrV_size]; exact hlt⟩ g1 (fun q h => by rw [g3] at h; cases h) (by rw [g2]; exact hkC) (by rw [g2]; exact va_assign hcls) rfl rfl hd fun H1 e1 z oq => ?_
            refine z_wrote c K I hr hat.1 ?_ z oq
            show H1[a]? = some (vp_cell (z_cR Z) _)
            rw [e1]
            show some ((vp_cell (z_cR Z) (n, .inr (.inr (.inr (.inr f))))).setSlot _ _) = _
            rw [vp_cell_q, vp_cell_q, arrV_store]
            congr 2
            funext q
            by_cases hq : q = i.toNatClampNeg
            · subst hq
              simp [updV, va_up, va_rf]
            · simp [updV, va_up, hq]
          · cases hv
        · cases hz
      · cases hz
  · cases h
theorem zs_alen (hd : decode (z_cc T) pc = .ok (.arraylength, 1)) (h : z_alen pc L st M = some o) (c : z_Cont l Z T lim o r) : z_Sim l Z T lim pc L st M r := by
  unfold z_alen at h
  split at h
  · rename_i a st'
    split at h
    · rename_i cc fs hm
      split at h
      · rename_i hx
        subst hx
        obtain rfl := Option.some.inj h
        refine z_pure (fun K I w => ?_) c
        rcases I.2.1.2.2 a _ hm with ⟨-, q, h1, -⟩ | ⟨fs', h1, h2, h3, h4, h5⟩
        · cases h1
        · cases h1
          exact W.alen (n := Int32.ofNat fs.length) K.1 K.2.1 h3 K.2.2.2.2.2.1.2.2.2.1 (by rw [← h4] <;> rfl) rfl rfl hd w
      · cases h
    · cases h
  · cases h
/-- going on over a heap with a new cell -/
theorem z_made {pc' n : Nat} {st' : List Value} {e : z_E} (k : z_Sim l Z T lim pc' L st' (z_nw M e) r) {p : Program} {en : Env} {R : Room} {s : State} {m : MethodId} {args : Array Value} {below : List Frame} {meth : Method} {c : Code} {Q : State → Prop} {H H1 : Heap} {locs : List Loc} {cells slots : Nat} {ls : Array Slot} (K : z_K Z T p R s m args meth c) (I : z_In Z T lim L M s H locs cells slots ls) (hr : z_Rt l Z T lim r p en R s m args below meth c Q)
    (hlim : M.1 + 1 ≤ lim) (hn : n ≤ 6797) (he : va_at (z_D Z) vwCl (M.1, z_e Z e) H1) (hz : H1.size = M.1 + 1) (ho : ∀ q, q < M.1 → H1[q]? = H[q]?) : W p l en R s m args below meth c H1 locs (cells + 1) (slots + n) Q (F0 m pc' ls st') := by
  obtain ⟨i1, i2, i3, i4, i5, i6, i7, i8⟩ := I
  refine W.widen (Nat.le_refl _) (show slots + n ≤ 6797 * (cells + 1) by omega) ?_
  refine k p en R s m args below meth c Q K H1 _ (cells + 1) _ ls ⟨i1, i2.push he hz ho, ⟨Nat.le_trans i3.1 (by rw [hz, i2.1]; omega), fun q h1 h2 => ?_, i3.2.2⟩, i4, (show M.1 + 1 = _ by omega), rfl, hlim, i8⟩ hr
  rw [ho q (by have := i3.1; rw [i2.1] at this; omega)]
  exact i3.2.1 q h1 h2
theorem z_room {p : Program} {R : Room} {s : State} {m : MethodId} {args : Array Value} {meth : Method} {c : Code} {H : Heap} {locs : List Loc} {cells slots n : Nat} {ls : Array Slot} (K : z_K Z T p R s m args meth c) (I : z_In Z T lim L M s H locs cells slots ls) (hlim : M.1 + 1 ≤ lim) (hn : n ≤ 6797) : cells + 1 ≤ R.cells ∧ slots + n ≤ R.slots := by
  obtain ⟨i1, i2, i3, i4, i5, i6, i7, i8⟩ := I
  have h1 := K.2.2.2.2.2.2.2.2.2.2.2.1
  have h2 := K.2.2.2.2.2.2.2.2.2.2.2.2
  constructor <;> omega
theorem zs_new {i : Nat} (hd : decode (z_cc T) pc = .ok (.new i, 3)) (h : z_new (z_ow T) i lim pc L st M = some o) (c : z_Cont l Z T lim o r) : z_Sim l Z T lim pc L st M r := by
  unfold z_new at h
  split at h
  · rename_i ci hnc
    split at h
    · rename_i hlim
      obtain rfl := Option.some.inj h
      obtain ⟨⟨C, F, N⟩, hq, hlink⟩ := z_okN_all hnc
      obtain ⟨hin, hty, hnm, hsm, hinst, hini, hdf, hN, hon, -⟩ := z_okC_all _ _ hq
      intro p e R s m args below meth cd Q K H locs cells slots ls I hr
      have hKn := K.2.2.2.2.2.1.1.1 ci _ hq
      have hroom := z_room (n := N) K I hlim hN
      refine W.newcK (n := N) K.1 K.2.1 K.2.2.2.1 (K.2.2.2.2.1 _ hlink) (K.2.2.2.2.1 _ hinst) (K.2.2.2.2.1 _ hini) rfl hd hroom.1 hroom.2 hKn.2.1 I.2.1.1 fun H1 kC hkC e1 z1 o1 => ?_
      exact z_made c K I hr hlim hN ⟨_, hq, (u_born (z_ty ci) K.2.2.2.2.1 hin hKn hkC e1 hty).to hdf⟩ z1 o1
    · cases h
  · cases h
theorem zs_newa {ty : ArrayType} (hd : decode (z_cc T) pc = .ok (.newarray ty, 2)) (h : z_newa ty lim pc L st M = some o) (c : z_Cont l Z T lim o r) : z_Sim l Z T lim pc L st M r := by
  unfold z_newa at h
  split at h
  · rename_i n st'
    split at h
    · rename_i hc
      obtain ⟨h1, h2, hlim⟩ := hc
      obtain rfl := Option.some.inj h
      intro p e R s m args below meth cd Q K H locs cells slots ls I hr
      have hroom := z_room K I hlim h2
      refine va_newaK (atype := .int) K.1 K.2.1 (K.2.2.2.2.1 _ z_wI) rfl hd rfl h1 rfl (by show _ * 4 ≤ _; omega) hroom.1 hroom.2 I.2.1.1 fun H1 cA e1 z1 o1 hAr hNm => ?_
      have hcA : cA = z_cI Z := Option.some.inj (hNm.symm.trans (K.2.2.2.2.2.1.1.2 0 _ rfl).2)
      subst hcA
      exact z_made c K I hr hlim h2 e1 z1 o1
    · cases h
  · rename_i n st'
    split at h
    · rename_i hc
      obtain ⟨h1, h2, hlim⟩ := hc
      obtain rfl := Option.some.inj h
      intro p e R s m args below meth cd Q K H locs cells slots ls I hr
      have hroom := z_room K I hlim h2
      refine va_newaK (atype := .float) K.1 K.2.1 (K.2.2.2.2.1 _ z_wF) rfl hd rfl h1 rfl (by show _ * 4 ≤ _; omega) hroom.1 hroom.2 I.2.1.1 fun H1 cA e1 z1 o1 hAr hNm => ?_
      have hcA : cA = z_cF Z := Option.some.inj (hNm.symm.trans (K.2.2.2.2.2.1.1.2 1 _ rfl).2)
      subst hcA
      exact z_made c K I hr hlim h2 e1 z1 o1
    · cases h
  · cases h
theorem zs_anew {i : Nat} (hd : decode (z_cc T) pc = .ok (.anewarray i, 3)) (h : z_anew (z_ow T) i lim pc L st M = some o) (c : z_Cont l Z T lim o r) : z_Sim l Z T lim pc L st M r := by
  unfold z_anew at h
  split at h
  · rename_i n st' hnc
    split at h
    · rename_i hc
      obtain ⟨h1, h2, hlim⟩ := hc
      obtain rfl := Option.some.inj h
      obtain ⟨q, hq, hlink⟩ := z_okN_all hnc
      obtain rfl : (RX0, TX0, 7) = q := Option.some.inj hq
      intro p e R s m args below meth cd Q K H locs cells slots ls I hr
      have hroom := z_room K I hlim h2
      refine W.anew K.1 K.2.1 K.2.2.2.1 (K.2.2.2.2.1 _ hlink) (va_AO.use K.2.2.2.2.2.1.2.2.1) rfl hd rfl h1 (by omega) hroom.1 hroom.2 fun cA kA comp f1 f2 f3 f4 => ?_
      obtain ⟨kA', comp', g1, g2, g3, g4⟩ := (K.2.2.2.2.2.1.1.2 2 _ rfl).2
      have hcA : cA = z_cR Z := Option.some.inj (f1.symm.trans g4)
      subst hcA
      have hz := I.2.1.1
      refine W.eq (g2 := F0 m (pc + 3) ls (.ref M.1 :: st')) (by rw [← hz]) ?_
      refine z_made c K I hr hlim h2 ?_ (by rw [Array.size_push, hz]) (fun q hq => by rw [Array.getElem?_push, if_neg (by rw [hz]; omega)])
      show (H.push _)[M.1]? = some (vp_cell (z_cR Z) _)
      rw [← hz, Array.getElem?_push_size, vp_cell_q, arrV_new]
      rfl
    · cases h
  · cases h
end ZMEM
