/-! each instruction of the light machine is the machine's: printed in part by wip/whole/gen/sound.py -/
def z_Cont (l : Launch) (Z : z_P) (T : z_T) (lim : Nat) (o : z_S) (r : z_R) : Prop := match o with
  | .inl (pc, L, st, M) => z_Sim l Z T lim pc L st M r
  | .inr r' => r' = r
theorem z_num_n {r : UInt32} (h : z_num r = true) : vf_n32 r := by
  unfold z_num at h
  show r &&& 0x7fffffff ≤ 0x7f800000
  exact of_decide_eq_true h
section ZI
variable {l : Launch} {Z : z_P} {T : z_T} {lim pc : Nat} {L : z_L} {st : List Value} {M : z_M} {r : z_R} {o : z_S}
theorem zs_iload {k : Nat} (hd : decode (z_cc T) pc = .ok (.iload k, 2)) (h : z_ilod k 2 pc L st M = some o) (c : z_Cont l Z T lim o r) : z_Sim l Z T lim pc L st M r := by
  unfold z_ilod at h
  split at h
  · rename_i x hx
    obtain rfl := Option.some.inj h
    exact z_pure (fun K I w => lv_iload K.1 K.2.1 hd (I.1.get hx) w) c
  · cases h
theorem zs_iload_n {k : Fin 4} (hd : decode (z_cc T) pc = .ok (.iload_n k, 1)) (h : z_ilod k 1 pc L st M = some o) (c : z_Cont l Z T lim o r) : z_Sim l Z T lim pc L st M r := by
  unfold z_ilod at h
  split at h
  · rename_i x hx
    obtain rfl := Option.some.inj h
    exact z_pure (fun K I w => lv_iload_n K.1 K.2.1 hd rfl (I.1.get hx) w) c
  · cases h
theorem zs_aload {k : Nat} (hd : decode (z_cc T) pc = .ok (.aload k, 2)) (h : z_alod k 2 pc L st M = some o) (c : z_Cont l Z T lim o r) : z_Sim l Z T lim pc L st M r := by
  unfold z_alod at h
  split at h
  · rename_i x hx
    obtain rfl := Option.some.inj h
    exact z_pure (fun K I w => lv_aload K.1 K.2.1 hd (I.1.get hx) w) c
  · cases h
theorem zs_aload_n {k : Fin 4} (hd : decode (z_cc T) pc = .ok (.aload_n k, 1)) (h : z_alod k 1 pc L st M = some o) (c : z_Cont l Z T lim o r) : z_Sim l Z T lim pc L st M r := by
  unfold z_alod at h
  split at h
  · rename_i x hx
    obtain rfl := Option.some.inj h
    exact z_pure (fun K I w => lv_aload_n K.1 K.2.1 hd rfl (I.1.get hx) w) c
  · cases h
theorem zs_fload {k : Nat} (hd : decode (z_cc T) pc = .ok (.fload k, 2)) (h : z_flod k 2 pc L st M = some o) (c : z_Cont l Z T lim o r) : z_Sim l Z T lim pc L st M r := by
  unfold z_flod at h
  split at h
  · rename_i x hx
    obtain rfl := Option.some.inj h
    exact z_pure (fun K I w => lv_fload K.1 K.2.1 hd (I.1.get hx) w) c
  · cases h
theorem zs_fload_n {k : Fin 4} (hd : decode (z_cc T) pc = .ok (.fload_n k, 1)) (h : z_flod k 1 pc L st M = some o) (c : z_Cont l Z T lim o r) : z_Sim l Z T lim pc L st M r := by
  unfold z_flod at h
  split at h
  · rename_i x hx
    obtain rfl := Option.some.inj h
    exact z_pure (fun K I w => lv_fload_n K.1 K.2.1 hd rfl (I.1.get hx) w) c
  · cases h
theorem zs_lload_n {k : Fin 4} (hd : decode (z_cc T) pc = .ok (.lload_n k, 1)) (h : z_llod k 1 pc L st M = some o) (c : z_Cont l Z T lim o r) : z_Sim l Z T lim pc L st M r := by
  unfold z_llod at h
  split at h
  · rename_i x hx
    obtain rfl := Option.some.inj h
    exact z_pure (fun K I w => lv_lload_n K.1 K.2.1 hd rfl (I.1.get hx) w) c
  · cases h
theorem zs_istore {k : Nat} (hd : decode (z_cc T) pc = .ok (.istore k, 2)) (h : z_isto (z_lg T) k 2 pc L st M = some o) (c : z_Cont l Z T lim o r) : z_Sim l Z T lim pc L st M r := by
  unfold z_isto at h
  split at h
  · unfold z_sto at h
    split at h
    · rename_i hc
      obtain rfl := Option.some.inj h
      exact z_loc (fun K hL w => lv_istore K.1 K.2.1 hd hL.2.1 (by have := hL.1; omega) rfl (fun ls' h' => w ls' (hL.set hc.1 hc.2 rfl h'))) c
    · cases h
  · cases h
theorem zs_istore_n {k : Fin 4} (hd : decode (z_cc T) pc = .ok (.istore_n k, 1)) (h : z_isto (z_lg T) k 1 pc L st M = some o) (c : z_Cont l Z T lim o r) : z_Sim l Z T lim pc L st M r := by
  unfold z_isto at h
  split at h
  · unfold z_sto at h
    split at h
    · rename_i hc
      obtain rfl := Option.some.inj h
      exact z_loc (fun K hL w => lv_istore_n K.1 K.2.1 hd rfl hL.2.1 (by have := hL.1; omega) rfl (fun ls' h' => w ls' (hL.set hc.1 hc.2 rfl h'))) c
    · cases h
  · cases h
theorem zs_astore {k : Nat} (hd : decode (z_cc T) pc = .ok (.astore k, 2)) (h : z_asto (z_lg T) k 2 pc L st M = some o) (c : z_Cont l Z T lim o r) : z_Sim l Z T lim pc L st M r := by
  unfold z_asto at h
  split at h
  · unfold z_sto at h
    split at h
    · rename_i hc
      obtain rfl := Option.some.inj h
      exact z_loc (fun K hL w => lv_astore K.1 K.2.1 hd hL.2.1 (by have := hL.1; omega) rfl (fun ls' h' => w ls' (hL.set hc.1 hc.2 rfl h'))) c
    · cases h
  · cases h
theorem zs_astore_n {k : Fin 4} (hd : decode (z_cc T) pc = .ok (.astore_n k, 1)) (h : z_asto (z_lg T) k 1 pc L st M = some o) (c : z_Cont l Z T lim o r) : z_Sim l Z T lim pc L st M r := by
  unfold z_asto at h
  split at h
  · unfold z_sto at h
    split at h
    · rename_i hc
      obtain rfl := Option.some.inj h
      exact z_loc (fun K hL w => lv_astore_n K.1 K.2.1 hd rfl hL.2.1 (by have := hL.1; omega) rfl (fun ls' h' => w ls' (hL.set hc.1 hc.2 rfl h'))) c
    · cases h
  · cases h
theorem zs_fstore {k : Nat} (hd : decode (z_cc T) pc = .ok (.fstore k, 2)) (h : z_fsto (z_lg T) k 2 pc L st M = some o) (c : z_Cont l Z T lim o r) : z_Sim l Z T lim pc L st M r := by
  unfold z_fsto at h
  split at h
  · unfold z_sto at h
    split at h
    · rename_i hc
      obtain rfl := Option.some.inj h
      exact z_loc (fun K hL w => lv_fstore K.1 K.2.1 hd hL.2.1 (by have := hL.1; omega) rfl (fun ls' h' => w ls' (hL.set hc.1 hc.2 rfl h'))) c
    · cases h
  · cases h
theorem zs_fstore_n {k : Fin 4} (hd : decode (z_cc T) pc = .ok (.fstore_n k, 1)) (h : z_fsto (z_lg T) k 1 pc L st M = some o) (c : z_Cont l Z T lim o r) : z_Sim l Z T lim pc L st M r := by
  unfold z_fsto at h
  split at h
  · unfold z_sto at h
    split at h
    · rename_i hc
      obtain rfl := Option.some.inj h
      exact z_loc (fun K hL w => lv_fstore_n K.1 K.2.1 hd rfl hL.2.1 (by have := hL.1; omega) rfl (fun ls' h' => w ls' (hL.set hc.1 hc.2 rfl h'))) c
    · cases h
  · cases h
theorem zs_lstore_n {k : Fin 4} (hd : decode (z_cc T) pc = .ok (.lstore_n k, 1)) (h : z_lsto (z_lg T) k 1 pc L st M = some o) (c : z_Cont l Z T lim o r) : z_Sim l Z T lim pc L st M r := by
  unfold z_lsto at h
  split at h
  · split at h
    · rename_i hc
      obtain rfl := Option.some.inj h
      refine z_loc (fun K hL w => lv_lstore_n K.1 K.2.1 hd rfl hL.2.1 (by have := hL.1; omega) rfl (fun ls' h' => w ls' ?_)) c
      rw [hc.1] at hL ⊢
      exact hL.setL hc.2.1 hc.2.2 h'
    · cases h
  · cases h
theorem zs_iinc {k : Nat} {n : Int} (hd : decode (z_cc T) pc = .ok (.iinc k n, 3)) (h : z_iinc (z_lg T) k n pc L st M = some o) (c : z_Cont l Z T lim o r) : z_Sim l Z T lim pc L st M r := by
  unfold z_iinc at h
  split at h
  · rename_i x hx
    unfold z_sto at h
    split at h
    · rename_i hc
      obtain rfl := Option.some.inj h
      obtain ⟨j, hj⟩ := List.getElem?_of_mem (z_as_mem.mpr hx)
      exact z_loc (fun K hL w => lv_iinc K.1 K.2.1 hd hL.2.1 hj rfl (by have := hL.1; omega) rfl (fun ls' h' => w ls' (hL.set hc.1 hc.2 rfl h'))) c
    · cases h
  · cases h
theorem zs_iconst {n : Int} (hd : decode (z_cc T) pc = .ok (.iconst n, 1)) (c : z_Sim l Z T lim (pc + 1) L (.int (Int32.ofInt n) :: st) M r) : z_Sim l Z T lim pc L st M r := z_pure (fun K I w => lv_iconst K.1 K.2.1 hd rfl w) c
theorem zs_bipush {n : Int} (hd : decode (z_cc T) pc = .ok (.bipush n, 2)) (c : z_Sim l Z T lim (pc + 2) L (.int (Int8.ofInt n).toInt32 :: st) M r) : z_Sim l Z T lim pc L st M r := z_pure (fun K I w => lv_bipush K.1 K.2.1 hd rfl w) c
theorem zs_sipush {n : Int} (hd : decode (z_cc T) pc = .ok (.sipush n, 3)) (c : z_Sim l Z T lim (pc + 3) L (.int (Int16.ofInt n).toInt32 :: st) M r) : z_Sim l Z T lim pc L st M r := z_pure (fun K I w => lv_sipush K.1 K.2.1 hd rfl w) c
theorem zs_fconst {f : Fin 3} (hd : decode (z_cc T) pc = .ok (.fconst f, 1)) (h : z_fcs f pc L st M = some o) (c : z_Cont l Z T lim o r) : z_Sim l Z T lim pc L st M r := by
  match f, hd, h with
  | 0, hd, h => obtain rfl := Option.some.inj h; exact z_pure (fun K I w => lv_fconst0 K.1 K.2.1 hd w) c
  | 1, hd, h => obtain rfl := Option.some.inj h; exact z_pure (fun K I w => lv_fconst1 K.1 K.2.1 hd w) c
  | 2, hd, h => obtain rfl := Option.some.inj h; exact z_pure (fun K I w => lv_fconst2 K.1 K.2.1 hd w) c
theorem zs_iadd (hd : decode (z_cc T) pc = .ok (.iadd, 1)) (h : z_bin (fun x y => x + y) pc L st M = some o) (c : z_Cont l Z T lim o r) : z_Sim l Z T lim pc L st M r := by
  unfold z_bin at h
  split at h
  · obtain rfl := Option.some.inj h
    exact z_pure (fun K I w => lv_iadd K.1 K.2.1 hd w) c
  · cases h
theorem zs_isub (hd : decode (z_cc T) pc = .ok (.isub, 1)) (h : z_bin (fun x y => x - y) pc L st M = some o) (c : z_Cont l Z T lim o r) : z_Sim l Z T lim pc L st M r := by
  unfold z_bin at h
  split at h
  · obtain rfl := Option.some.inj h
    exact z_pure (fun K I w => lv_isub K.1 K.2.1 hd w) c
  · cases h
theorem zs_imul (hd : decode (z_cc T) pc = .ok (.imul, 1)) (h : z_bin (fun x y => x * y) pc L st M = some o) (c : z_Cont l Z T lim o r) : z_Sim l Z T lim pc L st M r := by
  unfold z_bin at h
  split at h
  · obtain rfl := Option.some.inj h
    exact z_pure (fun K I w => lv_imul K.1 K.2.1 hd w) c
  · cases h
theorem zs_ishl (hd : decode (z_cc T) pc = .ok (.ishl, 1)) (h : z_bin (fun x y => x <<< (y &&& 31)) pc L st M = some o) (c : z_Cont l Z T lim o r) : z_Sim l Z T lim pc L st M r := by
  unfold z_bin at h
  split at h
  · obtain rfl := Option.some.inj h
    exact z_pure (fun K I w => lv_ishl K.1 K.2.1 hd w) c
  · cases h
theorem zs_ishr (hd : decode (z_cc T) pc = .ok (.ishr, 1)) (h : z_bin (fun x y => x >>> (y &&& 31)) pc L st M = some o) (c : z_Cont l Z T lim o r) : z_Sim l Z T lim pc L st M r := by
  unfold z_bin at h
  split at h
  · obtain rfl := Option.some.inj h
    exact z_pure (fun K I w => lv_ishr K.1 K.2.1 hd w) c
  · cases h
theorem zs_iand (hd : decode (z_cc T) pc = .ok (.iand, 1)) (h : z_bin (fun x y => x &&& y) pc L st M = some o) (c : z_Cont l Z T lim o r) : z_Sim l Z T lim pc L st M r := by
  unfold z_bin at h
  split at h
  · obtain rfl := Option.some.inj h
    exact z_pure (fun K I w => lv_iand K.1 K.2.1 hd w) c
  · cases h
theorem zs_ior (hd : decode (z_cc T) pc = .ok (.ior, 1)) (h : z_bin (fun x y => x ||| y) pc L st M = some o) (c : z_Cont l Z T lim o r) : z_Sim l Z T lim pc L st M r := by
  unfold z_bin at h
  split at h
  · obtain rfl := Option.some.inj h
    exact z_pure (fun K I w => lv_ior K.1 K.2.1 hd w) c
  · cases h
theorem zs_ixor (hd : decode (z_cc T) pc = .ok (.ixor, 1)) (h : z_bin (fun x y => x ^^^ y) pc L st M = some o) (c : z_Cont l Z T lim o r) : z_Sim l Z T lim pc L st M r := by
  unfold z_bin at h
  split at h
  · obtain rfl := Option.some.inj h
    exact z_pure (fun K I w => lv_ixor K.1 K.2.1 hd w) c
  · cases h
theorem zs_iushr (hd : decode (z_cc T) pc = .ok (.iushr, 1)) (h : z_bin (fun x y => (x.toUInt32 >>> (y.toUInt32 &&& Int32.toUInt32 31)).toInt32) pc L st M = some o) (c : z_Cont l Z T lim o r) : z_Sim l Z T lim pc L st M r := by
  unfold z_bin at h
  split at h
  · obtain rfl := Option.some.inj h
    exact z_pure (fun K I w => lv_iushr K.1 K.2.1 hd rfl w) c
  · cases h
theorem zs_idiv (hd : decode (z_cc T) pc = .ok (.idiv, 1)) (h : z_bin0 (fun x y => x / y) pc L st M = some o) (c : z_Cont l Z T lim o r) : z_Sim l Z T lim pc L st M r := by
  unfold z_bin0 at h
  split at h
  · split at h
    · rename_i hne
      obtain rfl := Option.some.inj h
      exact z_pure (fun K I w => lv_idiv K.1 K.2.1 hd hne w) c
    · cases h
  · cases h
theorem zs_irem (hd : decode (z_cc T) pc = .ok (.irem, 1)) (h : z_bin0 (fun x y => x - x / y * y) pc L st M = some o) (c : z_Cont l Z T lim o r) : z_Sim l Z T lim pc L st M r := by
  unfold z_bin0 at h
  split at h
  · split at h
    · rename_i hne
      obtain rfl := Option.some.inj h
      exact z_pure (fun K I w => lv_irem K.1 K.2.1 hd hne w) c
    · cases h
  · cases h
theorem zs_ladd (hd : decode (z_cc T) pc = .ok (.ladd, 1)) (h : z_lbin (fun x y => x + y) pc L st M = some o) (c : z_Cont l Z T lim o r) : z_Sim l Z T lim pc L st M r := by
  unfold z_lbin at h
  split at h
  · obtain rfl := Option.some.inj h
    exact z_pure (fun K I w => lv_ladd K.1 K.2.1 hd w) c
  · cases h
theorem zs_lmul (hd : decode (z_cc T) pc = .ok (.lmul, 1)) (h : z_lbin (fun x y => x * y) pc L st M = some o) (c : z_Cont l Z T lim o r) : z_Sim l Z T lim pc L st M r := by
  unfold z_lbin at h
  split at h
  · obtain rfl := Option.some.inj h
    exact z_pure (fun K I w => lv_lmul K.1 K.2.1 hd w) c
  · cases h
theorem zs_fadd (hd : decode (z_cc T) pc = .ok (.fadd, 1)) (h : z_fbin FP.fadd pc L st M = some o) (c : z_Cont l Z T lim o r) : z_Sim l Z T lim pc L st M r := by
  unfold z_fbin at h
  split at h
  · split at h
    · rename_i hne
      obtain rfl := Option.some.inj h
      exact z_pure (fun K I w => lv_fadd K.1 K.2.1 hd (z_num_n hne) w) c
    · cases h
  · cases h
theorem zs_fsub (hd : decode (z_cc T) pc = .ok (.fsub, 1)) (h : z_fbin FP.fsub pc L st M = some o) (c : z_Cont l Z T lim o r) : z_Sim l Z T lim pc L st M r := by
  unfold z_fbin at h
  split at h
  · split at h
    · rename_i hne
      obtain rfl := Option.some.inj h
      exact z_pure (fun K I w => lv_fsub K.1 K.2.1 hd (z_num_n hne) w) c
    · cases h
  · cases h
theorem zs_fmul (hd : decode (z_cc T) pc = .ok (.fmul, 1)) (h : z_fbin FP.fmul pc L st M = some o) (c : z_Cont l Z T lim o r) : z_Sim l Z T lim pc L st M r := by
  unfold z_fbin at h
  split at h
  · split at h
    · rename_i hne
      obtain rfl := Option.some.inj h
      exact z_pure (fun K I w => lv_fmul K.1 K.2.1 hd (z_num_n hne) w) c
    · cases h
  · cases h
theorem zs_fdiv (hd : decode (z_cc T) pc = .ok (.fdiv, 1)) (h : z_fbin FP.fdiv pc L st M = some o) (c : z_Cont l Z T lim o r) : z_Sim l Z T lim pc L st M r := by
  unfold z_fbin at h
  split at h
  · split at h
    · rename_i hne
      obtain rfl := Option.some.inj h
      exact z_pure (fun K I w => lv_fdiv K.1 K.2.1 hd (z_num_n hne) w) c
    · cases h
  · cases h
theorem zs_fcmp {op : CmpOp} (hd : decode (z_cc T) pc = .ok (.fcmp op, 1)) (h : z_fcmp op pc L st M = some o) (c : z_Cont l Z T lim o r) : z_Sim l Z T lim pc L st M r := by
  unfold z_fcmp at h
  split at h
  · obtain rfl := Option.some.inj h
    exact z_pure (fun K I w => lv_fcmp K.1 K.2.1 hd w) c
  · cases h
theorem zs_lcmp (hd : decode (z_cc T) pc = .ok (.lcmp, 1)) (h : z_lcmp pc L st M = some o) (c : z_Cont l Z T lim o r) : z_Sim l Z T lim pc L st M r := by
  unfold z_lcmp at h
  split at h
  · obtain rfl := Option.some.inj h
    exact z_pure (fun K I w => W.lcmp K.1 K.2.1 hd w) c
  · cases h
theorem zs_i2f (hd : decode (z_cc T) pc = .ok (.i2f, 1)) (h : z_i2f pc L st M = some o) (c : z_Cont l Z T lim o r) : z_Sim l Z T lim pc L st M r := by
  unfold z_i2f at h
  split at h
  · obtain rfl := Option.some.inj h
    exact z_pure (fun K I w => lv_i2f K.1 K.2.1 hd w) c
  · cases h
theorem zs_f2i (hd : decode (z_cc T) pc = .ok (.f2i, 1)) (h : z_f2i pc L st M = some o) (c : z_Cont l Z T lim o r) : z_Sim l Z T lim pc L st M r := by
  unfold z_f2i at h
  split at h
  · obtain rfl := Option.some.inj h
    exact z_pure (fun K I w => lv_f2i K.1 K.2.1 hd w) c
  · cases h
theorem zs_i2l (hd : decode (z_cc T) pc = .ok (.i2l, 1)) (h : z_i2l pc L st M = some o) (c : z_Cont l Z T lim o r) : z_Sim l Z T lim pc L st M r := by
  unfold z_i2l at h
  split at h
  · obtain rfl := Option.some.inj h
    exact z_pure (fun K I w => lv_i2l K.1 K.2.1 hd rfl w) c
  · cases h
theorem zs_dup (hd : decode (z_cc T) pc = .ok (.dup, 1)) (h : z_dup pc L st M = some o) (c : z_Cont l Z T lim o r) : z_Sim l Z T lim pc L st M r := by
  unfold z_dup at h
  split at h
  · split at h
    · rename_i hc
      obtain rfl := Option.some.inj h
      exact z_pure (fun K I w => lv_dup K.1 K.2.1 hd hc w) c
    · cases h
  · cases h
theorem zs_dup2 (hd : decode (z_cc T) pc = .ok (.dup2, 1)) (h : z_dup2 pc L st M = some o) (c : z_Cont l Z T lim o r) : z_Sim l Z T lim pc L st M r := by
  unfold z_dup2 at h
  split at h
  · split at h
    · rename_i hc
      obtain rfl := Option.some.inj h
      exact z_pure (fun K I w => lv_dup2_11 K.1 K.2.1 hd hc.1 hc.2 w) c
    · cases h
  · cases h
theorem zs_jp {off : Int} {st' : List Value} (hW : ∀ {p : Program} {e : Env} {R : Room} {s : State} {m : MethodId} {args : Array Value} {below : List Frame} {meth : Method} {c : Code} {Q : State → Prop} {H : Heap} {locs : List Loc} {cells slots : Nat} {ls : Array Slot} (tgt : Nat), (pc : Int) + off = (tgt : Int) → z_K Z T p R s m args meth c → z_In Z T lim L M s H locs cells slots ls → W p l e R s m args below meth c H locs cells slots Q (F0 m tgt ls st') → W p l e R s m args below meth c H locs cells slots Q (F0 m pc ls st))
    (h : z_jp pc off L st' M = some o) (c : z_Cont l Z T lim o r) : z_Sim l Z T lim pc L st M r := by
  unfold z_jp at h
  split at h
  · rename_i hc
    obtain rfl := Option.some.inj h
    exact z_pure (fun K I w => hW _ (Int.toNat_of_nonneg hc).symm K I w) c
  · cases h
theorem zs_goto {off : Int} (hd : decode (z_cc T) pc = .ok (.goto off, 3)) (h : z_jp pc off L st M = some o) (c : z_Cont l Z T lim o r) : z_Sim l Z T lim pc L st M r :=
  zs_jp (fun tgt ht K I w => lv_goto K.1 K.2.1 hd ht w) h c
theorem zs_icmp {cnd : Jvm.ClassFile.Cond} {off : Int} (hd : decode (z_cc T) pc = .ok (.if_icmp cnd off, 3)) (h : z_icmp cnd off pc L st M = some o) (c : z_Cont l Z T lim o r) : z_Sim l Z T lim pc L st M r := by
  unfold z_icmp at h
  split at h
  · rename_i y x st
    unfold z_br at h
    split at h
    · rename_i ht
      have ht := (Int.toNat_of_nonneg ht).symm
      split at h
      · rename_i hc
        obtain rfl := Option.some.inj h
        cases cnd with
        | eq => exact z_pure (fun K I w => lv_icmp_eq K.1 K.2.1 hd ht (fun _ => w) (fun hn => absurd (of_decide_eq_true hc) hn)) c
        | ne => exact z_pure (fun K I w => lv_icmp_ne K.1 K.2.1 hd ht (fun _ => w) (fun hn => absurd hn (of_decide_eq_true hc))) c
        | lt => exact z_pure (fun K I w => lv_icmp_lt K.1 K.2.1 hd ht (fun _ => w) (fun hn => absurd (of_decide_eq_true hc) hn)) c
        | ge => exact z_pure (fun K I w => lv_icmp_ge K.1 K.2.1 hd ht (fun _ => w) (fun hn => absurd (of_decide_eq_true hc) hn)) c
        | gt => exact z_pure (fun K I w => lv_icmp_gt K.1 K.2.1 hd ht (fun _ => w) (fun hn => absurd (of_decide_eq_true hc) hn)) c
        | le => exact z_pure (fun K I w => lv_icmp_le K.1 K.2.1 hd ht (fun _ => w) (fun hn => absurd (of_decide_eq_true hc) hn)) c
      · rename_i hc
        obtain rfl := Option.some.inj h
        cases cnd with
        | eq => exact z_pure (fun K I w => lv_icmp_eq K.1 K.2.1 hd ht (fun hh => absurd (decide_eq_true hh) hc) (fun _ => w)) c
        | ne => exact z_pure (fun K I w => lv_icmp_ne K.1 K.2.1 hd ht (fun hh => absurd (decide_eq_true hh) hc) (fun _ => w)) c
        | lt => exact z_pure (fun K I w => lv_icmp_lt K.1 K.2.1 hd ht (fun hh => absurd (decide_eq_true hh) hc) (fun _ => w)) c
        | ge => exact z_pure (fun K I w => lv_icmp_ge K.1 K.2.1 hd ht (fun hh => absurd (decide_eq_true hh) hc) (fun _ => w)) c
        | gt => exact z_pure (fun K I w => lv_icmp_gt K.1 K.2.1 hd ht (fun hh => absurd (decide_eq_true hh) hc) (fun _ => w)) c
        | le => exact z_pure (fun K I w => lv_icmp_le K.1 K.2.1 hd ht (fun hh => absurd (decide_eq_true hh) hc) (fun _ => w)) c
    · cases h
  · cases h
theorem zs_ifc {cnd : Jvm.ClassFile.Cond} {off : Int} (hd : decode (z_cc T) pc = .ok (.ifCond cnd off, 3)) (h : z_ifc cnd off pc L st M = some o) (c : z_Cont l Z T lim o r) : z_Sim l Z T lim pc L st M r := by
  unfold z_ifc at h
  split at h
  · rename_i x st
    unfold z_br at h
    split at h
    · rename_i ht
      have ht := (Int.toNat_of_nonneg ht).symm
      split at h
      · rename_i hc
        obtain rfl := Option.some.inj h
        cases cnd with
        | eq => exact z_pure (fun K I w => lv_if_eq K.1 K.2.1 hd ht (fun _ => w) (fun hn => absurd (of_decide_eq_true hc) hn)) c
        | ne => exact z_pure (fun K I w => lv_if_ne K.1 K.2.1 hd ht (fun _ => w) (fun hn => absurd hn (of_decide_eq_true hc))) c
        | lt => exact z_pure (fun K I w => lv_if_lt K.1 K.2.1 hd ht (fun _ => w) (fun hn => absurd (of_decide_eq_true hc) hn)) c
        | ge => exact z_pure (fun K I w => lv_if_ge K.1 K.2.1 hd ht (fun _ => w) (fun hn => absurd (of_decide_eq_true hc) hn)) c
        | gt => exact z_pure (fun K I w => lv_if_gt K.1 K.2.1 hd ht (fun _ => w) (fun hn => absurd (of_decide_eq_true hc) hn)) c
        | le => exact z_pure (fun K I w => lv_if_le K.1 K.2.1 hd ht (fun _ => w) (fun hn => absurd (of_decide_eq_true hc) hn)) c
      · rename_i hc
        obtain rfl := Option.some.inj h
        cases cnd with
        | eq => exact z_pure (fun K I w => lv_if_eq K.1 K.2.1 hd ht (fun hh => absurd (decide_eq_true hh) hc) (fun _ => w)) c
        | ne => exact z_pure (fun K I w => lv_if_ne K.1 K.2.1 hd ht (fun hh => absurd (decide_eq_true hh) hc) (fun _ => w)) c
        | lt => exact z_pure (fun K I w => lv_if_lt K.1 K.2.1 hd ht (fun hh => absurd (decide_eq_true hh) hc) (fun _ => w)) c
        | ge => exact z_pure (fun K I w => lv_if_ge K.1 K.2.1 hd ht (fun hh => absurd (decide_eq_true hh) hc) (fun _ => w)) c
        | gt => exact z_pure (fun K I w => lv_if_gt K.1 K.2.1 hd ht (fun hh => absurd (decide_eq_true hh) hc) (fun _ => w)) c
        | le => exact z_pure (fun K I w => lv_if_le K.1 K.2.1 hd ht (fun hh => absurd (decide_eq_true hh) hc) (fun _ => w)) c
    · cases h
  · cases h
theorem zs_tsw {dflt lo hi : Int} {offs : Array Int} {len : Nat} (hd : decode (z_cc T) pc = .ok (.tableswitch dflt lo hi offs, len)) (h : z_tsw dflt lo hi offs pc L st M = some o) (c : z_Cont l Z T lim o r) : z_Sim l Z T lim pc L st M r := by
  unfold z_tsw at h
  split at h
  · split at h
    · rename_i hc
      exact zs_jp (fun tgt ht K I w => lv_tableOut K.1 K.2.1 hd hc ht w) h c
    · rename_i hc
      split at h
      · rename_i off ho
        exact zs_jp (fun tgt ht K I w => lv_tableIn K.1 K.2.1 hd (fun q => hc (Or.inl q)) (fun q => hc (Or.inr q)) ho ht w) h c
      · cases h
  · cases h
theorem zs_lsw {dflt : Int} {ps : Array (Int × Int)} {len : Nat} (hd : decode (z_cc T) pc = .ok (.lookupswitch dflt ps, len)) (h : z_lsw dflt ps pc L st M = some o) (c : z_Cont l Z T lim o r) : z_Sim l Z T lim pc L st M r := by
  unfold z_lsw at h
  split at h
  · split at h
    · rename_i hc
      exact zs_jp (fun tgt ht K I w => lv_lookup K.1 K.2.1 hd hc rfl ht w) h c
    · cases h
  · cases h
theorem zf_ldcw {p : Program} {e : Env} {R : Room} {s : State} {m : MethodId} {args : Array Value} {below : List Frame} {meth : Method} {c : Code} {Q : State → Prop} {H : Heap} {locs : List Loc} {cells slots pc : Nat} {ls : Array Slot} {rest : List Value} {cc : ByteArray} (hexec : p.tables.exec = Jvm.exec) (hb : c.code = cc) {own : String} {index : Nat} {v : UInt32} (hown : s.vm.findClass own = some m.cls) (hconst : (Jvm.Cond.constantFloat own index v).before args s = true) (hdg : decode cc pc = .ok (.ldc_w index, 3)) (k : W p l e R s m args below meth c H locs cells slots Q (F0 m (pc + 3) ls (.float v :: rest))) : W p l e R s m args below meth c H locs cells slots Q (F0 m pc ls rest) := by
  intro T hT X
  obtain ⟨t, a, b⟩ := k T hT X
  refine ⟨t, ?_, b⟩
  obtain ⟨kk, cf, hk, hcf, hcp⟩ := Cond.constantFloat_spec hown hconst
  obtain ⟨k', hk', he⟩ := X.warmed.alike.2.2 _ _ hk
  subst hb
  jvm_step X.here [hexec, hdg, ldc_w.wp_float (s := T) (f := F0 m pc ls rest) X.here.top hk' (by rw [he]; exact hcf) hcp]
  exact a
theorem zs_ldc {i : Nat} (hd : decode (z_cc T) pc = .ok (.ldc i, 2)) (h : z_ldc (z_ow T) i 2 pc L st M = some o) (c : z_Cont l Z T lim o r) : z_Sim l Z T lim pc L st M r := by
  unfold z_ldc at h
  split at h
  · rename_i x hx
    obtain rfl := Option.some.inj h
    exact z_pure (fun K I w => lv_ldc K.1 K.2.1 K.2.2.2.1 (K.2.2.2.2.1 _ (z_okS_all hx)) hd w) c
  · rename_i x hx
    obtain rfl := Option.some.inj h
    exact z_pure (fun K I w => lv_ldcf K.1 K.2.1 K.2.2.2.1 (K.2.2.2.2.1 _ (z_okS_all hx)) hd w) c
  · cases h
theorem zs_ldcw {i : Nat} (hd : decode (z_cc T) pc = .ok (.ldc_w i, 3)) (h : z_ldc (z_ow T) i 3 pc L st M = some o) (c : z_Cont l Z T lim o r) : z_Sim l Z T lim pc L st M r := by
  unfold z_ldc at h
  split at h
  · rename_i x hx
    obtain rfl := Option.some.inj h
    exact z_pure (fun K I w => lv_ldcw K.1 K.2.1 K.2.2.2.1 (K.2.2.2.2.1 _ (z_okS_all hx)) hd w) c
  · rename_i x hx
    obtain rfl := Option.some.inj h
    exact z_pure (fun K I w => zf_ldcw K.1 K.2.1 K.2.2.2.1 (K.2.2.2.2.1 _ (z_okS_all hx)) hd w) c
  · cases h
theorem zs_ldc2 {i : Nat} (hd : decode (z_cc T) pc = .ok (.ldc2_w i, 3)) (h : z_ldc2 (z_ow T) i pc L st M = some o) (c : z_Cont l Z T lim o r) : z_Sim l Z T lim pc L st M r := by
  unfold z_ldc2 at h
  split at h
  · rename_i x hx
    obtain rfl := Option.some.inj h
    exact z_pure (fun K I w => lv_ldc2 K.1 K.2.1 K.2.2.2.1 (K.2.2.2.2.1 _ (z_okS_all hx)) hd w) c
  · cases h
end ZI
