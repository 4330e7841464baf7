/-! THE LIGHT MACHINE: the bytecode of this claim run over a memory that is a function of addresses; stuck ('none') at whatever isn't needed. -/
abbrev z_E : Type := vp_A ⊕ (Nat × List Value)
abbrev z_M : Type := Nat × (Nat → Option z_E)
abbrev z_L : Type := List (Option Value)
abbrev z_R : Type := Option Value × z_M
abbrev z_S : Type := (Nat × z_L × List Value × z_M) ⊕ z_R
def z_up (M : z_M) (a : Nat) (e : z_E) : z_M := (M.1, fun x => if x = a then some e else M.2 x)
def z_nw (M : z_M) (e : z_E) : z_M := (M.1 + 1, fun x => if x = M.1 then some e else M.2 x)
abbrev z_I (n : Nat) (f : Nat → Int32) : z_E := .inl (n, .inl f)
abbrev z_F (n : Nat) (f : Nat → UInt32) : z_E := .inl (n, .inr (.inr (.inl f)))
abbrev z_Q (n : Nat) (f : Nat → Option Nat) : z_E := .inl (n, .inr (.inr (.inr (.inr f))))
abbrev z_O (c : Nat) (fs : List Value) : z_E := .inr (c, fs)
def z_gf (o : Option z_E) (ci k : Nat) : Option Value := match o with
  | some (.inr (c, fs)) => if c = ci then fs[k]? else none
  | _ => none
def z_pf (o : Option z_E) (ci k : Nat) (v : Value) : Option z_E := match o with
  | some (.inr (c, fs)) => if c = ci ∧ k < fs.length then some (.inr (c, fs.set k v)) else none
  | _ => none
def z_ix (i : Int32) (n : Nat) : Prop := ¬ i < 0 ∧ i.toNatClampNeg < n
def z_ixb (i : Int32) (n : Nat) : Bool := decide (¬ i < 0 ∧ i.toNatClampNeg < n)
/-- the law's own script lies at a cell of 'class 99', whose fields are its ints: it is read, never written -/
def z_sa (o : Option Value) : Option Value := match o with
  | some (.int x) => some (.int x)
  | _ => none
def z_ia (o : Option z_E) (i : Int32) : Option Value := match o with
  | some (.inl (n, .inl f)) => if z_ixb i n = true then some (.int (f i.toNatClampNeg)) else none
  | some (.inr (c, fs)) => if c = 99 ∧ z_ixb i fs.length = true then z_sa fs[i.toNatClampNeg]? else none
  | _ => none
def z_fa (o : Option z_E) (i : Int32) : Option Value := match o with
  | some (.inl (n, .inr (.inr (.inl f)))) => if z_ixb i n = true then some (.float (f i.toNatClampNeg)) else none
  | _ => none
def z_qa (o : Option z_E) (i : Int32) : Option Value := match o with
  | some (.inl (n, .inr (.inr (.inr (.inr f))))) => if z_ixb i n = true then (f i.toNatClampNeg).map Value.ref else none
  | _ => none
def z_is (o : Option z_E) (i x : Int32) : Option z_E := match o with
  | some (.inl (n, .inl f)) => if z_ixb i n = true then some (.inl (n, .inl (upd f i.toNatClampNeg x))) else none
  | _ => none
def z_fs (o : Option z_E) (i : Int32) (x : UInt32) : Option z_E := match o with
  | some (.inl (n, .inr (.inr (.inl f)))) => if z_ixb i n = true then some (.inl (n, .inr (.inr (.inl (vf_upd f i.toNatClampNeg x))))) else none
  | _ => none
def z_isO (o : Option z_E) (ci : Nat) : Bool := match o with
  | some (.inr (c, _)) => c == ci && c != 99
  | _ => false
def z_qs (o ov : Option z_E) (i : Int32) (v : Nat) : Option z_E := match o with
  | some (.inl (n, .inr (.inr (.inr (.inr f))))) => if z_ixb i n = true ∧ z_isO ov 0 = true then some (.inl (n, .inr (.inr (.inr (.inr (va_up f i.toNatClampNeg (some v))))))) else none
  | _ => none
/-- a whole row copied onto a row as long -/
def z_cpy (o p : Option z_E) (sp dp n : Int32) : Option z_E := match o, p with
  | some (.inl (n0, .inl f)), some (.inl (n1, .inl _)) => if sp = 0 ∧ dp = 0 ∧ ¬ n < 0 ∧ n.toNatClampNeg = n0 ∧ n0 = n1 then some (.inl (n1, .inl f)) else none
  | some (.inl (n0, .inr (.inr (.inl f)))), some (.inl (n1, .inr (.inr (.inl _)))) => if sp = 0 ∧ dp = 0 ∧ ¬ n < 0 ∧ n.toNatClampNeg = n0 ∧ n0 = n1 then some (.inl (n1, .inr (.inr (.inl f)))) else none
  | _, _ => none
/-- on with a value on the stack -/
def z_ps (pc : Nat) (ls : z_L) (st : List Value) (M : z_M) (o : Option Value) : Option z_S := match o with
  | some v => some (.inl (pc, ls, v :: st, M))
  | none => none
/-- on with a cell written -/
def z_wr (pc : Nat) (ls : z_L) (st : List Value) (M : z_M) (a : Nat) (o : Option z_E) : Option z_S := match o with
  | some e => some (.inl (pc, ls, st, z_up M a e))
  | none => none
def z_jp (pc : Nat) (off : Int) (ls : z_L) (st : List Value) (M : z_M) : Option z_S :=
  if 0 ≤ (pc : Int) + off then some (.inl (((pc : Int) + off).toNat, ls, st, M)) else none
def z_br (c : Bool) (pc : Nat) (off : Int) (ls : z_L) (st : List Value) (M : z_M) : Option z_S :=
  if 0 ≤ (pc : Int) + off then (if c = true then some (.inl (((pc : Int) + off).toNat, ls, st, M)) else some (.inl (pc + 3, ls, st, M))) else none
def z_ilod (k n pc : Nat) (ls : z_L) (st : List Value) (M : z_M) : Option z_S := match ls[k]? with
  | some (some (.int x)) => some (.inl (pc + n, ls, .int x :: st, M))
  | _ => none
def z_alod (k n pc : Nat) (ls : z_L) (st : List Value) (M : z_M) : Option z_S := match ls[k]? with
  | some (some (.ref x)) => some (.inl (pc + n, ls, .ref x :: st, M))
  | _ => none
def z_flod (k n pc : Nat) (ls : z_L) (st : List Value) (M : z_M) : Option z_S := match ls[k]? with
  | some (some (.float x)) => some (.inl (pc + n, ls, .float x :: st, M))
  | _ => none
def z_llod (k n pc : Nat) (ls : z_L) (st : List Value) (M : z_M) : Option z_S := match ls[k]? with
  | some (some (.long x)) => some (.inl (pc + n, ls, .long x :: st, M))
  | _ => none
/-- no long lies just before the place k -/
def z_ok2 (ls : z_L) (k : Nat) : Bool := match k with
  | 0 => true
  | j + 1 => match ls[j]? with
    | some (some v) => v.category == 1
    | _ => true
def z_sto (lg : Bool) (k pc : Nat) (ls : z_L) (v : Value) (st : List Value) (M : z_M) : Option z_S :=
  if k < ls.length ∧ (lg = false ∨ z_ok2 ls k = true) then some (.inl (pc, ls.set k (some v), st, M)) else none
def z_isto (lg : Bool) (k n pc : Nat) (ls : z_L) (st : List Value) (M : z_M) : Option z_S := match st with
  | .int x :: st => z_sto lg k (pc + n) ls (.int x) st M
  | _ => none
def z_asto (lg : Bool) (k n pc : Nat) (ls : z_L) (st : List Value) (M : z_M) : Option z_S := match st with
  | .ref x :: st => z_sto lg k (pc + n) ls (.ref x) st M
  | _ => none
def z_fsto (lg : Bool) (k n pc : Nat) (ls : z_L) (st : List Value) (M : z_M) : Option z_S := match st with
  | .float x :: st => z_sto lg k (pc + n) ls (.float x) st M
  | _ => none
def z_lsto (lg : Bool) (k n pc : Nat) (ls : z_L) (st : List Value) (M : z_M) : Option z_S := match st with
  | .long x :: st => if lg = true ∧ k + 1 < ls.length ∧ z_ok2 ls k = true then some (.inl (pc + n, (ls.set k (some (.long x))).set (k + 1) none, st, M)) else none
  | _ => none
def z_iinc (lg : Bool) (k : Nat) (n : Int) (pc : Nat) (ls : z_L) (st : List Value) (M : z_M) : Option z_S := match ls[k]? with
  | some (some (.int x)) => z_sto lg k (pc + 3) ls (.int (x + Int32.ofInt n)) st M
  | _ => none
def z_bin (f : Int32 → Int32 → Int32) (pc : Nat) (ls : z_L) (st : List Value) (M : z_M) : Option z_S := match st with
  | .int y :: .int x :: st => some (.inl (pc + 1, ls, .int (f x y) :: st, M))
  | _ => none
def z_bin0 (f : Int32 → Int32 → Int32) (pc : Nat) (ls : z_L) (st : List Value) (M : z_M) : Option z_S := match st with
  | .int y :: .int x :: st => if ¬ y = 0 then some (.inl (pc + 1, ls, .int (f x y) :: st, M)) else none
  | _ => none
def z_lbin (f : Int64 → Int64 → Int64) (pc : Nat) (ls : z_L) (st : List Value) (M : z_M) : Option z_S := match st with
  | .long y :: .long x :: st => some (.inl (pc + 1, ls, .long (f x y) :: st, M))
  | _ => none
/-- a number that is none (its bits are drawn): stuck there -/
def z_num (r : UInt32) : Bool := decide (r &&& 0x7fffffff ≤ 0x7f800000)
def z_fbin (f : UInt32 → UInt32 → UInt32) (pc : Nat) (ls : z_L) (st : List Value) (M : z_M) : Option z_S := match st with
  | .float y :: .float x :: st => if z_num (f x y) = true then some (.inl (pc + 1, ls, .float (f x y) :: st, M)) else none
  | _ => none
def z_cmp (cnd : Jvm.ClassFile.Cond) (x y : Int32) : Bool := match cnd with
  | .eq => decide (x = y)
  | .ne => decide (x ≠ y)
  | .lt => decide (x < y)
  | .ge => decide (y ≤ x)
  | .gt => decide (y < x)
  | .le => decide (x ≤ y)
def z_icmp (cnd : Jvm.ClassFile.Cond) (off : Int) (pc : Nat) (ls : z_L) (st : List Value) (M : z_M) : Option z_S := match st with
  | .int y :: .int x :: st => z_br (z_cmp cnd x y) pc off ls st M
  | _ => none
def z_ifc (cnd : Jvm.ClassFile.Cond) (off : Int) (pc : Nat) (ls : z_L) (st : List Value) (M : z_M) : Option z_S := match st with
  | .int x :: st => z_br (z_cmp cnd x 0) pc off ls st M
  | _ => none
def z_pok (ty : FieldType) (v : Value) : Bool := match ty, v with
  | .int, .int _ => true
  | .boolean, .int x => x == 0 || x == 1
  | .float, .float _ => true
  | .long, .long _ => true
  | .object _, .ref _ => true
  | .array _, .ref _ => true
  | _, _ => false
def z_fin (c k : Nat) : Bool := match vwCl[c]? with
  | some q => (q.2.1 k).2.2.2
  | none => true
def z_getf (own idx pc : Nat) (ls : z_L) (st : List Value) (M : z_M) : Option z_S := match z_fl own idx, st with
  | some (ci, k), .ref a :: st => z_ps (pc + 3) ls st M (z_gf (M.2 a) ci k)
  | _, _ => none
def z_putf (T : z_T) (idx pc : Nat) (ls : z_L) (st : List Value) (M : z_M) : Option z_S := match z_fl (z_ow T) idx, st with
  | some (ci, k), v :: .ref a :: st => if z_pok (z_ty ci k) v = true ∧ (z_fin ci k = false ∨ (T.1.name = "<init>" ∧ z_ow T = ci)) then z_wr (pc + 3) ls st M a (z_pf (M.2 a) ci k v) else none
  | _, _ => none
def z_iald (pc : Nat) (ls : z_L) (st : List Value) (M : z_M) : Option z_S := match st with
  | .int i :: .ref a :: st => z_ps (pc + 1) ls st M (z_ia (M.2 a) i)
  | _ => none
def z_fald (pc : Nat) (ls : z_L) (st : List Value) (M : z_M) : Option z_S := match st with
  | .int i :: .ref a :: st => z_ps (pc + 1) ls st M (z_fa (M.2 a) i)
  | _ => none
def z_aald (pc : Nat) (ls : z_L) (st : List Value) (M : z_M) : Option z_S := match st with
  | .int i :: .ref a :: st => z_ps (pc + 1) ls st M (z_qa (M.2 a) i)
  | _ => none
def z_iast (pc : Nat) (ls : z_L) (st : List Value) (M : z_M) : Option z_S := match st with
  | .int x :: .int i :: .ref a :: st => z_wr (pc + 1) ls st M a (z_is (M.2 a) i x)
  | _ => none
def z_fast (pc : Nat) (ls : z_L) (st : List Value) (M : z_M) : Option z_S := match st with
  | .float x :: .int i :: .ref a :: st => z_wr (pc + 1) ls st M a (z_fs (M.2 a) i x)
  | _ => none
def z_aast (pc : Nat) (ls : z_L) (st : List Value) (M : z_M) : Option z_S := match st with
  | .ref v :: .int i :: .ref a :: st => z_wr (pc + 1) ls st M a (z_qs (M.2 a) (M.2 v) i v)
  | _ => none
def z_new (own idx lim pc : Nat) (ls : z_L) (st : List Value) (M : z_M) : Option z_S := match z_nc own idx with
  | some ci => if M.1 + 1 ≤ lim then some (.inl (pc + 3, ls, .ref M.1 :: st, z_nw M (.inr (ci, z_df ci)))) else none
  | none => none
def z_newa (ty : ArrayType) (lim pc : Nat) (ls : z_L) (st : List Value) (M : z_M) : Option z_S := match ty, st with
  | .int, .int n :: st => if ¬ n < 0 ∧ n.toNatClampNeg ≤ 6797 ∧ M.1 + 1 ≤ lim then some (.inl (pc + 2, ls, .ref M.1 :: st, z_nw M (.inl (n.toNatClampNeg, .inl (fun _ => 0))))) else none
  | .float, .int n :: st => if ¬ n < 0 ∧ n.toNatClampNeg ≤ 6797 ∧ M.1 + 1 ≤ lim then some (.inl (pc + 2, ls, .ref M.1 :: st, z_nw M (.inl (n.toNatClampNeg, .inr (.inr (.inl (fun _ => 0))))))) else none
  | _, _ => none
def z_anew (own idx lim pc : Nat) (ls : z_L) (st : List Value) (M : z_M) : Option z_S := match z_nc own idx, st with
  | some 0, .int n :: st => if ¬ n < 0 ∧ n.toNatClampNeg ≤ 6797 ∧ M.1 + 1 ≤ lim then some (.inl (pc + 3, ls, .ref M.1 :: st, z_nw M (.inl (n.toNatClampNeg, .inr (.inr (.inr (.inr (fun _ => none)))))))) else none
  | _, _ => none
def z_fin0 (T : z_T) (lim : Nat) (v : Option Value) (M : z_M) : Option z_S := if z_mc T = 0 ∨ M.1 = lim then some (.inr (v, M)) else none
def z_iret (T : z_T) (lim : Nat) (st : List Value) (M : z_M) : Option z_S := match z_rt T, st with
  | some .int, [.int x] => z_fin0 T lim (some (.int x)) M
  | some .boolean, [.int x] => if x = 0 ∨ x = 1 then z_fin0 T lim (some (.int x)) M else none
  | _, _ => none
def z_lret (T : z_T) (lim : Nat) (st : List Value) (M : z_M) : Option z_S := match z_rt T, st with
  | some .long, [.long x] => z_fin0 T lim (some (.long x)) M
  | _, _ => none
def z_fret (T : z_T) (lim : Nat) (st : List Value) (M : z_M) : Option z_S := match z_rt T, st with
  | some .float, [.float x] => z_fin0 T lim (some (.float x)) M
  | _, _ => none
def z_vret (T : z_T) (lim : Nat) (st : List Value) (M : z_M) : Option z_S := match z_rt T, st with
  | none, [] => z_fin0 T lim none M
  | _, _ => none
/-- what a call goes on with -/
def z_bk (pc : Nat) (ls : z_L) (st : List Value) (o : Option z_R) : Option z_S := match o with
  | some (v, M) => some (.inl (pc, ls, v.toList ++ st, M))
  | none => none
def z_rcv (kd : Nat) (M : z_M) (As : List Value) (ci : Nat) : Bool := match kd, As with
  | 0, _ => true
  | 1, .ref b :: _ => z_isO (M.2 b) ci
  | 2, .ref _ :: _ => true
  | _, _ => false
def z_inv (cal : Nat → List Value → z_M → Option z_R) (T : z_T) (kd idx lim pc : Nat) (ls : z_L) (st : List Value) (M : z_M) : Option z_S := match z_ml (z_ow T) idx with
  | some (mid, n, kd') => match z_tab mid with
    | some T' => if kd' = kd ∧ n ≤ st.length ∧ (st.drop n).length ≤ 4 ∧ z_fr T' + 1 ≤ z_fr T ∧ 8 + (z_mL T' + 11) + z_lo T' ≤ z_lo T ∧ (z_mc T' = 0 ∨ M.1 + z_mc T' ≤ lim) ∧ z_rcv kd M (st.take n).reverse (z_ow T') = true then
        z_bk (pc + 3) ls (st.drop n) (cal mid (st.take n).reverse M) else none
    | none => none
  | none => none
def z_nat (T : z_T) (kd idx pc : Nat) (ls : z_L) (st : List Value) (M : z_M) : Option z_S := match z_nt (z_ow T) idx, kd, st with
  | some 0, 2, .ref _ :: st => if st.length ≤ 4 ∧ 1 ≤ z_fr T ∧ 30 ≤ z_lo T then some (.inl (pc + 3, ls, st, M)) else none
  | some 1, 0, .int n :: .int dp :: .ref a :: .int sp :: .ref a0 :: st => if st.length ≤ 4 ∧ 1 ≤ z_fr T ∧ 30 ≤ z_lo T then z_wr (pc + 3) ls st M a (z_cpy (M.2 a0) (M.2 a) sp dp n) else none
  | some 2, 0, .float x :: st => if st.length ≤ 4 ∧ 1 ≤ z_fr T ∧ 30 ≤ z_lo T then some (.inl (pc + 3, ls, .int x.toInt32 :: st, M)) else none
  | _, _, _ => none
def z_call (cal : Nat → List Value → z_M → Option z_R) (T : z_T) (kd idx lim pc : Nat) (ls : z_L) (st : List Value) (M : z_M) : Option z_S :=
  if (z_ml (z_ow T) idx).isSome then z_inv cal T kd idx lim pc ls st M else z_nat T kd idx pc ls st M
def z_tsw (dflt lo hi : Int) (offs : Array Int) (pc : Nat) (ls : z_L) (st : List Value) (M : z_M) : Option z_S := match st with
  | .int x :: st => if x.toInt < lo ∨ hi < x.toInt then z_jp pc dflt ls st M else match offs[(x.toInt - lo).toNat]? with
    | some off => z_jp pc off ls st M
    | none => none
  | _ => none
def z_lsw (dflt : Int) (ps : Array (Int × Int)) (pc : Nat) (ls : z_L) (st : List Value) (M : z_M) : Option z_S := match st with
  | .int x :: st => if (ps.toList.zip (ps.toList.drop 1)).all (fun (a, next) => a.1 < next.1) = true then z_jp pc (Op.lookupswitch.offset ps.toList dflt x.toInt) ls st M else none
  | _ => none
def z_dup (pc : Nat) (ls : z_L) (st : List Value) (M : z_M) : Option z_S := match st with
  | v :: st => if v.category = 1 then some (.inl (pc + 1, ls, v :: v :: st, M)) else none
  | _ => none
def z_dup2 (pc : Nat) (ls : z_L) (st : List Value) (M : z_M) : Option z_S := match st with
  | v :: w :: st => if v.category = 1 ∧ w.category = 1 then some (.inl (pc + 1, ls, v :: w :: v :: w :: st, M)) else none
  | _ => none
def z_ldc (own idx n pc : Nat) (ls : z_L) (st : List Value) (M : z_M) : Option z_S := match z_cs own idx with
  | some (.int x) => some (.inl (pc + n, ls, .int x :: st, M))
  | some (.float x) => some (.inl (pc + n, ls, .float x :: st, M))
  | _ => none
def z_ldc2 (own idx pc : Nat) (ls : z_L) (st : List Value) (M : z_M) : Option z_S := match z_cs own idx with
  | some (.long x) => some (.inl (pc + 3, ls, .long x :: st, M))
  | _ => none
def z_alen (pc : Nat) (ls : z_L) (st : List Value) (M : z_M) : Option z_S := match st with
  | .ref a :: st => match M.2 a with
    | some (.inr (c, fs)) => if c = 99 then some (.inl (pc + 1, ls, .int (Int32.ofNat fs.length) :: st, M)) else none
    | _ => none
  | _ => none
def z_fcmp (op : CmpOp) (pc : Nat) (ls : z_L) (st : List Value) (M : z_M) : Option z_S := match st with
  | .float y :: .float x :: st => some (.inl (pc + 1, ls, .int (Op.cmpValue (FP.fcmp x y) op) :: st, M))
  | _ => none
def z_lcmp (pc : Nat) (ls : z_L) (st : List Value) (M : z_M) : Option z_S := match st with
  | .long y :: .long x :: st => some (.inl (pc + 1, ls, .int (lg_cmp x y) :: st, M))
  | _ => none
def z_i2f (pc : Nat) (ls : z_L) (st : List Value) (M : z_M) : Option z_S := match st with
  | .int x :: st => some (.inl (pc + 1, ls, .float (FP.i2f x) :: st, M))
  | _ => none
def z_f2i (pc : Nat) (ls : z_L) (st : List Value) (M : z_M) : Option z_S := match st with
  | .float x :: st => some (.inl (pc + 1, ls, .int (FP.f2i x) :: st, M))
  | _ => none
def z_i2l (pc : Nat) (ls : z_L) (st : List Value) (M : z_M) : Option z_S := match st with
  | .int x :: st => some (.inl (pc + 1, ls, .long x.toInt64 :: st, M))
  | _ => none
def z_fcs (f : Fin 3) (pc : Nat) (ls : z_L) (st : List Value) (M : z_M) : Option z_S := match f with
  | 0 => some (.inl (pc + 1, ls, .float 0x00000000 :: st, M))
  | 1 => some (.inl (pc + 1, ls, .float 0x3f800000 :: st, M))
  | 2 => some (.inl (pc + 1, ls, .float 0x40000000 :: st, M))
/-- how long an instruction is (0: any) -/
def z_len (ins : Instr) : Nat := match ins with
  | .iload _ => 2
  | .aload _ => 2
  | .fload _ => 2
  | .lload _ => 2
  | .istore _ => 2
  | .astore _ => 2
  | .fstore _ => 2
  | .lstore _ => 2
  | .bipush _ => 2
  | .ldc _ => 2
  | .newarray _ => 2
  | .sipush _ => 3
  | .iinc _ _ => 3
  | .getfield _ => 3
  | .putfield _ => 3
  | .goto _ => 3
  | .if_icmp _ _ => 3
  | .ifCond _ _ => 3
  | .invokevirtual _ => 3
  | .invokestatic _ => 3
  | .invokespecial _ => 3
  | .new _ => 3
  | .anewarray _ => 3
  | .ldc_w _ => 3
  | .ldc2_w _ => 3
  | .tableswitch _ _ _ _ => 0
  | .lookupswitch _ _ => 0
  | _ => 1
def z_ins (cal : Nat → List Value → z_M → Option z_R) (T : z_T) (lim : Nat) (ins : Instr) (pc : Nat) (ls : z_L) (st : List Value) (M : z_M) : Option z_S := match ins with
  | .iload k => z_ilod k 2 pc ls st M
  | .iload_n k => z_ilod k 1 pc ls st M
  | .aload k => z_alod k 2 pc ls st M
  | .aload_n k => z_alod k 1 pc ls st M
  | .fload k => z_flod k 2 pc ls st M
  | .fload_n k => z_flod k 1 pc ls st M
  | .lload_n k => z_llod k 1 pc ls st M
  | .istore k => z_isto (z_lg T) k 2 pc ls st M
  | .istore_n k => z_isto (z_lg T) k 1 pc ls st M
  | .astore k => z_asto (z_lg T) k 2 pc ls st M
  | .astore_n k => z_asto (z_lg T) k 1 pc ls st M
  | .fstore k => z_fsto (z_lg T) k 2 pc ls st M
  | .fstore_n k => z_fsto (z_lg T) k 1 pc ls st M
  | .lstore_n k => z_lsto (z_lg T) k 1 pc ls st M
  | .iinc k n => z_iinc (z_lg T) k n pc ls st M
  | .iconst n => some (.inl (pc + 1, ls, .int (Int32.ofInt n) :: st, M))
  | .bipush n => some (.inl (pc + 2, ls, .int (Int8.ofInt n).toInt32 :: st, M))
  | .sipush n => some (.inl (pc + 3, ls, .int (Int16.ofInt n).toInt32 :: st, M))
  | .fconst f => z_fcs f pc ls st M
  | .ldc i => z_ldc (z_ow T) i 2 pc ls st M
  | .ldc_w i => z_ldc (z_ow T) i 3 pc ls st M
  | .ldc2_w i => z_ldc2 (z_ow T) i pc ls st M
  | .iadd => z_bin (fun x y => x + y) pc ls st M
  | .isub => z_bin (fun x y => x - y) pc ls st M
  | .imul => z_bin (fun x y => x * y) pc ls st M
  | .idiv => z_bin0 (fun x y => x / y) pc ls st M
  | .irem => z_bin0 (fun x y => x - x / y * y) pc ls st M
  | .ishl => z_bin (fun x y => x <<< (y &&& 31)) pc ls st M
  | .ishr => z_bin (fun x y => x >>> (y &&& 31)) pc ls st M
  | .iushr => z_bin (fun x y => (x.toUInt32 >>> (y.toUInt32 &&& Int32.toUInt32 31)).toInt32) pc ls st M
  | .iand => z_bin (fun x y => x &&& y) pc ls st M
  | .ior => z_bin (fun x y => x ||| y) pc ls st M
  | .ixor => z_bin (fun x y => x ^^^ y) pc ls st M
  | .ladd => z_lbin (fun x y => x + y) pc ls st M
  | .lmul => z_lbin (fun x y => x * y) pc ls st M
  | .fadd => z_fbin FP.fadd pc ls st M
  | .fsub => z_fbin FP.fsub pc ls st M
  | .fmul => z_fbin FP.fmul pc ls st M
  | .fdiv => z_fbin FP.fdiv pc ls st M
  | .fcmp op => z_fcmp op pc ls st M
  | .lcmp => z_lcmp pc ls st M
  | .i2f => z_i2f pc ls st M
  | .f2i => z_f2i pc ls st M
  | .i2l => z_i2l pc ls st M
  | .dup => z_dup pc ls st M
  | .dup2 => z_dup2 pc ls st M
  | .goto off => z_jp pc off ls st M
  | .if_icmp cnd off => z_icmp cnd off pc ls st M
  | .ifCond cnd off => z_ifc cnd off pc ls st M
  | .tableswitch d lo hi offs => z_tsw d lo hi offs pc ls st M
  | .lookupswitch d ps => z_lsw d ps pc ls st M
  | .getfield i => z_getf (z_ow T) i pc ls st M
  | .putfield i => z_putf T i pc ls st M
  | .iaload => z_iald pc ls st M
  | .faload => z_fald pc ls st M
  | .aaload => z_aald pc ls st M
  | .iastore => z_iast pc ls st M
  | .fastore => z_fast pc ls st M
  | .aastore => z_aast pc ls st M
  | .arraylength => z_alen pc ls st M
  | .new i => z_new (z_ow T) i lim pc ls st M
  | .newarray ty => z_newa ty lim pc ls st M
  | .anewarray i => z_anew (z_ow T) i lim pc ls st M
  | .invokevirtual i => z_call cal T 1 i lim pc ls st M
  | .invokestatic i => z_call cal T 0 i lim pc ls st M
  | .invokespecial i => z_call cal T 2 i lim pc ls st M
  | .ireturn => z_iret T lim st M
  | .lreturn => z_lret T lim st M
  | .freturn => z_fret T lim st M
  | .return_ => z_vret T lim st M
  | _ => none
def z_step (cal : Nat → List Value → z_M → Option z_R) (T : z_T) (lim pc : Nat) (ls : z_L) (st : List Value) (M : z_M) : Option z_S := match decode (z_cc T) pc with
  | .ok (ins, len) => if z_len ins = 0 ∨ z_len ins = len then z_ins cal T lim ins pc ls st M else none
  | _ => none
def z_phi (s : Slot) : Option Value := match s with
  | .val v => some v
  | _ => none
/-- the locals at a method's entry -/
def z_ent (T : z_T) (As : List Value) : Option z_L :=
  if (z_lg T = true ∨ As.all (fun v => v.category == 1) = true) ∧ (lg_sl As).length ≤ z_mL T then some ((lg_sl As ++ List.replicate (z_mL T - (lg_sl As).length) Slot.unset).map z_phi) else none
def z_cal (run : Nat → Nat → Nat → z_L → List Value → z_M → Option z_R) (mid : Nat) (As : List Value) (M : z_M) : Option z_R := match z_tab mid with
  | some T => match z_ent T As with
    | some L => run mid (M.1 + z_mc T) 0 L [] M
    | none => none
  | none => none
def z_nx (run : Nat → z_L → List Value → z_M → Option z_R) (o : Option z_S) : Option z_R := match o with
  | none => none
  | some (.inr r) => some r
  | some (.inl (pc, ls, st, M)) => run pc ls st M
def z_run : Nat → Nat → Nat → Nat → z_L → List Value → z_M → Option z_R
  | 0, _, _, _, _, _, _ => none
  | n + 1, mid, lim, pc, ls, st, M => match z_tab mid with
    | some T => z_nx (z_run n mid lim) (z_step (z_cal (z_run n)) T lim pc ls st M)
    | none => none
