/-! rows that run the light machine: an equation an instruction -/
theorem ze {mid : Nat} {T : z_T} {pc len : Nat} {ins : Instr} (hT : z_tab mid = some T) (hd : decode (z_cc T) pc = .ok (ins, len)) (hl : z_len ins = 0 ∨ z_len ins = len) (lim : Nat) (ls : z_L) (st : List Value) (M : z_M) : z_ex mid lim pc ls st M = z_nx (z_ex mid lim) (z_ins z_cl T lim ins pc ls st M) := by
  rw [z_ex_eq hT]
  unfold z_step
  rw [hd]
  simp only [if_pos hl]
/-- on with a value, if there is one -/
noncomputable def z_pv (mid lim pc : Nat) (ls : z_L) (st : List Value) (M : z_M) (o : Option Value) : Option z_R := match o with
  | some v => z_ex mid lim pc ls (v :: st) M
  | none => none
theorem z_pv_some (mid lim pc : Nat) (ls : z_L) (st : List Value) (M : z_M) (v : Value) : z_pv mid lim pc ls st M (some v) = z_ex mid lim pc ls (v :: st) M := rfl
/-- on with a cell written, if there is one -/
noncomputable def z_wv (mid lim pc : Nat) (ls : z_L) (st : List Value) (M : z_M) (a : Nat) (o : Option z_E) : Option z_R := match o with
  | some e => z_ex mid lim pc ls st (z_up M a e)
  | none => none
theorem z_wv_some (mid lim pc : Nat) (ls : z_L) (st : List Value) (M : z_M) (a : Nat) (e : z_E) : z_wv mid lim pc ls st M a (some e) = z_ex mid lim pc ls st (z_up M a e) := rfl
/-- on behind a call -/
noncomputable def z_cv (mid lim pc : Nat) (ls : z_L) (st : List Value) (o : Option z_R) : Option z_R := match o with
  | some (some v, M) => z_ex mid lim pc ls (v :: st) M
  | some (none, M) => z_ex mid lim pc ls st M
  | none => none
theorem z_cv_v (mid lim pc : Nat) (ls : z_L) (st : List Value) (v : Value) (M : z_M) : z_cv mid lim pc ls st (some (some v, M)) = z_ex mid lim pc ls (v :: st) M := rfl
theorem z_cv_n (mid lim pc : Nat) (ls : z_L) (st : List Value) (M : z_M) : z_cv mid lim pc ls st (some (none, M)) = z_ex mid lim pc ls st M := rfl
/-- a call to an object of this class -/
def z_rc (o : Option z_E) (ci : Nat) (r : Option z_R) : Option z_R := if z_isO o ci = true then r else none
theorem z_nx_ps (mid lim pc : Nat) (ls : z_L) (st : List Value) (M : z_M) (o : Option Value) : z_nx (z_ex mid lim) (z_ps pc ls st M o) = z_pv mid lim pc ls st M o := by
  cases o <;> rfl
theorem z_nx_wr (mid lim pc : Nat) (ls : z_L) (st : List Value) (M : z_M) (a : Nat) (o : Option z_E) : z_nx (z_ex mid lim) (z_wr pc ls st M a o) = z_wv mid lim pc ls st M a o := by
  cases o <;> rfl
theorem z_nx_bk (mid lim pc : Nat) (ls : z_L) (st : List Value) (o : Option z_R) : z_nx (z_ex mid lim) (z_bk pc ls st o) = z_cv mid lim pc ls st o := by
  rcases o with _ | ⟨_ | v, M⟩ <;> rfl
section ZR
variable {mid : Nat} {T : z_T} {pc : Nat} (hT : z_tab mid = some T)
theorem zr_get {idx ci k : Nat} (hT : z_tab mid = some T) (hd : decode (z_cc T) pc = .ok (.getfield idx, 3)) (hf : z_fl (z_ow T) idx = some (ci, k)) (lim : Nat) (ls : z_L) (st : List Value) (M : z_M) (a : Nat) : z_ex mid lim pc ls (.ref a :: st) M = z_pv mid lim (pc + 3) ls st M (z_gf (M.2 a) ci k) := by
  rw [ze hT hd (Or.inr rfl)]
  show z_nx _ (z_getf (z_ow T) idx pc ls (.ref a :: st) M) = _
  unfold z_getf
  rw [hf]
  exact z_nx_ps _ _ _ _ _ _ _
theorem zr_put {idx ci k : Nat} (hT : z_tab mid = some T) (hd : decode (z_cc T) pc = .ok (.putfield idx, 3)) (hf : z_fl (z_ow T) idx = some (ci, k)) {v : Value} (hp : z_pok (z_ty ci k) v = true) (hn : z_fin ci k = false ∨ (T.1.name = "<init>" ∧ z_ow T = ci)) (lim : Nat) (ls : z_L) (st : List Value) (M : z_M) (a : Nat) : z_ex mid lim pc ls (v :: .ref a :: st) M = z_wv mid lim (pc + 3) ls st M a (z_pf (M.2 a) ci k v) := by
  rw [ze hT hd (Or.inr rfl)]
  show z_nx _ (z_putf T idx pc ls (v :: .ref a :: st) M) = _
  unfold z_putf
  rw [hf]
  simp only [if_pos (And.intro hp hn)]
  exact z_nx_wr _ _ _ _ _ _ _ _
theorem zr_iald (hT : z_tab mid = some T) (hd : decode (z_cc T) pc = .ok (.iaload, 1)) (lim : Nat) (ls : z_L) (st : List Value) (M : z_M) (a : Nat) (i : Int32) : z_ex mid lim pc ls (.int i :: .ref a :: st) M = z_pv mid lim (pc + 1) ls st M (z_ia (M.2 a) i) := by
  rw [ze hT hd (Or.inr rfl)]
  exact z_nx_ps _ _ _ _ _ _ _
theorem zr_fald (hT : z_tab mid = some T) (hd : decode (z_cc T) pc = .ok (.faload, 1)) (lim : Nat) (ls : z_L) (st : List Value) (M : z_M) (a : Nat) (i : Int32) : z_ex mid lim pc ls (.int i :: .ref a :: st) M = z_pv mid lim (pc + 1) ls st M (z_fa (M.2 a) i) := by
  rw [ze hT hd (Or.inr rfl)]
  exact z_nx_ps _ _ _ _ _ _ _
theorem zr_aald (hT : z_tab mid = some T) (hd : decode (z_cc T) pc = .ok (.aaload, 1)) (lim : Nat) (ls : z_L) (st : List Value) (M : z_M) (a : Nat) (i : Int32) : z_ex mid lim pc ls (.int i :: .ref a :: st) M = z_pv mid lim (pc + 1) ls st M (z_qa (M.2 a) i) := by
  rw [ze hT hd (Or.inr rfl)]
  exact z_nx_ps _ _ _ _ _ _ _
theorem zr_iast (hT : z_tab mid = some T) (hd : decode (z_cc T) pc = .ok (.iastore, 1)) (lim : Nat) (ls : z_L) (st : List Value) (M : z_M) (a : Nat) (i x : Int32) : z_ex mid lim pc ls (.int x :: .int i :: .ref a :: st) M = z_wv mid lim (pc + 1) ls st M a (z_is (M.2 a) i x) := by
  rw [ze hT hd (Or.inr rfl)]
  exact z_nx_wr _ _ _ _ _ _ _ _
theorem zr_fast (hT : z_tab mid = some T) (hd : decode (z_cc T) pc = .ok (.fastore, 1)) (lim : Nat) (ls : z_L) (st : List Value) (M : z_M) (a : Nat) (i : Int32) (x : UInt32) : z_ex mid lim pc ls (.float x :: .int i :: .ref a :: st) M = z_wv mid lim (pc + 1) ls st M a (z_fs (M.2 a) i x) := by
  rw [ze hT hd (Or.inr rfl)]
  exact z_nx_wr _ _ _ _ _ _ _ _
theorem zr_aast (hT : z_tab mid = some T) (hd : decode (z_cc T) pc = .ok (.aastore, 1)) (lim : Nat) (ls : z_L) (st : List Value) (M : z_M) (a v : Nat) (i : Int32) : z_ex mid lim pc ls (.ref v :: .int i :: .ref a :: st) M = z_wv mid lim (pc + 1) ls st M a (z_qs (M.2 a) (M.2 v) i v) := by
  rw [ze hT hd (Or.inr rfl)]
  exact z_nx_wr _ _ _ _ _ _ _ _
theorem z_nx_br (mid lim : Nat) {b : Bool} {c : Prop} [Decidable c] (hc : b = decide c) (pc t : Nat) (off : Int) (ht : (pc : Int) + off = (t : Int)) (ls : z_L) (st : List Value) (M : z_M) : z_nx (z_ex mid lim) (z_br b pc off ls st M) = if c then z_ex mid lim t ls st M else z_ex mid lim (pc + 3) ls st M := by
  subst hc
  unfold z_br
  have h0 : 0 ≤ (pc : Int) + off := by omega
  have h1 : ((pc : Int) + off).toNat = t := by omega
  rw [if_pos h0, h1]
  by_cases h : c
  · simp only [h, decide_true, if_true]; rfl
  · simp only [h, decide_false, if_false]; rfl
end ZR
section ZRC
variable {mid mid' : Nat} {T T' : z_T} {pc idx n : Nat}
theorem z_take_rev {As rest : List Value} (hn : As.length = n) : (List.take n (As.reverse ++ rest)).reverse = As ∧ List.drop n (As.reverse ++ rest) = rest := by
  have h : As.reverse.length = n := by rw [List.length_reverse]; exact hn
  constructor
  · rw [← h, List.take_left', List.reverse_reverse]; rfl
  · rw [← h, List.drop_left']; rfl
theorem zr_st (hT : z_tab mid = some T) (hd : decode (z_cc T) pc = .ok (.invokestatic idx, 3)) (hml : z_ml (z_ow T) idx = some (mid', n, 0)) (hT' : z_tab mid' = some T') (hmc : z_mc T' = 0) (hroom : z_fr T' + 1 ≤ z_fr T ∧ 8 + (z_mL T' + 11) + z_lo T' ≤ z_lo T) (As rest : List Value) (hn : As.length = n) (hr : rest.length ≤ 4) (lim : Nat) (ls : z_L) (M : z_M) : z_ex mid lim pc ls (As.reverse ++ rest) M = z_cv mid lim (pc + 3) ls rest (z_cl mid' As M) := by
  rw [ze hT hd (Or.inr rfl)]
  show z_nx _ (z_call z_cl T 0 idx lim pc ls _ M) = _
  unfold z_call
  rw [hml, if_pos (show (some _).isSome = true from rfl)]
  unfold z_inv
  rw [hml]
  simp only [hT']
  obtain ⟨h1, h2⟩ := z_take_rev (rest := rest) hn
  rw [h1, h2, if_pos ⟨trivial, by rw [List.length_append, List.length_reverse]; omega, hr, hroom.1, hroom.2, Or.inl hmc, rfl⟩]
  exact z_nx_bk _ _ _ _ _ _
theorem zr_vi (hT : z_tab mid = some T) (hd : decode (z_cc T) pc = .ok (.invokevirtual idx, 3)) (hml : z_ml (z_ow T) idx = some (mid', n, 1)) (hT' : z_tab mid' = some T') (hmc : z_mc T' = 0) (hroom : z_fr T' + 1 ≤ z_fr T ∧ 8 + (z_mL T' + 11) + z_lo T' ≤ z_lo T) (b : Nat) (As rest : List Value) (hn : As.length + 1 = n) (hr : rest.length ≤ 4) (lim : Nat) (ls : z_L) (M : z_M) : z_ex mid lim pc ls (As.reverse ++ .ref b :: rest) M = z_cv mid lim (pc + 3) ls rest (z_rc (M.2 b) (z_ow T') (z_cl mid' (.ref b :: As) M)) := by
  rw [ze hT hd (Or.inr rfl)]
  show z_nx _ (z_call z_cl T 1 idx lim pc ls _ M) = _
  unfold z_call
  rw [hml, if_pos (show (some _).isSome = true from rfl)]
  unfold z_inv
  rw [hml]
  simp only [hT']
  obtain ⟨h1, h2⟩ := z_take_rev (As := .ref b :: As) (rest := rest) (n := n) (by rw [List.length_cons]; exact hn)
  have hst : As.reverse ++ .ref b :: rest = (Value.ref b :: As).reverse ++ rest := by simp
  rw [hst, h1, h2]
  unfold z_rc
  by_cases hb : z_isO (M.2 b) (z_ow T') = true
  · rw [if_pos hb, if_pos ⟨trivial, by rw [List.length_append, List.length_reverse, List.length_cons]; omega, hr, hroom.1, hroom.2, Or.inl hmc, hb⟩]
    exact z_nx_bk _ _ _ _ _ _
  · rw [if_neg hb, if_neg (fun h => hb h.2.2.2.2.2.2)]
    rfl
theorem zr_sp (hT : z_tab mid = some T) (hd : decode (z_cc T) pc = .ok (.invokespecial idx, 3)) (hml : z_ml (z_ow T) idx = some (mid', n, 2)) (hT' : z_tab mid' = some T') (hroom : z_fr T' + 1 ≤ z_fr T ∧ 8 + (z_mL T' + 11) + z_lo T' ≤ z_lo T) (b : Nat) (As rest : List Value) (hn : As.length + 1 = n) (hr : rest.length ≤ 4) (lim : Nat) (ls : z_L) (M : z_M) (hmc : z_mc T' = 0 ∨ M.1 + z_mc T' ≤ lim) : z_ex mid lim pc ls (As.reverse ++ .ref b :: rest) M = z_cv mid lim (pc + 3) ls rest (z_cl mid' (.ref b :: As) M) := by
  rw [ze hT hd (Or.inr rfl)]
  show z_nx _ (z_call z_cl T 2 idx lim pc ls _ M) = _
  unfold z_call
  rw [hml, if_pos (show (some _).isSome = true from rfl)]
  unfold z_inv
  rw [hml]
  simp only [hT']
  obtain ⟨h1, h2⟩ := z_take_rev (As := .ref b :: As) (rest := rest) (n := n) (by rw [List.length_cons]; exact hn)
  have hst : As.reverse ++ .ref b :: rest = (Value.ref b :: As).reverse ++ rest := by simp
  rw [hst, h1, h2, if_pos ⟨trivial, by rw [List.length_append, List.length_reverse, List.length_cons]; omega, hr, hroom.1, hroom.2, hmc, rfl⟩]
  exact z_nx_bk _ _ _ _ _ _
/-- a method entered -/
theorem zr_in {L : z_L} {As : List Value} (hT : z_tab mid = some T) (hE : z_ent T As = some L) (hmc : z_mc T = 0) (M : z_M) : z_cl mid As M = z_ex mid M.1 0 L [] M := by
  show z_cal z_ex mid As M = _
  unfold z_cal
  rw [hT]
  simp only [hE, hmc, Nat.add_zero]
theorem zr_inC {L : z_L} {As : List Value} (hT : z_tab mid = some T) (hE : z_ent T As = some L) (M : z_M) : z_cl mid As M = z_ex mid (M.1 + z_mc T) 0 L [] M := by
  show z_cal z_ex mid As M = _
  unfold z_cal
  rw [hT]
  simp only [hE]
theorem z_nx_if (run : Nat → z_L → List Value → z_M → Option z_R) (c : Prop) [Decidable c] (o : Option z_S) : z_nx run (if c then o else none) = if c then z_nx run o else none := by
  by_cases h : c
  · rw [if_pos h, if_pos h]
  · rw [if_neg h, if_neg h]; rfl
theorem z_tsw_out {x : Int32} {lo hi : Int} (h : ∀ k : Int, lo ≤ k → k ≤ hi → x ≠ Int32.ofInt k) : x.toInt < lo ∨ hi < x.toInt := by
  by_cases h1 : x.toInt < lo
  · exact Or.inl h1
  · by_cases h2 : hi < x.toInt
    · exact Or.inr h2
    · exact absurd (Int32.ofInt_toInt x).symm (h x.toInt (by omega) (by omega))
end ZRC
theorem z_nx_jp (mid lim pc t : Nat) (off : Int) (ht : (pc : Int) + off = (t : Int)) (ls : z_L) (st : List Value) (M : z_M) : z_nx (z_ex mid lim) (z_jp pc off ls st M) = z_ex mid lim t ls st M := by
  unfold z_jp
  have h0 : 0 ≤ (pc : Int) + off := by omega
  have h1 : ((pc : Int) + off).toNat = t := by omega
  rw [if_pos h0, h1]
  rfl
theorem zr_tswd {mid : Nat} {T : z_T} {pc len t : Nat} {dflt lo hi : Int} {offs : Array Int} (hT : z_tab mid = some T) (hd : decode (z_cc T) pc = .ok (.tableswitch dflt lo hi offs, len)) (ht : (pc : Int) + dflt = (t : Int)) (lim : Nat) (ls : z_L) (st : List Value) (M : z_M) {x : Int32} (h : x.toInt < lo ∨ hi < x.toInt) : z_ex mid lim pc ls (.int x :: st) M = z_ex mid lim t ls st M := by
  rw [ze hT hd (Or.inl rfl)]
  show z_nx _ (z_tsw dflt lo hi offs pc ls (.int x :: st) M) = _
  unfold z_tsw
  simp only [if_pos h]
  exact z_nx_jp _ _ _ _ _ ht _ _ _
theorem zr_lsw {mid : Nat} {T : z_T} {pc len t : Nat} {dflt off : Int} {ps : Array (Int × Int)} (hT : z_tab mid = some T) (hd : decode (z_cc T) pc = .ok (.lookupswitch dflt ps, len)) (hs : (ps.toList.zip (ps.toList.drop 1)).all (fun (a, next) => a.1 < next.1) = true) (lim : Nat) (ls : z_L) (st : List Value) (M : z_M) {x : Int32} (ho : Op.lookupswitch.offset ps.toList dflt x.toInt = off) (ht : (pc : Int) + off = (t : Int)) : z_ex mid lim pc ls (.int x :: st) M = z_ex mid lim t ls st M := by
  rw [ze hT hd (Or.inl rfl)]
  show z_nx _ (z_lsw dflt ps pc ls (.int x :: st) M) = _
  unfold z_lsw
  simp only [if_pos hs, ho]
  exact z_nx_jp _ _ _ _ _ ht _ _ _
theorem zr_alen {mid : Nat} {T : z_T} {pc : Nat} (hT : z_tab mid = some T) (hd : decode (z_cc T) pc = .ok (.arraylength, 1)) (lim : Nat) (ls : z_L) (st : List Value) (M : z_M) (a : Nat) {fs : List Value} (h : M.2 a = some (.inr (99, fs))) : z_ex mid lim pc ls (.ref a :: st) M = z_ex mid lim (pc + 1) ls (.int (Int32.ofNat fs.length) :: st) M := by
  rw [ze hT hd (Or.inr rfl)]
  show z_nx _ (z_alen pc ls (.ref a :: st) M) = _
  unfold z_alen
  simp only [h]
  rfl
theorem zr_vret {mid : Nat} {T : z_T} {pc : Nat} (hT : z_tab mid = some T) (hd : decode (z_cc T) pc = .ok (.return_, 1)) (hr : z_rt T = none) (lim : Nat) (ls : z_L) (M : z_M) (h : M.1 = lim) : z_ex mid lim pc ls [] M = some (none, M) := by
  rw [ze hT hd (Or.inr rfl)]
  show z_nx _ (z_vret T lim [] M) = _
  unfold z_vret
  rw [hr]
  show z_nx _ (z_fin0 T lim none M) = _
  unfold z_fin0
  rw [if_pos (Or.inr h)]
  rfl
theorem zr_zretC {mid : Nat} {T : z_T} {pc : Nat} (hT : z_tab mid = some T) (hd : decode (z_cc T) pc = .ok (.ireturn, 1)) (hr : z_rt T = some .boolean) (lim : Nat) (ls : z_L) (M : z_M) (x : Int32) (hx : x = 0 ∨ x = 1) (h : M.1 = lim) : z_ex mid lim pc ls [.int x] M = some (some (.int x), M) := by
  rw [ze hT hd (Or.inr rfl)]
  show z_nx _ (z_iret T lim [.int x] M) = _
  unfold z_iret
  rw [hr]
  simp only [if_pos hx]
  unfold z_fin0
  rw [if_pos (Or.inr h)]
  rfl
