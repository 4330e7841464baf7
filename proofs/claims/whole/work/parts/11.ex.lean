/-! what the light machine comes to, without a count of steps: z_ex, and its equation -/
theorem z_inv_mono {c1 c2 : Nat → List Value → z_M → Option z_R} (h : ∀ a b d x, c1 a b d = some x → c2 a b d = some x) {T : z_T} {kd idx lim pc : Nat} {ls : z_L} {st : List Value} {M : z_M} {r : z_S} (hr : z_inv c1 T kd idx lim pc ls st M = some r) : z_inv c2 T kd idx lim pc ls st M = some r := by
  unfold z_inv at hr ⊢
  cases h1 : z_ml (z_ow T) idx with
  | none => rw [h1] at hr; cases hr
  | some q =>
    obtain ⟨mid, n, kd'⟩ := q
    rw [h1] at hr
    simp only at hr ⊢
    cases h2 : z_tab mid with
    | none => rw [h2] at hr; cases hr
    | some T' =>
      rw [h2] at hr
      simp only at hr ⊢
      split at hr
      · rename_i hc
        rw [if_pos hc]
        cases h3 : c1 mid (st.take n).reverse M with
        | none => rw [h3] at hr; cases hr
        | some x => rw [h _ _ _ _ h3]; rw [h3] at hr; exact hr
      · cases hr
theorem z_call_mono {c1 c2 : Nat → List Value → z_M → Option z_R} (h : ∀ a b d x, c1 a b d = some x → c2 a b d = some x) {T : z_T} {kd idx lim pc : Nat} {ls : z_L} {st : List Value} {M : z_M} {r : z_S} (hr : z_call c1 T kd idx lim pc ls st M = some r) : z_call c2 T kd idx lim pc ls st M = some r := by
  unfold z_call at hr ⊢
  split
  · rename_i hc
    rw [if_pos hc] at hr
    exact z_inv_mono h hr
  · rename_i hc
    rw [if_neg hc] at hr
    exact hr
theorem z_ins_mono {c1 c2 : Nat → List Value → z_M → Option z_R} (h : ∀ a b d x, c1 a b d = some x → c2 a b d = some x) {T : z_T} {lim : Nat} {ins : Instr} {pc : Nat} {ls : z_L} {st : List Value} {M : z_M} {r : z_S} (hr : z_ins c1 T lim ins pc ls st M = some r) : z_ins c2 T lim ins pc ls st M = some r := by
  cases ins <;> first | exact hr | exact z_call_mono h hr
theorem z_step_mono {c1 c2 : Nat → List Value → z_M → Option z_R} (h : ∀ a b d x, c1 a b d = some x → c2 a b d = some x) {T : z_T} {lim pc : Nat} {ls : z_L} {st : List Value} {M : z_M} {r : z_S} (hr : z_step c1 T lim pc ls st M = some r) : z_step c2 T lim pc ls st M = some r := by
  unfold z_step at hr ⊢
  split at hr
  · split at hr
    · rename_i hc
      rw [if_pos hc]
      exact z_ins_mono h hr
    · cases hr
  · cases hr
theorem z_cal_mono {r1 r2 : Nat → Nat → Nat → z_L → List Value → z_M → Option z_R} (h : ∀ a b c d e f x, r1 a b c d e f = some x → r2 a b c d e f = some x) : ∀ a b d x, z_cal r1 a b d = some x → z_cal r2 a b d = some x := by
  intro a b d x hx
  unfold z_cal at hx ⊢
  cases h1 : z_tab a with
  | none => rw [h1] at hx; cases hx
  | some T =>
    rw [h1] at hx
    simp only at hx ⊢
    cases h2 : z_ent T b with
    | none => rw [h2] at hx; cases hx
    | some L => rw [h2] at hx; exact h _ _ _ _ _ _ _ hx
theorem z_run_mono (n : Nat) : ∀ mid lim pc ls st M x, z_run n mid lim pc ls st M = some x → z_run (n + 1) mid lim pc ls st M = some x := by
  induction n with
  | zero => intro mid lim pc ls st M x h; cases h
  | succ n ih =>
    intro mid lim pc ls st M x h
    rw [z_run] at h ⊢
    cases h1 : z_tab mid with
    | none => rw [h1] at h; cases h
    | some T =>
      rw [h1] at h
      simp only at h ⊢
      cases h2 : z_step (z_cal (z_run n)) T lim pc ls st M with
      | none => rw [h2] at h; cases h
      | some q =>
        rw [z_step_mono (z_cal_mono ih) h2]
        rw [h2] at h
        rcases q with ⟨pc', ls', st', M'⟩ | r
        · exact ih _ _ _ _ _ _ _ h
        · exact h
theorem z_run_le {n k : Nat} (hk : n ≤ k) {mid lim pc : Nat} {ls : z_L} {st : List Value} {M : z_M} {x : z_R} (h : z_run n mid lim pc ls st M = some x) : z_run k mid lim pc ls st M = some x := by
  induction hk with
  | refl => exact h
  | step _ ih => exact z_run_mono _ _ _ _ _ _ _ _ ih
noncomputable def z_ex (mid lim pc : Nat) (ls : z_L) (st : List Value) (M : z_M) : Option z_R :=
  @dite _ (∃ q : Nat × z_R, z_run q.1 mid lim pc ls st M = some q.2) (Classical.propDecidable _) (fun h => some h.choose.2) (fun _ => none)
theorem z_ex_of {n mid lim pc : Nat} {ls : z_L} {st : List Value} {M : z_M} {x : z_R} (h : z_run n mid lim pc ls st M = some x) : z_ex mid lim pc ls st M = some x := by
  have hq : ∃ q : Nat × z_R, z_run q.1 mid lim pc ls st M = some q.2 := ⟨(n, x), h⟩
  unfold z_ex
  rw [dif_pos hq]
  have h1 := hq.choose_spec
  have h2 := z_run_le (Nat.le_max_left n hq.choose.1) h
  have h3 := z_run_le (Nat.le_max_right n hq.choose.1) h1
  rw [h2] at h3
  exact h3.symm
theorem z_ex_run {mid lim pc : Nat} {ls : z_L} {st : List Value} {M : z_M} {x : z_R} (h : z_ex mid lim pc ls st M = some x) : ∃ n, z_run n mid lim pc ls st M = some x := by
  unfold z_ex at h
  split at h
  · rename_i hq
    have h1 := hq.choose_spec
    rw [Option.some.inj h] at h1
    exact ⟨_, h1⟩
  · cases h
/-- a method called -/
noncomputable def z_cl (mid : Nat) (As : List Value) (M : z_M) : Option z_R := z_cal z_ex mid As M
theorem z_cal_run {mid : Nat} {As : List Value} {M : z_M} {x : z_R} (h : z_cal z_ex mid As M = some x) : ∃ n, z_cal (z_run n) mid As M = some x := by
  unfold z_cal at h ⊢
  cases h1 : z_tab mid with
  | none => rw [h1] at h; cases h
  | some T =>
    rw [h1] at h
    simp only at h ⊢
    cases h2 : z_ent T As with
    | none => rw [h2] at h; cases h
    | some L => rw [h2] at h; exact z_ex_run h
theorem z_inv_run {T : z_T} {kd idx lim pc : Nat} {ls : z_L} {st : List Value} {M : z_M} {r : z_S} (hr : z_inv (z_cal z_ex) T kd idx lim pc ls st M = some r) : ∃ k, z_inv (z_cal (z_run k)) T kd idx lim pc ls st M = some r := by
  unfold z_inv at hr ⊢
  cases h1 : z_ml (z_ow T) idx with
  | none => rw [h1] at hr; cases hr
  | some q =>
    obtain ⟨mid, n, kd'⟩ := q
    rw [h1] at hr
    simp only at hr ⊢
    cases h2 : z_tab mid with
    | none => rw [h2] at hr; cases hr
    | some T' =>
      rw [h2] at hr
      simp only at hr ⊢
      split at hr
      · rename_i hc
        cases h3 : z_cal z_ex mid (st.take n).reverse M with
        | none => rw [h3] at hr; cases hr
        | some x =>
          obtain ⟨k, hk⟩ := z_cal_run h3
          rw [h3] at hr
          exact ⟨k, by rw [if_pos hc, hk]; exact hr⟩
      · cases hr
theorem z_call_run {T : z_T} {kd idx lim pc : Nat} {ls : z_L} {st : List Value} {M : z_M} {r : z_S} (hr : z_call (z_cal z_ex) T kd idx lim pc ls st M = some r) : ∃ k, z_call (z_cal (z_run k)) T kd idx lim pc ls st M = some r := by
  unfold z_call at hr ⊢
  split
  · rename_i hc
    rw [if_pos hc] at hr
    exact z_inv_run hr
  · rename_i hc
    rw [if_neg hc] at hr
    exact ⟨0, hr⟩
theorem z_ins_run {T : z_T} {lim : Nat} {ins : Instr} {pc : Nat} {ls : z_L} {st : List Value} {M : z_M} {r : z_S} (hr : z_ins (z_cal z_ex) T lim ins pc ls st M = some r) : ∃ k, z_ins (z_cal (z_run k)) T lim ins pc ls st M = some r := by
  cases ins <;> first | exact ⟨0, hr⟩ | exact z_call_run hr
theorem z_step_run {T : z_T} {lim pc : Nat} {ls : z_L} {st : List Value} {M : z_M} {r : z_S} (hr : z_step (z_cal z_ex) T lim pc ls st M = some r) : ∃ k, z_step (z_cal (z_run k)) T lim pc ls st M = some r := by
  unfold z_step at hr ⊢
  split at hr
  · split at hr
    · rename_i hc
      simp only [if_pos hc]
      exact z_ins_run hr
    · cases hr
  · cases hr
/-- THE EQUATION: a step, and on -/
theorem z_ex_eq {mid : Nat} {T : z_T} (hT : z_tab mid = some T) (lim pc : Nat) (ls : z_L) (st : List Value) (M : z_M) : z_ex mid lim pc ls st M = z_nx (z_ex mid lim) (z_step z_cl T lim pc ls st M) := by
  have hcl : z_cl = z_cal z_ex := rfl
  rw [hcl]
  apply Option.ext
  intro x
  constructor
  · intro h
    obtain ⟨n, hn⟩ := z_ex_run h
    cases n with
    | zero => cases hn
    | succ n =>
      rw [z_run, hT] at hn
      simp only at hn
      cases h2 : z_step (z_cal (z_run n)) T lim pc ls st M with
      | none => rw [h2] at hn; cases hn
      | some q =>
        rw [z_step_mono (z_cal_mono (fun a b c d e f y => z_ex_of)) h2]
        rw [h2] at hn
        rcases q with ⟨pc', ls', st', M'⟩ | r
        · exact z_ex_of hn
        · exact hn
  · intro h
    cases h2 : z_step (z_cal z_ex) T lim pc ls st M with
    | none => rw [h2] at h; cases h
    | some q =>
      rw [h2] at h
      obtain ⟨k, hk⟩ := z_step_run h2
      rcases q with ⟨pc', ls', st', M'⟩ | r
      · obtain ⟨j, hj⟩ := z_ex_run h
        refine z_ex_of (n := max k j + 1) ?_
        rw [z_run, hT]
        simp only
        rw [z_step_mono (z_cal_mono (fun a b c d e f y hy => z_run_le (Nat.le_max_left k j) hy)) hk]
        exact z_run_le (Nat.le_max_right k j) hj
      · refine z_ex_of (n := k + 1) ?_
        rw [z_run, hT]
        simp only
        rw [hk]
        exact h
