/-! what the tables' words say of the light machine's tables: printed by wip/whole/gen/words.py -/
def z_wsU : List Cond := lw_tbl.filter goodWord
theorem z_w {w : Cond} (i : Nat) (h : lw_tbl[i]? = some w) (hg : goodWord w = true) : w ∈ z_wsU := List.mem_filter.mpr ⟨List.mem_of_getElem? h, hg⟩
theorem z_ws (ws : List Cond) (ps : List Nat) (h : ps.filterMap (fun i => lw_tbl[i]?) = ws) (hg : ws.all goodWord = true) : ∀ w ∈ ws, w ∈ z_wsU := by
  intro w hw
  have h1 := List.all_eq_true.mp hg w hw
  rw [← h] at hw
  obtain ⟨i, -, hi⟩ := List.mem_filterMap.mp hw
  exact z_w i hi h1
theorem z_look {α : Type} {l : List (Nat × α)} {i : Nat} {v : α} (h : l.lookup i = some v) : (i, v) ∈ l := by
  induction l with
  | nil => cases h
  | cons q l ih =>
    obtain ⟨j, w⟩ := q
    rw [List.lookup_cons] at h
    by_cases hj : i = j
    · subst hj
      simp at h
      subst h
      exact List.mem_cons_self
    · have hb : (i == j) = false := by simp [hj]
      rw [hb] at h
      exact List.mem_cons_of_mem _ (ih h)
def z_nest : List Cond := [.methodLinkNest RX11 9 yX0_init "ConferenceBridges", .methodLinkNest RX0 11 yX8_init "ConferenceBridges", .methodLinkNest RX8 15 yX11_power "ConferenceBridges", .methodLinkNest RX0 34 yX2_init "ConferenceBridges", .methodLinkNest RX0 41 yX9_init "ConferenceBridges", .methodLinkNest RX0 48 yX1_init "ConferenceBridges", .methodLinkNest RX11 21 yX4_init "ConferenceBridges", .methodLinkNest RX4 21 yX9_init "ConferenceBridges", .methodLinkNest RX3 17 yX0_init "ConferenceBridges", .methodLinkNest RX11 35 yX5_init "ConferenceBridges", .methodLinkNest RX0 80 yX11_isWithin "ConferenceBridges", .methodLinkNest RX8 42 yX11_isWithin "ConferenceBridges", .methodLinkNest RX6 62 yX11_power "ConferenceBridges", .methodLinkNest RX5 24 yX11_isWithin "ConferenceBridges"]
theorem z_nest_in : ∀ w ∈ z_nest, w ∈ lw_tbl := by
  have h : ([82, 88, 92, 234, 267, 294, 358, 363, 382, 395, 495, 578, 631, 754] : List Nat).filterMap (fun i => lw_tbl[i]?) = z_nest := by decide +kernel
  intro w hw
  rw [← h] at hw
  obtain ⟨i, -, hi⟩ := List.mem_filterMap.mp hw
  exact List.mem_of_getElem? hi
def z_okC (ci : Nat) (q : vw_C) : Prop := (∀ w ∈ u_ws q.1 q.2.1 q.2.2, w ∈ z_wsU) ∧ (∀ k, k < q.2.2 → parseFieldDescriptor (q.2.1 k).2.2.1 = some (z_ty ci k)) ∧ (∀ a, a < q.2.2 → ∀ b, b < q.2.2 → a ≠ b → (q.2.1 a).2.1 ≠ (q.2.1 b).2.1) ∧ (∀ k, k < q.2.2 → (q.2.1 k).1 = q.1) ∧ Cond.instantiable q.1 q.2.2 ∈ z_wsU ∧ Cond.initialized q.1 ∈ z_wsU ∧ (∀ j, j < q.2.2 → defaultValue (z_ty ci j) = vp_V (z_df ci) j) ∧ q.2.2 ≤ 6797 ∧ z_on ci = q.1 ∧ (z_df ci).length = q.2.2
theorem z_okC0 : z_okC 0 (RX0, TX0, 7) := ⟨z_ws _ [341, 343, 345, 347, 349, 351, 353] (by decide +kernel) (by decide +kernel), tyX0_ok, nmX0, (by decide +kernel), (z_w 81 (by decide +kernel) (by decide +kernel)), (z_w 57 (by decide +kernel) (by decide +kernel)), (by decide +kernel), by decide, by decide +kernel, by decide⟩
theorem z_okC1 : z_okC 1 (RX1, TX1, 5) := ⟨z_ws _ [307, 309, 311, 313, 315] (by decide +kernel) (by decide +kernel), tyX1_ok, nmX1, (by decide +kernel), (z_w 293 (by decide +kernel) (by decide +kernel)), (z_w 63 (by decide +kernel) (by decide +kernel)), (by decide +kernel), by decide, by decide +kernel, by decide⟩
theorem z_okC2 : z_okC 2 (RX2, TX2, 6) := ⟨z_ws _ [252, 254, 256, 258, 260, 262] (by decide +kernel) (by decide +kernel), tyX2_ok, nmX2, (by decide +kernel), (z_w 233 (by decide +kernel) (by decide +kernel)), (z_w 61 (by decide +kernel) (by decide +kernel)), (by decide +kernel), by decide, by decide +kernel, by decide⟩
theorem z_okC3 : z_okC 3 (RX3, TX3, 3) := ⟨z_ws _ [386, 388, 390] (by decide +kernel) (by decide +kernel), tyX3_ok, nmX3, (by decide +kernel), (z_w 375 (by decide +kernel) (by decide +kernel)), (z_w 65 (by decide +kernel) (by decide +kernel)), (by decide +kernel), by decide, by decide +kernel, by decide⟩
theorem z_okC4 : z_okC 4 (RX4, TX4, 3) := ⟨z_ws _ [367, 369, 371] (by decide +kernel) (by decide +kernel), tyX4_ok, nmX4, (by decide +kernel), (z_w 357 (by decide +kernel) (by decide +kernel)), (z_w 64 (by decide +kernel) (by decide +kernel)), (by decide +kernel), by decide, by decide +kernel, by decide⟩
theorem z_okC5 : z_okC 5 (RX5, TX5, 8) := ⟨z_ws _ [411, 413, 415, 417, 419, 421, 423, 425] (by decide +kernel) (by decide +kernel), tyX5_ok, nmX5, (by decide +kernel), (z_w 394 (by decide +kernel) (by decide +kernel)), (z_w 66 (by decide +kernel) (by decide +kernel)), (by decide +kernel), by decide, by decide +kernel, by decide⟩
theorem z_okC6 : z_okC 6 (RX6, TX6, 12) := ⟨z_ws _ [206, 208, 210, 212, 214, 216, 218, 220, 222, 224, 226, 228] (by decide +kernel) (by decide +kernel), tyX6_ok, nmX6, (by decide +kernel), (z_w 157 (by decide +kernel) (by decide +kernel)), (z_w 60 (by decide +kernel) (by decide +kernel)), (by decide +kernel), by decide, by decide +kernel, by decide⟩
theorem z_okC7 : z_okC 7 (RX8, TX8, 8) := ⟨z_ws _ [115, 117, 119, 121, 123, 125, 127, 129] (by decide +kernel) (by decide +kernel), tyX8_ok, nmX8, (by decide +kernel), (z_w 87 (by decide +kernel) (by decide +kernel)), (z_w 58 (by decide +kernel) (by decide +kernel)), (by decide +kernel), by decide, by decide +kernel, by decide⟩
theorem z_okC8 : z_okC 8 (RX9, TX9, 4) := ⟨z_ws _ [283, 285, 287, 289] (by decide +kernel) (by decide +kernel), tyX9_ok, nmX9, (by decide +kernel), (z_w 266 (by decide +kernel) (by decide +kernel)), (z_w 62 (by decide +kernel) (by decide +kernel)), (by decide +kernel), by decide, by decide +kernel, by decide⟩
theorem z_okC9 : z_okC 9 (RX10, TX10, 4) := ⟨z_ws _ [146, 148, 150, 152] (by decide +kernel) (by decide +kernel), tyX10_ok, nmX10, (by decide +kernel), (z_w 133 (by decide +kernel) (by decide +kernel)), (z_w 59 (by decide +kernel) (by decide +kernel)), (by decide +kernel), by decide, by decide +kernel, by decide⟩
theorem z_okC10 : z_okC 10 (RX11, TX11, 5) := ⟨z_ws _ [433, 435, 437, 439, 441] (by decide +kernel) (by decide +kernel), tyX11_ok, nmX11, (by decide +kernel), (z_w 73 (by decide +kernel) (by decide +kernel)), (z_w 56 (by decide +kernel) (by decide +kernel)), (by decide +kernel), by decide, by decide +kernel, by decide⟩
theorem z_okC11 : z_okC 11 (RX12, TX12, 14) := ⟨z_ws _ [919, 921, 923, 925, 927, 929, 931, 933, 935, 937, 939, 941, 943, 945] (by decide +kernel) (by decide +kernel), tyX12_ok, nmX12, (by decide +kernel), (z_w 898 (by decide +kernel) (by decide +kernel)), (z_w 67 (by decide +kernel) (by decide +kernel)), (by decide +kernel), by decide, by decide +kernel, by decide⟩
theorem z_okC_all : ∀ (ci : Nat) (q : vw_C), vwCl[ci]? = some q → z_okC ci q
  | 0, q, h => by obtain rfl : (_, _, _) = q := Option.some.inj h; exact z_okC0
  | 1, q, h => by obtain rfl : (_, _, _) = q := Option.some.inj h; exact z_okC1
  | 2, q, h => by obtain rfl : (_, _, _) = q := Option.some.inj h; exact z_okC2
  | 3, q, h => by obtain rfl : (_, _, _) = q := Option.some.inj h; exact z_okC3
  | 4, q, h => by obtain rfl : (_, _, _) = q := Option.some.inj h; exact z_okC4
  | 5, q, h => by obtain rfl : (_, _, _) = q := Option.some.inj h; exact z_okC5
  | 6, q, h => by obtain rfl : (_, _, _) = q := Option.some.inj h; exact z_okC6
  | 7, q, h => by obtain rfl : (_, _, _) = q := Option.some.inj h; exact z_okC7
  | 8, q, h => by obtain rfl : (_, _, _) = q := Option.some.inj h; exact z_okC8
  | 9, q, h => by obtain rfl : (_, _, _) = q := Option.some.inj h; exact z_okC9
  | 10, q, h => by obtain rfl : (_, _, _) = q := Option.some.inj h; exact z_okC10
  | 11, q, h => by obtain rfl : (_, _, _) = q := Option.some.inj h; exact z_okC11
  | n + 12, q, h => by exact absurd (List.getElem?_eq_some_iff.mp h).1 (by simp [vwCl])
def z_okT (T : z_T) : Prop := plainFor T.1 = true ∧ T.1.cls ≠ "java/lang/invoke/MethodHandle" ∧ T.1.cls ≠ "java/lang/invoke/VarHandle" ∧ Cond.code T.1 (z_cc T) (z_mL T) (z_rt T) ∈ z_wsU ∧ Cond.initialized T.1.cls ∈ z_wsU ∧ T.1.cls = z_on (z_ow T)
theorem z_okT0 : z_okT z_t0 := ⟨(by decide +kernel), (by decide +kernel), (by decide +kernel), z_w 84 (by decide +kernel) (by decide +kernel), (z_w 57 (by decide +kernel) (by decide +kernel)), (by decide +kernel)⟩
theorem z_okT1 : z_okT z_t1 := ⟨(by decide +kernel), (by decide +kernel), (by decide +kernel), z_w 455 (by decide +kernel) (by decide +kernel), (z_w 57 (by decide +kernel) (by decide +kernel)), (by decide +kernel)⟩
theorem z_okT2 : z_okT z_t2 := ⟨(by decide +kernel), (by decide +kernel), (by decide +kernel), z_w 490 (by decide +kernel) (by decide +kernel), (z_w 57 (by decide +kernel) (by decide +kernel)), (by decide +kernel)⟩
theorem z_okT3 : z_okT z_t3 := ⟨(by decide +kernel), (by decide +kernel), (by decide +kernel), z_w 513 (by decide +kernel) (by decide +kernel), (z_w 57 (by decide +kernel) (by decide +kernel)), (by decide +kernel)⟩
theorem z_okT4 : z_okT z_t4 := ⟨(by decide +kernel), (by decide +kernel), (by decide +kernel), z_w 533 (by decide +kernel) (by decide +kernel), (z_w 57 (by decide +kernel) (by decide +kernel)), (by decide +kernel)⟩
theorem z_okT5 : z_okT z_t5 := ⟨(by decide +kernel), (by decide +kernel), (by decide +kernel), z_w 553 (by decide +kernel) (by decide +kernel), (z_w 57 (by decide +kernel) (by decide +kernel)), (by decide +kernel)⟩
theorem z_okT6 : z_okT z_t6 := ⟨(by decide +kernel), (by decide +kernel), (by decide +kernel), z_w 561 (by decide +kernel) (by decide +kernel), (z_w 57 (by decide +kernel) (by decide +kernel)), (by decide +kernel)⟩
theorem z_okT7 : z_okT z_t7 := ⟨(by decide +kernel), (by decide +kernel), (by decide +kernel), z_w 569 (by decide +kernel) (by decide +kernel), (z_w 57 (by decide +kernel) (by decide +kernel)), (by decide +kernel)⟩
theorem z_okT8 : z_okT z_t8 := ⟨(by decide +kernel), (by decide +kernel), (by decide +kernel), z_w 594 (by decide +kernel) (by decide +kernel), (z_w 57 (by decide +kernel) (by decide +kernel)), (by decide +kernel)⟩
theorem z_okT9 : z_okT z_t9 := ⟨(by decide +kernel), (by decide +kernel), (by decide +kernel), z_w 610 (by decide +kernel) (by decide +kernel), (z_w 57 (by decide +kernel) (by decide +kernel)), (by decide +kernel)⟩
theorem z_okT10 : z_okT z_t10 := ⟨(by decide +kernel), (by decide +kernel), (by decide +kernel), z_w 618 (by decide +kernel) (by decide +kernel), (z_w 57 (by decide +kernel) (by decide +kernel)), (by decide +kernel)⟩
theorem z_okT11 : z_okT z_t11 := ⟨(by decide +kernel), (by decide +kernel), (by decide +kernel), z_w 622 (by decide +kernel) (by decide +kernel), (z_w 57 (by decide +kernel) (by decide +kernel)), (by decide +kernel)⟩
theorem z_okT12 : z_okT z_t12 := ⟨(by decide +kernel), (by decide +kernel), (by decide +kernel), z_w 637 (by decide +kernel) (by decide +kernel), (z_w 57 (by decide +kernel) (by decide +kernel)), (by decide +kernel)⟩
theorem z_okT13 : z_okT z_t13 := ⟨(by decide +kernel), (by decide +kernel), (by decide +kernel), z_w 645 (by decide +kernel) (by decide +kernel), (z_w 57 (by decide +kernel) (by decide +kernel)), (by decide +kernel)⟩
theorem z_okT14 : z_okT z_t14 := ⟨(by decide +kernel), (by decide +kernel), (by decide +kernel), z_w 801 (by decide +kernel) (by decide +kernel), (z_w 57 (by decide +kernel) (by decide +kernel)), (by decide +kernel)⟩
theorem z_okT15 : z_okT z_t15 := ⟨(by decide +kernel), (by decide +kernel), (by decide +kernel), z_w 296 (by decide +kernel) (by decide +kernel), (z_w 63 (by decide +kernel) (by decide +kernel)), (by decide +kernel)⟩
theorem z_okT16 : z_okT z_t16 := ⟨(by decide +kernel), (by decide +kernel), (by decide +kernel), z_w 485 (by decide +kernel) (by decide +kernel), (z_w 63 (by decide +kernel) (by decide +kernel)), (by decide +kernel)⟩
theorem z_okT17 : z_okT z_t17 := ⟨(by decide +kernel), (by decide +kernel), (by decide +kernel), z_w 641 (by decide +kernel) (by decide +kernel), (z_w 63 (by decide +kernel) (by decide +kernel)), (by decide +kernel)⟩
theorem z_okT18 : z_okT z_t18 := ⟨(by decide +kernel), (by decide +kernel), (by decide +kernel), z_w 873 (by decide +kernel) (by decide +kernel), (z_w 63 (by decide +kernel) (by decide +kernel)), (by decide +kernel)⟩
theorem z_okT19 : z_okT z_t19 := ⟨(by decide +kernel), (by decide +kernel), (by decide +kernel), z_w 236 (by decide +kernel) (by decide +kernel), (z_w 61 (by decide +kernel) (by decide +kernel)), (by decide +kernel)⟩
theorem z_okT20 : z_okT z_t20 := ⟨(by decide +kernel), (by decide +kernel), (by decide +kernel), z_w 475 (by decide +kernel) (by decide +kernel), (z_w 61 (by decide +kernel) (by decide +kernel)), (by decide +kernel)⟩
theorem z_okT21 : z_okT z_t21 := ⟨(by decide +kernel), (by decide +kernel), (by decide +kernel), z_w 541 (by decide +kernel) (by decide +kernel), (z_w 61 (by decide +kernel) (by decide +kernel)), (by decide +kernel)⟩
theorem z_okT22 : z_okT z_t22 := ⟨(by decide +kernel), (by decide +kernel), (by decide +kernel), z_w 545 (by decide +kernel) (by decide +kernel), (z_w 61 (by decide +kernel) (by decide +kernel)), (by decide +kernel)⟩
theorem z_okT23 : z_okT z_t23 := ⟨(by decide +kernel), (by decide +kernel), (by decide +kernel), z_w 598 (by decide +kernel) (by decide +kernel), (z_w 61 (by decide +kernel) (by decide +kernel)), (by decide +kernel)⟩
theorem z_okT24 : z_okT z_t24 := ⟨(by decide +kernel), (by decide +kernel), (by decide +kernel), z_w 602 (by decide +kernel) (by decide +kernel), (z_w 61 (by decide +kernel) (by decide +kernel)), (by decide +kernel)⟩
theorem z_okT25 : z_okT z_t25 := ⟨(by decide +kernel), (by decide +kernel), (by decide +kernel), z_w 649 (by decide +kernel) (by decide +kernel), (z_w 61 (by decide +kernel) (by decide +kernel)), (by decide +kernel)⟩
theorem z_okT26 : z_okT z_t26 := ⟨(by decide +kernel), (by decide +kernel), (by decide +kernel), z_w 653 (by decide +kernel) (by decide +kernel), (z_w 61 (by decide +kernel) (by decide +kernel)), (by decide +kernel)⟩
theorem z_okT27 : z_okT z_t27 := ⟨(by decide +kernel), (by decide +kernel), (by decide +kernel), z_w 378 (by decide +kernel) (by decide +kernel), (z_w 65 (by decide +kernel) (by decide +kernel)), (by decide +kernel)⟩
theorem z_okT28 : z_okT z_t28 := ⟨(by decide +kernel), (by decide +kernel), (by decide +kernel), z_w 451 (by decide +kernel) (by decide +kernel), (z_w 65 (by decide +kernel) (by decide +kernel)), (by decide +kernel)⟩
theorem z_okT29 : z_okT z_t29 := ⟨(by decide +kernel), (by decide +kernel), (by decide +kernel), z_w 505 (by decide +kernel) (by decide +kernel), (z_w 65 (by decide +kernel) (by decide +kernel)), (by decide +kernel)⟩
theorem z_okT30 : z_okT z_t30 := ⟨(by decide +kernel), (by decide +kernel), (by decide +kernel), z_w 745 (by decide +kernel) (by decide +kernel), (z_w 65 (by decide +kernel) (by decide +kernel)), (by decide +kernel)⟩
theorem z_okT31 : z_okT z_t31 := ⟨(by decide +kernel), (by decide +kernel), (by decide +kernel), z_w 360 (by decide +kernel) (by decide +kernel), (z_w 64 (by decide +kernel) (by decide +kernel)), (by decide +kernel)⟩
theorem z_okT32 : z_okT z_t32 := ⟨(by decide +kernel), (by decide +kernel), (by decide +kernel), z_w 696 (by decide +kernel) (by decide +kernel), (z_w 64 (by decide +kernel) (by decide +kernel)), (by decide +kernel)⟩
theorem z_okT33 : z_okT z_t33 := ⟨(by decide +kernel), (by decide +kernel), (by decide +kernel), z_w 700 (by decide +kernel) (by decide +kernel), (z_w 64 (by decide +kernel) (by decide +kernel)), (by decide +kernel)⟩
theorem z_okT34 : z_okT z_t34 := ⟨(by decide +kernel), (by decide +kernel), (by decide +kernel), z_w 708 (by decide +kernel) (by decide +kernel), (z_w 64 (by decide +kernel) (by decide +kernel)), (by decide +kernel)⟩
theorem z_okT35 : z_okT z_t35 := ⟨(by decide +kernel), (by decide +kernel), (by decide +kernel), z_w 712 (by decide +kernel) (by decide +kernel), (z_w 64 (by decide +kernel) (by decide +kernel)), (by decide +kernel)⟩
theorem z_okT36 : z_okT z_t36 := ⟨(by decide +kernel), (by decide +kernel), (by decide +kernel), z_w 716 (by decide +kernel) (by decide +kernel), (z_w 64 (by decide +kernel) (by decide +kernel)), (by decide +kernel)⟩
theorem z_okT37 : z_okT z_t37 := ⟨(by decide +kernel), (by decide +kernel), (by decide +kernel), z_w 728 (by decide +kernel) (by decide +kernel), (z_w 64 (by decide +kernel) (by decide +kernel)), (by decide +kernel)⟩
theorem z_okT38 : z_okT z_t38 := ⟨(by decide +kernel), (by decide +kernel), (by decide +kernel), z_w 397 (by decide +kernel) (by decide +kernel), (z_w 66 (by decide +kernel) (by decide +kernel)), (by decide +kernel)⟩
theorem z_okT39 : z_okT z_t39 := ⟨(by decide +kernel), (by decide +kernel), (by decide +kernel), z_w 753 (by decide +kernel) (by decide +kernel), (z_w 66 (by decide +kernel) (by decide +kernel)), (by decide +kernel)⟩
theorem z_okT40 : z_okT z_t40 := ⟨(by decide +kernel), (by decide +kernel), (by decide +kernel), z_w 762 (by decide +kernel) (by decide +kernel), (z_w 66 (by decide +kernel) (by decide +kernel)), (by decide +kernel)⟩
theorem z_okT41 : z_okT z_t41 := ⟨(by decide +kernel), (by decide +kernel), (by decide +kernel), z_w 770 (by decide +kernel) (by decide +kernel), (z_w 66 (by decide +kernel) (by decide +kernel)), (by decide +kernel)⟩
theorem z_okT42 : z_okT z_t42 := ⟨(by decide +kernel), (by decide +kernel), (by decide +kernel), z_w 774 (by decide +kernel) (by decide +kernel), (z_w 66 (by decide +kernel) (by decide +kernel)), (by decide +kernel)⟩
theorem z_okT43 : z_okT z_t43 := ⟨(by decide +kernel), (by decide +kernel), (by decide +kernel), z_w 778 (by decide +kernel) (by decide +kernel), (z_w 66 (by decide +kernel) (by decide +kernel)), (by decide +kernel)⟩
theorem z_okT44 : z_okT z_t44 := ⟨(by decide +kernel), (by decide +kernel), (by decide +kernel), z_w 781 (by decide +kernel) (by decide +kernel), (z_w 66 (by decide +kernel) (by decide +kernel)), (by decide +kernel)⟩
theorem z_okT45 : z_okT z_t45 := ⟨(by decide +kernel), (by decide +kernel), (by decide +kernel), z_w 785 (by decide +kernel) (by decide +kernel), (z_w 66 (by decide +kernel) (by decide +kernel)), (by decide +kernel)⟩
theorem z_okT46 : z_okT z_t46 := ⟨(by decide +kernel), (by decide +kernel), (by decide +kernel), z_w 789 (by decide +kernel) (by decide +kernel), (z_w 66 (by decide +kernel) (by decide +kernel)), (by decide +kernel)⟩
theorem z_okT47 : z_okT z_t47 := ⟨(by decide +kernel), (by decide +kernel), (by decide +kernel), z_w 160 (by decide +kernel) (by decide +kernel), (z_w 60 (by decide +kernel) (by decide +kernel)), (by decide +kernel)⟩
theorem z_okT48 : z_okT z_t48 := ⟨(by decide +kernel), (by decide +kernel), (by decide +kernel), z_w 470 (by decide +kernel) (by decide +kernel), (z_w 60 (by decide +kernel) (by decide +kernel)), (by decide +kernel)⟩
theorem z_okT49 : z_okT z_t49 := ⟨(by decide +kernel), (by decide +kernel), (by decide +kernel), z_w 517 (by decide +kernel) (by decide +kernel), (z_w 60 (by decide +kernel) (by decide +kernel)), (by decide +kernel)⟩
theorem z_okT50 : z_okT z_t50 := ⟨(by decide +kernel), (by decide +kernel), (by decide +kernel), z_w 525 (by decide +kernel) (by decide +kernel), (z_w 60 (by decide +kernel) (by decide +kernel)), (by decide +kernel)⟩
theorem z_okT51 : z_okT z_t51 := ⟨(by decide +kernel), (by decide +kernel), (by decide +kernel), z_w 537 (by decide +kernel) (by decide +kernel), (z_w 60 (by decide +kernel) (by decide +kernel)), (by decide +kernel)⟩
theorem z_okT52 : z_okT z_t52 := ⟨(by decide +kernel), (by decide +kernel), (by decide +kernel), z_w 626 (by decide +kernel) (by decide +kernel), (z_w 60 (by decide +kernel) (by decide +kernel)), (by decide +kernel)⟩
theorem z_okT53 : z_okT z_t53 := ⟨(by decide +kernel), (by decide +kernel), (by decide +kernel), z_w 630 (by decide +kernel) (by decide +kernel), (z_w 60 (by decide +kernel) (by decide +kernel)), (by decide +kernel)⟩
theorem z_okT54 : z_okT z_t54 := ⟨(by decide +kernel), (by decide +kernel), (by decide +kernel), z_w 737 (by decide +kernel) (by decide +kernel), (z_w 60 (by decide +kernel) (by decide +kernel)), (by decide +kernel)⟩
theorem z_okT55 : z_okT z_t55 := ⟨(by decide +kernel), (by decide +kernel), (by decide +kernel), z_w 90 (by decide +kernel) (by decide +kernel), (z_w 58 (by decide +kernel) (by decide +kernel)), (by decide +kernel)⟩
theorem z_okT56 : z_okT z_t56 := ⟨(by decide +kernel), (by decide +kernel), (by decide +kernel), z_w 459 (by decide +kernel) (by decide +kernel), (z_w 58 (by decide +kernel) (by decide +kernel)), (by decide +kernel)⟩
theorem z_okT57 : z_okT z_t57 := ⟨(by decide +kernel), (by decide +kernel), (by decide +kernel), z_w 577 (by decide +kernel) (by decide +kernel), (z_w 58 (by decide +kernel) (by decide +kernel)), (by decide +kernel)⟩
theorem z_okT58 : z_okT z_t58 := ⟨(by decide +kernel), (by decide +kernel), (by decide +kernel), z_w 586 (by decide +kernel) (by decide +kernel), (z_w 58 (by decide +kernel) (by decide +kernel)), (by decide +kernel)⟩
theorem z_okT59 : z_okT z_t59 := ⟨(by decide +kernel), (by decide +kernel), (by decide +kernel), z_w 269 (by decide +kernel) (by decide +kernel), (z_w 62 (by decide +kernel) (by decide +kernel)), (by decide +kernel)⟩
theorem z_okT60 : z_okT z_t60 := ⟨(by decide +kernel), (by decide +kernel), (by decide +kernel), z_w 480 (by decide +kernel) (by decide +kernel), (z_w 62 (by decide +kernel) (by decide +kernel)), (by decide +kernel)⟩
theorem z_okT61 : z_okT z_t61 := ⟨(by decide +kernel), (by decide +kernel), (by decide +kernel), z_w 720 (by decide +kernel) (by decide +kernel), (z_w 62 (by decide +kernel) (by decide +kernel)), (by decide +kernel)⟩
theorem z_okT62 : z_okT z_t62 := ⟨(by decide +kernel), (by decide +kernel), (by decide +kernel), z_w 732 (by decide +kernel) (by decide +kernel), (z_w 62 (by decide +kernel) (by decide +kernel)), (by decide +kernel)⟩
theorem z_okT63 : z_okT z_t63 := ⟨(by decide +kernel), (by decide +kernel), (by decide +kernel), z_w 136 (by decide +kernel) (by decide +kernel), (z_w 59 (by decide +kernel) (by decide +kernel)), (by decide +kernel)⟩
theorem z_okT64 : z_okT z_t64 := ⟨(by decide +kernel), (by decide +kernel), (by decide +kernel), z_w 463 (by decide +kernel) (by decide +kernel), (z_w 59 (by decide +kernel) (by decide +kernel)), (by decide +kernel)⟩
theorem z_okT65 : z_okT z_t65 := ⟨(by decide +kernel), (by decide +kernel), (by decide +kernel), z_w 494 (by decide +kernel) (by decide +kernel), (z_w 59 (by decide +kernel) (by decide +kernel)), (by decide +kernel)⟩
theorem z_okT66 : z_okT z_t66 := ⟨(by decide +kernel), (by decide +kernel), (by decide +kernel), z_w 501 (by decide +kernel) (by decide +kernel), (z_w 59 (by decide +kernel) (by decide +kernel)), (by decide +kernel)⟩
theorem z_okT67 : z_okT z_t67 := ⟨(by decide +kernel), (by decide +kernel), (by decide +kernel), z_w 521 (by decide +kernel) (by decide +kernel), (z_w 59 (by decide +kernel) (by decide +kernel)), (by decide +kernel)⟩
theorem z_okT68 : z_okT z_t68 := ⟨(by decide +kernel), (by decide +kernel), (by decide +kernel), z_w 704 (by decide +kernel) (by decide +kernel), (z_w 59 (by decide +kernel) (by decide +kernel)), (by decide +kernel)⟩
theorem z_okT69 : z_okT z_t69 := ⟨(by decide +kernel), (by decide +kernel), (by decide +kernel), z_w 724 (by decide +kernel) (by decide +kernel), (z_w 59 (by decide +kernel) (by decide +kernel)), (by decide +kernel)⟩
theorem z_okT70 : z_okT z_t70 := ⟨(by decide +kernel), (by decide +kernel), (by decide +kernel), z_w 855 (by decide +kernel) (by decide +kernel), (z_w 59 (by decide +kernel) (by decide +kernel)), (by decide +kernel)⟩
theorem z_okT71 : z_okT z_t71 := ⟨(by decide +kernel), (by decide +kernel), (by decide +kernel), z_w 76 (by decide +kernel) (by decide +kernel), (z_w 56 (by decide +kernel) (by decide +kernel)), (by decide +kernel)⟩
theorem z_okT72 : z_okT z_t72 := ⟨(by decide +kernel), (by decide +kernel), (by decide +kernel), z_w 94 (by decide +kernel) (by decide +kernel), (z_w 56 (by decide +kernel) (by decide +kernel)), (by decide +kernel)⟩
theorem z_okT73 : z_okT z_t73 := ⟨(by decide +kernel), (by decide +kernel), (by decide +kernel), z_w 447 (by decide +kernel) (by decide +kernel), (z_w 56 (by decide +kernel) (by decide +kernel)), (by decide +kernel)⟩
theorem z_okT74 : z_okT z_t74 := ⟨(by decide +kernel), (by decide +kernel), (by decide +kernel), z_w 497 (by decide +kernel) (by decide +kernel), (z_w 56 (by decide +kernel) (by decide +kernel)), (by decide +kernel)⟩
theorem z_okT75 : z_okT z_t75 := ⟨(by decide +kernel), (by decide +kernel), (by decide +kernel), z_w 509 (by decide +kernel) (by decide +kernel), (z_w 56 (by decide +kernel) (by decide +kernel)), (by decide +kernel)⟩
theorem z_okT76 : z_okT z_t76 := ⟨(by decide +kernel), (by decide +kernel), (by decide +kernel), z_w 529 (by decide +kernel) (by decide +kernel), (z_w 56 (by decide +kernel) (by decide +kernel)), (by decide +kernel)⟩
theorem z_okT77 : z_okT z_t77 := ⟨(by decide +kernel), (by decide +kernel), (by decide +kernel), z_w 549 (by decide +kernel) (by decide +kernel), (z_w 56 (by decide +kernel) (by decide +kernel)), (by decide +kernel)⟩
theorem z_okT78 : z_okT z_t78 := ⟨(by decide +kernel), (by decide +kernel), (by decide +kernel), z_w 557 (by decide +kernel) (by decide +kernel), (z_w 56 (by decide +kernel) (by decide +kernel)), (by decide +kernel)⟩
theorem z_okT79 : z_okT z_t79 := ⟨(by decide +kernel), (by decide +kernel), (by decide +kernel), z_w 565 (by decide +kernel) (by decide +kernel), (z_w 56 (by decide +kernel) (by decide +kernel)), (by decide +kernel)⟩
theorem z_okT80 : z_okT z_t80 := ⟨(by decide +kernel), (by decide +kernel), (by decide +kernel), z_w 573 (by decide +kernel) (by decide +kernel), (z_w 56 (by decide +kernel) (by decide +kernel)), (by decide +kernel)⟩
theorem z_okT81 : z_okT z_t81 := ⟨(by decide +kernel), (by decide +kernel), (by decide +kernel), z_w 582 (by decide +kernel) (by decide +kernel), (z_w 56 (by decide +kernel) (by decide +kernel)), (by decide +kernel)⟩
theorem z_okT82 : z_okT z_t82 := ⟨(by decide +kernel), (by decide +kernel), (by decide +kernel), z_w 590 (by decide +kernel) (by decide +kernel), (z_w 56 (by decide +kernel) (by decide +kernel)), (by decide +kernel)⟩
theorem z_okT83 : z_okT z_t83 := ⟨(by decide +kernel), (by decide +kernel), (by decide +kernel), z_w 606 (by decide +kernel) (by decide +kernel), (z_w 56 (by decide +kernel) (by decide +kernel)), (by decide +kernel)⟩
theorem z_okT84 : z_okT z_t84 := ⟨(by decide +kernel), (by decide +kernel), (by decide +kernel), z_w 614 (by decide +kernel) (by decide +kernel), (z_w 56 (by decide +kernel) (by decide +kernel)), (by decide +kernel)⟩
theorem z_okT85 : z_okT z_t85 := ⟨(by decide +kernel), (by decide +kernel), (by decide +kernel), z_w 741 (by decide +kernel) (by decide +kernel), (z_w 56 (by decide +kernel) (by decide +kernel)), (by decide +kernel)⟩
theorem z_okT86 : z_okT z_t86 := ⟨(by decide +kernel), (by decide +kernel), (by decide +kernel), z_w 749 (by decide +kernel) (by decide +kernel), (z_w 56 (by decide +kernel) (by decide +kernel)), (by decide +kernel)⟩
theorem z_okT87 : z_okT z_t87 := ⟨(by decide +kernel), (by decide +kernel), (by decide +kernel), z_w 758 (by decide +kernel) (by decide +kernel), (z_w 56 (by decide +kernel) (by decide +kernel)), (by decide +kernel)⟩
theorem z_okT88 : z_okT z_t88 := ⟨(by decide +kernel), (by decide +kernel), (by decide +kernel), z_w 766 (by decide +kernel) (by decide +kernel), (z_w 56 (by decide +kernel) (by decide +kernel)), (by decide +kernel)⟩
theorem z_okT89 : z_okT z_t89 := ⟨(by decide +kernel), (by decide +kernel), (by decide +kernel), z_w 793 (by decide +kernel) (by decide +kernel), (z_w 56 (by decide +kernel) (by decide +kernel)), (by decide +kernel)⟩
theorem z_okT90 : z_okT z_t90 := ⟨(by decide +kernel), (by decide +kernel), (by decide +kernel), z_w 797 (by decide +kernel) (by decide +kernel), (z_w 56 (by decide +kernel) (by decide +kernel)), (by decide +kernel)⟩
theorem z_okT91 : z_okT z_t91 := ⟨(by decide +kernel), (by decide +kernel), (by decide +kernel), z_w 806 (by decide +kernel) (by decide +kernel), (z_w 56 (by decide +kernel) (by decide +kernel)), (by decide +kernel)⟩
theorem z_okT92 : z_okT z_t92 := ⟨(by decide +kernel), (by decide +kernel), (by decide +kernel), z_w 811 (by decide +kernel) (by decide +kernel), (z_w 56 (by decide +kernel) (by decide +kernel)), (by decide +kernel)⟩
theorem z_okT93 : z_okT z_t93 := ⟨(by decide +kernel), (by decide +kernel), (by decide +kernel), z_w 823 (by decide +kernel) (by decide +kernel), (z_w 56 (by decide +kernel) (by decide +kernel)), (by decide +kernel)⟩
theorem z_okT94 : z_okT z_t94 := ⟨(by decide +kernel), (by decide +kernel), (by decide +kernel), z_w 826 (by decide +kernel) (by decide +kernel), (z_w 56 (by decide +kernel) (by decide +kernel)), (by decide +kernel)⟩
theorem z_okT95 : z_okT z_t95 := ⟨(by decide +kernel), (by decide +kernel), (by decide +kernel), z_w 831 (by decide +kernel) (by decide +kernel), (z_w 56 (by decide +kernel) (by decide +kernel)), (by decide +kernel)⟩
theorem z_okT96 : z_okT z_t96 := ⟨(by decide +kernel), (by decide +kernel), (by decide +kernel), z_w 835 (by decide +kernel) (by decide +kernel), (z_w 56 (by decide +kernel) (by decide +kernel)), (by decide +kernel)⟩
theorem z_okT97 : z_okT z_t97 := ⟨(by decide +kernel), (by decide +kernel), (by decide +kernel), z_w 840 (by decide +kernel) (by decide +kernel), (z_w 56 (by decide +kernel) (by decide +kernel)), (by decide +kernel)⟩
theorem z_okT98 : z_okT z_t98 := ⟨(by decide +kernel), (by decide +kernel), (by decide +kernel), z_w 844 (by decide +kernel) (by decide +kernel), (z_w 56 (by decide +kernel) (by decide +kernel)), (by decide +kernel)⟩
theorem z_okT99 : z_okT z_t99 := ⟨(by decide +kernel), (by decide +kernel), (by decide +kernel), z_w 851 (by decide +kernel) (by decide +kernel), (z_w 56 (by decide +kernel) (by decide +kernel)), (by decide +kernel)⟩
theorem z_okT100 : z_okT z_t100 := ⟨(by decide +kernel), (by decide +kernel), (by decide +kernel), z_w 859 (by decide +kernel) (by decide +kernel), (z_w 56 (by decide +kernel) (by decide +kernel)), (by decide +kernel)⟩
theorem z_okT101 : z_okT z_t101 := ⟨(by decide +kernel), (by decide +kernel), (by decide +kernel), z_w 863 (by decide +kernel) (by decide +kernel), (z_w 56 (by decide +kernel) (by decide +kernel)), (by decide +kernel)⟩
theorem z_okT102 : z_okT z_t102 := ⟨(by decide +kernel), (by decide +kernel), (by decide +kernel), z_w 869 (by decide +kernel) (by decide +kernel), (z_w 56 (by decide +kernel) (by decide +kernel)), (by decide +kernel)⟩
theorem z_okT103 : z_okT z_t103 := ⟨(by decide +kernel), (by decide +kernel), (by decide +kernel), z_w 877 (by decide +kernel) (by decide +kernel), (z_w 56 (by decide +kernel) (by decide +kernel)), (by decide +kernel)⟩
theorem z_okT104 : z_okT z_t104 := ⟨(by decide +kernel), (by decide +kernel), (by decide +kernel), z_w 884 (by decide +kernel) (by decide +kernel), (z_w 56 (by decide +kernel) (by decide +kernel)), (by decide +kernel)⟩
theorem z_okT105 : z_okT z_t105 := ⟨(by decide +kernel), (by decide +kernel), (by decide +kernel), z_w 891 (by decide +kernel) (by decide +kernel), (z_w 56 (by decide +kernel) (by decide +kernel)), (by decide +kernel)⟩
theorem z_okT106 : z_okT z_t106 := ⟨(by decide +kernel), (by decide +kernel), (by decide +kernel), z_w 895 (by decide +kernel) (by decide +kernel), (z_w 56 (by decide +kernel) (by decide +kernel)), (by decide +kernel)⟩
theorem z_okT107 : z_okT z_t107 := ⟨(by decide +kernel), (by decide +kernel), (by decide +kernel), z_w 901 (by decide +kernel) (by decide +kernel), (z_w 67 (by decide +kernel) (by decide +kernel)), (by decide +kernel)⟩
theorem z_okT108 : z_okT z_t108 := ⟨(by decide +kernel), (by decide +kernel), (by decide +kernel), z_w 951 (by decide +kernel) (by decide +kernel), (z_w 67 (by decide +kernel) (by decide +kernel)), (by decide +kernel)⟩
theorem z_okT109 : z_okT z_t109 := ⟨(by decide +kernel), (by decide +kernel), (by decide +kernel), z_w 955 (by decide +kernel) (by decide +kernel), (z_w 67 (by decide +kernel) (by decide +kernel)), (by decide +kernel)⟩
theorem z_okT110 : z_okT z_t110 := ⟨(by decide +kernel), (by decide +kernel), (by decide +kernel), z_w 958 (by decide +kernel) (by decide +kernel), (z_w 67 (by decide +kernel) (by decide +kernel)), (by decide +kernel)⟩
theorem z_okT111 : z_okT z_t111 := ⟨(by decide +kernel), (by decide +kernel), (by decide +kernel), z_w 962 (by decide +kernel) (by decide +kernel), (z_w 67 (by decide +kernel) (by decide +kernel)), (by decide +kernel)⟩
theorem z_okT112 : z_okT z_t112 := ⟨(by decide +kernel), (by decide +kernel), (by decide +kernel), z_w 966 (by decide +kernel) (by decide +kernel), (z_w 67 (by decide +kernel) (by decide +kernel)), (by decide +kernel)⟩
theorem z_okT113 : z_okT z_t113 := ⟨(by decide +kernel), (by decide +kernel), (by decide +kernel), z_w 970 (by decide +kernel) (by decide +kernel), (z_w 67 (by decide +kernel) (by decide +kernel)), (by decide +kernel)⟩
theorem z_okT114 : z_okT z_t114 := ⟨(by decide +kernel), (by decide +kernel), (by decide +kernel), z_w 974 (by decide +kernel) (by decide +kernel), (z_w 67 (by decide +kernel) (by decide +kernel)), (by decide +kernel)⟩
theorem z_okT115 : z_okT z_t115 := ⟨(by decide +kernel), (by decide +kernel), (by decide +kernel), z_w 978 (by decide +kernel) (by decide +kernel), (z_w 67 (by decide +kernel) (by decide +kernel)), (by decide +kernel)⟩
theorem z_okT116 : z_okT z_t116 := ⟨(by decide +kernel), (by decide +kernel), (by decide +kernel), z_w 982 (by decide +kernel) (by decide +kernel), (z_w 67 (by decide +kernel) (by decide +kernel)), (by decide +kernel)⟩
theorem z_okT117 : z_okT z_t117 := ⟨(by decide +kernel), (by decide +kernel), (by decide +kernel), z_w 986 (by decide +kernel) (by decide +kernel), (z_w 67 (by decide +kernel) (by decide +kernel)), (by decide +kernel)⟩
theorem z_okT118 : z_okT z_t118 := ⟨(by decide +kernel), (by decide +kernel), (by decide +kernel), z_w 990 (by decide +kernel) (by decide +kernel), (z_w 67 (by decide +kernel) (by decide +kernel)), (by decide +kernel)⟩
theorem z_okT119 : z_okT z_t119 := ⟨(by decide +kernel), (by decide +kernel), (by decide +kernel), z_w 994 (by decide +kernel) (by decide +kernel), (z_w 67 (by decide +kernel) (by decide +kernel)), (by decide +kernel)⟩
theorem z_okT120 : z_okT z_t120 := ⟨(by decide +kernel), (by decide +kernel), (by decide +kernel), z_w 998 (by decide +kernel) (by decide +kernel), (z_w 67 (by decide +kernel) (by decide +kernel)), (by decide +kernel)⟩
theorem z_okT121 : z_okT z_t121 := ⟨(by decide +kernel), (by decide +kernel), (by decide +kernel), z_w 1002 (by decide +kernel) (by decide +kernel), (z_w 67 (by decide +kernel) (by decide +kernel)), (by decide +kernel)⟩
theorem z_okT122 : z_okT z_t122 := ⟨(by decide +kernel), (by decide +kernel), (by decide +kernel), z_w 1006 (by decide +kernel) (by decide +kernel), (z_w 67 (by decide +kernel) (by decide +kernel)), (by decide +kernel)⟩
theorem z_okT123 : z_okT z_t123 := ⟨(by decide +kernel), (by decide +kernel), (by decide +kernel), z_w 1010 (by decide +kernel) (by decide +kernel), (z_w 67 (by decide +kernel) (by decide +kernel)), (by decide +kernel)⟩
theorem z_okT124 : z_okT z_t124 := ⟨(by decide +kernel), (by decide +kernel), (by decide +kernel), z_w 1014 (by decide +kernel) (by decide +kernel), (z_w 67 (by decide +kernel) (by decide +kernel)), (by decide +kernel)⟩
theorem z_okT125 : z_okT z_t125 := ⟨(by decide +kernel), (by decide +kernel), (by decide +kernel), z_w 1018 (by decide +kernel) (by decide +kernel), (z_w 67 (by decide +kernel) (by decide +kernel)), (by decide +kernel)⟩
theorem z_okT126 : z_okT z_t126 := ⟨(by decide +kernel), (by decide +kernel), (by decide +kernel), z_w 1022 (by decide +kernel) (by decide +kernel), (z_w 67 (by decide +kernel) (by decide +kernel)), (by decide +kernel)⟩
theorem z_okT127 : z_okT z_t127 := ⟨(by decide +kernel), (by decide +kernel), (by decide +kernel), z_w 1026 (by decide +kernel) (by decide +kernel), (z_w 67 (by decide +kernel) (by decide +kernel)), (by decide +kernel)⟩
theorem z_okT128 : z_okT z_t128 := ⟨(by decide +kernel), (by decide +kernel), (by decide +kernel), z_w 1030 (by decide +kernel) (by decide +kernel), (z_w 67 (by decide +kernel) (by decide +kernel)), (by decide +kernel)⟩
theorem z_okT129 : z_okT z_t129 := ⟨(by decide +kernel), (by decide +kernel), (by decide +kernel), z_w 1034 (by decide +kernel) (by decide +kernel), (z_w 67 (by decide +kernel) (by decide +kernel)), (by decide +kernel)⟩
theorem z_okT130 : z_okT z_t130 := ⟨(by decide +kernel), (by decide +kernel), (by decide +kernel), z_w 1038 (by decide +kernel) (by decide +kernel), (z_w 67 (by decide +kernel) (by decide +kernel)), (by decide +kernel)⟩
theorem z_okT131 : z_okT z_t131 := ⟨(by decide +kernel), (by decide +kernel), (by decide +kernel), z_w 1042 (by decide +kernel) (by decide +kernel), (z_w 67 (by decide +kernel) (by decide +kernel)), (by decide +kernel)⟩
theorem z_okT132 : z_okT z_t132 := ⟨(by decide +kernel), (by decide +kernel), (by decide +kernel), z_w 1046 (by decide +kernel) (by decide +kernel), (z_w 67 (by decide +kernel) (by decide +kernel)), (by decide +kernel)⟩
theorem z_okT133 : z_okT z_t133 := ⟨(by decide +kernel), (by decide +kernel), (by decide +kernel), z_w 1050 (by decide +kernel) (by decide +kernel), (z_w 67 (by decide +kernel) (by decide +kernel)), (by decide +kernel)⟩
theorem z_okT134 : z_okT z_t134 := ⟨(by decide +kernel), (by decide +kernel), (by decide +kernel), z_w 1056 (by decide +kernel) (by decide +kernel), (z_w 67 (by decide +kernel) (by decide +kernel)), (by decide +kernel)⟩
theorem z_okT135 : z_okT z_t135 := ⟨(by decide +kernel), (by decide +kernel), (by decide +kernel), z_w 1060 (by decide +kernel) (by decide +kernel), (z_w 67 (by decide +kernel) (by decide +kernel)), (by decide +kernel)⟩
theorem z_okT136 : z_okT z_t136 := ⟨(by decide +kernel), (by decide +kernel), (by decide +kernel), z_w 1064 (by decide +kernel) (by decide +kernel), (z_w 67 (by decide +kernel) (by decide +kernel)), (by decide +kernel)⟩
theorem z_okT137 : z_okT z_t137 := ⟨(by decide +kernel), (by decide +kernel), (by decide +kernel), z_w 1068 (by decide +kernel) (by decide +kernel), (z_w 67 (by decide +kernel) (by decide +kernel)), (by decide +kernel)⟩
theorem z_okT138 : z_okT z_t138 := ⟨(by decide +kernel), (by decide +kernel), (by decide +kernel), z_w 1072 (by decide +kernel) (by decide +kernel), (z_w 67 (by decide +kernel) (by decide +kernel)), (by decide +kernel)⟩
theorem z_okT139 : z_okT z_t139 := ⟨(by decide +kernel), (by decide +kernel), (by decide +kernel), z_w 1076 (by decide +kernel) (by decide +kernel), (z_w 67 (by decide +kernel) (by decide +kernel)), (by decide +kernel)⟩
theorem z_okT140 : z_okT z_t140 := ⟨(by decide +kernel), (by decide +kernel), (by decide +kernel), z_w 1080 (by decide +kernel) (by decide +kernel), (z_w 67 (by decide +kernel) (by decide +kernel)), (by decide +kernel)⟩
theorem z_okT141 : z_okT z_t141 := ⟨(by decide +kernel), (by decide +kernel), (by decide +kernel), z_w 1084 (by decide +kernel) (by decide +kernel), (z_w 67 (by decide +kernel) (by decide +kernel)), (by decide +kernel)⟩
theorem z_okT142 : z_okT z_t142 := ⟨(by decide +kernel), (by decide +kernel), (by decide +kernel), z_w 1088 (by decide +kernel) (by decide +kernel), (z_w 67 (by decide +kernel) (by decide +kernel)), (by decide +kernel)⟩
theorem z_okT143 : z_okT z_t143 := ⟨(by decide +kernel), (by decide +kernel), (by decide +kernel), z_w 1092 (by decide +kernel) (by decide +kernel), (z_w 67 (by decide +kernel) (by decide +kernel)), (by decide +kernel)⟩
theorem z_okT144 : z_okT z_t144 := ⟨(by decide +kernel), (by decide +kernel), (by decide +kernel), z_w 1096 (by decide +kernel) (by decide +kernel), (z_w 67 (by decide +kernel) (by decide +kernel)), (by decide +kernel)⟩
theorem z_okT145 : z_okT z_t145 := ⟨(by decide +kernel), (by decide +kernel), (by decide +kernel), z_w 1100 (by decide +kernel) (by decide +kernel), (z_w 67 (by decide +kernel) (by decide +kernel)), (by decide +kernel)⟩
theorem z_okT146 : z_okT z_t146 := ⟨(by decide +kernel), (by decide +kernel), (by decide +kernel), z_w 1105 (by decide +kernel) (by decide +kernel), (z_w 67 (by decide +kernel) (by decide +kernel)), (by decide +kernel)⟩
theorem z_okT147 : z_okT z_t147 := ⟨(by decide +kernel), (by decide +kernel), (by decide +kernel), z_w 1109 (by decide +kernel) (by decide +kernel), (z_w 67 (by decide +kernel) (by decide +kernel)), (by decide +kernel)⟩
theorem z_okT148 : z_okT z_t148 := ⟨(by decide +kernel), (by decide +kernel), (by decide +kernel), z_w 1113 (by decide +kernel) (by decide +kernel), (z_w 67 (by decide +kernel) (by decide +kernel)), (by decide +kernel)⟩
theorem z_okT149 : z_okT z_t149 := ⟨(by decide +kernel), (by decide +kernel), (by decide +kernel), z_w 1117 (by decide +kernel) (by decide +kernel), (z_w 67 (by decide +kernel) (by decide +kernel)), (by decide +kernel)⟩
theorem z_okT150 : z_okT z_t150 := ⟨(by decide +kernel), (by decide +kernel), (by decide +kernel), z_w 1121 (by decide +kernel) (by decide +kernel), (z_w 67 (by decide +kernel) (by decide +kernel)), (by decide +kernel)⟩
theorem z_okT151 : z_okT z_t151 := ⟨(by decide +kernel), (by decide +kernel), (by decide +kernel), z_w 1125 (by decide +kernel) (by decide +kernel), (z_w 67 (by decide +kernel) (by decide +kernel)), (by decide +kernel)⟩
theorem z_okT152 : z_okT z_t152 := ⟨(by decide +kernel), (by decide +kernel), (by decide +kernel), z_w 1129 (by decide +kernel) (by decide +kernel), (z_w 67 (by decide +kernel) (by decide +kernel)), (by decide +kernel)⟩
theorem z_okT153 : z_okT z_t153 := ⟨(by decide +kernel), (by decide +kernel), (by decide +kernel), z_w 1133 (by decide +kernel) (by decide +kernel), (z_w 67 (by decide +kernel) (by decide +kernel)), (by decide +kernel)⟩
theorem z_okT154 : z_okT z_t154 := ⟨(by decide +kernel), (by decide +kernel), (by decide +kernel), z_w 1137 (by decide +kernel) (by decide +kernel), (z_w 67 (by decide +kernel) (by decide +kernel)), (by decide +kernel)⟩
theorem z_okT155 : z_okT z_t155 := ⟨(by decide +kernel), (by decide +kernel), (by decide +kernel), z_w 1141 (by decide +kernel) (by decide +kernel), (z_w 67 (by decide +kernel) (by decide +kernel)), (by decide +kernel)⟩
theorem z_okT156 : z_okT z_t156 := ⟨(by decide +kernel), (by decide +kernel), (by decide +kernel), z_w 1145 (by decide +kernel) (by decide +kernel), (z_w 67 (by decide +kernel) (by decide +kernel)), (by decide +kernel)⟩
theorem z_okT157 : z_okT z_t157 := ⟨(by decide +kernel), (by decide +kernel), (by decide +kernel), z_w 1149 (by decide +kernel) (by decide +kernel), (z_w 67 (by decide +kernel) (by decide +kernel)), (by decide +kernel)⟩
theorem z_okT158 : z_okT z_t158 := ⟨(by decide +kernel), (by decide +kernel), (by decide +kernel), z_w 1153 (by decide +kernel) (by decide +kernel), (z_w 67 (by decide +kernel) (by decide +kernel)), (by decide +kernel)⟩
theorem z_okT159 : z_okT z_t159 := ⟨(by decide +kernel), (by decide +kernel), (by decide +kernel), z_w 1157 (by decide +kernel) (by decide +kernel), (z_w 67 (by decide +kernel) (by decide +kernel)), (by decide +kernel)⟩
theorem z_okT160 : z_okT z_t160 := ⟨(by decide +kernel), (by decide +kernel), (by decide +kernel), z_w 1161 (by decide +kernel) (by decide +kernel), (z_w 67 (by decide +kernel) (by decide +kernel)), (by decide +kernel)⟩
theorem z_okT161 : z_okT z_t161 := ⟨(by decide +kernel), (by decide +kernel), (by decide +kernel), z_w 1171 (by decide +kernel) (by decide +kernel), (z_w 67 (by decide +kernel) (by decide +kernel)), (by decide +kernel)⟩
theorem z_okT162 : z_okT z_t162 := ⟨(by decide +kernel), (by decide +kernel), (by decide +kernel), z_w 1175 (by decide +kernel) (by decide +kernel), (z_w 67 (by decide +kernel) (by decide +kernel)), (by decide +kernel)⟩
theorem z_okT163 : z_okT z_t163 := ⟨(by decide +kernel), (by decide +kernel), (by decide +kernel), z_w 1179 (by decide +kernel) (by decide +kernel), (z_w 67 (by decide +kernel) (by decide +kernel)), (by decide +kernel)⟩
theorem z_okT164 : z_okT z_t164 := ⟨(by decide +kernel), (by decide +kernel), (by decide +kernel), z_w 1183 (by decide +kernel) (by decide +kernel), (z_w 67 (by decide +kernel) (by decide +kernel)), (by decide +kernel)⟩
theorem z_okT165 : z_okT z_t165 := ⟨(by decide +kernel), (by decide +kernel), (by decide +kernel), z_w 1186 (by decide +kernel) (by decide +kernel), (z_w 67 (by decide +kernel) (by decide +kernel)), (by decide +kernel)⟩
theorem z_okT166 : z_okT z_t166 := ⟨(by decide +kernel), (by decide +kernel), (by decide +kernel), z_w 1190 (by decide +kernel) (by decide +kernel), (z_w 67 (by decide +kernel) (by decide +kernel)), (by decide +kernel)⟩
theorem z_okT167 : z_okT z_t167 := ⟨(by decide +kernel), (by decide +kernel), (by decide +kernel), z_w 1204 (by decide +kernel) (by decide +kernel), (z_w 67 (by decide +kernel) (by decide +kernel)), (by decide +kernel)⟩
theorem z_okT168 : z_okT z_t168 := ⟨(by decide +kernel), (by decide +kernel), (by decide +kernel), z_w 1208 (by decide +kernel) (by decide +kernel), (z_w 67 (by decide +kernel) (by decide +kernel)), (by decide +kernel)⟩
theorem z_okT169 : z_okT z_t169 := ⟨(by decide +kernel), (by decide +kernel), (by decide +kernel), z_w 1213 (by decide +kernel) (by decide +kernel), (z_w 67 (by decide +kernel) (by decide +kernel)), (by decide +kernel)⟩
theorem z_okT170 : z_okT z_t170 := ⟨(by decide +kernel), (by decide +kernel), (by decide +kernel), z_w 1217 (by decide +kernel) (by decide +kernel), (z_w 67 (by decide +kernel) (by decide +kernel)), (by decide +kernel)⟩
theorem z_okT171 : z_okT z_t171 := ⟨(by decide +kernel), (by decide +kernel), (by decide +kernel), z_w 1221 (by decide +kernel) (by decide +kernel), (z_w 67 (by decide +kernel) (by decide +kernel)), (by decide +kernel)⟩
theorem z_okT172 : z_okT z_t172 := ⟨(by decide +kernel), (by decide +kernel), (by decide +kernel), z_w 1225 (by decide +kernel) (by decide +kernel), (z_w 67 (by decide +kernel) (by decide +kernel)), (by decide +kernel)⟩
theorem z_okT173 : z_okT z_t173 := ⟨(by decide +kernel), (by decide +kernel), (by decide +kernel), z_w 1229 (by decide +kernel) (by decide +kernel), (z_w 67 (by decide +kernel) (by decide +kernel)), (by decide +kernel)⟩
theorem z_okT174 : z_okT z_t174 := ⟨(by decide +kernel), (by decide +kernel), (by decide +kernel), z_w 1233 (by decide +kernel) (by decide +kernel), (z_w 67 (by decide +kernel) (by decide +kernel)), (by decide +kernel)⟩
theorem z_okT175 : z_okT z_t175 := ⟨(by decide +kernel), (by decide +kernel), (by decide +kernel), z_w 1237 (by decide +kernel) (by decide +kernel), (z_w 67 (by decide +kernel) (by decide +kernel)), (by decide +kernel)⟩
theorem z_okT176 : z_okT z_t176 := ⟨(by decide +kernel), (by decide +kernel), (by decide +kernel), z_w 1243 (by decide +kernel) (by decide +kernel), (z_w 67 (by decide +kernel) (by decide +kernel)), (by decide +kernel)⟩
theorem z_okT177 : z_okT z_t177 := ⟨(by decide +kernel), (by decide +kernel), (by decide +kernel), z_w 657 (by decide +kernel) (by decide +kernel), (z_w 69 (by decide +kernel) (by decide +kernel)), (by decide +kernel)⟩
theorem z_okT178 : z_okT z_t178 := ⟨(by decide +kernel), (by decide +kernel), (by decide +kernel), z_w 660 (by decide +kernel) (by decide +kernel), (z_w 69 (by decide +kernel) (by decide +kernel)), (by decide +kernel)⟩
theorem z_okT179 : z_okT z_t179 := ⟨(by decide +kernel), (by decide +kernel), (by decide +kernel), z_w 663 (by decide +kernel) (by decide +kernel), (z_w 69 (by decide +kernel) (by decide +kernel)), (by decide +kernel)⟩
theorem z_okT180 : z_okT z_t180 := ⟨(by decide +kernel), (by decide +kernel), (by decide +kernel), z_w 666 (by decide +kernel) (by decide +kernel), (z_w 69 (by decide +kernel) (by decide +kernel)), (by decide +kernel)⟩
theorem z_okT181 : z_okT z_t181 := ⟨(by decide +kernel), (by decide +kernel), (by decide +kernel), z_w 670 (by decide +kernel) (by decide +kernel), (z_w 69 (by decide +kernel) (by decide +kernel)), (by decide +kernel)⟩
theorem z_okT182 : z_okT z_t182 := ⟨(by decide +kernel), (by decide +kernel), (by decide +kernel), z_w 673 (by decide +kernel) (by decide +kernel), (z_w 69 (by decide +kernel) (by decide +kernel)), (by decide +kernel)⟩
theorem z_okT183 : z_okT z_t183 := ⟨(by decide +kernel), (by decide +kernel), (by decide +kernel), z_w 676 (by decide +kernel) (by decide +kernel), (z_w 69 (by decide +kernel) (by decide +kernel)), (by decide +kernel)⟩
theorem z_okT184 : z_okT z_t184 := ⟨(by decide +kernel), (by decide +kernel), (by decide +kernel), z_w 679 (by decide +kernel) (by decide +kernel), (z_w 69 (by decide +kernel) (by decide +kernel)), (by decide +kernel)⟩
theorem z_okT185 : z_okT z_t185 := ⟨(by decide +kernel), (by decide +kernel), (by decide +kernel), z_w 682 (by decide +kernel) (by decide +kernel), (z_w 69 (by decide +kernel) (by decide +kernel)), (by decide +kernel)⟩
theorem z_okT186 : z_okT z_t186 := ⟨(by decide +kernel), (by decide +kernel), (by decide +kernel), z_w 685 (by decide +kernel) (by decide +kernel), (z_w 69 (by decide +kernel) (by decide +kernel)), (by decide +kernel)⟩
theorem z_okT187 : z_okT z_t187 := ⟨(by decide +kernel), (by decide +kernel), (by decide +kernel), z_w 688 (by decide +kernel) (by decide +kernel), (z_w 69 (by decide +kernel) (by decide +kernel)), (by decide +kernel)⟩
theorem z_okT188 : z_okT z_t188 := ⟨(by decide +kernel), (by decide +kernel), (by decide +kernel), z_w 692 (by decide +kernel) (by decide +kernel), (z_w 69 (by decide +kernel) (by decide +kernel)), (by decide +kernel)⟩
theorem z_okT189 : z_okT z_t189 := ⟨(by decide +kernel), (by decide +kernel), (by decide +kernel), z_w 1193 (by decide +kernel) (by decide +kernel), (z_w 71 (by decide +kernel) (by decide +kernel)), (by decide +kernel)⟩
theorem z_okT190 : z_okT z_t190 := ⟨(by decide +kernel), (by decide +kernel), (by decide +kernel), z_w 1196 (by decide +kernel) (by decide +kernel), (z_w 71 (by decide +kernel) (by decide +kernel)), (by decide +kernel)⟩
theorem z_okT191 : z_okT z_t191 := ⟨(by decide +kernel), (by decide +kernel), (by decide +kernel), z_w 816 (by decide +kernel) (by decide +kernel), (z_w 70 (by decide +kernel) (by decide +kernel)), (by decide +kernel)⟩
def z_okM (own idx : Nat) (v : Nat × Nat × Nat) : Prop := ∃ T, z_tab v.1 = some T ∧ z_okT T ∧ (Cond.methodLink (z_on own) idx T.1 ∈ z_wsU ∨ Cond.methodLinkNest (z_on own) idx T.1 "ConferenceBridges" ∈ z_nest) ∧ ((v.2.2 = 0 ∧ Cond.static T.1 ∈ z_wsU ∧ (parseMethodDescriptor T.1.desc).map (fun d => d.parameters.length) = some v.2.1) ∨ (v.2.2 = 1 ∧ Cond.instanceMethod T.1 ∈ z_wsU ∧ Cond.selects T.1.cls T.1 T.1 ∈ z_wsU ∧ ∃ n, v.2.1 = n + 1 ∧ (parseMethodDescriptor T.1.desc).map (fun d => d.parameters.length) = some n) ∨ (v.2.2 = 2 ∧ Cond.instanceMethod T.1 ∈ z_wsU ∧ T.1.name = "<init>" ∧ z_rt T = none ∧ ∃ n, v.2.1 = n + 1 ∧ (parseMethodDescriptor T.1.desc).map (fun d => d.parameters.length) = some n))
theorem z_okM_15_9 : z_okM 15 9 (71, 1, 2) := ⟨z_t71, rfl, z_okT71, Or.inl (z_w 74 (by decide +kernel) (by decide +kernel)), Or.inr (Or.inr ⟨rfl, (z_w 75 (by decide +kernel) (by decide +kernel)), (by decide +kernel), rfl, 0, rfl, (by decide +kernel)⟩)⟩
theorem z_okM_10_9 : z_okM 10 9 (0, 1, 2) := ⟨z_t0, rfl, z_okT0, Or.inr (List.mem_of_getElem? (i := 0) rfl), Or.inr (Or.inr ⟨rfl, (z_w 83 (by decide +kernel) (by decide +kernel)), (by decide +kernel), rfl, 0, rfl, (by decide +kernel)⟩)⟩
theorem z_okM_0_11 : z_okM 0 11 (55, 1, 2) := ⟨z_t55, rfl, z_okT55, Or.inr (List.mem_of_getElem? (i := 1) rfl), Or.inr (Or.inr ⟨rfl, (z_w 89 (by decide +kernel) (by decide +kernel)), (by decide +kernel), rfl, 0, rfl, (by decide +kernel)⟩)⟩
theorem z_okM_7_15 : z_okM 7 15 (72, 1, 0) := ⟨z_t72, rfl, z_okT72, Or.inr (List.mem_of_getElem? (i := 2) rfl), Or.inl ⟨rfl, (z_w 93 (by decide +kernel) (by decide +kernel)), (by decide +kernel)⟩⟩
theorem z_okM_0_20 : z_okM 0 20 (63, 1, 2) := ⟨z_t63, rfl, z_okT63, Or.inl (z_w 134 (by decide +kernel) (by decide +kernel)), Or.inr (Or.inr ⟨rfl, (z_w 135 (by decide +kernel) (by decide +kernel)), (by decide +kernel), rfl, 0, rfl, (by decide +kernel)⟩)⟩
theorem z_okM_0_27 : z_okM 0 27 (47, 1, 2) := ⟨z_t47, rfl, z_okT47, Or.inl (z_w 158 (by decide +kernel) (by decide +kernel)), Or.inr (Or.inr ⟨rfl, (z_w 159 (by decide +kernel) (by decide +kernel)), (by decide +kernel), rfl, 0, rfl, (by decide +kernel)⟩)⟩
theorem z_okM_0_34 : z_okM 0 34 (19, 1, 2) := ⟨z_t19, rfl, z_okT19, Or.inr (List.mem_of_getElem? (i := 3) rfl), Or.inr (Or.inr ⟨rfl, (z_w 235 (by decide +kernel) (by decide +kernel)), (by decide +kernel), rfl, 0, rfl, (by decide +kernel)⟩)⟩
theorem z_okM_0_41 : z_okM 0 41 (59, 1, 2) := ⟨z_t59, rfl, z_okT59, Or.inr (List.mem_of_getElem? (i := 4) rfl), Or.inr (Or.inr ⟨rfl, (z_w 268 (by decide +kernel) (by decide +kernel)), (by decide +kernel), rfl, 0, rfl, (by decide +kernel)⟩)⟩
theorem z_okM_0_48 : z_okM 0 48 (15, 1, 2) := ⟨z_t15, rfl, z_okT15, Or.inr (List.mem_of_getElem? (i := 5) rfl), Or.inr (Or.inr ⟨rfl, (z_w 295 (by decide +kernel) (by decide +kernel)), (by decide +kernel), rfl, 0, rfl, (by decide +kernel)⟩)⟩
theorem z_okM_10_21 : z_okM 10 21 (31, 1, 2) := ⟨z_t31, rfl, z_okT31, Or.inr (List.mem_of_getElem? (i := 6) rfl), Or.inr (Or.inr ⟨rfl, (z_w 359 (by decide +kernel) (by decide +kernel)), (by decide +kernel), rfl, 0, rfl, (by decide +kernel)⟩)⟩
theorem z_okM_4_21 : z_okM 4 21 (59, 1, 2) := ⟨z_t59, rfl, z_okT59, Or.inr (List.mem_of_getElem? (i := 7) rfl), Or.inr (Or.inr ⟨rfl, (z_w 268 (by decide +kernel) (by decide +kernel)), (by decide +kernel), rfl, 0, rfl, (by decide +kernel)⟩)⟩
theorem z_okM_10_28 : z_okM 10 28 (27, 1, 2) := ⟨z_t27, rfl, z_okT27, Or.inl (z_w 376 (by decide +kernel) (by decide +kernel)), Or.inr (Or.inr ⟨rfl, (z_w 377 (by decide +kernel) (by decide +kernel)), (by decide +kernel), rfl, 0, rfl, (by decide +kernel)⟩)⟩
theorem z_okM_3_17 : z_okM 3 17 (0, 1, 2) := ⟨z_t0, rfl, z_okT0, Or.inr (List.mem_of_getElem? (i := 8) rfl), Or.inr (Or.inr ⟨rfl, (z_w 83 (by decide +kernel) (by decide +kernel)), (by decide +kernel), rfl, 0, rfl, (by decide +kernel)⟩)⟩
theorem z_okM_10_35 : z_okM 10 35 (38, 1, 2) := ⟨z_t38, rfl, z_okT38, Or.inr (List.mem_of_getElem? (i := 9) rfl), Or.inr (Or.inr ⟨rfl, (z_w 396 (by decide +kernel) (by decide +kernel)), (by decide +kernel), rfl, 0, rfl, (by decide +kernel)⟩)⟩
theorem z_okM_15_13 : z_okM 15 13 (73, 4, 1) := ⟨z_t73, rfl, z_okT73, Or.inl (z_w 444 (by decide +kernel) (by decide +kernel)), Or.inr (Or.inl ⟨rfl, (z_w 445 (by decide +kernel) (by decide +kernel)), (z_w 446 (by decide +kernel) (by decide +kernel)), 3, rfl, (by decide +kernel)⟩)⟩
theorem z_okM_10_40 : z_okM 10 40 (28, 2, 1) := ⟨z_t28, rfl, z_okT28, Or.inl (z_w 448 (by decide +kernel) (by decide +kernel)), Or.inr (Or.inl ⟨rfl, (z_w 449 (by decide +kernel) (by decide +kernel)), (z_w 450 (by decide +kernel) (by decide +kernel)), 1, rfl, (by decide +kernel)⟩)⟩
theorem z_okM_3_22 : z_okM 3 22 (1, 2, 1) := ⟨z_t1, rfl, z_okT1, Or.inl (z_w 452 (by decide +kernel) (by decide +kernel)), Or.inr (Or.inl ⟨rfl, (z_w 453 (by decide +kernel) (by decide +kernel)), (z_w 454 (by decide +kernel) (by decide +kernel)), 1, rfl, (by decide +kernel)⟩)⟩
theorem z_okM_0_57 : z_okM 0 57 (56, 2, 1) := ⟨z_t56, rfl, z_okT56, Or.inl (z_w 456 (by decide +kernel) (by decide +kernel)), Or.inr (Or.inl ⟨rfl, (z_w 457 (by decide +kernel) (by decide +kernel)), (z_w 458 (by decide +kernel) (by decide +kernel)), 1, rfl, (by decide +kernel)⟩)⟩
theorem z_okM_0_61 : z_okM 0 61 (64, 2, 1) := ⟨z_t64, rfl, z_okT64, Or.inl (z_w 460 (by decide +kernel) (by decide +kernel)), Or.inr (Or.inl ⟨rfl, (z_w 461 (by decide +kernel) (by decide +kernel)), (z_w 462 (by decide +kernel) (by decide +kernel)), 1, rfl, (by decide +kernel)⟩)⟩
theorem z_okM_0_64 : z_okM 0 64 (48, 2, 1) := ⟨z_t48, rfl, z_okT48, Or.inl (z_w 467 (by decide +kernel) (by decide +kernel)), Or.inr (Or.inl ⟨rfl, (z_w 468 (by decide +kernel) (by decide +kernel)), (z_w 469 (by decide +kernel) (by decide +kernel)), 1, rfl, (by decide +kernel)⟩)⟩
theorem z_okM_0_67 : z_okM 0 67 (20, 2, 1) := ⟨z_t20, rfl, z_okT20, Or.inl (z_w 472 (by decide +kernel) (by decide +kernel)), Or.inr (Or.inl ⟨rfl, (z_w 473 (by decide +kernel) (by decide +kernel)), (z_w 474 (by decide +kernel) (by decide +kernel)), 1, rfl, (by decide +kernel)⟩)⟩
theorem z_okM_0_70 : z_okM 0 70 (60, 2, 1) := ⟨z_t60, rfl, z_okT60, Or.inl (z_w 477 (by decide +kernel) (by decide +kernel)), Or.inr (Or.inl ⟨rfl, (z_w 478 (by decide +kernel) (by decide +kernel)), (z_w 479 (by decide +kernel) (by decide +kernel)), 1, rfl, (by decide +kernel)⟩)⟩
theorem z_okM_0_73 : z_okM 0 73 (16, 2, 1) := ⟨z_t16, rfl, z_okT16, Or.inl (z_w 482 (by decide +kernel) (by decide +kernel)), Or.inr (Or.inl ⟨rfl, (z_w 483 (by decide +kernel) (by decide +kernel)), (z_w 484 (by decide +kernel) (by decide +kernel)), 1, rfl, (by decide +kernel)⟩)⟩
theorem z_okM_10_44 : z_okM 10 44 (2, 4, 1) := ⟨z_t2, rfl, z_okT2, Or.inl (z_w 487 (by decide +kernel) (by decide +kernel)), Or.inr (Or.inl ⟨rfl, (z_w 488 (by decide +kernel) (by decide +kernel)), (z_w 489 (by decide +kernel) (by decide +kernel)), 3, rfl, (by decide +kernel)⟩)⟩
theorem z_okM_0_76 : z_okM 0 76 (65, 2, 1) := ⟨z_t65, rfl, z_okT65, Or.inl (z_w 491 (by decide +kernel) (by decide +kernel)), Or.inr (Or.inl ⟨rfl, (z_w 492 (by decide +kernel) (by decide +kernel)), (z_w 493 (by decide +kernel) (by decide +kernel)), 1, rfl, (by decide +kernel)⟩)⟩
theorem z_okM_0_80 : z_okM 0 80 (74, 3, 0) := ⟨z_t74, rfl, z_okT74, Or.inr (List.mem_of_getElem? (i := 10) rfl), Or.inl ⟨rfl, (z_w 496 (by decide +kernel) (by decide +kernel)), (by decide +kernel)⟩⟩
theorem z_okM_0_87 : z_okM 0 87 (66, 4, 1) := ⟨z_t66, rfl, z_okT66, Or.inl (z_w 498 (by decide +kernel) (by decide +kernel)), Or.inr (Or.inl ⟨rfl, (z_w 499 (by decide +kernel) (by decide +kernel)), (z_w 500 (by decide +kernel) (by decide +kernel)), 3, rfl, (by decide +kernel)⟩)⟩
theorem z_okM_10_48 : z_okM 10 48 (29, 2, 1) := ⟨z_t29, rfl, z_okT29, Or.inl (z_w 502 (by decide +kernel) (by decide +kernel)), Or.inr (Or.inl ⟨rfl, (z_w 503 (by decide +kernel) (by decide +kernel)), (z_w 504 (by decide +kernel) (by decide +kernel)), 1, rfl, (by decide +kernel)⟩)⟩
theorem z_okM_15_18 : z_okM 15 18 (75, 3, 1) := ⟨z_t75, rfl, z_okT75, Or.inl (z_w 506 (by decide +kernel) (by decide +kernel)), Or.inr (Or.inl ⟨rfl, (z_w 507 (by decide +kernel) (by decide +kernel)), (z_w 508 (by decide +kernel) (by decide +kernel)), 2, rfl, (by decide +kernel)⟩)⟩
theorem z_okM_10_52 : z_okM 10 52 (3, 3, 1) := ⟨z_t3, rfl, z_okT3, Or.inl (z_w 510 (by decide +kernel) (by decide +kernel)), Or.inr (Or.inl ⟨rfl, (z_w 511 (by decide +kernel) (by decide +kernel)), (z_w 512 (by decide +kernel) (by decide +kernel)), 2, rfl, (by decide +kernel)⟩)⟩
theorem z_okM_0_94 : z_okM 0 94 (49, 3, 1) := ⟨z_t49, rfl, z_okT49, Or.inl (z_w 514 (by decide +kernel) (by decide +kernel)), Or.inr (Or.inl ⟨rfl, (z_w 515 (by decide +kernel) (by decide +kernel)), (z_w 516 (by decide +kernel) (by decide +kernel)), 2, rfl, (by decide +kernel)⟩)⟩
theorem z_okM_0_98 : z_okM 0 98 (67, 3, 1) := ⟨z_t67, rfl, z_okT67, Or.inl (z_w 518 (by decide +kernel) (by decide +kernel)), Or.inr (Or.inl ⟨rfl, (z_w 519 (by decide +kernel) (by decide +kernel)), (z_w 520 (by decide +kernel) (by decide +kernel)), 2, rfl, (by decide +kernel)⟩)⟩
theorem z_okM_0_102 : z_okM 0 102 (50, 3, 1) := ⟨z_t50, rfl, z_okT50, Or.inl (z_w 522 (by decide +kernel) (by decide +kernel)), Or.inr (Or.inl ⟨rfl, (z_w 523 (by decide +kernel) (by decide +kernel)), (z_w 524 (by decide +kernel) (by decide +kernel)), 2, rfl, (by decide +kernel)⟩)⟩
theorem z_okM_15_23 : z_okM 15 23 (76, 2, 1) := ⟨z_t76, rfl, z_okT76, Or.inl (z_w 526 (by decide +kernel) (by decide +kernel)), Or.inr (Or.inl ⟨rfl, (z_w 527 (by decide +kernel) (by decide +kernel)), (z_w 528 (by decide +kernel) (by decide +kernel)), 1, rfl, (by decide +kernel)⟩)⟩
theorem z_okM_10_56 : z_okM 10 56 (4, 2, 1) := ⟨z_t4, rfl, z_okT4, Or.inl (z_w 530 (by decide +kernel) (by decide +kernel)), Or.inr (Or.inl ⟨rfl, (z_w 531 (by decide +kernel) (by decide +kernel)), (z_w 532 (by decide +kernel) (by decide +kernel)), 1, rfl, (by decide +kernel)⟩)⟩
theorem z_okM_0_104 : z_okM 0 104 (51, 2, 1) := ⟨z_t51, rfl, z_okT51, Or.inl (z_w 534 (by decide +kernel) (by decide +kernel)), Or.inr (Or.inl ⟨rfl, (z_w 535 (by decide +kernel) (by decide +kernel)), (z_w 536 (by decide +kernel) (by decide +kernel)), 1, rfl, (by decide +kernel)⟩)⟩
theorem z_okM_0_107 : z_okM 0 107 (21, 2, 1) := ⟨z_t21, rfl, z_okT21, Or.inl (z_w 538 (by decide +kernel) (by decide +kernel)), Or.inr (Or.inl ⟨rfl, (z_w 539 (by decide +kernel) (by decide +kernel)), (z_w 540 (by decide +kernel) (by decide +kernel)), 1, rfl, (by decide +kernel)⟩)⟩
theorem z_okM_2_37 : z_okM 2 37 (22, 2, 1) := ⟨z_t22, rfl, z_okT22, Or.inl (z_w 542 (by decide +kernel) (by decide +kernel)), Or.inr (Or.inl ⟨rfl, (z_w 544 (by decide +kernel) (by decide +kernel)), (z_w 0 (by decide +kernel) (by decide +kernel)), 1, rfl, (by decide +kernel)⟩)⟩
theorem z_okM_15_28 : z_okM 15 28 (77, 3, 1) := ⟨z_t77, rfl, z_okT77, Or.inl (z_w 546 (by decide +kernel) (by decide +kernel)), Or.inr (Or.inl ⟨rfl, (z_w 547 (by decide +kernel) (by decide +kernel)), (z_w 548 (by decide +kernel) (by decide +kernel)), 2, rfl, (by decide +kernel)⟩)⟩
theorem z_okM_10_59 : z_okM 10 59 (5, 3, 1) := ⟨z_t5, rfl, z_okT5, Or.inl (z_w 550 (by decide +kernel) (by decide +kernel)), Or.inr (Or.inl ⟨rfl, (z_w 551 (by decide +kernel) (by decide +kernel)), (z_w 552 (by decide +kernel) (by decide +kernel)), 2, rfl, (by decide +kernel)⟩)⟩
theorem z_okM_15_32 : z_okM 15 32 (78, 3, 1) := ⟨z_t78, rfl, z_okT78, Or.inl (z_w 554 (by decide +kernel) (by decide +kernel)), Or.inr (Or.inl ⟨rfl, (z_w 555 (by decide +kernel) (by decide +kernel)), (z_w 556 (by decide +kernel) (by decide +kernel)), 2, rfl, (by decide +kernel)⟩)⟩
theorem z_okM_10_62 : z_okM 10 62 (6, 3, 1) := ⟨z_t6, rfl, z_okT6, Or.inl (z_w 558 (by decide +kernel) (by decide +kernel)), Or.inr (Or.inl ⟨rfl, (z_w 559 (by decide +kernel) (by decide +kernel)), (z_w 560 (by decide +kernel) (by decide +kernel)), 2, rfl, (by decide +kernel)⟩)⟩
theorem z_okM_15_36 : z_okM 15 36 (79, 3, 1) := ⟨z_t79, rfl, z_okT79, Or.inl (z_w 562 (by decide +kernel) (by decide +kernel)), Or.inr (Or.inl ⟨rfl, (z_w 563 (by decide +kernel) (by decide +kernel)), (z_w 564 (by decide +kernel) (by decide +kernel)), 2, rfl, (by decide +kernel)⟩)⟩
theorem z_okM_10_65 : z_okM 10 65 (7, 3, 1) := ⟨z_t7, rfl, z_okT7, Or.inl (z_w 566 (by decide +kernel) (by decide +kernel)), Or.inr (Or.inl ⟨rfl, (z_w 567 (by decide +kernel) (by decide +kernel)), (z_w 568 (by decide +kernel) (by decide +kernel)), 2, rfl, (by decide +kernel)⟩)⟩
theorem z_okM_15_41 : z_okM 15 41 (80, 5, 1) := ⟨z_t80, rfl, z_okT80, Or.inl (z_w 570 (by decide +kernel) (by decide +kernel)), Or.inr (Or.inl ⟨rfl, (z_w 571 (by decide +kernel) (by decide +kernel)), (z_w 572 (by decide +kernel) (by decide +kernel)), 4, rfl, (by decide +kernel)⟩)⟩
theorem z_okM_10_73 : z_okM 10 73 (57, 5, 1) := ⟨z_t57, rfl, z_okT57, Or.inl (z_w 574 (by decide +kernel) (by decide +kernel)), Or.inr (Or.inl ⟨rfl, (z_w 575 (by decide +kernel) (by decide +kernel)), (z_w 576 (by decide +kernel) (by decide +kernel)), 4, rfl, (by decide +kernel)⟩)⟩
theorem z_okM_7_42 : z_okM 7 42 (74, 3, 0) := ⟨z_t74, rfl, z_okT74, Or.inr (List.mem_of_getElem? (i := 11) rfl), Or.inl ⟨rfl, (z_w 496 (by decide +kernel) (by decide +kernel)), (by decide +kernel)⟩⟩
theorem z_okM_15_46 : z_okM 15 46 (81, 5, 1) := ⟨z_t81, rfl, z_okT81, Or.inl (z_w 579 (by decide +kernel) (by decide +kernel)), Or.inr (Or.inl ⟨rfl, (z_w 580 (by decide +kernel) (by decide +kernel)), (z_w 581 (by decide +kernel) (by decide +kernel)), 4, rfl, (by decide +kernel)⟩)⟩
theorem z_okM_10_79 : z_okM 10 79 (58, 5, 1) := ⟨z_t58, rfl, z_okT58, Or.inl (z_w 583 (by decide +kernel) (by decide +kernel)), Or.inr (Or.inl ⟨rfl, (z_w 584 (by decide +kernel) (by decide +kernel)), (z_w 585 (by decide +kernel) (by decide +kernel)), 4, rfl, (by decide +kernel)⟩)⟩
theorem z_okM_15_51 : z_okM 15 51 (82, 3, 1) := ⟨z_t82, rfl, z_okT82, Or.inl (z_w 587 (by decide +kernel) (by decide +kernel)), Or.inr (Or.inl ⟨rfl, (z_w 588 (by decide +kernel) (by decide +kernel)), (z_w 589 (by decide +kernel) (by decide +kernel)), 2, rfl, (by decide +kernel)⟩)⟩
theorem z_okM_10_83 : z_okM 10 83 (8, 3, 1) := ⟨z_t8, rfl, z_okT8, Or.inl (z_w 591 (by decide +kernel) (by decide +kernel)), Or.inr (Or.inl ⟨rfl, (z_w 592 (by decide +kernel) (by decide +kernel)), (z_w 593 (by decide +kernel) (by decide +kernel)), 2, rfl, (by decide +kernel)⟩)⟩
theorem z_okM_0_131 : z_okM 0 131 (23, 2, 1) := ⟨z_t23, rfl, z_okT23, Or.inl (z_w 595 (by decide +kernel) (by decide +kernel)), Or.inr (Or.inl ⟨rfl, (z_w 596 (by decide +kernel) (by decide +kernel)), (z_w 597 (by decide +kernel) (by decide +kernel)), 1, rfl, (by decide +kernel)⟩)⟩
theorem z_okM_0_135 : z_okM 0 135 (24, 3, 1) := ⟨z_t24, rfl, z_okT24, Or.inl (z_w 599 (by decide +kernel) (by decide +kernel)), Or.inr (Or.inl ⟨rfl, (z_w 600 (by decide +kernel) (by decide +kernel)), (z_w 601 (by decide +kernel) (by decide +kernel)), 2, rfl, (by decide +kernel)⟩)⟩
theorem z_okM_15_55 : z_okM 15 55 (83, 2, 1) := ⟨z_t83, rfl, z_okT83, Or.inl (z_w 603 (by decide +kernel) (by decide +kernel)), Or.inr (Or.inl ⟨rfl, (z_w 604 (by decide +kernel) (by decide +kernel)), (z_w 605 (by decide +kernel) (by decide +kernel)), 1, rfl, (by decide +kernel)⟩)⟩
theorem z_okM_10_86 : z_okM 10 86 (9, 2, 1) := ⟨z_t9, rfl, z_okT9, Or.inl (z_w 607 (by decide +kernel) (by decide +kernel)), Or.inr (Or.inl ⟨rfl, (z_w 608 (by decide +kernel) (by decide +kernel)), (z_w 609 (by decide +kernel) (by decide +kernel)), 1, rfl, (by decide +kernel)⟩)⟩
theorem z_okM_15_59 : z_okM 15 59 (84, 2, 1) := ⟨z_t84, rfl, z_okT84, Or.inl (z_w 611 (by decide +kernel) (by decide +kernel)), Or.inr (Or.inl ⟨rfl, (z_w 612 (by decide +kernel) (by decide +kernel)), (z_w 613 (by decide +kernel) (by decide +kernel)), 1, rfl, (by decide +kernel)⟩)⟩
theorem z_okM_10_89 : z_okM 10 89 (10, 3, 1) := ⟨z_t10, rfl, z_okT10, Or.inl (z_w 615 (by decide +kernel) (by decide +kernel)), Or.inr (Or.inl ⟨rfl, (z_w 616 (by decide +kernel) (by decide +kernel)), (z_w 617 (by decide +kernel) (by decide +kernel)), 2, rfl, (by decide +kernel)⟩)⟩
theorem z_okM_0_142 : z_okM 0 142 (11, 1, 1) := ⟨z_t11, rfl, z_okT11, Or.inl (z_w 619 (by decide +kernel) (by decide +kernel)), Or.inr (Or.inl ⟨rfl, (z_w 620 (by decide +kernel) (by decide +kernel)), (z_w 621 (by decide +kernel) (by decide +kernel)), 0, rfl, (by decide +kernel)⟩)⟩
theorem z_okM_0_162 : z_okM 0 162 (52, 2, 1) := ⟨z_t52, rfl, z_okT52, Or.inl (z_w 623 (by decide +kernel) (by decide +kernel)), Or.inr (Or.inl ⟨rfl, (z_w 624 (by decide +kernel) (by decide +kernel)), (z_w 625 (by decide +kernel) (by decide +kernel)), 1, rfl, (by decide +kernel)⟩)⟩
theorem z_okM_6_56 : z_okM 6 56 (53, 2, 1) := ⟨z_t53, rfl, z_okT53, Or.inl (z_w 627 (by decide +kernel) (by decide +kernel)), Or.inr (Or.inl ⟨rfl, (z_w 629 (by decide +kernel) (by decide +kernel)), (z_w 1 (by decide +kernel) (by decide +kernel)), 1, rfl, (by decide +kernel)⟩)⟩
theorem z_okM_6_62 : z_okM 6 62 (72, 1, 0) := ⟨z_t72, rfl, z_okT72, Or.inr (List.mem_of_getElem? (i := 12) rfl), Or.inl ⟨rfl, (z_w 93 (by decide +kernel) (by decide +kernel)), (by decide +kernel)⟩⟩
theorem z_okM_0_173 : z_okM 0 173 (12, 2, 1) := ⟨z_t12, rfl, z_okT12, Or.inl (z_w 634 (by decide +kernel) (by decide +kernel)), Or.inr (Or.inl ⟨rfl, (z_w 636 (by decide +kernel) (by decide +kernel)), (z_w 2 (by decide +kernel) (by decide +kernel)), 1, rfl, (by decide +kernel)⟩)⟩
theorem z_okM_0_197 : z_okM 0 197 (17, 4, 1) := ⟨z_t17, rfl, z_okT17, Or.inl (z_w 638 (by decide +kernel) (by decide +kernel)), Or.inr (Or.inl ⟨rfl, (z_w 639 (by decide +kernel) (by decide +kernel)), (z_w 640 (by decide +kernel) (by decide +kernel)), 3, rfl, (by decide +kernel)⟩)⟩
theorem z_okM_0_176 : z_okM 0 176 (13, 1, 1) := ⟨z_t13, rfl, z_okT13, Or.inl (z_w 642 (by decide +kernel) (by decide +kernel)), Or.inr (Or.inl ⟨rfl, (z_w 644 (by decide +kernel) (by decide +kernel)), (z_w 3 (by decide +kernel) (by decide +kernel)), 0, rfl, (by decide +kernel)⟩)⟩
theorem z_okM_0_203 : z_okM 0 203 (25, 1, 1) := ⟨z_t25, rfl, z_okT25, Or.inl (z_w 646 (by decide +kernel) (by decide +kernel)), Or.inr (Or.inl ⟨rfl, (z_w 647 (by decide +kernel) (by decide +kernel)), (z_w 648 (by decide +kernel) (by decide +kernel)), 0, rfl, (by decide +kernel)⟩)⟩
theorem z_okM_0_212 : z_okM 0 212 (26, 2, 1) := ⟨z_t26, rfl, z_okT26, Or.inl (z_w 650 (by decide +kernel) (by decide +kernel)), Or.inr (Or.inl ⟨rfl, (z_w 651 (by decide +kernel) (by decide +kernel)), (z_w 652 (by decide +kernel) (by decide +kernel)), 1, rfl, (by decide +kernel)⟩)⟩
theorem z_okM_2_41 : z_okM 2 41 (21, 2, 1) := ⟨z_t21, rfl, z_okT21, Or.inl (z_w 654 (by decide +kernel) (by decide +kernel)), Or.inr (Or.inl ⟨rfl, (z_w 539 (by decide +kernel) (by decide +kernel)), (z_w 540 (by decide +kernel) (by decide +kernel)), 1, rfl, (by decide +kernel)⟩)⟩
theorem z_okM_0_179 : z_okM 0 179 (177, 1, 0) := ⟨z_t177, rfl, z_okT177, Or.inl (z_w 655 (by decide +kernel) (by decide +kernel)), Or.inl ⟨rfl, (z_w 656 (by decide +kernel) (by decide +kernel)), (by decide +kernel)⟩⟩
theorem z_okM_12_21 : z_okM 12 21 (178, 2, 0) := ⟨z_t178, rfl, z_okT178, Or.inl (z_w 658 (by decide +kernel) (by decide +kernel)), Or.inl ⟨rfl, (z_w 659 (by decide +kernel) (by decide +kernel)), (by decide +kernel)⟩⟩
theorem z_okM_12_48 : z_okM 12 48 (179, 3, 0) := ⟨z_t179, rfl, z_okT179, Or.inl (z_w 661 (by decide +kernel) (by decide +kernel)), Or.inl ⟨rfl, (z_w 662 (by decide +kernel) (by decide +kernel)), (by decide +kernel)⟩⟩
theorem z_okM_12_68 : z_okM 12 68 (180, 2, 0) := ⟨z_t180, rfl, z_okT180, Or.inl (z_w 664 (by decide +kernel) (by decide +kernel)), Or.inl ⟨rfl, (z_w 665 (by decide +kernel) (by decide +kernel)), (by decide +kernel)⟩⟩
theorem z_okM_12_129 : z_okM 12 129 (17, 4, 1) := ⟨z_t17, rfl, z_okT17, Or.inl (z_w 667 (by decide +kernel) (by decide +kernel)), Or.inr (Or.inl ⟨rfl, (z_w 639 (by decide +kernel) (by decide +kernel)), (z_w 640 (by decide +kernel) (by decide +kernel)), 3, rfl, (by decide +kernel)⟩)⟩
theorem z_okM_12_27 : z_okM 12 27 (181, 2, 0) := ⟨z_t181, rfl, z_okT181, Or.inl (z_w 668 (by decide +kernel) (by decide +kernel)), Or.inl ⟨rfl, (z_w 669 (by decide +kernel) (by decide +kernel)), (by decide +kernel)⟩⟩
theorem z_okM_12_71 : z_okM 12 71 (182, 2, 0) := ⟨z_t182, rfl, z_okT182, Or.inl (z_w 671 (by decide +kernel) (by decide +kernel)), Or.inl ⟨rfl, (z_w 672 (by decide +kernel) (by decide +kernel)), (by decide +kernel)⟩⟩
theorem z_okM_12_78 : z_okM 12 78 (183, 2, 0) := ⟨z_t183, rfl, z_okT183, Or.inl (z_w 674 (by decide +kernel) (by decide +kernel)), Or.inl ⟨rfl, (z_w 675 (by decide +kernel) (by decide +kernel)), (by decide +kernel)⟩⟩
theorem z_okM_12_30 : z_okM 12 30 (184, 2, 0) := ⟨z_t184, rfl, z_okT184, Or.inl (z_w 677 (by decide +kernel) (by decide +kernel)), Or.inl ⟨rfl, (z_w 678 (by decide +kernel) (by decide +kernel)), (by decide +kernel)⟩⟩
theorem z_okM_12_81 : z_okM 12 81 (185, 2, 0) := ⟨z_t185, rfl, z_okT185, Or.inl (z_w 680 (by decide +kernel) (by decide +kernel)), Or.inl ⟨rfl, (z_w 681 (by decide +kernel) (by decide +kernel)), (by decide +kernel)⟩⟩
theorem z_okM_12_84 : z_okM 12 84 (186, 3, 0) := ⟨z_t186, rfl, z_okT186, Or.inl (z_w 683 (by decide +kernel) (by decide +kernel)), Or.inl ⟨rfl, (z_w 684 (by decide +kernel) (by decide +kernel)), (by decide +kernel)⟩⟩
theorem z_okM_12_33 : z_okM 12 33 (187, 2, 0) := ⟨z_t187, rfl, z_okT187, Or.inl (z_w 686 (by decide +kernel) (by decide +kernel)), Or.inl ⟨rfl, (z_w 687 (by decide +kernel) (by decide +kernel)), (by decide +kernel)⟩⟩
theorem z_okM_12_36 : z_okM 12 36 (188, 2, 0) := ⟨z_t188, rfl, z_okT188, Or.inl (z_w 690 (by decide +kernel) (by decide +kernel)), Or.inl ⟨rfl, (z_w 691 (by decide +kernel) (by decide +kernel)), (by decide +kernel)⟩⟩
theorem z_okM_0_145 : z_okM 0 145 (32, 2, 1) := ⟨z_t32, rfl, z_okT32, Or.inl (z_w 693 (by decide +kernel) (by decide +kernel)), Or.inr (Or.inl ⟨rfl, (z_w 694 (by decide +kernel) (by decide +kernel)), (z_w 695 (by decide +kernel) (by decide +kernel)), 1, rfl, (by decide +kernel)⟩)⟩
theorem z_okM_4_38 : z_okM 4 38 (33, 4, 1) := ⟨z_t33, rfl, z_okT33, Or.inl (z_w 697 (by decide +kernel) (by decide +kernel)), Or.inr (Or.inl ⟨rfl, (z_w 699 (by decide +kernel) (by decide +kernel)), (z_w 4 (by decide +kernel) (by decide +kernel)), 3, rfl, (by decide +kernel)⟩)⟩
theorem z_okM_4_61 : z_okM 4 61 (68, 3, 1) := ⟨z_t68, rfl, z_okT68, Or.inl (z_w 701 (by decide +kernel) (by decide +kernel)), Or.inr (Or.inl ⟨rfl, (z_w 702 (by decide +kernel) (by decide +kernel)), (z_w 703 (by decide +kernel) (by decide +kernel)), 2, rfl, (by decide +kernel)⟩)⟩
theorem z_okM_4_84 : z_okM 4 84 (34, 3, 1) := ⟨z_t34, rfl, z_okT34, Or.inl (z_w 705 (by decide +kernel) (by decide +kernel)), Or.inr (Or.inl ⟨rfl, (z_w 707 (by decide +kernel) (by decide +kernel)), (z_w 5 (by decide +kernel) (by decide +kernel)), 2, rfl, (by decide +kernel)⟩)⟩
theorem z_okM_4_54 : z_okM 4 54 (35, 3, 1) := ⟨z_t35, rfl, z_okT35, Or.inl (z_w 709 (by decide +kernel) (by decide +kernel)), Or.inr (Or.inl ⟨rfl, (z_w 711 (by decide +kernel) (by decide +kernel)), (z_w 6 (by decide +kernel) (by decide +kernel)), 2, rfl, (by decide +kernel)⟩)⟩
theorem z_okM_0_151 : z_okM 0 151 (36, 2, 1) := ⟨z_t36, rfl, z_okT36, Or.inl (z_w 713 (by decide +kernel) (by decide +kernel)), Or.inr (Or.inl ⟨rfl, (z_w 714 (by decide +kernel) (by decide +kernel)), (z_w 715 (by decide +kernel) (by decide +kernel)), 1, rfl, (by decide +kernel)⟩)⟩
theorem z_okM_4_58 : z_okM 4 58 (61, 1, 1) := ⟨z_t61, rfl, z_okT61, Or.inl (z_w 717 (by decide +kernel) (by decide +kernel)), Or.inr (Or.inl ⟨rfl, (z_w 718 (by decide +kernel) (by decide +kernel)), (z_w 719 (by decide +kernel) (by decide +kernel)), 0, rfl, (by decide +kernel)⟩)⟩
theorem z_okM_4_65 : z_okM 4 65 (69, 2, 1) := ⟨z_t69, rfl, z_okT69, Or.inl (z_w 721 (by decide +kernel) (by decide +kernel)), Or.inr (Or.inl ⟨rfl, (z_w 722 (by decide +kernel) (by decide +kernel)), (z_w 723 (by decide +kernel) (by decide +kernel)), 1, rfl, (by decide +kernel)⟩)⟩
theorem z_okM_4_69 : z_okM 4 69 (37, 4, 1) := ⟨z_t37, rfl, z_okT37, Or.inl (z_w 725 (by decide +kernel) (by decide +kernel)), Or.inr (Or.inl ⟨rfl, (z_w 727 (by decide +kernel) (by decide +kernel)), (z_w 7 (by decide +kernel) (by decide +kernel)), 3, rfl, (by decide +kernel)⟩)⟩
theorem z_okM_4_101 : z_okM 4 101 (62, 5, 1) := ⟨z_t62, rfl, z_okT62, Or.inl (z_w 729 (by decide +kernel) (by decide +kernel)), Or.inr (Or.inl ⟨rfl, (z_w 730 (by decide +kernel) (by decide +kernel)), (z_w 731 (by decide +kernel) (by decide +kernel)), 4, rfl, (by decide +kernel)⟩)⟩
theorem z_okM_4_76 : z_okM 4 76 (60, 2, 1) := ⟨z_t60, rfl, z_okT60, Or.inl (z_w 733 (by decide +kernel) (by decide +kernel)), Or.inr (Or.inl ⟨rfl, (z_w 478 (by decide +kernel) (by decide +kernel)), (z_w 479 (by decide +kernel) (by decide +kernel)), 1, rfl, (by decide +kernel)⟩)⟩
theorem z_okM_0_154 : z_okM 0 154 (54, 1, 1) := ⟨z_t54, rfl, z_okT54, Or.inl (z_w 734 (by decide +kernel) (by decide +kernel)), Or.inr (Or.inl ⟨rfl, (z_w 735 (by decide +kernel) (by decide +kernel)), (z_w 736 (by decide +kernel) (by decide +kernel)), 0, rfl, (by decide +kernel)⟩)⟩
theorem z_okM_15_63 : z_okM 15 63 (85, 1, 1) := ⟨z_t85, rfl, z_okT85, Or.inl (z_w 738 (by decide +kernel) (by decide +kernel)), Or.inr (Or.inl ⟨rfl, (z_w 739 (by decide +kernel) (by decide +kernel)), (z_w 740 (by decide +kernel) (by decide +kernel)), 0, rfl, (by decide +kernel)⟩)⟩
theorem z_okM_10_93 : z_okM 10 93 (30, 2, 1) := ⟨z_t30, rfl, z_okT30, Or.inl (z_w 742 (by decide +kernel) (by decide +kernel)), Or.inr (Or.inl ⟨rfl, (z_w 743 (by decide +kernel) (by decide +kernel)), (z_w 744 (by decide +kernel) (by decide +kernel)), 1, rfl, (by decide +kernel)⟩)⟩
theorem z_okM_15_68 : z_okM 15 68 (86, 2, 1) := ⟨z_t86, rfl, z_okT86, Or.inl (z_w 746 (by decide +kernel) (by decide +kernel)), Or.inr (Or.inl ⟨rfl, (z_w 747 (by decide +kernel) (by decide +kernel)), (z_w 748 (by decide +kernel) (by decide +kernel)), 1, rfl, (by decide +kernel)⟩)⟩
theorem z_okM_10_97 : z_okM 10 97 (39, 2, 1) := ⟨z_t39, rfl, z_okT39, Or.inl (z_w 750 (by decide +kernel) (by decide +kernel)), Or.inr (Or.inl ⟨rfl, (z_w 751 (by decide +kernel) (by decide +kernel)), (z_w 752 (by decide +kernel) (by decide +kernel)), 1, rfl, (by decide +kernel)⟩)⟩
theorem z_okM_5_24 : z_okM 5 24 (74, 3, 0) := ⟨z_t74, rfl, z_okT74, Or.inr (List.mem_of_getElem? (i := 13) rfl), Or.inl ⟨rfl, (z_w 496 (by decide +kernel) (by decide +kernel)), (by decide +kernel)⟩⟩
theorem z_okM_15_72 : z_okM 15 72 (87, 1, 1) := ⟨z_t87, rfl, z_okT87, Or.inl (z_w 755 (by decide +kernel) (by decide +kernel)), Or.inr (Or.inl ⟨rfl, (z_w 756 (by decide +kernel) (by decide +kernel)), (z_w 757 (by decide +kernel) (by decide +kernel)), 0, rfl, (by decide +kernel)⟩)⟩
theorem z_okM_10_100 : z_okM 10 100 (40, 1, 1) := ⟨z_t40, rfl, z_okT40, Or.inl (z_w 759 (by decide +kernel) (by decide +kernel)), Or.inr (Or.inl ⟨rfl, (z_w 760 (by decide +kernel) (by decide +kernel)), (z_w 761 (by decide +kernel) (by decide +kernel)), 0, rfl, (by decide +kernel)⟩)⟩
theorem z_okM_15_76 : z_okM 15 76 (88, 1, 1) := ⟨z_t88, rfl, z_okT88, Or.inl (z_w 763 (by decide +kernel) (by decide +kernel)), Or.inr (Or.inl ⟨rfl, (z_w 764 (by decide +kernel) (by decide +kernel)), (z_w 765 (by decide +kernel) (by decide +kernel)), 0, rfl, (by decide +kernel)⟩)⟩
theorem z_okM_10_104 : z_okM 10 104 (41, 1, 1) := ⟨z_t41, rfl, z_okT41, Or.inl (z_w 767 (by decide +kernel) (by decide +kernel)), Or.inr (Or.inl ⟨rfl, (z_w 768 (by decide +kernel) (by decide +kernel)), (z_w 769 (by decide +kernel) (by decide +kernel)), 0, rfl, (by decide +kernel)⟩)⟩
theorem z_okM_5_41 : z_okM 5 41 (42, 2, 1) := ⟨z_t42, rfl, z_okT42, Or.inl (z_w 771 (by decide +kernel) (by decide +kernel)), Or.inr (Or.inl ⟨rfl, (z_w 773 (by decide +kernel) (by decide +kernel)), (z_w 8 (by decide +kernel) (by decide +kernel)), 1, rfl, (by decide +kernel)⟩)⟩
theorem z_okM_5_49 : z_okM 5 49 (43, 1, 1) := ⟨z_t43, rfl, z_okT43, Or.inl (z_w 775 (by decide +kernel) (by decide +kernel)), Or.inr (Or.inl ⟨rfl, (z_w 777 (by decide +kernel) (by decide +kernel)), (z_w 9 (by decide +kernel) (by decide +kernel)), 0, rfl, (by decide +kernel)⟩)⟩
theorem z_okM_5_52 : z_okM 5 52 (44, 1, 0) := ⟨z_t44, rfl, z_okT44, Or.inl (z_w 779 (by decide +kernel) (by decide +kernel)), Or.inl ⟨rfl, (z_w 780 (by decide +kernel) (by decide +kernel)), (by decide +kernel)⟩⟩
theorem z_okM_5_56 : z_okM 5 56 (45, 1, 1) := ⟨z_t45, rfl, z_okT45, Or.inl (z_w 782 (by decide +kernel) (by decide +kernel)), Or.inr (Or.inl ⟨rfl, (z_w 784 (by decide +kernel) (by decide +kernel)), (z_w 10 (by decide +kernel) (by decide +kernel)), 0, rfl, (by decide +kernel)⟩)⟩
theorem z_okM_5_45 : z_okM 5 45 (46, 1, 1) := ⟨z_t46, rfl, z_okT46, Or.inl (z_w 786 (by decide +kernel) (by decide +kernel)), Or.inr (Or.inl ⟨rfl, (z_w 788 (by decide +kernel) (by decide +kernel)), (z_w 11 (by decide +kernel) (by decide +kernel)), 0, rfl, (by decide +kernel)⟩)⟩
theorem z_okM_15_80 : z_okM 15 80 (89, 1, 1) := ⟨z_t89, rfl, z_okT89, Or.inl (z_w 790 (by decide +kernel) (by decide +kernel)), Or.inr (Or.inl ⟨rfl, (z_w 791 (by decide +kernel) (by decide +kernel)), (z_w 792 (by decide +kernel) (by decide +kernel)), 0, rfl, (by decide +kernel)⟩)⟩
theorem z_okM_10_111 : z_okM 10 111 (90, 2, 1) := ⟨z_t90, rfl, z_okT90, Or.inl (z_w 794 (by decide +kernel) (by decide +kernel)), Or.inr (Or.inl ⟨rfl, (z_w 796 (by decide +kernel) (by decide +kernel)), (z_w 12 (by decide +kernel) (by decide +kernel)), 1, rfl, (by decide +kernel)⟩)⟩
theorem z_okM_10_124 : z_okM 10 124 (14, 2, 1) := ⟨z_t14, rfl, z_okT14, Or.inl (z_w 798 (by decide +kernel) (by decide +kernel)), Or.inr (Or.inl ⟨rfl, (z_w 799 (by decide +kernel) (by decide +kernel)), (z_w 800 (by decide +kernel) (by decide +kernel)), 1, rfl, (by decide +kernel)⟩)⟩
theorem z_okM_0_127 : z_okM 0 127 (7, 3, 1) := ⟨z_t7, rfl, z_okT7, Or.inl (z_w 802 (by decide +kernel) (by decide +kernel)), Or.inr (Or.inl ⟨rfl, (z_w 567 (by decide +kernel) (by decide +kernel)), (z_w 568 (by decide +kernel) (by decide +kernel)), 2, rfl, (by decide +kernel)⟩)⟩
theorem z_okM_15_84 : z_okM 15 84 (91, 2, 1) := ⟨z_t91, rfl, z_okT91, Or.inl (z_w 803 (by decide +kernel) (by decide +kernel)), Or.inr (Or.inl ⟨rfl, (z_w 804 (by decide +kernel) (by decide +kernel)), (z_w 805 (by decide +kernel) (by decide +kernel)), 1, rfl, (by decide +kernel)⟩)⟩
theorem z_okM_10_160 : z_okM 10 160 (25, 1, 1) := ⟨z_t25, rfl, z_okT25, Or.inl (z_w 807 (by decide +kernel) (by decide +kernel)), Or.inr (Or.inl ⟨rfl, (z_w 647 (by decide +kernel) (by decide +kernel)), (z_w 648 (by decide +kernel) (by decide +kernel)), 0, rfl, (by decide +kernel)⟩)⟩
theorem z_okM_15_88 : z_okM 15 88 (92, 3, 1) := ⟨z_t92, rfl, z_okT92, Or.inl (z_w 808 (by decide +kernel) (by decide +kernel)), Or.inr (Or.inl ⟨rfl, (z_w 809 (by decide +kernel) (by decide +kernel)), (z_w 810 (by decide +kernel) (by decide +kernel)), 2, rfl, (by decide +kernel)⟩)⟩
theorem z_okM_10_172 : z_okM 10 172 (51, 2, 1) := ⟨z_t51, rfl, z_okT51, Or.inl (z_w 812 (by decide +kernel) (by decide +kernel)), Or.inr (Or.inl ⟨rfl, (z_w 535 (by decide +kernel) (by decide +kernel)), (z_w 536 (by decide +kernel) (by decide +kernel)), 1, rfl, (by decide +kernel)⟩)⟩
theorem z_okM_10_197 : z_okM 10 197 (23, 2, 1) := ⟨z_t23, rfl, z_okT23, Or.inl (z_w 813 (by decide +kernel) (by decide +kernel)), Or.inr (Or.inl ⟨rfl, (z_w 596 (by decide +kernel) (by decide +kernel)), (z_w 597 (by decide +kernel) (by decide +kernel)), 1, rfl, (by decide +kernel)⟩)⟩
theorem z_okM_10_203 : z_okM 10 203 (191, 1, 0) := ⟨z_t191, rfl, z_okT191, Or.inl (z_w 814 (by decide +kernel) (by decide +kernel)), Or.inl ⟨rfl, (z_w 815 (by decide +kernel) (by decide +kernel)), (by decide +kernel)⟩⟩
theorem z_okM_15_92 : z_okM 15 92 (93, 2, 1) := ⟨z_t93, rfl, z_okT93, Or.inl (z_w 820 (by decide +kernel) (by decide +kernel)), Or.inr (Or.inl ⟨rfl, (z_w 821 (by decide +kernel) (by decide +kernel)), (z_w 822 (by decide +kernel) (by decide +kernel)), 1, rfl, (by decide +kernel)⟩)⟩
theorem z_okM_10_212 : z_okM 10 212 (94, 1, 0) := ⟨z_t94, rfl, z_okT94, Or.inl (z_w 824 (by decide +kernel) (by decide +kernel)), Or.inl ⟨rfl, (z_w 825 (by decide +kernel) (by decide +kernel)), (by decide +kernel)⟩⟩
theorem z_okM_15_96 : z_okM 15 96 (95, 2, 1) := ⟨z_t95, rfl, z_okT95, Or.inl (z_w 828 (by decide +kernel) (by decide +kernel)), Or.inr (Or.inl ⟨rfl, (z_w 829 (by decide +kernel) (by decide +kernel)), (z_w 830 (by decide +kernel) (by decide +kernel)), 1, rfl, (by decide +kernel)⟩)⟩
theorem z_okM_15_100 : z_okM 15 100 (96, 2, 1) := ⟨z_t96, rfl, z_okT96, Or.inl (z_w 832 (by decide +kernel) (by decide +kernel)), Or.inr (Or.inl ⟨rfl, (z_w 833 (by decide +kernel) (by decide +kernel)), (z_w 834 (by decide +kernel) (by decide +kernel)), 1, rfl, (by decide +kernel)⟩)⟩
theorem z_okM_15_104 : z_okM 15 104 (97, 3, 1) := ⟨z_t97, rfl, z_okT97, Or.inl (z_w 837 (by decide +kernel) (by decide +kernel)), Or.inr (Or.inl ⟨rfl, (z_w 838 (by decide +kernel) (by decide +kernel)), (z_w 839 (by decide +kernel) (by decide +kernel)), 2, rfl, (by decide +kernel)⟩)⟩
theorem z_okM_15_108 : z_okM 15 108 (98, 5, 1) := ⟨z_t98, rfl, z_okT98, Or.inl (z_w 841 (by decide +kernel) (by decide +kernel)), Or.inr (Or.inl ⟨rfl, (z_w 842 (by decide +kernel) (by decide +kernel)), (z_w 843 (by decide +kernel) (by decide +kernel)), 4, rfl, (by decide +kernel)⟩)⟩
theorem z_okM_10_220 : z_okM 10 220 (65, 2, 1) := ⟨z_t65, rfl, z_okT65, Or.inl (z_w 845 (by decide +kernel) (by decide +kernel)), Or.inr (Or.inl ⟨rfl, (z_w 492 (by decide +kernel) (by decide +kernel)), (z_w 493 (by decide +kernel) (by decide +kernel)), 1, rfl, (by decide +kernel)⟩)⟩
theorem z_okM_10_223 : z_okM 10 223 (74, 3, 0) := ⟨z_t74, rfl, z_okT74, Or.inl (z_w 846 (by decide +kernel) (by decide +kernel)), Or.inl ⟨rfl, (z_w 496 (by decide +kernel) (by decide +kernel)), (by decide +kernel)⟩⟩
theorem z_okM_10_227 : z_okM 10 227 (68, 3, 1) := ⟨z_t68, rfl, z_okT68, Or.inl (z_w 847 (by decide +kernel) (by decide +kernel)), Or.inr (Or.inl ⟨rfl, (z_w 702 (by decide +kernel) (by decide +kernel)), (z_w 703 (by decide +kernel) (by decide +kernel)), 2, rfl, (by decide +kernel)⟩)⟩
theorem z_okM_15_112 : z_okM 15 112 (99, 3, 1) := ⟨z_t99, rfl, z_okT99, Or.inl (z_w 848 (by decide +kernel) (by decide +kernel)), Or.inr (Or.inl ⟨rfl, (z_w 849 (by decide +kernel) (by decide +kernel)), (z_w 850 (by decide +kernel) (by decide +kernel)), 2, rfl, (by decide +kernel)⟩)⟩
theorem z_okM_10_245 : z_okM 10 245 (70, 3, 1) := ⟨z_t70, rfl, z_okT70, Or.inl (z_w 852 (by decide +kernel) (by decide +kernel)), Or.inr (Or.inl ⟨rfl, (z_w 853 (by decide +kernel) (by decide +kernel)), (z_w 854 (by decide +kernel) (by decide +kernel)), 2, rfl, (by decide +kernel)⟩)⟩
theorem z_okM_15_116 : z_okM 15 116 (100, 2, 1) := ⟨z_t100, rfl, z_okT100, Or.inl (z_w 856 (by decide +kernel) (by decide +kernel)), Or.inr (Or.inl ⟨rfl, (z_w 857 (by decide +kernel) (by decide +kernel)), (z_w 858 (by decide +kernel) (by decide +kernel)), 1, rfl, (by decide +kernel)⟩)⟩
theorem z_okM_15_120 : z_okM 15 120 (101, 3, 1) := ⟨z_t101, rfl, z_okT101, Or.inl (z_w 860 (by decide +kernel) (by decide +kernel)), Or.inr (Or.inl ⟨rfl, (z_w 861 (by decide +kernel) (by decide +kernel)), (z_w 862 (by decide +kernel) (by decide +kernel)), 2, rfl, (by decide +kernel)⟩)⟩
theorem z_okM_10_251 : z_okM 10 251 (1, 2, 1) := ⟨z_t1, rfl, z_okT1, Or.inl (z_w 864 (by decide +kernel) (by decide +kernel)), Or.inr (Or.inl ⟨rfl, (z_w 453 (by decide +kernel) (by decide +kernel)), (z_w 454 (by decide +kernel) (by decide +kernel)), 1, rfl, (by decide +kernel)⟩)⟩
theorem z_okM_10_254 : z_okM 10 254 (11, 1, 1) := ⟨z_t11, rfl, z_okT11, Or.inl (z_w 865 (by decide +kernel) (by decide +kernel)), Or.inr (Or.inl ⟨rfl, (z_w 620 (by decide +kernel) (by decide +kernel)), (z_w 621 (by decide +kernel) (by decide +kernel)), 0, rfl, (by decide +kernel)⟩)⟩
theorem z_okM_15_124 : z_okM 15 124 (102, 3, 1) := ⟨z_t102, rfl, z_okT102, Or.inl (z_w 866 (by decide +kernel) (by decide +kernel)), Or.inr (Or.inl ⟨rfl, (z_w 867 (by decide +kernel) (by decide +kernel)), (z_w 868 (by decide +kernel) (by decide +kernel)), 2, rfl, (by decide +kernel)⟩)⟩
theorem z_okM_10_257 : z_okM 10 257 (18, 2, 1) := ⟨z_t18, rfl, z_okT18, Or.inl (z_w 870 (by decide +kernel) (by decide +kernel)), Or.inr (Or.inl ⟨rfl, (z_w 871 (by decide +kernel) (by decide +kernel)), (z_w 872 (by decide +kernel) (by decide +kernel)), 1, rfl, (by decide +kernel)⟩)⟩
theorem z_okM_15_128 : z_okM 15 128 (103, 1, 1) := ⟨z_t103, rfl, z_okT103, Or.inl (z_w 874 (by decide +kernel) (by decide +kernel)), Or.inr (Or.inl ⟨rfl, (z_w 875 (by decide +kernel) (by decide +kernel)), (z_w 876 (by decide +kernel) (by decide +kernel)), 0, rfl, (by decide +kernel)⟩)⟩
theorem z_okM_10_271 : z_okM 10 271 (91, 2, 1) := ⟨z_t91, rfl, z_okT91, Or.inl (z_w 880 (by decide +kernel) (by decide +kernel)), Or.inr (Or.inl ⟨rfl, (z_w 804 (by decide +kernel) (by decide +kernel)), (z_w 805 (by decide +kernel) (by decide +kernel)), 1, rfl, (by decide +kernel)⟩)⟩
theorem z_okM_10_274 : z_okM 10 274 (104, 2, 1) := ⟨z_t104, rfl, z_okT104, Or.inl (z_w 881 (by decide +kernel) (by decide +kernel)), Or.inr (Or.inl ⟨rfl, (z_w 883 (by decide +kernel) (by decide +kernel)), (z_w 13 (by decide +kernel) (by decide +kernel)), 1, rfl, (by decide +kernel)⟩)⟩
theorem z_okM_10_284 : z_okM 10 284 (92, 3, 1) := ⟨z_t92, rfl, z_okT92, Or.inl (z_w 885 (by decide +kernel) (by decide +kernel)), Or.inr (Or.inl ⟨rfl, (z_w 809 (by decide +kernel) (by decide +kernel)), (z_w 810 (by decide +kernel) (by decide +kernel)), 2, rfl, (by decide +kernel)⟩)⟩
theorem z_okM_10_287 : z_okM 10 287 (93, 2, 1) := ⟨z_t93, rfl, z_okT93, Or.inl (z_w 886 (by decide +kernel) (by decide +kernel)), Or.inr (Or.inl ⟨rfl, (z_w 821 (by decide +kernel) (by decide +kernel)), (z_w 822 (by decide +kernel) (by decide +kernel)), 1, rfl, (by decide +kernel)⟩)⟩
theorem z_okM_10_290 : z_okM 10 290 (95, 2, 1) := ⟨z_t95, rfl, z_okT95, Or.inl (z_w 887 (by decide +kernel) (by decide +kernel)), Or.inr (Or.inl ⟨rfl, (z_w 829 (by decide +kernel) (by decide +kernel)), (z_w 830 (by decide +kernel) (by decide +kernel)), 1, rfl, (by decide +kernel)⟩)⟩
theorem z_okM_10_278 : z_okM 10 278 (105, 2, 1) := ⟨z_t105, rfl, z_okT105, Or.inl (z_w 888 (by decide +kernel) (by decide +kernel)), Or.inr (Or.inl ⟨rfl, (z_w 890 (by decide +kernel) (by decide +kernel)), (z_w 14 (by decide +kernel) (by decide +kernel)), 1, rfl, (by decide +kernel)⟩)⟩
theorem z_okM_10_281 : z_okM 10 281 (106, 2, 1) := ⟨z_t106, rfl, z_okT106, Or.inl (z_w 892 (by decide +kernel) (by decide +kernel)), Or.inr (Or.inl ⟨rfl, (z_w 894 (by decide +kernel) (by decide +kernel)), (z_w 15 (by decide +kernel) (by decide +kernel)), 1, rfl, (by decide +kernel)⟩)⟩
theorem z_okM_10_293 : z_okM 10 293 (102, 3, 1) := ⟨z_t102, rfl, z_okT102, Or.inl (z_w 896 (by decide +kernel) (by decide +kernel)), Or.inr (Or.inl ⟨rfl, (z_w 867 (by decide +kernel) (by decide +kernel)), (z_w 868 (by decide +kernel) (by decide +kernel)), 2, rfl, (by decide +kernel)⟩)⟩
theorem z_okM_15_12 : z_okM 15 12 (107, 1, 2) := ⟨z_t107, rfl, z_okT107, Or.inl (z_w 899 (by decide +kernel) (by decide +kernel)), Or.inr (Or.inr ⟨rfl, (z_w 900 (by decide +kernel) (by decide +kernel)), (by decide +kernel), rfl, 0, rfl, (by decide +kernel)⟩)⟩
theorem z_okM_15_17 : z_okM 15 17 (108, 4, 1) := ⟨z_t108, rfl, z_okT108, Or.inl (z_w 948 (by decide +kernel) (by decide +kernel)), Or.inr (Or.inl ⟨rfl, (z_w 949 (by decide +kernel) (by decide +kernel)), (z_w 950 (by decide +kernel) (by decide +kernel)), 3, rfl, (by decide +kernel)⟩)⟩
theorem z_okM_11_149 : z_okM 11 149 (109, 2, 1) := ⟨z_t109, rfl, z_okT109, Or.inl (z_w 952 (by decide +kernel) (by decide +kernel)), Or.inr (Or.inl ⟨rfl, (z_w 954 (by decide +kernel) (by decide +kernel)), (z_w 16 (by decide +kernel) (by decide +kernel)), 1, rfl, (by decide +kernel)⟩)⟩
theorem z_okM_11_49 : z_okM 11 49 (110, 3, 0) := ⟨z_t110, rfl, z_okT110, Or.inl (z_w 956 (by decide +kernel) (by decide +kernel)), Or.inl ⟨rfl, (z_w 957 (by decide +kernel) (by decide +kernel)), (by decide +kernel)⟩⟩
theorem z_okM_11_152 : z_okM 11 152 (111, 1, 1) := ⟨z_t111, rfl, z_okT111, Or.inl (z_w 959 (by decide +kernel) (by decide +kernel)), Or.inr (Or.inl ⟨rfl, (z_w 961 (by decide +kernel) (by decide +kernel)), (z_w 17 (by decide +kernel) (by decide +kernel)), 0, rfl, (by decide +kernel)⟩)⟩
theorem z_okM_11_45 : z_okM 11 45 (112, 5, 1) := ⟨z_t112, rfl, z_okT112, Or.inl (z_w 963 (by decide +kernel) (by decide +kernel)), Or.inr (Or.inl ⟨rfl, (z_w 965 (by decide +kernel) (by decide +kernel)), (z_w 18 (by decide +kernel) (by decide +kernel)), 4, rfl, (by decide +kernel)⟩)⟩
theorem z_okM_11_89 : z_okM 11 89 (113, 4, 1) := ⟨z_t113, rfl, z_okT113, Or.inl (z_w 967 (by decide +kernel) (by decide +kernel)), Or.inr (Or.inl ⟨rfl, (z_w 969 (by decide +kernel) (by decide +kernel)), (z_w 19 (by decide +kernel) (by decide +kernel)), 3, rfl, (by decide +kernel)⟩)⟩
theorem z_okM_15_22 : z_okM 15 22 (114, 3, 1) := ⟨z_t114, rfl, z_okT114, Or.inl (z_w 971 (by decide +kernel) (by decide +kernel)), Or.inr (Or.inl ⟨rfl, (z_w 972 (by decide +kernel) (by decide +kernel)), (z_w 973 (by decide +kernel) (by decide +kernel)), 2, rfl, (by decide +kernel)⟩)⟩
theorem z_okM_11_82 : z_okM 11 82 (115, 3, 1) := ⟨z_t115, rfl, z_okT115, Or.inl (z_w 975 (by decide +kernel) (by decide +kernel)), Or.inr (Or.inl ⟨rfl, (z_w 977 (by decide +kernel) (by decide +kernel)), (z_w 20 (by decide +kernel) (by decide +kernel)), 2, rfl, (by decide +kernel)⟩)⟩
theorem z_okM_11_53 : z_okM 11 53 (116, 3, 1) := ⟨z_t116, rfl, z_okT116, Or.inl (z_w 979 (by decide +kernel) (by decide +kernel)), Or.inr (Or.inl ⟨rfl, (z_w 981 (by decide +kernel) (by decide +kernel)), (z_w 21 (by decide +kernel) (by decide +kernel)), 2, rfl, (by decide +kernel)⟩)⟩
theorem z_okM_11_57 : z_okM 11 57 (117, 3, 1) := ⟨z_t117, rfl, z_okT117, Or.inl (z_w 983 (by decide +kernel) (by decide +kernel)), Or.inr (Or.inl ⟨rfl, (z_w 985 (by decide +kernel) (by decide +kernel)), (z_w 22 (by decide +kernel) (by decide +kernel)), 2, rfl, (by decide +kernel)⟩)⟩
theorem z_okM_11_66 : z_okM 11 66 (118, 4, 1) := ⟨z_t118, rfl, z_okT118, Or.inl (z_w 987 (by decide +kernel) (by decide +kernel)), Or.inr (Or.inl ⟨rfl, (z_w 989 (by decide +kernel) (by decide +kernel)), (z_w 23 (by decide +kernel) (by decide +kernel)), 3, rfl, (by decide +kernel)⟩)⟩
theorem z_okM_15_27 : z_okM 15 27 (119, 2, 1) := ⟨z_t119, rfl, z_okT119, Or.inl (z_w 991 (by decide +kernel) (by decide +kernel)), Or.inr (Or.inl ⟨rfl, (z_w 992 (by decide +kernel) (by decide +kernel)), (z_w 993 (by decide +kernel) (by decide +kernel)), 1, rfl, (by decide +kernel)⟩)⟩
theorem z_okM_11_155 : z_okM 11 155 (120, 2, 1) := ⟨z_t120, rfl, z_okT120, Or.inl (z_w 995 (by decide +kernel) (by decide +kernel)), Or.inr (Or.inl ⟨rfl, (z_w 997 (by decide +kernel) (by decide +kernel)), (z_w 24 (by decide +kernel) (by decide +kernel)), 1, rfl, (by decide +kernel)⟩)⟩
theorem z_okM_11_158 : z_okM 11 158 (121, 1, 1) := ⟨z_t121, rfl, z_okT121, Or.inl (z_w 999 (by decide +kernel) (by decide +kernel)), Or.inr (Or.inl ⟨rfl, (z_w 1001 (by decide +kernel) (by decide +kernel)), (z_w 25 (by decide +kernel) (by decide +kernel)), 0, rfl, (by decide +kernel)⟩)⟩
theorem z_okM_15_31 : z_okM 15 31 (122, 3, 1) := ⟨z_t122, rfl, z_okT122, Or.inl (z_w 1003 (by decide +kernel) (by decide +kernel)), Or.inr (Or.inl ⟨rfl, (z_w 1004 (by decide +kernel) (by decide +kernel)), (z_w 1005 (by decide +kernel) (by decide +kernel)), 2, rfl, (by decide +kernel)⟩)⟩
theorem z_okM_15_35 : z_okM 15 35 (123, 3, 1) := ⟨z_t123, rfl, z_okT123, Or.inl (z_w 1007 (by decide +kernel) (by decide +kernel)), Or.inr (Or.inl ⟨rfl, (z_w 1008 (by decide +kernel) (by decide +kernel)), (z_w 1009 (by decide +kernel) (by decide +kernel)), 2, rfl, (by decide +kernel)⟩)⟩
theorem z_okM_15_40 : z_okM 15 40 (124, 3, 1) := ⟨z_t124, rfl, z_okT124, Or.inl (z_w 1011 (by decide +kernel) (by decide +kernel)), Or.inr (Or.inl ⟨rfl, (z_w 1012 (by decide +kernel) (by decide +kernel)), (z_w 1013 (by decide +kernel) (by decide +kernel)), 2, rfl, (by decide +kernel)⟩)⟩
theorem z_okM_15_45 : z_okM 15 45 (125, 5, 1) := ⟨z_t125, rfl, z_okT125, Or.inl (z_w 1015 (by decide +kernel) (by decide +kernel)), Or.inr (Or.inl ⟨rfl, (z_w 1016 (by decide +kernel) (by decide +kernel)), (z_w 1017 (by decide +kernel) (by decide +kernel)), 4, rfl, (by decide +kernel)⟩)⟩
theorem z_okM_15_50 : z_okM 15 50 (126, 5, 1) := ⟨z_t126, rfl, z_okT126, Or.inl (z_w 1019 (by decide +kernel) (by decide +kernel)), Or.inr (Or.inl ⟨rfl, (z_w 1020 (by decide +kernel) (by decide +kernel)), (z_w 1021 (by decide +kernel) (by decide +kernel)), 4, rfl, (by decide +kernel)⟩)⟩
theorem z_okM_15_54 : z_okM 15 54 (127, 3, 1) := ⟨z_t127, rfl, z_okT127, Or.inl (z_w 1023 (by decide +kernel) (by decide +kernel)), Or.inr (Or.inl ⟨rfl, (z_w 1024 (by decide +kernel) (by decide +kernel)), (z_w 1025 (by decide +kernel) (by decide +kernel)), 2, rfl, (by decide +kernel)⟩)⟩
theorem z_okM_11_74 : z_okM 11 74 (128, 1, 1) := ⟨z_t128, rfl, z_okT128, Or.inl (z_w 1027 (by decide +kernel) (by decide +kernel)), Or.inr (Or.inl ⟨rfl, (z_w 1029 (by decide +kernel) (by decide +kernel)), (z_w 26 (by decide +kernel) (by decide +kernel)), 0, rfl, (by decide +kernel)⟩)⟩
theorem z_okM_15_58 : z_okM 15 58 (129, 2, 1) := ⟨z_t129, rfl, z_okT129, Or.inl (z_w 1031 (by decide +kernel) (by decide +kernel)), Or.inr (Or.inl ⟨rfl, (z_w 1032 (by decide +kernel) (by decide +kernel)), (z_w 1033 (by decide +kernel) (by decide +kernel)), 1, rfl, (by decide +kernel)⟩)⟩
theorem z_okM_15_62 : z_okM 15 62 (130, 2, 1) := ⟨z_t130, rfl, z_okT130, Or.inl (z_w 1035 (by decide +kernel) (by decide +kernel)), Or.inr (Or.inl ⟨rfl, (z_w 1036 (by decide +kernel) (by decide +kernel)), (z_w 1037 (by decide +kernel) (by decide +kernel)), 1, rfl, (by decide +kernel)⟩)⟩
theorem z_okM_11_161 : z_okM 11 161 (131, 1, 1) := ⟨z_t131, rfl, z_okT131, Or.inl (z_w 1039 (by decide +kernel) (by decide +kernel)), Or.inr (Or.inl ⟨rfl, (z_w 1041 (by decide +kernel) (by decide +kernel)), (z_w 27 (by decide +kernel) (by decide +kernel)), 0, rfl, (by decide +kernel)⟩)⟩
theorem z_okM_11_60 : z_okM 11 60 (132, 2, 1) := ⟨z_t132, rfl, z_okT132, Or.inl (z_w 1043 (by decide +kernel) (by decide +kernel)), Or.inr (Or.inl ⟨rfl, (z_w 1045 (by decide +kernel) (by decide +kernel)), (z_w 28 (by decide +kernel) (by decide +kernel)), 1, rfl, (by decide +kernel)⟩)⟩
theorem z_okM_11_132 : z_okM 11 132 (133, 2, 1) := ⟨z_t133, rfl, z_okT133, Or.inl (z_w 1047 (by decide +kernel) (by decide +kernel)), Or.inr (Or.inl ⟨rfl, (z_w 1049 (by decide +kernel) (by decide +kernel)), (z_w 29 (by decide +kernel) (by decide +kernel)), 1, rfl, (by decide +kernel)⟩)⟩
theorem z_okM_11_136 : z_okM 11 136 (134, 2, 1) := ⟨z_t134, rfl, z_okT134, Or.inl (z_w 1053 (by decide +kernel) (by decide +kernel)), Or.inr (Or.inl ⟨rfl, (z_w 1055 (by decide +kernel) (by decide +kernel)), (z_w 30 (by decide +kernel) (by decide +kernel)), 1, rfl, (by decide +kernel)⟩)⟩
theorem z_okM_11_70 : z_okM 11 70 (135, 3, 1) := ⟨z_t135, rfl, z_okT135, Or.inl (z_w 1057 (by decide +kernel) (by decide +kernel)), Or.inr (Or.inl ⟨rfl, (z_w 1059 (by decide +kernel) (by decide +kernel)), (z_w 31 (by decide +kernel) (by decide +kernel)), 2, rfl, (by decide +kernel)⟩)⟩
theorem z_okM_11_78 : z_okM 11 78 (136, 2, 1) := ⟨z_t136, rfl, z_okT136, Or.inl (z_w 1061 (by decide +kernel) (by decide +kernel)), Or.inr (Or.inl ⟨rfl, (z_w 1063 (by decide +kernel) (by decide +kernel)), (z_w 32 (by decide +kernel) (by decide +kernel)), 1, rfl, (by decide +kernel)⟩)⟩
theorem z_okM_11_139 : z_okM 11 139 (137, 3, 1) := ⟨z_t137, rfl, z_okT137, Or.inl (z_w 1065 (by decide +kernel) (by decide +kernel)), Or.inr (Or.inl ⟨rfl, (z_w 1067 (by decide +kernel) (by decide +kernel)), (z_w 33 (by decide +kernel) (by decide +kernel)), 2, rfl, (by decide +kernel)⟩)⟩
theorem z_okM_11_85 : z_okM 11 85 (138, 3, 1) := ⟨z_t138, rfl, z_okT138, Or.inl (z_w 1069 (by decide +kernel) (by decide +kernel)), Or.inr (Or.inl ⟨rfl, (z_w 1071 (by decide +kernel) (by decide +kernel)), (z_w 34 (by decide +kernel) (by decide +kernel)), 2, rfl, (by decide +kernel)⟩)⟩
theorem z_okM_11_92 : z_okM 11 92 (139, 3, 1) := ⟨z_t139, rfl, z_okT139, Or.inl (z_w 1073 (by decide +kernel) (by decide +kernel)), Or.inr (Or.inl ⟨rfl, (z_w 1075 (by decide +kernel) (by decide +kernel)), (z_w 35 (by decide +kernel) (by decide +kernel)), 2, rfl, (by decide +kernel)⟩)⟩
theorem z_okM_11_99 : z_okM 11 99 (140, 3, 1) := ⟨z_t140, rfl, z_okT140, Or.inl (z_w 1077 (by decide +kernel) (by decide +kernel)), Or.inr (Or.inl ⟨rfl, (z_w 1079 (by decide +kernel) (by decide +kernel)), (z_w 36 (by decide +kernel) (by decide +kernel)), 2, rfl, (by decide +kernel)⟩)⟩
theorem z_okM_11_102 : z_okM 11 102 (141, 2, 1) := ⟨z_t141, rfl, z_okT141, Or.inl (z_w 1081 (by decide +kernel) (by decide +kernel)), Or.inr (Or.inl ⟨rfl, (z_w 1083 (by decide +kernel) (by decide +kernel)), (z_w 37 (by decide +kernel) (by decide +kernel)), 1, rfl, (by decide +kernel)⟩)⟩
theorem z_okM_11_105 : z_okM 11 105 (142, 2, 1) := ⟨z_t142, rfl, z_okT142, Or.inl (z_w 1085 (by decide +kernel) (by decide +kernel)), Or.inr (Or.inl ⟨rfl, (z_w 1087 (by decide +kernel) (by decide +kernel)), (z_w 38 (by decide +kernel) (by decide +kernel)), 1, rfl, (by decide +kernel)⟩)⟩
theorem z_okM_11_108 : z_okM 11 108 (143, 3, 1) := ⟨z_t143, rfl, z_okT143, Or.inl (z_w 1089 (by decide +kernel) (by decide +kernel)), Or.inr (Or.inl ⟨rfl, (z_w 1091 (by decide +kernel) (by decide +kernel)), (z_w 39 (by decide +kernel) (by decide +kernel)), 2, rfl, (by decide +kernel)⟩)⟩
theorem z_okM_11_95 : z_okM 11 95 (144, 2, 1) := ⟨z_t144, rfl, z_okT144, Or.inl (z_w 1093 (by decide +kernel) (by decide +kernel)), Or.inr (Or.inl ⟨rfl, (z_w 1095 (by decide +kernel) (by decide +kernel)), (z_w 40 (by decide +kernel) (by decide +kernel)), 1, rfl, (by decide +kernel)⟩)⟩
theorem z_okM_11_112 : z_okM 11 112 (145, 3, 1) := ⟨z_t145, rfl, z_okT145, Or.inl (z_w 1097 (by decide +kernel) (by decide +kernel)), Or.inr (Or.inl ⟨rfl, (z_w 1099 (by decide +kernel) (by decide +kernel)), (z_w 41 (by decide +kernel) (by decide +kernel)), 2, rfl, (by decide +kernel)⟩)⟩
theorem z_okM_11_143 : z_okM 11 143 (146, 1, 1) := ⟨z_t146, rfl, z_okT146, Or.inl (z_w 1102 (by decide +kernel) (by decide +kernel)), Or.inr (Or.inl ⟨rfl, (z_w 1104 (by decide +kernel) (by decide +kernel)), (z_w 42 (by decide +kernel) (by decide +kernel)), 0, rfl, (by decide +kernel)⟩)⟩
theorem z_okM_11_116 : z_okM 11 116 (147, 3, 1) := ⟨z_t147, rfl, z_okT147, Or.inl (z_w 1106 (by decide +kernel) (by decide +kernel)), Or.inr (Or.inl ⟨rfl, (z_w 1108 (by decide +kernel) (by decide +kernel)), (z_w 43 (by decide +kernel) (by decide +kernel)), 2, rfl, (by decide +kernel)⟩)⟩
theorem z_okM_11_119 : z_okM 11 119 (148, 2, 1) := ⟨z_t148, rfl, z_okT148, Or.inl (z_w 1110 (by decide +kernel) (by decide +kernel)), Or.inr (Or.inl ⟨rfl, (z_w 1112 (by decide +kernel) (by decide +kernel)), (z_w 44 (by decide +kernel) (by decide +kernel)), 1, rfl, (by decide +kernel)⟩)⟩
theorem z_okM_11_146 : z_okM 11 146 (149, 1, 1) := ⟨z_t149, rfl, z_okT149, Or.inl (z_w 1114 (by decide +kernel) (by decide +kernel)), Or.inr (Or.inl ⟨rfl, (z_w 1116 (by decide +kernel) (by decide +kernel)), (z_w 45 (by decide +kernel) (by decide +kernel)), 0, rfl, (by decide +kernel)⟩)⟩
theorem z_okM_11_126 : z_okM 11 126 (150, 3, 1) := ⟨z_t150, rfl, z_okT150, Or.inl (z_w 1118 (by decide +kernel) (by decide +kernel)), Or.inr (Or.inl ⟨rfl, (z_w 1120 (by decide +kernel) (by decide +kernel)), (z_w 46 (by decide +kernel) (by decide +kernel)), 2, rfl, (by decide +kernel)⟩)⟩
theorem z_okM_11_129 : z_okM 11 129 (151, 3, 1) := ⟨z_t151, rfl, z_okT151, Or.inl (z_w 1122 (by decide +kernel) (by decide +kernel)), Or.inr (Or.inl ⟨rfl, (z_w 1124 (by decide +kernel) (by decide +kernel)), (z_w 47 (by decide +kernel) (by decide +kernel)), 2, rfl, (by decide +kernel)⟩)⟩
theorem z_okM_11_123 : z_okM 11 123 (152, 3, 1) := ⟨z_t152, rfl, z_okT152, Or.inl (z_w 1126 (by decide +kernel) (by decide +kernel)), Or.inr (Or.inl ⟨rfl, (z_w 1128 (by decide +kernel) (by decide +kernel)), (z_w 48 (by decide +kernel) (by decide +kernel)), 2, rfl, (by decide +kernel)⟩)⟩
theorem z_okM_15_67 : z_okM 15 67 (153, 1, 1) := ⟨z_t153, rfl, z_okT153, Or.inl (z_w 1130 (by decide +kernel) (by decide +kernel)), Or.inr (Or.inl ⟨rfl, (z_w 1131 (by decide +kernel) (by decide +kernel)), (z_w 1132 (by decide +kernel) (by decide +kernel)), 0, rfl, (by decide +kernel)⟩)⟩
theorem z_okM_15_71 : z_okM 15 71 (154, 2, 1) := ⟨z_t154, rfl, z_okT154, Or.inl (z_w 1134 (by decide +kernel) (by decide +kernel)), Or.inr (Or.inl ⟨rfl, (z_w 1135 (by decide +kernel) (by decide +kernel)), (z_w 1136 (by decide +kernel) (by decide +kernel)), 1, rfl, (by decide +kernel)⟩)⟩
theorem z_okM_15_75 : z_okM 15 75 (155, 1, 1) := ⟨z_t155, rfl, z_okT155, Or.inl (z_w 1138 (by decide +kernel) (by decide +kernel)), Or.inr (Or.inl ⟨rfl, (z_w 1139 (by decide +kernel) (by decide +kernel)), (z_w 1140 (by decide +kernel) (by decide +kernel)), 0, rfl, (by decide +kernel)⟩)⟩
theorem z_okM_15_79 : z_okM 15 79 (156, 1, 1) := ⟨z_t156, rfl, z_okT156, Or.inl (z_w 1142 (by decide +kernel) (by decide +kernel)), Or.inr (Or.inl ⟨rfl, (z_w 1143 (by decide +kernel) (by decide +kernel)), (z_w 1144 (by decide +kernel) (by decide +kernel)), 0, rfl, (by decide +kernel)⟩)⟩
theorem z_okM_11_202 : z_okM 11 202 (157, 2, 1) := ⟨z_t157, rfl, z_okT157, Or.inl (z_w 1146 (by decide +kernel) (by decide +kernel)), Or.inr (Or.inl ⟨rfl, (z_w 1148 (by decide +kernel) (by decide +kernel)), (z_w 49 (by decide +kernel) (by decide +kernel)), 1, rfl, (by decide +kernel)⟩)⟩
theorem z_okM_11_198 : z_okM 11 198 (158, 2, 1) := ⟨z_t158, rfl, z_okT158, Or.inl (z_w 1150 (by decide +kernel) (by decide +kernel)), Or.inr (Or.inl ⟨rfl, (z_w 1152 (by decide +kernel) (by decide +kernel)), (z_w 50 (by decide +kernel) (by decide +kernel)), 1, rfl, (by decide +kernel)⟩)⟩
theorem z_okM_11_173 : z_okM 11 173 (159, 1, 1) := ⟨z_t159, rfl, z_okT159, Or.inl (z_w 1154 (by decide +kernel) (by decide +kernel)), Or.inr (Or.inl ⟨rfl, (z_w 1156 (by decide +kernel) (by decide +kernel)), (z_w 51 (by decide +kernel) (by decide +kernel)), 0, rfl, (by decide +kernel)⟩)⟩
theorem z_okM_11_176 : z_okM 11 176 (160, 1, 1) := ⟨z_t160, rfl, z_okT160, Or.inl (z_w 1158 (by decide +kernel) (by decide +kernel)), Or.inr (Or.inl ⟨rfl, (z_w 1160 (by decide +kernel) (by decide +kernel)), (z_w 52 (by decide +kernel) (by decide +kernel)), 0, rfl, (by decide +kernel)⟩)⟩
theorem z_okM_11_179 : z_okM 11 179 (123, 3, 1) := ⟨z_t123, rfl, z_okT123, Or.inl (z_w 1162 (by decide +kernel) (by decide +kernel)), Or.inr (Or.inl ⟨rfl, (z_w 1008 (by decide +kernel) (by decide +kernel)), (z_w 1009 (by decide +kernel) (by decide +kernel)), 2, rfl, (by decide +kernel)⟩)⟩
theorem z_okM_11_182 : z_okM 11 182 (122, 3, 1) := ⟨z_t122, rfl, z_okT122, Or.inl (z_w 1163 (by decide +kernel) (by decide +kernel)), Or.inr (Or.inl ⟨rfl, (z_w 1004 (by decide +kernel) (by decide +kernel)), (z_w 1005 (by decide +kernel) (by decide +kernel)), 2, rfl, (by decide +kernel)⟩)⟩
theorem z_okM_11_185 : z_okM 11 185 (127, 3, 1) := ⟨z_t127, rfl, z_okT127, Or.inl (z_w 1164 (by decide +kernel) (by decide +kernel)), Or.inr (Or.inl ⟨rfl, (z_w 1024 (by decide +kernel) (by decide +kernel)), (z_w 1025 (by decide +kernel) (by decide +kernel)), 2, rfl, (by decide +kernel)⟩)⟩
theorem z_okM_11_188 : z_okM 11 188 (130, 2, 1) := ⟨z_t130, rfl, z_okT130, Or.inl (z_w 1165 (by decide +kernel) (by decide +kernel)), Or.inr (Or.inl ⟨rfl, (z_w 1036 (by decide +kernel) (by decide +kernel)), (z_w 1037 (by decide +kernel) (by decide +kernel)), 1, rfl, (by decide +kernel)⟩)⟩
theorem z_okM_11_191 : z_okM 11 191 (129, 2, 1) := ⟨z_t129, rfl, z_okT129, Or.inl (z_w 1166 (by decide +kernel) (by decide +kernel)), Or.inr (Or.inl ⟨rfl, (z_w 1032 (by decide +kernel) (by decide +kernel)), (z_w 1033 (by decide +kernel) (by decide +kernel)), 1, rfl, (by decide +kernel)⟩)⟩
theorem z_okM_11_194 : z_okM 11 194 (124, 3, 1) := ⟨z_t124, rfl, z_okT124, Or.inl (z_w 1167 (by decide +kernel) (by decide +kernel)), Or.inr (Or.inl ⟨rfl, (z_w 1012 (by decide +kernel) (by decide +kernel)), (z_w 1013 (by decide +kernel) (by decide +kernel)), 2, rfl, (by decide +kernel)⟩)⟩
theorem z_okM_15_83 : z_okM 15 83 (161, 1, 1) := ⟨z_t161, rfl, z_okT161, Or.inl (z_w 1168 (by decide +kernel) (by decide +kernel)), Or.inr (Or.inl ⟨rfl, (z_w 1169 (by decide +kernel) (by decide +kernel)), (z_w 1170 (by decide +kernel) (by decide +kernel)), 0, rfl, (by decide +kernel)⟩)⟩
theorem z_okM_15_87 : z_okM 15 87 (162, 2, 1) := ⟨z_t162, rfl, z_okT162, Or.inl (z_w 1172 (by decide +kernel) (by decide +kernel)), Or.inr (Or.inl ⟨rfl, (z_w 1173 (by decide +kernel) (by decide +kernel)), (z_w 1174 (by decide +kernel) (by decide +kernel)), 1, rfl, (by decide +kernel)⟩)⟩
theorem z_okM_15_91 : z_okM 15 91 (163, 3, 1) := ⟨z_t163, rfl, z_okT163, Or.inl (z_w 1176 (by decide +kernel) (by decide +kernel)), Or.inr (Or.inl ⟨rfl, (z_w 1177 (by decide +kernel) (by decide +kernel)), (z_w 1178 (by decide +kernel) (by decide +kernel)), 2, rfl, (by decide +kernel)⟩)⟩
theorem z_okM_11_208 : z_okM 11 208 (164, 3, 1) := ⟨z_t164, rfl, z_okT164, Or.inl (z_w 1180 (by decide +kernel) (by decide +kernel)), Or.inr (Or.inl ⟨rfl, (z_w 1182 (by decide +kernel) (by decide +kernel)), (z_w 53 (by decide +kernel) (by decide +kernel)), 2, rfl, (by decide +kernel)⟩)⟩
theorem z_okM_11_205 : z_okM 11 205 (165, 1, 0) := ⟨z_t165, rfl, z_okT165, Or.inl (z_w 1184 (by decide +kernel) (by decide +kernel)), Or.inl ⟨rfl, (z_w 1185 (by decide +kernel) (by decide +kernel)), (by decide +kernel)⟩⟩
theorem z_okM_15_95 : z_okM 15 95 (166, 2, 1) := ⟨z_t166, rfl, z_okT166, Or.inl (z_w 1187 (by decide +kernel) (by decide +kernel)), Or.inr (Or.inl ⟨rfl, (z_w 1188 (by decide +kernel) (by decide +kernel)), (z_w 1189 (by decide +kernel) (by decide +kernel)), 1, rfl, (by decide +kernel)⟩)⟩
theorem z_okM_11_211 : z_okM 11 211 (189, 1, 0) := ⟨z_t189, rfl, z_okT189, Or.inl (z_w 1191 (by decide +kernel) (by decide +kernel)), Or.inl ⟨rfl, (z_w 1192 (by decide +kernel) (by decide +kernel)), (by decide +kernel)⟩⟩
theorem z_okM_13_59 : z_okM 13 59 (190, 1, 0) := ⟨z_t190, rfl, z_okT190, Or.inl (z_w 1194 (by decide +kernel) (by decide +kernel)), Or.inl ⟨rfl, (z_w 1195 (by decide +kernel) (by decide +kernel)), (by decide +kernel)⟩⟩
theorem z_okM_15_99 : z_okM 15 99 (167, 2, 1) := ⟨z_t167, rfl, z_okT167, Or.inl (z_w 1201 (by decide +kernel) (by decide +kernel)), Or.inr (Or.inl ⟨rfl, (z_w 1202 (by decide +kernel) (by decide +kernel)), (z_w 1203 (by decide +kernel) (by decide +kernel)), 1, rfl, (by decide +kernel)⟩)⟩
theorem z_okM_15_103 : z_okM 15 103 (168, 2, 1) := ⟨z_t168, rfl, z_okT168, Or.inl (z_w 1205 (by decide +kernel) (by decide +kernel)), Or.inr (Or.inl ⟨rfl, (z_w 1206 (by decide +kernel) (by decide +kernel)), (z_w 1207 (by decide +kernel) (by decide +kernel)), 1, rfl, (by decide +kernel)⟩)⟩
theorem z_okM_15_107 : z_okM 15 107 (169, 3, 1) := ⟨z_t169, rfl, z_okT169, Or.inl (z_w 1210 (by decide +kernel) (by decide +kernel)), Or.inr (Or.inl ⟨rfl, (z_w 1211 (by decide +kernel) (by decide +kernel)), (z_w 1212 (by decide +kernel) (by decide +kernel)), 2, rfl, (by decide +kernel)⟩)⟩
theorem z_okM_15_111 : z_okM 15 111 (170, 5, 1) := ⟨z_t170, rfl, z_okT170, Or.inl (z_w 1214 (by decide +kernel) (by decide +kernel)), Or.inr (Or.inl ⟨rfl, (z_w 1215 (by decide +kernel) (by decide +kernel)), (z_w 1216 (by decide +kernel) (by decide +kernel)), 4, rfl, (by decide +kernel)⟩)⟩
theorem z_okM_15_115 : z_okM 15 115 (171, 3, 1) := ⟨z_t171, rfl, z_okT171, Or.inl (z_w 1218 (by decide +kernel) (by decide +kernel)), Or.inr (Or.inl ⟨rfl, (z_w 1219 (by decide +kernel) (by decide +kernel)), (z_w 1220 (by decide +kernel) (by decide +kernel)), 2, rfl, (by decide +kernel)⟩)⟩
theorem z_okM_15_119 : z_okM 15 119 (172, 2, 1) := ⟨z_t172, rfl, z_okT172, Or.inl (z_w 1222 (by decide +kernel) (by decide +kernel)), Or.inr (Or.inl ⟨rfl, (z_w 1223 (by decide +kernel) (by decide +kernel)), (z_w 1224 (by decide +kernel) (by decide +kernel)), 1, rfl, (by decide +kernel)⟩)⟩
theorem z_okM_15_123 : z_okM 15 123 (173, 3, 1) := ⟨z_t173, rfl, z_okT173, Or.inl (z_w 1226 (by decide +kernel) (by decide +kernel)), Or.inr (Or.inl ⟨rfl, (z_w 1227 (by decide +kernel) (by decide +kernel)), (z_w 1228 (by decide +kernel) (by decide +kernel)), 2, rfl, (by decide +kernel)⟩)⟩
theorem z_okM_15_127 : z_okM 15 127 (174, 3, 1) := ⟨z_t174, rfl, z_okT174, Or.inl (z_w 1230 (by decide +kernel) (by decide +kernel)), Or.inr (Or.inl ⟨rfl, (z_w 1231 (by decide +kernel) (by decide +kernel)), (z_w 1232 (by decide +kernel) (by decide +kernel)), 2, rfl, (by decide +kernel)⟩)⟩
theorem z_okM_15_132 : z_okM 15 132 (175, 1, 1) := ⟨z_t175, rfl, z_okT175, Or.inl (z_w 1234 (by decide +kernel) (by decide +kernel)), Or.inr (Or.inl ⟨rfl, (z_w 1235 (by decide +kernel) (by decide +kernel)), (z_w 1236 (by decide +kernel) (by decide +kernel)), 0, rfl, (by decide +kernel)⟩)⟩
theorem z_okM_11_226 : z_okM 11 226 (162, 2, 1) := ⟨z_t162, rfl, z_okT162, Or.inl (z_w 1239 (by decide +kernel) (by decide +kernel)), Or.inr (Or.inl ⟨rfl, (z_w 1173 (by decide +kernel) (by decide +kernel)), (z_w 1174 (by decide +kernel) (by decide +kernel)), 1, rfl, (by decide +kernel)⟩)⟩
theorem z_okM_11_229 : z_okM 11 229 (176, 2, 1) := ⟨z_t176, rfl, z_okT176, Or.inl (z_w 1240 (by decide +kernel) (by decide +kernel)), Or.inr (Or.inl ⟨rfl, (z_w 1242 (by decide +kernel) (by decide +kernel)), (z_w 54 (by decide +kernel) (by decide +kernel)), 1, rfl, (by decide +kernel)⟩)⟩
theorem z_okM_11_233 : z_okM 11 233 (166, 2, 1) := ⟨z_t166, rfl, z_okT166, Or.inl (z_w 1245 (by decide +kernel) (by decide +kernel)), Or.inr (Or.inl ⟨rfl, (z_w 1188 (by decide +kernel) (by decide +kernel)), (z_w 1189 (by decide +kernel) (by decide +kernel)), 1, rfl, (by decide +kernel)⟩)⟩
theorem z_okM_11_236 : z_okM 11 236 (167, 2, 1) := ⟨z_t167, rfl, z_okT167, Or.inl (z_w 1246 (by decide +kernel) (by decide +kernel)), Or.inr (Or.inl ⟨rfl, (z_w 1202 (by decide +kernel) (by decide +kernel)), (z_w 1203 (by decide +kernel) (by decide +kernel)), 1, rfl, (by decide +kernel)⟩)⟩
theorem z_okM_a0 : ∀ q ∈ z_ml_0, z_okM 0 q.1 q.2 := List.forall_mem_cons.mpr ⟨z_okM_0_11, List.forall_mem_cons.mpr ⟨z_okM_0_20, List.forall_mem_cons.mpr ⟨z_okM_0_27, List.forall_mem_cons.mpr ⟨z_okM_0_34, List.forall_mem_cons.mpr ⟨z_okM_0_41, List.forall_mem_cons.mpr ⟨z_okM_0_48, List.forall_mem_cons.mpr ⟨z_okM_0_57, List.forall_mem_cons.mpr ⟨z_okM_0_61, List.forall_mem_cons.mpr ⟨z_okM_0_64, List.forall_mem_cons.mpr ⟨z_okM_0_67, List.forall_mem_cons.mpr ⟨z_okM_0_70, List.forall_mem_cons.mpr ⟨z_okM_0_73, List.forall_mem_cons.mpr ⟨z_okM_0_76, List.forall_mem_cons.mpr ⟨z_okM_0_80, List.forall_mem_cons.mpr ⟨z_okM_0_87, List.forall_mem_cons.mpr ⟨z_okM_0_94, List.forall_mem_cons.mpr ⟨z_okM_0_98, List.forall_mem_cons.mpr ⟨z_okM_0_102, List.forall_mem_cons.mpr ⟨z_okM_0_104, List.forall_mem_cons.mpr ⟨z_okM_0_107, List.forall_mem_cons.mpr ⟨z_okM_0_127, List.forall_mem_cons.mpr ⟨z_okM_0_131, List.forall_mem_cons.mpr ⟨z_okM_0_135, List.forall_mem_cons.mpr ⟨z_okM_0_142, List.forall_mem_cons.mpr ⟨z_okM_0_145, List.forall_mem_cons.mpr ⟨z_okM_0_151, List.forall_mem_cons.mpr ⟨z_okM_0_154, List.forall_mem_cons.mpr ⟨z_okM_0_162, List.forall_mem_cons.mpr ⟨z_okM_0_173, List.forall_mem_cons.mpr ⟨z_okM_0_176, List.forall_mem_cons.mpr ⟨z_okM_0_179, List.forall_mem_cons.mpr ⟨z_okM_0_197, List.forall_mem_cons.mpr ⟨z_okM_0_203, List.forall_mem_cons.mpr ⟨z_okM_0_212, fun _ h => absurd h List.not_mem_nil⟩⟩⟩⟩⟩⟩⟩⟩⟩⟩⟩⟩⟩⟩⟩⟩⟩⟩⟩⟩⟩⟩⟩⟩⟩⟩⟩⟩⟩⟩⟩⟩⟩⟩
theorem z_okM_a2 : ∀ q ∈ z_ml_2, z_okM 2 q.1 q.2 := List.forall_mem_cons.mpr ⟨z_okM_2_37, List.forall_mem_cons.mpr ⟨z_okM_2_41, fun _ h => absurd h List.not_mem_nil⟩⟩
theorem z_okM_a3 : ∀ q ∈ z_ml_3, z_okM 3 q.1 q.2 := List.forall_mem_cons.mpr ⟨z_okM_3_17, List.forall_mem_cons.mpr ⟨z_okM_3_22, fun _ h => absurd h List.not_mem_nil⟩⟩
theorem z_okM_a4 : ∀ q ∈ z_ml_4, z_okM 4 q.1 q.2 := List.forall_mem_cons.mpr ⟨z_okM_4_21, List.forall_mem_cons.mpr ⟨z_okM_4_38, List.forall_mem_cons.mpr ⟨z_okM_4_54, List.forall_mem_cons.mpr ⟨z_okM_4_58, List.forall_mem_cons.mpr ⟨z_okM_4_61, List.forall_mem_cons.mpr ⟨z_okM_4_65, List.forall_mem_cons.mpr ⟨z_okM_4_69, List.forall_mem_cons.mpr ⟨z_okM_4_76, List.forall_mem_cons.mpr ⟨z_okM_4_84, List.forall_mem_cons.mpr ⟨z_okM_4_101, fun _ h => absurd h List.not_mem_nil⟩⟩⟩⟩⟩⟩⟩⟩⟩⟩
theorem z_okM_a5 : ∀ q ∈ z_ml_5, z_okM 5 q.1 q.2 := List.forall_mem_cons.mpr ⟨z_okM_5_24, List.forall_mem_cons.mpr ⟨z_okM_5_41, List.forall_mem_cons.mpr ⟨z_okM_5_45, List.forall_mem_cons.mpr ⟨z_okM_5_49, List.forall_mem_cons.mpr ⟨z_okM_5_52, List.forall_mem_cons.mpr ⟨z_okM_5_56, fun _ h => absurd h List.not_mem_nil⟩⟩⟩⟩⟩⟩
theorem z_okM_a6 : ∀ q ∈ z_ml_6, z_okM 6 q.1 q.2 := List.forall_mem_cons.mpr ⟨z_okM_6_56, List.forall_mem_cons.mpr ⟨z_okM_6_62, fun _ h => absurd h List.not_mem_nil⟩⟩
theorem z_okM_a7 : ∀ q ∈ z_ml_7, z_okM 7 q.1 q.2 := List.forall_mem_cons.mpr ⟨z_okM_7_15, List.forall_mem_cons.mpr ⟨z_okM_7_42, fun _ h => absurd h List.not_mem_nil⟩⟩
theorem z_okM_a10 : ∀ q ∈ z_ml_10, z_okM 10 q.1 q.2 := List.forall_mem_cons.mpr ⟨z_okM_10_9, List.forall_mem_cons.mpr ⟨z_okM_10_21, List.forall_mem_cons.mpr ⟨z_okM_10_28, List.forall_mem_cons.mpr ⟨z_okM_10_35, List.forall_mem_cons.mpr ⟨z_okM_10_40, List.forall_mem_cons.mpr ⟨z_okM_10_44, List.forall_mem_cons.mpr ⟨z_okM_10_48, List.forall_mem_cons.mpr ⟨z_okM_10_52, List.forall_mem_cons.mpr ⟨z_okM_10_56, List.forall_mem_cons.mpr ⟨z_okM_10_59, List.forall_mem_cons.mpr ⟨z_okM_10_62, List.forall_mem_cons.mpr ⟨z_okM_10_65, List.forall_mem_cons.mpr ⟨z_okM_10_73, List.forall_mem_cons.mpr ⟨z_okM_10_79, List.forall_mem_cons.mpr ⟨z_okM_10_83, List.forall_mem_cons.mpr ⟨z_okM_10_86, List.forall_mem_cons.mpr ⟨z_okM_10_89, List.forall_mem_cons.mpr ⟨z_okM_10_93, List.forall_mem_cons.mpr ⟨z_okM_10_97, List.forall_mem_cons.mpr ⟨z_okM_10_100, List.forall_mem_cons.mpr ⟨z_okM_10_104, List.forall_mem_cons.mpr ⟨z_okM_10_111, List.forall_mem_cons.mpr ⟨z_okM_10_124, List.forall_mem_cons.mpr ⟨z_okM_10_160, List.forall_mem_cons.mpr ⟨z_okM_10_172, List.forall_mem_cons.mpr ⟨z_okM_10_197, List.forall_mem_cons.mpr ⟨z_okM_10_203, List.forall_mem_cons.mpr ⟨z_okM_10_212, List.forall_mem_cons.mpr ⟨z_okM_10_220, List.forall_mem_cons.mpr ⟨z_okM_10_223, List.forall_mem_cons.mpr ⟨z_okM_10_227, List.forall_mem_cons.mpr ⟨z_okM_10_245, List.forall_mem_cons.mpr ⟨z_okM_10_251, List.forall_mem_cons.mpr ⟨z_okM_10_254, List.forall_mem_cons.mpr ⟨z_okM_10_257, List.forall_mem_cons.mpr ⟨z_okM_10_271, List.forall_mem_cons.mpr ⟨z_okM_10_274, List.forall_mem_cons.mpr ⟨z_okM_10_278, List.forall_mem_cons.mpr ⟨z_okM_10_281, List.forall_mem_cons.mpr ⟨z_okM_10_284, List.forall_mem_cons.mpr ⟨z_okM_10_287, List.forall_mem_cons.mpr ⟨z_okM_10_290, List.forall_mem_cons.mpr ⟨z_okM_10_293, fun _ h => absurd h List.not_mem_nil⟩⟩⟩⟩⟩⟩⟩⟩⟩⟩⟩⟩⟩⟩⟩⟩⟩⟩⟩⟩⟩⟩⟩⟩⟩⟩⟩⟩⟩⟩⟩⟩⟩⟩⟩⟩⟩⟩⟩⟩⟩⟩⟩
theorem z_okM_a11 : ∀ q ∈ z_ml_11, z_okM 11 q.1 q.2 := List.forall_mem_cons.mpr ⟨z_okM_11_45, List.forall_mem_cons.mpr ⟨z_okM_11_49, List.forall_mem_cons.mpr ⟨z_okM_11_53, List.forall_mem_cons.mpr ⟨z_okM_11_57, List.forall_mem_cons.mpr ⟨z_okM_11_60, List.forall_mem_cons.mpr ⟨z_okM_11_66, List.forall_mem_cons.mpr ⟨z_okM_11_70, List.forall_mem_cons.mpr ⟨z_okM_11_74, List.forall_mem_cons.mpr ⟨z_okM_11_78, List.forall_mem_cons.mpr ⟨z_okM_11_82, List.forall_mem_cons.mpr ⟨z_okM_11_85, List.forall_mem_cons.mpr ⟨z_okM_11_89, List.forall_mem_cons.mpr ⟨z_okM_11_92, List.forall_mem_cons.mpr ⟨z_okM_11_95, List.forall_mem_cons.mpr ⟨z_okM_11_99, List.forall_mem_cons.mpr ⟨z_okM_11_102, List.forall_mem_cons.mpr ⟨z_okM_11_105, List.forall_mem_cons.mpr ⟨z_okM_11_108, List.forall_mem_cons.mpr ⟨z_okM_11_112, List.forall_mem_cons.mpr ⟨z_okM_11_116, List.forall_mem_cons.mpr ⟨z_okM_11_119, List.forall_mem_cons.mpr ⟨z_okM_11_123, List.forall_mem_cons.mpr ⟨z_okM_11_126, List.forall_mem_cons.mpr ⟨z_okM_11_129, List.forall_mem_cons.mpr ⟨z_okM_11_132, List.forall_mem_cons.mpr ⟨z_okM_11_136, List.forall_mem_cons.mpr ⟨z_okM_11_139, List.forall_mem_cons.mpr ⟨z_okM_11_143, List.forall_mem_cons.mpr ⟨z_okM_11_146, List.forall_mem_cons.mpr ⟨z_okM_11_149, List.forall_mem_cons.mpr ⟨z_okM_11_152, List.forall_mem_cons.mpr ⟨z_okM_11_155, List.forall_mem_cons.mpr ⟨z_okM_11_158, List.forall_mem_cons.mpr ⟨z_okM_11_161, List.forall_mem_cons.mpr ⟨z_okM_11_173, List.forall_mem_cons.mpr ⟨z_okM_11_176, List.forall_mem_cons.mpr ⟨z_okM_11_179, List.forall_mem_cons.mpr ⟨z_okM_11_182, List.forall_mem_cons.mpr ⟨z_okM_11_185, List.forall_mem_cons.mpr ⟨z_okM_11_188, List.forall_mem_cons.mpr ⟨z_okM_11_191, List.forall_mem_cons.mpr ⟨z_okM_11_194, List.forall_mem_cons.mpr ⟨z_okM_11_198, List.forall_mem_cons.mpr ⟨z_okM_11_202, List.forall_mem_cons.mpr ⟨z_okM_11_205, List.forall_mem_cons.mpr ⟨z_okM_11_208, List.forall_mem_cons.mpr ⟨z_okM_11_211, List.forall_mem_cons.mpr ⟨z_okM_11_226, List.forall_mem_cons.mpr ⟨z_okM_11_229, List.forall_mem_cons.mpr ⟨z_okM_11_233, List.forall_mem_cons.mpr ⟨z_okM_11_236, fun _ h => absurd h List.not_mem_nil⟩⟩⟩⟩⟩⟩⟩⟩⟩⟩⟩⟩⟩⟩⟩⟩⟩⟩⟩⟩⟩⟩⟩⟩⟩⟩⟩⟩⟩⟩⟩⟩⟩⟩⟩⟩⟩⟩⟩⟩⟩⟩⟩⟩⟩⟩⟩⟩⟩⟩⟩
theorem z_okM_a12 : ∀ q ∈ z_ml_12, z_okM 12 q.1 q.2 := List.forall_mem_cons.mpr ⟨z_okM_12_21, List.forall_mem_cons.mpr ⟨z_okM_12_27, List.forall_mem_cons.mpr ⟨z_okM_12_30, List.forall_mem_cons.mpr ⟨z_okM_12_33, List.forall_mem_cons.mpr ⟨z_okM_12_36, List.forall_mem_cons.mpr ⟨z_okM_12_48, List.forall_mem_cons.mpr ⟨z_okM_12_68, List.forall_mem_cons.mpr ⟨z_okM_12_71, List.forall_mem_cons.mpr ⟨z_okM_12_78, List.forall_mem_cons.mpr ⟨z_okM_12_81, List.forall_mem_cons.mpr ⟨z_okM_12_84, List.forall_mem_cons.mpr ⟨z_okM_12_129, fun _ h => absurd h List.not_mem_nil⟩⟩⟩⟩⟩⟩⟩⟩⟩⟩⟩⟩
theorem z_okM_a13 : ∀ q ∈ z_ml_13, z_okM 13 q.1 q.2 := List.forall_mem_cons.mpr ⟨z_okM_13_59, fun _ h => absurd h List.not_mem_nil⟩
theorem z_okM_a15 : ∀ q ∈ z_ml_15, z_okM 15 q.1 q.2 := List.forall_mem_cons.mpr ⟨z_okM_15_9, List.forall_mem_cons.mpr ⟨z_okM_15_12, List.forall_mem_cons.mpr ⟨z_okM_15_13, List.forall_mem_cons.mpr ⟨z_okM_15_17, List.forall_mem_cons.mpr ⟨z_okM_15_18, List.forall_mem_cons.mpr ⟨z_okM_15_22, List.forall_mem_cons.mpr ⟨z_okM_15_23, List.forall_mem_cons.mpr ⟨z_okM_15_27, List.forall_mem_cons.mpr ⟨z_okM_15_28, List.forall_mem_cons.mpr ⟨z_okM_15_31, List.forall_mem_cons.mpr ⟨z_okM_15_32, List.forall_mem_cons.mpr ⟨z_okM_15_35, List.forall_mem_cons.mpr ⟨z_okM_15_36, List.forall_mem_cons.mpr ⟨z_okM_15_40, List.forall_mem_cons.mpr ⟨z_okM_15_41, List.forall_mem_cons.mpr ⟨z_okM_15_45, List.forall_mem_cons.mpr ⟨z_okM_15_46, List.forall_mem_cons.mpr ⟨z_okM_15_50, List.forall_mem_cons.mpr ⟨z_okM_15_51, List.forall_mem_cons.mpr ⟨z_okM_15_54, List.forall_mem_cons.mpr ⟨z_okM_15_55, List.forall_mem_cons.mpr ⟨z_okM_15_58, List.forall_mem_cons.mpr ⟨z_okM_15_59, List.forall_mem_cons.mpr ⟨z_okM_15_62, List.forall_mem_cons.mpr ⟨z_okM_15_63, List.forall_mem_cons.mpr ⟨z_okM_15_67, List.forall_mem_cons.mpr ⟨z_okM_15_68, List.forall_mem_cons.mpr ⟨z_okM_15_71, List.forall_mem_cons.mpr ⟨z_okM_15_72, List.forall_mem_cons.mpr ⟨z_okM_15_75, List.forall_mem_cons.mpr ⟨z_okM_15_76, List.forall_mem_cons.mpr ⟨z_okM_15_79, List.forall_mem_cons.mpr ⟨z_okM_15_80, List.forall_mem_cons.mpr ⟨z_okM_15_83, List.forall_mem_cons.mpr ⟨z_okM_15_84, List.forall_mem_cons.mpr ⟨z_okM_15_87, List.forall_mem_cons.mpr ⟨z_okM_15_88, List.forall_mem_cons.mpr ⟨z_okM_15_91, List.forall_mem_cons.mpr ⟨z_okM_15_92, List.forall_mem_cons.mpr ⟨z_okM_15_95, List.forall_mem_cons.mpr ⟨z_okM_15_96, List.forall_mem_cons.mpr ⟨z_okM_15_99, List.forall_mem_cons.mpr ⟨z_okM_15_100, List.forall_mem_cons.mpr ⟨z_okM_15_103, List.forall_mem_cons.mpr ⟨z_okM_15_104, List.forall_mem_cons.mpr ⟨z_okM_15_107, List.forall_mem_cons.mpr ⟨z_okM_15_108, List.forall_mem_cons.mpr ⟨z_okM_15_111, List.forall_mem_cons.mpr ⟨z_okM_15_112, List.forall_mem_cons.mpr ⟨z_okM_15_115, List.forall_mem_cons.mpr ⟨z_okM_15_116, List.forall_mem_cons.mpr ⟨z_okM_15_119, List.forall_mem_cons.mpr ⟨z_okM_15_120, List.forall_mem_cons.mpr ⟨z_okM_15_123, List.forall_mem_cons.mpr ⟨z_okM_15_124, List.forall_mem_cons.mpr ⟨z_okM_15_127, List.forall_mem_cons.mpr ⟨z_okM_15_128, List.forall_mem_cons.mpr ⟨z_okM_15_132, fun _ h => absurd h List.not_mem_nil⟩⟩⟩⟩⟩⟩⟩⟩⟩⟩⟩⟩⟩⟩⟩⟩⟩⟩⟩⟩⟩⟩⟩⟩⟩⟩⟩⟩⟩⟩⟩⟩⟩⟩⟩⟩⟩⟩⟩⟩⟩⟩⟩⟩⟩⟩⟩⟩⟩⟩⟩⟩⟩⟩⟩⟩⟩⟩
theorem z_okM_all {own idx : Nat} : ∀ {v}, z_ml own idx = some v → z_okM own idx v := by
  intro v h
  unfold z_ml at h
  split at h
  · exact z_okM_a0 _ (z_look h)
  · exact z_okM_a2 _ (z_look h)
  · exact z_okM_a3 _ (z_look h)
  · exact z_okM_a4 _ (z_look h)
  · exact z_okM_a5 _ (z_look h)
  · exact z_okM_a6 _ (z_look h)
  · exact z_okM_a7 _ (z_look h)
  · exact z_okM_a10 _ (z_look h)
  · exact z_okM_a11 _ (z_look h)
  · exact z_okM_a12 _ (z_look h)
  · exact z_okM_a13 _ (z_look h)
  · exact z_okM_a15 _ (z_look h)
  · cases h
def z_okF (own idx : Nat) (v : Nat × Nat) : Prop := ∃ q : vw_C, vwCl[v.1]? = some q ∧ v.2 < q.2.2 ∧ Cond.fieldLink (z_on own) idx q.1 (q.2.1 v.2).2.1 (q.2.1 v.2).2.2.1 ∈ z_wsU
theorem z_okF_7_9 : z_okF 7 9 (7, 0) := ⟨_, rfl, by decide, z_w 97 (by decide +kernel) (by decide +kernel)⟩
theorem z_okF_12_75 : z_okF 12 75 (7, 0) := ⟨_, rfl, by decide, z_w 98 (by decide +kernel) (by decide +kernel)⟩
theorem z_okF_7_19 : z_okF 7 19 (7, 1) := ⟨_, rfl, by decide, z_w 99 (by decide +kernel) (by decide +kernel)⟩
theorem z_okF_12_118 : z_okF 12 118 (7, 1) := ⟨_, rfl, by decide, z_w 100 (by decide +kernel) (by decide +kernel)⟩
theorem z_okF_0_158 : z_okF 0 158 (7, 1) := ⟨_, rfl, by decide, z_w 101 (by decide +kernel) (by decide +kernel)⟩
theorem z_okF_7_23 : z_okF 7 23 (7, 2) := ⟨_, rfl, by decide, z_w 102 (by decide +kernel) (by decide +kernel)⟩
theorem z_okF_12_92 : z_okF 12 92 (7, 2) := ⟨_, rfl, by decide, z_w 103 (by decide +kernel) (by decide +kernel)⟩
theorem z_okF_7_26 : z_okF 7 26 (7, 3) := ⟨_, rfl, by decide, z_w 104 (by decide +kernel) (by decide +kernel)⟩
theorem z_okF_12_60 : z_okF 12 60 (7, 3) := ⟨_, rfl, by decide, z_w 105 (by decide +kernel) (by decide +kernel)⟩
theorem z_okF_7_29 : z_okF 7 29 (7, 4) := ⟨_, rfl, by decide, z_w 106 (by decide +kernel) (by decide +kernel)⟩
theorem z_okF_12_105 : z_okF 12 105 (7, 4) := ⟨_, rfl, by decide, z_w 107 (by decide +kernel) (by decide +kernel)⟩
theorem z_okF_0_166 : z_okF 0 166 (7, 4) := ⟨_, rfl, by decide, z_w 108 (by decide +kernel) (by decide +kernel)⟩
theorem z_okF_7_33 : z_okF 7 33 (7, 5) := ⟨_, rfl, by decide, z_w 109 (by decide +kernel) (by decide +kernel)⟩
theorem z_okF_0_206 : z_okF 0 206 (7, 5) := ⟨_, rfl, by decide, z_w 110 (by decide +kernel) (by decide +kernel)⟩
theorem z_okF_7_36 : z_okF 7 36 (7, 6) := ⟨_, rfl, by decide, z_w 111 (by decide +kernel) (by decide +kernel)⟩
theorem z_okF_0_194 : z_okF 0 194 (7, 6) := ⟨_, rfl, by decide, z_w 112 (by decide +kernel) (by decide +kernel)⟩
theorem z_okF_7_39 : z_okF 7 39 (7, 7) := ⟨_, rfl, by decide, z_w 113 (by decide +kernel) (by decide +kernel)⟩
theorem z_okF_0_200 : z_okF 0 200 (7, 7) := ⟨_, rfl, by decide, z_w 114 (by decide +kernel) (by decide +kernel)⟩
theorem z_okF_9_9 : z_okF 9 9 (9, 0) := ⟨_, rfl, by decide, z_w 138 (by decide +kernel) (by decide +kernel)⟩
theorem z_okF_12_15 : z_okF 12 15 (9, 0) := ⟨_, rfl, by decide, z_w 139 (by decide +kernel) (by decide +kernel)⟩
theorem z_okF_4_32 : z_okF 4 32 (9, 0) := ⟨_, rfl, by decide, z_w 140 (by decide +kernel) (by decide +kernel)⟩
theorem z_okF_0_84 : z_okF 0 84 (9, 0) := ⟨_, rfl, by decide, z_w 141 (by decide +kernel) (by decide +kernel)⟩
theorem z_okF_10_131 : z_okF 10 131 (9, 0) := ⟨_, rfl, by decide, z_w 142 (by decide +kernel) (by decide +kernel)⟩
theorem z_okF_9_15 : z_okF 9 15 (9, 1) := ⟨_, rfl, by decide, z_w 143 (by decide +kernel) (by decide +kernel)⟩
theorem z_okF_9_19 : z_okF 9 19 (9, 2) := ⟨_, rfl, by decide, z_w 144 (by decide +kernel) (by decide +kernel)⟩
theorem z_okF_9_22 : z_okF 9 22 (9, 3) := ⟨_, rfl, by decide, z_w 145 (by decide +kernel) (by decide +kernel)⟩
theorem z_okF_6_43 : z_okF 6 43 (6, 0) := ⟨_, rfl, by decide, z_w 162 (by decide +kernel) (by decide +kernel)⟩
theorem z_okF_4_46 : z_okF 4 46 (6, 0) := ⟨_, rfl, by decide, z_w 163 (by decide +kernel) (by decide +kernel)⟩
theorem z_okF_12_43 : z_okF 12 43 (6, 0) := ⟨_, rfl, by decide, z_w 164 (by decide +kernel) (by decide +kernel)⟩
theorem z_okF_0_91 : z_okF 0 91 (6, 0) := ⟨_, rfl, by decide, z_w 165 (by decide +kernel) (by decide +kernel)⟩
theorem z_okF_10_140 : z_okF 10 140 (6, 0) := ⟨_, rfl, by decide, z_w 166 (by decide +kernel) (by decide +kernel)⟩
theorem z_okF_6_47 : z_okF 6 47 (6, 1) := ⟨_, rfl, by decide, z_w 167 (by decide +kernel) (by decide +kernel)⟩
theorem z_okF_0_115 : z_okF 0 115 (6, 1) := ⟨_, rfl, by decide, z_w 168 (by decide +kernel) (by decide +kernel)⟩
theorem z_okF_10_145 : z_okF 10 145 (6, 1) := ⟨_, rfl, by decide, z_w 169 (by decide +kernel) (by decide +kernel)⟩
theorem z_okF_6_9 : z_okF 6 9 (6, 2) := ⟨_, rfl, by decide, z_w 170 (by decide +kernel) (by decide +kernel)⟩
theorem z_okF_4_51 : z_okF 4 51 (6, 2) := ⟨_, rfl, by decide, z_w 171 (by decide +kernel) (by decide +kernel)⟩
theorem z_okF_0_111 : z_okF 0 111 (6, 2) := ⟨_, rfl, by decide, z_w 172 (by decide +kernel) (by decide +kernel)⟩
theorem z_okF_12_99 : z_okF 12 99 (6, 2) := ⟨_, rfl, by decide, z_w 173 (by decide +kernel) (by decide +kernel)⟩
theorem z_okF_10_176 : z_okF 10 176 (6, 2) := ⟨_, rfl, by decide, z_w 174 (by decide +kernel) (by decide +kernel)⟩
theorem z_okF_6_15 : z_okF 6 15 (6, 3) := ⟨_, rfl, by decide, z_w 175 (by decide +kernel) (by decide +kernel)⟩
theorem z_okF_0_118 : z_okF 0 118 (6, 3) := ⟨_, rfl, by decide, z_w 176 (by decide +kernel) (by decide +kernel)⟩
theorem z_okF_10_179 : z_okF 10 179 (6, 3) := ⟨_, rfl, by decide, z_w 177 (by decide +kernel) (by decide +kernel)⟩
theorem z_okF_6_18 : z_okF 6 18 (6, 4) := ⟨_, rfl, by decide, z_w 178 (by decide +kernel) (by decide +kernel)⟩
theorem z_okF_0_121 : z_okF 0 121 (6, 4) := ⟨_, rfl, by decide, z_w 179 (by decide +kernel) (by decide +kernel)⟩
theorem z_okF_10_182 : z_okF 10 182 (6, 4) := ⟨_, rfl, by decide, z_w 180 (by decide +kernel) (by decide +kernel)⟩
theorem z_okF_6_21 : z_okF 6 21 (6, 5) := ⟨_, rfl, by decide, z_w 181 (by decide +kernel) (by decide +kernel)⟩
theorem z_okF_12_102 : z_okF 12 102 (6, 5) := ⟨_, rfl, by decide, z_w 182 (by decide +kernel) (by decide +kernel)⟩
theorem z_okF_0_124 : z_okF 0 124 (6, 5) := ⟨_, rfl, by decide, z_w 183 (by decide +kernel) (by decide +kernel)⟩
theorem z_okF_10_185 : z_okF 10 185 (6, 5) := ⟨_, rfl, by decide, z_w 184 (by decide +kernel) (by decide +kernel)⟩
theorem z_okF_6_24 : z_okF 6 24 (6, 6) := ⟨_, rfl, by decide, z_w 185 (by decide +kernel) (by decide +kernel)⟩
theorem z_okF_4_83 : z_okF 4 83 (6, 6) := ⟨_, rfl, by decide, z_w 186 (by decide +kernel) (by decide +kernel)⟩
theorem z_okF_12_88 : z_okF 12 88 (6, 6) := ⟨_, rfl, by decide, z_w 187 (by decide +kernel) (by decide +kernel)⟩
theorem z_okF_0_187 : z_okF 0 187 (6, 6) := ⟨_, rfl, by decide, z_w 188 (by decide +kernel) (by decide +kernel)⟩
theorem z_okF_10_208 : z_okF 10 208 (6, 6) := ⟨_, rfl, by decide, z_w 189 (by decide +kernel) (by decide +kernel)⟩
theorem z_okF_6_28 : z_okF 6 28 (6, 7) := ⟨_, rfl, by decide, z_w 190 (by decide +kernel) (by decide +kernel)⟩
theorem z_okF_12_52 : z_okF 12 52 (6, 7) := ⟨_, rfl, by decide, z_w 191 (by decide +kernel) (by decide +kernel)⟩
theorem z_okF_10_194 : z_okF 10 194 (6, 7) := ⟨_, rfl, by decide, z_w 192 (by decide +kernel) (by decide +kernel)⟩
theorem z_okF_6_31 : z_okF 6 31 (6, 8) := ⟨_, rfl, by decide, z_w 193 (by decide +kernel) (by decide +kernel)⟩
theorem z_okF_12_96 : z_okF 12 96 (6, 8) := ⟨_, rfl, by decide, z_w 194 (by decide +kernel) (by decide +kernel)⟩
theorem z_okF_10_191 : z_okF 10 191 (6, 8) := ⟨_, rfl, by decide, z_w 195 (by decide +kernel) (by decide +kernel)⟩
theorem z_okF_6_34 : z_okF 6 34 (6, 9) := ⟨_, rfl, by decide, z_w 196 (by decide +kernel) (by decide +kernel)⟩
theorem z_okF_12_65 : z_okF 12 65 (6, 9) := ⟨_, rfl, by decide, z_w 197 (by decide +kernel) (by decide +kernel)⟩
theorem z_okF_4_80 : z_okF 4 80 (6, 9) := ⟨_, rfl, by decide, z_w 198 (by decide +kernel) (by decide +kernel)⟩
theorem z_okF_10_188 : z_okF 10 188 (6, 9) := ⟨_, rfl, by decide, z_w 199 (by decide +kernel) (by decide +kernel)⟩
theorem z_okF_6_37 : z_okF 6 37 (6, 10) := ⟨_, rfl, by decide, z_w 200 (by decide +kernel) (by decide +kernel)⟩
theorem z_okF_4_98 : z_okF 4 98 (6, 10) := ⟨_, rfl, by decide, z_w 201 (by decide +kernel) (by decide +kernel)⟩
theorem z_okF_10_200 : z_okF 10 200 (6, 10) := ⟨_, rfl, by decide, z_w 202 (by decide +kernel) (by decide +kernel)⟩
theorem z_okF_6_40 : z_okF 6 40 (6, 11) := ⟨_, rfl, by decide, z_w 203 (by decide +kernel) (by decide +kernel)⟩
theorem z_okF_4_95 : z_okF 4 95 (6, 11) := ⟨_, rfl, by decide, z_w 204 (by decide +kernel) (by decide +kernel)⟩
theorem z_okF_10_216 : z_okF 10 216 (6, 11) := ⟨_, rfl, by decide, z_w 205 (by decide +kernel) (by decide +kernel)⟩
theorem z_okF_2_27 : z_okF 2 27 (2, 0) := ⟨_, rfl, by decide, z_w 238 (by decide +kernel) (by decide +kernel)⟩
theorem z_okF_0_139 : z_okF 0 139 (2, 0) := ⟨_, rfl, by decide, z_w 239 (by decide +kernel) (by decide +kernel)⟩
theorem z_okF_10_155 : z_okF 10 155 (2, 0) := ⟨_, rfl, by decide, z_w 240 (by decide +kernel) (by decide +kernel)⟩
theorem z_okF_2_9 : z_okF 2 9 (2, 1) := ⟨_, rfl, by decide, z_w 241 (by decide +kernel) (by decide +kernel)⟩
theorem z_okF_0_209 : z_okF 0 209 (2, 1) := ⟨_, rfl, by decide, z_w 242 (by decide +kernel) (by decide +kernel)⟩
theorem z_okF_10_248 : z_okF 10 248 (2, 1) := ⟨_, rfl, by decide, z_w 243 (by decide +kernel) (by decide +kernel)⟩
theorem z_okF_2_15 : z_okF 2 15 (2, 2) := ⟨_, rfl, by decide, z_w 244 (by decide +kernel) (by decide +kernel)⟩
theorem z_okF_2_18 : z_okF 2 18 (2, 3) := ⟨_, rfl, by decide, z_w 245 (by decide +kernel) (by decide +kernel)⟩
theorem z_okF_12_113 : z_okF 12 113 (2, 3) := ⟨_, rfl, by decide, z_w 246 (by decide +kernel) (by decide +kernel)⟩
theorem z_okF_0_170 : z_okF 0 170 (2, 3) := ⟨_, rfl, by decide, z_w 247 (by decide +kernel) (by decide +kernel)⟩
theorem z_okF_2_21 : z_okF 2 21 (2, 4) := ⟨_, rfl, by decide, z_w 248 (by decide +kernel) (by decide +kernel)⟩
theorem z_okF_0_184 : z_okF 0 184 (2, 4) := ⟨_, rfl, by decide, z_w 249 (by decide +kernel) (by decide +kernel)⟩
theorem z_okF_2_24 : z_okF 2 24 (2, 5) := ⟨_, rfl, by decide, z_w 250 (by decide +kernel) (by decide +kernel)⟩
theorem z_okF_0_191 : z_okF 0 191 (2, 5) := ⟨_, rfl, by decide, z_w 251 (by decide +kernel) (by decide +kernel)⟩
theorem z_okF_8_11 : z_okF 8 11 (8, 0) := ⟨_, rfl, by decide, z_w 271 (by decide +kernel) (by decide +kernel)⟩
theorem z_okF_4_88 : z_okF 4 88 (8, 0) := ⟨_, rfl, by decide, z_w 272 (by decide +kernel) (by decide +kernel)⟩
theorem z_okF_10_234 : z_okF 10 234 (8, 0) := ⟨_, rfl, by decide, z_w 273 (by decide +kernel) (by decide +kernel)⟩
theorem z_okF_8_17 : z_okF 8 17 (8, 1) := ⟨_, rfl, by decide, z_w 274 (by decide +kernel) (by decide +kernel)⟩
theorem z_okF_4_90 : z_okF 4 90 (8, 1) := ⟨_, rfl, by decide, z_w 275 (by decide +kernel) (by decide +kernel)⟩
theorem z_okF_10_238 : z_okF 10 238 (8, 1) := ⟨_, rfl, by decide, z_w 276 (by decide +kernel) (by decide +kernel)⟩
theorem z_okF_8_20 : z_okF 8 20 (8, 2) := ⟨_, rfl, by decide, z_w 277 (by decide +kernel) (by decide +kernel)⟩
theorem z_okF_4_93 : z_okF 4 93 (8, 2) := ⟨_, rfl, by decide, z_w 278 (by decide +kernel) (by decide +kernel)⟩
theorem z_okF_10_241 : z_okF 10 241 (8, 2) := ⟨_, rfl, by decide, z_w 279 (by decide +kernel) (by decide +kernel)⟩
theorem z_okF_8_23 : z_okF 8 23 (8, 3) := ⟨_, rfl, by decide, z_w 280 (by decide +kernel) (by decide +kernel)⟩
theorem z_okF_4_94 : z_okF 4 94 (8, 3) := ⟨_, rfl, by decide, z_w 281 (by decide +kernel) (by decide +kernel)⟩
theorem z_okF_10_244 : z_okF 10 244 (8, 3) := ⟨_, rfl, by decide, z_w 282 (by decide +kernel) (by decide +kernel)⟩
theorem z_okF_1_19 : z_okF 1 19 (1, 0) := ⟨_, rfl, by decide, z_w 298 (by decide +kernel) (by decide +kernel)⟩
theorem z_okF_10_167 : z_okF 10 167 (1, 0) := ⟨_, rfl, by decide, z_w 299 (by decide +kernel) (by decide +kernel)⟩
theorem z_okF_1_23 : z_okF 1 23 (1, 1) := ⟨_, rfl, by decide, z_w 300 (by decide +kernel) (by decide +kernel)⟩
theorem z_okF_1_9 : z_okF 1 9 (1, 2) := ⟨_, rfl, by decide, z_w 301 (by decide +kernel) (by decide +kernel)⟩
theorem z_okF_10_260 : z_okF 10 260 (1, 2) := ⟨_, rfl, by decide, z_w 302 (by decide +kernel) (by decide +kernel)⟩
theorem z_okF_1_13 : z_okF 1 13 (1, 3) := ⟨_, rfl, by decide, z_w 303 (by decide +kernel) (by decide +kernel)⟩
theorem z_okF_10_261 : z_okF 10 261 (1, 3) := ⟨_, rfl, by decide, z_w 304 (by decide +kernel) (by decide +kernel)⟩
theorem z_okF_1_16 : z_okF 1 16 (1, 4) := ⟨_, rfl, by decide, z_w 305 (by decide +kernel) (by decide +kernel)⟩
theorem z_okF_10_264 : z_okF 10 264 (1, 4) := ⟨_, rfl, by decide, z_w 306 (by decide +kernel) (by decide +kernel)⟩
theorem z_okF_0_53 : z_okF 0 53 (0, 0) := ⟨_, rfl, by decide, z_w 318 (by decide +kernel) (by decide +kernel)⟩
theorem z_okF_12_126 : z_okF 12 126 (0, 0) := ⟨_, rfl, by decide, z_w 319 (by decide +kernel) (by decide +kernel)⟩
theorem z_okF_10_148 : z_okF 10 148 (0, 0) := ⟨_, rfl, by decide, z_w 320 (by decide +kernel) (by decide +kernel)⟩
theorem z_okF_0_12 : z_okF 0 12 (0, 1) := ⟨_, rfl, by decide, z_w 321 (by decide +kernel) (by decide +kernel)⟩
theorem z_okF_12_56 : z_okF 12 56 (0, 1) := ⟨_, rfl, by decide, z_w 322 (by decide +kernel) (by decide +kernel)⟩
theorem z_okF_10_69 : z_okF 10 69 (0, 1) := ⟨_, rfl, by decide, z_w 323 (by decide +kernel) (by decide +kernel)⟩
theorem z_okF_0_21 : z_okF 0 21 (0, 2) := ⟨_, rfl, by decide, z_w 324 (by decide +kernel) (by decide +kernel)⟩
theorem z_okF_12_9 : z_okF 12 9 (0, 2) := ⟨_, rfl, by decide, z_w 325 (by decide +kernel) (by decide +kernel)⟩
theorem z_okF_4_26 : z_okF 4 26 (0, 2) := ⟨_, rfl, by decide, z_w 326 (by decide +kernel) (by decide +kernel)⟩
theorem z_okF_10_127 : z_okF 10 127 (0, 2) := ⟨_, rfl, by decide, z_w 327 (by decide +kernel) (by decide +kernel)⟩
theorem z_okF_0_28 : z_okF 0 28 (0, 3) := ⟨_, rfl, by decide, z_w 328 (by decide +kernel) (by decide +kernel)⟩
theorem z_okF_4_42 : z_okF 4 42 (0, 3) := ⟨_, rfl, by decide, z_w 329 (by decide +kernel) (by decide +kernel)⟩
theorem z_okF_12_39 : z_okF 12 39 (0, 3) := ⟨_, rfl, by decide, z_w 330 (by decide +kernel) (by decide +kernel)⟩
theorem z_okF_10_136 : z_okF 10 136 (0, 3) := ⟨_, rfl, by decide, z_w 331 (by decide +kernel) (by decide +kernel)⟩
theorem z_okF_0_35 : z_okF 0 35 (0, 4) := ⟨_, rfl, by decide, z_w 332 (by decide +kernel) (by decide +kernel)⟩
theorem z_okF_12_109 : z_okF 12 109 (0, 4) := ⟨_, rfl, by decide, z_w 333 (by decide +kernel) (by decide +kernel)⟩
theorem z_okF_10_151 : z_okF 10 151 (0, 4) := ⟨_, rfl, by decide, z_w 334 (by decide +kernel) (by decide +kernel)⟩
theorem z_okF_0_42 : z_okF 0 42 (0, 5) := ⟨_, rfl, by decide, z_w 335 (by decide +kernel) (by decide +kernel)⟩
theorem z_okF_4_73 : z_okF 4 73 (0, 5) := ⟨_, rfl, by decide, z_w 336 (by decide +kernel) (by decide +kernel)⟩
theorem z_okF_10_230 : z_okF 10 230 (0, 5) := ⟨_, rfl, by decide, z_w 337 (by decide +kernel) (by decide +kernel)⟩
theorem z_okF_0_49 : z_okF 0 49 (0, 6) := ⟨_, rfl, by decide, z_w 338 (by decide +kernel) (by decide +kernel)⟩
theorem z_okF_12_122 : z_okF 12 122 (0, 6) := ⟨_, rfl, by decide, z_w 339 (by decide +kernel) (by decide +kernel)⟩
theorem z_okF_10_163 : z_okF 10 163 (0, 6) := ⟨_, rfl, by decide, z_w 340 (by decide +kernel) (by decide +kernel)⟩
theorem z_okF_4_9 : z_okF 4 9 (4, 0) := ⟨_, rfl, by decide, z_w 364 (by decide +kernel) (by decide +kernel)⟩
theorem z_okF_4_15 : z_okF 4 15 (4, 1) := ⟨_, rfl, by decide, z_w 365 (by decide +kernel) (by decide +kernel)⟩
theorem z_okF_4_22 : z_okF 4 22 (4, 2) := ⟨_, rfl, by decide, z_w 366 (by decide +kernel) (by decide +kernel)⟩
theorem z_okF_3_13 : z_okF 3 13 (3, 0) := ⟨_, rfl, by decide, z_w 383 (by decide +kernel) (by decide +kernel)⟩
theorem z_okF_3_26 : z_okF 3 26 (3, 1) := ⟨_, rfl, by decide, z_w 384 (by decide +kernel) (by decide +kernel)⟩
theorem z_okF_3_18 : z_okF 3 18 (3, 2) := ⟨_, rfl, by decide, z_w 385 (by decide +kernel) (by decide +kernel)⟩
theorem z_okF_5_11 : z_okF 5 11 (5, 0) := ⟨_, rfl, by decide, z_w 399 (by decide +kernel) (by decide +kernel)⟩
theorem z_okF_5_28 : z_okF 5 28 (5, 1) := ⟨_, rfl, by decide, z_w 400 (by decide +kernel) (by decide +kernel)⟩
theorem z_okF_5_32 : z_okF 5 32 (5, 2) := ⟨_, rfl, by decide, z_w 401 (by decide +kernel) (by decide +kernel)⟩
theorem z_okF_5_35 : z_okF 5 35 (5, 3) := ⟨_, rfl, by decide, z_w 402 (by decide +kernel) (by decide +kernel)⟩
theorem z_okF_5_38 : z_okF 5 38 (5, 4) := ⟨_, rfl, by decide, z_w 403 (by decide +kernel) (by decide +kernel)⟩
theorem z_okF_10_107 : z_okF 10 107 (5, 4) := ⟨_, rfl, by decide, z_w 404 (by decide +kernel) (by decide +kernel)⟩
theorem z_okF_5_15 : z_okF 5 15 (5, 5) := ⟨_, rfl, by decide, z_w 405 (by decide +kernel) (by decide +kernel)⟩
theorem z_okF_10_121 : z_okF 10 121 (5, 5) := ⟨_, rfl, by decide, z_w 406 (by decide +kernel) (by decide +kernel)⟩
theorem z_okF_5_18 : z_okF 5 18 (5, 6) := ⟨_, rfl, by decide, z_w 407 (by decide +kernel) (by decide +kernel)⟩
theorem z_okF_10_114 : z_okF 10 114 (5, 6) := ⟨_, rfl, by decide, z_w 408 (by decide +kernel) (by decide +kernel)⟩
theorem z_okF_5_21 : z_okF 5 21 (5, 7) := ⟨_, rfl, by decide, z_w 409 (by decide +kernel) (by decide +kernel)⟩
theorem z_okF_10_118 : z_okF 10 118 (5, 7) := ⟨_, rfl, by decide, z_w 410 (by decide +kernel) (by decide +kernel)⟩
theorem z_okF_10_10 : z_okF 10 10 (10, 0) := ⟨_, rfl, by decide, z_w 428 (by decide +kernel) (by decide +kernel)⟩
theorem z_okF_10_16 : z_okF 10 16 (10, 1) := ⟨_, rfl, by decide, z_w 429 (by decide +kernel) (by decide +kernel)⟩
theorem z_okF_10_22 : z_okF 10 22 (10, 2) := ⟨_, rfl, by decide, z_w 430 (by decide +kernel) (by decide +kernel)⟩
theorem z_okF_10_29 : z_okF 10 29 (10, 3) := ⟨_, rfl, by decide, z_w 431 (by decide +kernel) (by decide +kernel)⟩
theorem z_okF_10_36 : z_okF 10 36 (10, 4) := ⟨_, rfl, by decide, z_w 432 (by decide +kernel) (by decide +kernel)⟩
theorem z_okF_11_7 : z_okF 11 7 (11, 0) := ⟨_, rfl, by decide, z_w 905 (by decide +kernel) (by decide +kernel)⟩
theorem z_okF_11_13 : z_okF 11 13 (11, 1) := ⟨_, rfl, by decide, z_w 906 (by decide +kernel) (by decide +kernel)⟩
theorem z_okF_11_41 : z_okF 11 41 (11, 2) := ⟨_, rfl, by decide, z_w 907 (by decide +kernel) (by decide +kernel)⟩
theorem z_okF_11_19 : z_okF 11 19 (11, 3) := ⟨_, rfl, by decide, z_w 908 (by decide +kernel) (by decide +kernel)⟩
theorem z_okF_11_37 : z_okF 11 37 (11, 4) := ⟨_, rfl, by decide, z_w 909 (by decide +kernel) (by decide +kernel)⟩
theorem z_okF_11_22 : z_okF 11 22 (11, 5) := ⟨_, rfl, by decide, z_w 910 (by decide +kernel) (by decide +kernel)⟩
theorem z_okF_11_25 : z_okF 11 25 (11, 6) := ⟨_, rfl, by decide, z_w 911 (by decide +kernel) (by decide +kernel)⟩
theorem z_okF_11_28 : z_okF 11 28 (11, 7) := ⟨_, rfl, by decide, z_w 912 (by decide +kernel) (by decide +kernel)⟩
theorem z_okF_11_31 : z_okF 11 31 (11, 8) := ⟨_, rfl, by decide, z_w 913 (by decide +kernel) (by decide +kernel)⟩
theorem z_okF_11_34 : z_okF 11 34 (11, 9) := ⟨_, rfl, by decide, z_w 914 (by decide +kernel) (by decide +kernel)⟩
theorem z_okF_11_164 : z_okF 11 164 (11, 10) := ⟨_, rfl, by decide, z_w 915 (by decide +kernel) (by decide +kernel)⟩
theorem z_okF_11_167 : z_okF 11 167 (11, 11) := ⟨_, rfl, by decide, z_w 916 (by decide +kernel) (by decide +kernel)⟩
theorem z_okF_11_170 : z_okF 11 170 (11, 12) := ⟨_, rfl, by decide, z_w 917 (by decide +kernel) (by decide +kernel)⟩
theorem z_okF_11_220 : z_okF 11 220 (11, 13) := ⟨_, rfl, by decide, z_w 918 (by decide +kernel) (by decide +kernel)⟩
theorem z_okF_a0 : ∀ q ∈ z_fl_0, z_okF 0 q.1 q.2 := List.forall_mem_cons.mpr ⟨z_okF_0_12, List.forall_mem_cons.mpr ⟨z_okF_0_21, List.forall_mem_cons.mpr ⟨z_okF_0_28, List.forall_mem_cons.mpr ⟨z_okF_0_35, List.forall_mem_cons.mpr ⟨z_okF_0_42, List.forall_mem_cons.mpr ⟨z_okF_0_49, List.forall_mem_cons.mpr ⟨z_okF_0_53, List.forall_mem_cons.mpr ⟨z_okF_0_84, List.forall_mem_cons.mpr ⟨z_okF_0_91, List.forall_mem_cons.mpr ⟨z_okF_0_111, List.forall_mem_cons.mpr ⟨z_okF_0_115, List.forall_mem_cons.mpr ⟨z_okF_0_118, List.forall_mem_cons.mpr ⟨z_okF_0_121, List.forall_mem_cons.mpr ⟨z_okF_0_124, List.forall_mem_cons.mpr ⟨z_okF_0_139, List.forall_mem_cons.mpr ⟨z_okF_0_158, List.forall_mem_cons.mpr ⟨z_okF_0_166, List.forall_mem_cons.mpr ⟨z_okF_0_170, List.forall_mem_cons.mpr ⟨z_okF_0_184, List.forall_mem_cons.mpr ⟨z_okF_0_187, List.forall_mem_cons.mpr ⟨z_okF_0_191, List.forall_mem_cons.mpr ⟨z_okF_0_194, List.forall_mem_cons.mpr ⟨z_okF_0_200, List.forall_mem_cons.mpr ⟨z_okF_0_206, List.forall_mem_cons.mpr ⟨z_okF_0_209, fun _ h => absurd h List.not_mem_nil⟩⟩⟩⟩⟩⟩⟩⟩⟩⟩⟩⟩⟩⟩⟩⟩⟩⟩⟩⟩⟩⟩⟩⟩⟩
theorem z_okF_a1 : ∀ q ∈ z_fl_1, z_okF 1 q.1 q.2 := List.forall_mem_cons.mpr ⟨z_okF_1_9, List.forall_mem_cons.mpr ⟨z_okF_1_13, List.forall_mem_cons.mpr ⟨z_okF_1_16, List.forall_mem_cons.mpr ⟨z_okF_1_19, List.forall_mem_cons.mpr ⟨z_okF_1_23, fun _ h => absurd h List.not_mem_nil⟩⟩⟩⟩⟩
theorem z_okF_a2 : ∀ q ∈ z_fl_2, z_okF 2 q.1 q.2 := List.forall_mem_cons.mpr ⟨z_okF_2_9, List.forall_mem_cons.mpr ⟨z_okF_2_15, List.forall_mem_cons.mpr ⟨z_okF_2_18, List.forall_mem_cons.mpr ⟨z_okF_2_21, List.forall_mem_cons.mpr ⟨z_okF_2_24, List.forall_mem_cons.mpr ⟨z_okF_2_27, fun _ h => absurd h List.not_mem_nil⟩⟩⟩⟩⟩⟩
theorem z_okF_a3 : ∀ q ∈ z_fl_3, z_okF 3 q.1 q.2 := List.forall_mem_cons.mpr ⟨z_okF_3_13, List.forall_mem_cons.mpr ⟨z_okF_3_18, List.forall_mem_cons.mpr ⟨z_okF_3_26, fun _ h => absurd h List.not_mem_nil⟩⟩⟩
theorem z_okF_a4 : ∀ q ∈ z_fl_4, z_okF 4 q.1 q.2 := List.forall_mem_cons.mpr ⟨z_okF_4_9, List.forall_mem_cons.mpr ⟨z_okF_4_15, List.forall_mem_cons.mpr ⟨z_okF_4_22, List.forall_mem_cons.mpr ⟨z_okF_4_26, List.forall_mem_cons.mpr ⟨z_okF_4_32, List.forall_mem_cons.mpr ⟨z_okF_4_42, List.forall_mem_cons.mpr ⟨z_okF_4_46, List.forall_mem_cons.mpr ⟨z_okF_4_51, List.forall_mem_cons.mpr ⟨z_okF_4_73, List.forall_mem_cons.mpr ⟨z_okF_4_80, List.forall_mem_cons.mpr ⟨z_okF_4_83, List.forall_mem_cons.mpr ⟨z_okF_4_88, List.forall_mem_cons.mpr ⟨z_okF_4_90, List.forall_mem_cons.mpr ⟨z_okF_4_93, List.forall_mem_cons.mpr ⟨z_okF_4_94, List.forall_mem_cons.mpr ⟨z_okF_4_95, List.forall_mem_cons.mpr ⟨z_okF_4_98, fun _ h => absurd h List.not_mem_nil⟩⟩⟩⟩⟩⟩⟩⟩⟩⟩⟩⟩⟩⟩⟩⟩⟩
theorem z_okF_a5 : ∀ q ∈ z_fl_5, z_okF 5 q.1 q.2 := List.forall_mem_cons.mpr ⟨z_okF_5_11, List.forall_mem_cons.mpr ⟨z_okF_5_15, List.forall_mem_cons.mpr ⟨z_okF_5_18, List.forall_mem_cons.mpr ⟨z_okF_5_21, List.forall_mem_cons.mpr ⟨z_okF_5_28, List.forall_mem_cons.mpr ⟨z_okF_5_32, List.forall_mem_cons.mpr ⟨z_okF_5_35, List.forall_mem_cons.mpr ⟨z_okF_5_38, fun _ h => absurd h List.not_mem_nil⟩⟩⟩⟩⟩⟩⟩⟩
theorem z_okF_a6 : ∀ q ∈ z_fl_6, z_okF 6 q.1 q.2 := List.forall_mem_cons.mpr ⟨z_okF_6_9, List.forall_mem_cons.mpr ⟨z_okF_6_15, List.forall_mem_cons.mpr ⟨z_okF_6_18, List.forall_mem_cons.mpr ⟨z_okF_6_21, List.forall_mem_cons.mpr ⟨z_okF_6_24, List.forall_mem_cons.mpr ⟨z_okF_6_28, List.forall_mem_cons.mpr ⟨z_okF_6_31, List.forall_mem_cons.mpr ⟨z_okF_6_34, List.forall_mem_cons.mpr ⟨z_okF_6_37, List.forall_mem_cons.mpr ⟨z_okF_6_40, List.forall_mem_cons.mpr ⟨z_okF_6_43, List.forall_mem_cons.mpr ⟨z_okF_6_47, fun _ h => absurd h List.not_mem_nil⟩⟩⟩⟩⟩⟩⟩⟩⟩⟩⟩⟩
theorem z_okF_a7 : ∀ q ∈ z_fl_7, z_okF 7 q.1 q.2 := List.forall_mem_cons.mpr ⟨z_okF_7_9, List.forall_mem_cons.mpr ⟨z_okF_7_19, List.forall_mem_cons.mpr ⟨z_okF_7_23, List.forall_mem_cons.mpr ⟨z_okF_7_26, List.forall_mem_cons.mpr ⟨z_okF_7_29, List.forall_mem_cons.mpr ⟨z_okF_7_33, List.forall_mem_cons.mpr ⟨z_okF_7_36, List.forall_mem_cons.mpr ⟨z_okF_7_39, fun _ h => absurd h List.not_mem_nil⟩⟩⟩⟩⟩⟩⟩⟩
theorem z_okF_a8 : ∀ q ∈ z_fl_8, z_okF 8 q.1 q.2 := List.forall_mem_cons.mpr ⟨z_okF_8_11, List.forall_mem_cons.mpr ⟨z_okF_8_17, List.forall_mem_cons.mpr ⟨z_okF_8_20, List.forall_mem_cons.mpr ⟨z_okF_8_23, fun _ h => absurd h List.not_mem_nil⟩⟩⟩⟩
theorem z_okF_a9 : ∀ q ∈ z_fl_9, z_okF 9 q.1 q.2 := List.forall_mem_cons.mpr ⟨z_okF_9_9, List.forall_mem_cons.mpr ⟨z_okF_9_15, List.forall_mem_cons.mpr ⟨z_okF_9_19, List.forall_mem_cons.mpr ⟨z_okF_9_22, fun _ h => absurd h List.not_mem_nil⟩⟩⟩⟩
theorem z_okF_a10 : ∀ q ∈ z_fl_10, z_okF 10 q.1 q.2 := List.forall_mem_cons.mpr ⟨z_okF_10_10, List.forall_mem_cons.mpr ⟨z_okF_10_16, List.forall_mem_cons.mpr ⟨z_okF_10_22, List.forall_mem_cons.mpr ⟨z_okF_10_29, List.forall_mem_cons.mpr ⟨z_okF_10_36, List.forall_mem_cons.mpr ⟨z_okF_10_69, List.forall_mem_cons.mpr ⟨z_okF_10_107, List.forall_mem_cons.mpr ⟨z_okF_10_114, List.forall_mem_cons.mpr ⟨z_okF_10_118, List.forall_mem_cons.mpr ⟨z_okF_10_121, List.forall_mem_cons.mpr ⟨z_okF_10_127, List.forall_mem_cons.mpr ⟨z_okF_10_131, List.forall_mem_cons.mpr ⟨z_okF_10_136, List.forall_mem_cons.mpr ⟨z_okF_10_140, List.forall_mem_cons.mpr ⟨z_okF_10_145, List.forall_mem_cons.mpr ⟨z_okF_10_148, List.forall_mem_cons.mpr ⟨z_okF_10_151, List.forall_mem_cons.mpr ⟨z_okF_10_155, List.forall_mem_cons.mpr ⟨z_okF_10_163, List.forall_mem_cons.mpr ⟨z_okF_10_167, List.forall_mem_cons.mpr ⟨z_okF_10_176, List.forall_mem_cons.mpr ⟨z_okF_10_179, List.forall_mem_cons.mpr ⟨z_okF_10_182, List.forall_mem_cons.mpr ⟨z_okF_10_185, List.forall_mem_cons.mpr ⟨z_okF_10_188, List.forall_mem_cons.mpr ⟨z_okF_10_191, List.forall_mem_cons.mpr ⟨z_okF_10_194, List.forall_mem_cons.mpr ⟨z_okF_10_200, List.forall_mem_cons.mpr ⟨z_okF_10_208, List.forall_mem_cons.mpr ⟨z_okF_10_216, List.forall_mem_cons.mpr ⟨z_okF_10_230, List.forall_mem_cons.mpr ⟨z_okF_10_234, List.forall_mem_cons.mpr ⟨z_okF_10_238, List.forall_mem_cons.mpr ⟨z_okF_10_241, List.forall_mem_cons.mpr ⟨z_okF_10_244, List.forall_mem_cons.mpr ⟨z_okF_10_248, List.forall_mem_cons.mpr ⟨z_okF_10_260, List.forall_mem_cons.mpr ⟨z_okF_10_261, List.forall_mem_cons.mpr ⟨z_okF_10_264, fun _ h => absurd h List.not_mem_nil⟩⟩⟩⟩⟩⟩⟩⟩⟩⟩⟩⟩⟩⟩⟩⟩⟩⟩⟩⟩⟩⟩⟩⟩⟩⟩⟩⟩⟩⟩⟩⟩⟩⟩⟩⟩⟩⟩⟩
theorem z_okF_a11 : ∀ q ∈ z_fl_11, z_okF 11 q.1 q.2 := List.forall_mem_cons.mpr ⟨z_okF_11_7, List.forall_mem_cons.mpr ⟨z_okF_11_13, List.forall_mem_cons.mpr ⟨z_okF_11_19, List.forall_mem_cons.mpr ⟨z_okF_11_22, List.forall_mem_cons.mpr ⟨z_okF_11_25, List.forall_mem_cons.mpr ⟨z_okF_11_28, List.forall_mem_cons.mpr ⟨z_okF_11_31, List.forall_mem_cons.mpr ⟨z_okF_11_34, List.forall_mem_cons.mpr ⟨z_okF_11_37, List.forall_mem_cons.mpr ⟨z_okF_11_41, List.forall_mem_cons.mpr ⟨z_okF_11_164, List.forall_mem_cons.mpr ⟨z_okF_11_167, List.forall_mem_cons.mpr ⟨z_okF_11_170, List.forall_mem_cons.mpr ⟨z_okF_11_220, fun _ h => absurd h List.not_mem_nil⟩⟩⟩⟩⟩⟩⟩⟩⟩⟩⟩⟩⟩⟩
theorem z_okF_a12 : ∀ q ∈ z_fl_12, z_okF 12 q.1 q.2 := List.forall_mem_cons.mpr ⟨z_okF_12_9, List.forall_mem_cons.mpr ⟨z_okF_12_15, List.forall_mem_cons.mpr ⟨z_okF_12_39, List.forall_mem_cons.mpr ⟨z_okF_12_43, List.forall_mem_cons.mpr ⟨z_okF_12_52, List.forall_mem_cons.mpr ⟨z_okF_12_56, List.forall_mem_cons.mpr ⟨z_okF_12_60, List.forall_mem_cons.mpr ⟨z_okF_12_65, List.forall_mem_cons.mpr ⟨z_okF_12_75, List.forall_mem_cons.mpr ⟨z_okF_12_88, List.forall_mem_cons.mpr ⟨z_okF_12_92, List.forall_mem_cons.mpr ⟨z_okF_12_96, List.forall_mem_cons.mpr ⟨z_okF_12_99, List.forall_mem_cons.mpr ⟨z_okF_12_102, List.forall_mem_cons.mpr ⟨z_okF_12_105, List.forall_mem_cons.mpr ⟨z_okF_12_109, List.forall_mem_cons.mpr ⟨z_okF_12_113, List.forall_mem_cons.mpr ⟨z_okF_12_118, List.forall_mem_cons.mpr ⟨z_okF_12_122, List.forall_mem_cons.mpr ⟨z_okF_12_126, fun _ h => absurd h List.not_mem_nil⟩⟩⟩⟩⟩⟩⟩⟩⟩⟩⟩⟩⟩⟩⟩⟩⟩⟩⟩⟩
theorem z_okF_all {own idx : Nat} : ∀ {v}, z_fl own idx = some v → z_okF own idx v := by
  intro v h
  unfold z_fl at h
  split at h
  · exact z_okF_a0 _ (z_look h)
  · exact z_okF_a1 _ (z_look h)
  · exact z_okF_a2 _ (z_look h)
  · exact z_okF_a3 _ (z_look h)
  · exact z_okF_a4 _ (z_look h)
  · exact z_okF_a5 _ (z_look h)
  · exact z_okF_a6 _ (z_look h)
  · exact z_okF_a7 _ (z_look h)
  · exact z_okF_a8 _ (z_look h)
  · exact z_okF_a9 _ (z_look h)
  · exact z_okF_a10 _ (z_look h)
  · exact z_okF_a11 _ (z_look h)
  · exact z_okF_a12 _ (z_look h)
  · cases h
def z_okS (own idx : Nat) (v : Value) : Prop := match v with
  | .int x => Cond.constant (z_on own) idx x ∈ z_wsU
  | .float x => Cond.constantFloat (z_on own) idx x ∈ z_wsU
  | .long x => Cond.constantLong (z_on own) idx x ∈ z_wsU
  | _ => True
theorem z_okS_10_296 : z_okS 10 296 (.float 1067533592) := z_w 95 (by decide +kernel) (by decide +kernel)
theorem z_okS_10_297 : z_okS 10 297 (.float 1070280693) := z_w 96 (by decide +kernel) (by decide +kernel)
theorem z_okS_6_60 : z_okS 6 60 (.float 1056964608) := z_w 632 (by decide +kernel) (by decide +kernel)
theorem z_okS_6_61 : z_okS 6 61 (.float 1040187392) := z_w 633 (by decide +kernel) (by decide +kernel)
theorem z_okS_12_95 : z_okS 12 95 (.float 1082130432) := z_w 689 (by decide +kernel) (by decide +kernel)
theorem z_okS_14_265 : z_okS 14 265 (.int 1431655765) := z_w 817 (by decide +kernel) (by decide +kernel)
theorem z_okS_14_266 : z_okS 14 266 (.int 858993459) := z_w 818 (by decide +kernel) (by decide +kernel)
theorem z_okS_14_267 : z_okS 14 267 (.int 252645135) := z_w 819 (by decide +kernel) (by decide +kernel)
theorem z_okS_10_298 : z_okS 10 298 (.float 1258291200) := z_w 827 (by decide +kernel) (by decide +kernel)
theorem z_okS_10_219 : z_okS 10 219 (.float 1090519040) := z_w 836 (by decide +kernel) (by decide +kernel)
theorem z_okS_10_267 : z_okS 10 267 (.long 17) := z_w 878 (by decide +kernel) (by decide +kernel)
theorem z_okS_10_269 : z_okS 10 269 (.long 31) := z_w 879 (by decide +kernel) (by decide +kernel)
theorem z_okS_11_17 : z_okS 11 17 (.float 1067533592) := z_w 903 (by decide +kernel) (by decide +kernel)
theorem z_okS_11_18 : z_okS 11 18 (.float 1070280693) := z_w 904 (by decide +kernel) (by decide +kernel)
theorem z_okS_11_64 : z_okS 11 64 (.float 1056964608) := z_w 1051 (by decide +kernel) (by decide +kernel)
theorem z_okS_11_65 : z_okS 11 65 (.float 1040187392) := z_w 1052 (by decide +kernel) (by decide +kernel)
theorem z_okS_11_115 : z_okS 11 115 (.float 1082130432) := z_w 1101 (by decide +kernel) (by decide +kernel)
theorem z_okS_13_77 : z_okS 13 77 (.int 2143289344) := z_w 1200 (by decide +kernel) (by decide +kernel)
theorem z_okS_11_217 : z_okS 11 217 (.float 1090519040) := z_w 1209 (by decide +kernel) (by decide +kernel)
theorem z_okS_11_224 : z_okS 11 224 (.long 17) := z_w 1238 (by decide +kernel) (by decide +kernel)
theorem z_okS_11_218 : z_okS 11 218 (.long 31) := z_w 1244 (by decide +kernel) (by decide +kernel)
theorem z_okS_a6 : ∀ q ∈ z_cs_6, z_okS 6 q.1 q.2 := List.forall_mem_cons.mpr ⟨z_okS_6_60, List.forall_mem_cons.mpr ⟨z_okS_6_61, fun _ h => absurd h List.not_mem_nil⟩⟩
theorem z_okS_a10 : ∀ q ∈ z_cs_10, z_okS 10 q.1 q.2 := List.forall_mem_cons.mpr ⟨z_okS_10_219, List.forall_mem_cons.mpr ⟨z_okS_10_267, List.forall_mem_cons.mpr ⟨z_okS_10_269, List.forall_mem_cons.mpr ⟨z_okS_10_296, List.forall_mem_cons.mpr ⟨z_okS_10_297, List.forall_mem_cons.mpr ⟨z_okS_10_298, fun _ h => absurd h List.not_mem_nil⟩⟩⟩⟩⟩⟩
theorem z_okS_a11 : ∀ q ∈ z_cs_11, z_okS 11 q.1 q.2 := List.forall_mem_cons.mpr ⟨z_okS_11_17, List.forall_mem_cons.mpr ⟨z_okS_11_18, List.forall_mem_cons.mpr ⟨z_okS_11_64, List.forall_mem_cons.mpr ⟨z_okS_11_65, List.forall_mem_cons.mpr ⟨z_okS_11_115, List.forall_mem_cons.mpr ⟨z_okS_11_217, List.forall_mem_cons.mpr ⟨z_okS_11_218, List.forall_mem_cons.mpr ⟨z_okS_11_224, fun _ h => absurd h List.not_mem_nil⟩⟩⟩⟩⟩⟩⟩⟩
theorem z_okS_a12 : ∀ q ∈ z_cs_12, z_okS 12 q.1 q.2 := List.forall_mem_cons.mpr ⟨z_okS_12_95, fun _ h => absurd h List.not_mem_nil⟩
theorem z_okS_a13 : ∀ q ∈ z_cs_13, z_okS 13 q.1 q.2 := List.forall_mem_cons.mpr ⟨z_okS_13_77, fun _ h => absurd h List.not_mem_nil⟩
theorem z_okS_a14 : ∀ q ∈ z_cs_14, z_okS 14 q.1 q.2 := List.forall_mem_cons.mpr ⟨z_okS_14_265, List.forall_mem_cons.mpr ⟨z_okS_14_266, List.forall_mem_cons.mpr ⟨z_okS_14_267, fun _ h => absurd h List.not_mem_nil⟩⟩⟩
theorem z_okS_all {own idx : Nat} : ∀ {v}, z_cs own idx = some v → z_okS own idx v := by
  intro v h
  unfold z_cs at h
  split at h
  · exact z_okS_a6 _ (z_look h)
  · exact z_okS_a10 _ (z_look h)
  · exact z_okS_a11 _ (z_look h)
  · exact z_okS_a12 _ (z_look h)
  · exact z_okS_a13 _ (z_look h)
  · exact z_okS_a14 _ (z_look h)
  · cases h
def z_okN (own idx ci : Nat) : Prop := ∃ q : vw_C, vwCl[ci]? = some q ∧ Cond.classLink (z_on own) idx q.1 ∈ z_wsU
theorem z_okN_15_7 : z_okN 15 7 10 := ⟨_, rfl, z_w 72 (by decide +kernel) (by decide +kernel)⟩
theorem z_okN_10_7 : z_okN 10 7 0 := ⟨_, rfl, z_w 80 (by decide +kernel) (by decide +kernel)⟩
theorem z_okN_0_9 : z_okN 0 9 7 := ⟨_, rfl, z_w 86 (by decide +kernel) (by decide +kernel)⟩
theorem z_okN_0_18 : z_okN 0 18 9 := ⟨_, rfl, z_w 132 (by decide +kernel) (by decide +kernel)⟩
theorem z_okN_0_25 : z_okN 0 25 6 := ⟨_, rfl, z_w 156 (by decide +kernel) (by decide +kernel)⟩
theorem z_okN_0_32 : z_okN 0 32 2 := ⟨_, rfl, z_w 232 (by decide +kernel) (by decide +kernel)⟩
theorem z_okN_0_39 : z_okN 0 39 8 := ⟨_, rfl, z_w 265 (by decide +kernel) (by decide +kernel)⟩
theorem z_okN_0_46 : z_okN 0 46 1 := ⟨_, rfl, z_w 292 (by decide +kernel) (by decide +kernel)⟩
theorem z_okN_10_19 : z_okN 10 19 4 := ⟨_, rfl, z_w 356 (by decide +kernel) (by decide +kernel)⟩
theorem z_okN_4_19 : z_okN 4 19 8 := ⟨_, rfl, z_w 362 (by decide +kernel) (by decide +kernel)⟩
theorem z_okN_10_26 : z_okN 10 26 3 := ⟨_, rfl, z_w 374 (by decide +kernel) (by decide +kernel)⟩
theorem z_okN_3_11 : z_okN 3 11 0 := ⟨_, rfl, z_w 380 (by decide +kernel) (by decide +kernel)⟩
theorem z_okN_10_33 : z_okN 10 33 5 := ⟨_, rfl, z_w 393 (by decide +kernel) (by decide +kernel)⟩
theorem z_okN_15_10 : z_okN 15 10 11 := ⟨_, rfl, z_w 897 (by decide +kernel) (by decide +kernel)⟩
theorem z_okN_a0 : ∀ q ∈ z_nc_0, z_okN 0 q.1 q.2 := List.forall_mem_cons.mpr ⟨z_okN_0_9, List.forall_mem_cons.mpr ⟨z_okN_0_18, List.forall_mem_cons.mpr ⟨z_okN_0_25, List.forall_mem_cons.mpr ⟨z_okN_0_32, List.forall_mem_cons.mpr ⟨z_okN_0_39, List.forall_mem_cons.mpr ⟨z_okN_0_46, fun _ h => absurd h List.not_mem_nil⟩⟩⟩⟩⟩⟩
theorem z_okN_a3 : ∀ q ∈ z_nc_3, z_okN 3 q.1 q.2 := List.forall_mem_cons.mpr ⟨z_okN_3_11, fun _ h => absurd h List.not_mem_nil⟩
theorem z_okN_a4 : ∀ q ∈ z_nc_4, z_okN 4 q.1 q.2 := List.forall_mem_cons.mpr ⟨z_okN_4_19, fun _ h => absurd h List.not_mem_nil⟩
theorem z_okN_a10 : ∀ q ∈ z_nc_10, z_okN 10 q.1 q.2 := List.forall_mem_cons.mpr ⟨z_okN_10_7, List.forall_mem_cons.mpr ⟨z_okN_10_19, List.forall_mem_cons.mpr ⟨z_okN_10_26, List.forall_mem_cons.mpr ⟨z_okN_10_33, fun _ h => absurd h List.not_mem_nil⟩⟩⟩⟩
theorem z_okN_a15 : ∀ q ∈ z_nc_15, z_okN 15 q.1 q.2 := List.forall_mem_cons.mpr ⟨z_okN_15_7, List.forall_mem_cons.mpr ⟨z_okN_15_10, fun _ h => absurd h List.not_mem_nil⟩⟩
theorem z_okN_all {own idx : Nat} : ∀ {v}, z_nc own idx = some v → z_okN own idx v := by
  intro v h
  unfold z_nc at h
  split at h
  · exact z_okN_a0 _ (z_look h)
  · exact z_okN_a3 _ (z_look h)
  · exact z_okN_a4 _ (z_look h)
  · exact z_okN_a10 _ (z_look h)
  · exact z_okN_a15 _ (z_look h)
  · cases h
def z_okR (own idx v : Nat) : Prop := match v with
  | 0 => Cond.methodLink (z_on own) idx Lib.objectInit ∈ z_wsU
  | 1 => Cond.methodLink (z_on own) idx arraycopyName ∈ z_wsU
  | 2 => Cond.methodLink (z_on own) idx ⟨"java/lang/Float", "floatToRawIntBits", "(F)I"⟩ ∈ z_wsU
  | _ => True
theorem z_okR_10_1 : z_okR 10 1 0 := z_w 77 (by decide +kernel) (by decide +kernel)
theorem z_okR_0_3 : z_okR 0 3 0 := z_w 85 (by decide +kernel) (by decide +kernel)
theorem z_okR_7_3 : z_okR 7 3 0 := z_w 91 (by decide +kernel) (by decide +kernel)
theorem z_okR_9_3 : z_okR 9 3 0 := z_w 137 (by decide +kernel) (by decide +kernel)
theorem z_okR_6_3 : z_okR 6 3 0 := z_w 161 (by decide +kernel) (by decide +kernel)
theorem z_okR_2_3 : z_okR 2 3 0 := z_w 237 (by decide +kernel) (by decide +kernel)
theorem z_okR_8_3 : z_okR 8 3 0 := z_w 270 (by decide +kernel) (by decide +kernel)
theorem z_okR_1_1 : z_okR 1 1 0 := z_w 297 (by decide +kernel) (by decide +kernel)
theorem z_okR_4_3 : z_okR 4 3 0 := z_w 361 (by decide +kernel) (by decide +kernel)
theorem z_okR_3_5 : z_okR 3 5 0 := z_w 379 (by decide +kernel) (by decide +kernel)
theorem z_okR_5_3 : z_okR 5 3 0 := z_w 398 (by decide +kernel) (by decide +kernel)
theorem z_okR_9_25 : z_okR 9 25 1 := z_w 464 (by decide +kernel) (by decide +kernel)
theorem z_okR_6_50 : z_okR 6 50 1 := z_w 471 (by decide +kernel) (by decide +kernel)
theorem z_okR_2_31 : z_okR 2 31 1 := z_w 476 (by decide +kernel) (by decide +kernel)
theorem z_okR_8_27 : z_okR 8 27 1 := z_w 481 (by decide +kernel) (by decide +kernel)
theorem z_okR_1_26 : z_okR 1 26 1 := z_w 486 (by decide +kernel) (by decide +kernel)
theorem z_okR_11_1 : z_okR 11 1 0 := z_w 902 (by decide +kernel) (by decide +kernel)
theorem z_okR_13_74 : z_okR 13 74 2 := z_w 1197 (by decide +kernel) (by decide +kernel)
theorem z_okR_a0 : ∀ q ∈ z_nt_0, z_okR 0 q.1 q.2 := List.forall_mem_cons.mpr ⟨z_okR_0_3, fun _ h => absurd h List.not_mem_nil⟩
theorem z_okR_a1 : ∀ q ∈ z_nt_1, z_okR 1 q.1 q.2 := List.forall_mem_cons.mpr ⟨z_okR_1_1, List.forall_mem_cons.mpr ⟨z_okR_1_26, fun _ h => absurd h List.not_mem_nil⟩⟩
theorem z_okR_a2 : ∀ q ∈ z_nt_2, z_okR 2 q.1 q.2 := List.forall_mem_cons.mpr ⟨z_okR_2_3, List.forall_mem_cons.mpr ⟨z_okR_2_31, fun _ h => absurd h List.not_mem_nil⟩⟩
theorem z_okR_a3 : ∀ q ∈ z_nt_3, z_okR 3 q.1 q.2 := List.forall_mem_cons.mpr ⟨z_okR_3_5, fun _ h => absurd h List.not_mem_nil⟩
theorem z_okR_a4 : ∀ q ∈ z_nt_4, z_okR 4 q.1 q.2 := List.forall_mem_cons.mpr ⟨z_okR_4_3, fun _ h => absurd h List.not_mem_nil⟩
theorem z_okR_a5 : ∀ q ∈ z_nt_5, z_okR 5 q.1 q.2 := List.forall_mem_cons.mpr ⟨z_okR_5_3, fun _ h => absurd h List.not_mem_nil⟩
theorem z_okR_a6 : ∀ q ∈ z_nt_6, z_okR 6 q.1 q.2 := List.forall_mem_cons.mpr ⟨z_okR_6_3, List.forall_mem_cons.mpr ⟨z_okR_6_50, fun _ h => absurd h List.not_mem_nil⟩⟩
theorem z_okR_a7 : ∀ q ∈ z_nt_7, z_okR 7 q.1 q.2 := List.forall_mem_cons.mpr ⟨z_okR_7_3, fun _ h => absurd h List.not_mem_nil⟩
theorem z_okR_a8 : ∀ q ∈ z_nt_8, z_okR 8 q.1 q.2 := List.forall_mem_cons.mpr ⟨z_okR_8_3, List.forall_mem_cons.mpr ⟨z_okR_8_27, fun _ h => absurd h List.not_mem_nil⟩⟩
theorem z_okR_a9 : ∀ q ∈ z_nt_9, z_okR 9 q.1 q.2 := List.forall_mem_cons.mpr ⟨z_okR_9_3, List.forall_mem_cons.mpr ⟨z_okR_9_25, fun _ h => absurd h List.not_mem_nil⟩⟩
theorem z_okR_a10 : ∀ q ∈ z_nt_10, z_okR 10 q.1 q.2 := List.forall_mem_cons.mpr ⟨z_okR_10_1, fun _ h => absurd h List.not_mem_nil⟩
theorem z_okR_a11 : ∀ q ∈ z_nt_11, z_okR 11 q.1 q.2 := List.forall_mem_cons.mpr ⟨z_okR_11_1, fun _ h => absurd h List.not_mem_nil⟩
theorem z_okR_a13 : ∀ q ∈ z_nt_13, z_okR 13 q.1 q.2 := List.forall_mem_cons.mpr ⟨z_okR_13_74, fun _ h => absurd h List.not_mem_nil⟩
theorem z_okR_all {own idx : Nat} : ∀ {v}, z_nt own idx = some v → z_okR own idx v := by
  intro v h
  unfold z_nt at h
  split at h
  · exact z_okR_a0 _ (z_look h)
  · exact z_okR_a1 _ (z_look h)
  · exact z_okR_a2 _ (z_look h)
  · exact z_okR_a3 _ (z_look h)
  · exact z_okR_a4 _ (z_look h)
  · exact z_okR_a5 _ (z_look h)
  · exact z_okR_a6 _ (z_look h)
  · exact z_okR_a7 _ (z_look h)
  · exact z_okR_a8 _ (z_look h)
  · exact z_okR_a9 _ (z_look h)
  · exact z_okR_a10 _ (z_look h)
  · exact z_okR_a11 _ (z_look h)
  · exact z_okR_a13 _ (z_look h)
  · cases h
theorem z_wO1 : Cond.instanceMethod Lib.objectInit ∈ z_wsU := z_w 78 (by decide +kernel) (by decide +kernel)
theorem z_wO2 : Cond.code Lib.objectInit ⟨#[0xb1]⟩ 1 none ∈ z_wsU := z_w 79 (by decide +kernel) (by decide +kernel)
theorem z_wA1 : Cond.native arraycopyName ∈ z_wsU := z_w 466 (by decide +kernel) (by decide +kernel)
theorem z_wA2 : Cond.static arraycopyName ∈ z_wsU := z_w 465 (by decide +kernel) (by decide +kernel)
theorem z_wA3 : Cond.initialized "java/lang/System" ∈ z_wsU := z_w 68 (by decide +kernel) (by decide +kernel)
theorem z_wF1 : Cond.native ⟨"java/lang/Float", "floatToRawIntBits", "(F)I"⟩ ∈ z_wsU := z_w 1199 (by decide +kernel) (by decide +kernel)
theorem z_wF2 : Cond.static ⟨"java/lang/Float", "floatToRawIntBits", "(F)I"⟩ ∈ z_wsU := z_w 1198 (by decide +kernel) (by decide +kernel)
theorem z_wF3 : Cond.initialized "java/lang/Float" ∈ z_wsU := z_w 71 (by decide +kernel) (by decide +kernel)
theorem z_wI : Cond.arrayClass .int ∈ z_wsU := z_w 155 (by decide +kernel) (by decide +kernel)
theorem z_wF : Cond.arrayClass .float ∈ z_wsU := z_w 231 (by decide +kernel) (by decide +kernel)
theorem z_wQ : Cond.arrayOver (.object RX0) ∈ lw_tbl := List.mem_of_getElem? (i := 381) (by decide +kernel)
