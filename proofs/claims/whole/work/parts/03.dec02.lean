theorem dX10_has_6 : decode cX10_has 6 = .ok (.getfield 9, 3) := by decide +kernel
theorem dX10_has_9 : decode cX10_has 9 = .ok (.if_icmp .ge 7, 3) := by decide +kernel
theorem dX10_has_12 : decode cX10_has 12 = .ok (.iconst 1, 1) := by decide +kernel
theorem dX10_has_13 : decode cX10_has 13 = .ok (.goto 4, 3) := by decide +kernel
theorem dX10_has_16 : decode cX10_has 16 = .ok (.iconst 0, 1) := by decide +kernel
theorem dX10_has_17 : decode cX10_has 17 = .ok (.ireturn, 1) := by decide +kernel
theorem dX10_refuses_0 : decode cX10_refuses 0 = .ok (.iload_n 2, 1) := by decide +kernel
theorem dX10_refuses_1 : decode cX10_refuses 1 = .ok (.iconst 1, 1) := by decide +kernel
theorem dX10_refuses_2 : decode cX10_refuses 2 = .ok (.if_icmp .ne 17, 3) := by decide +kernel
theorem dX10_refuses_5 : decode cX10_refuses 5 = .ok (.aload_n 0, 1) := by decide +kernel
theorem dX10_refuses_6 : decode cX10_refuses 6 = .ok (.getfield 22, 3) := by decide +kernel
theorem dX10_refuses_9 : decode cX10_refuses 9 = .ok (.iload_n 1, 1) := by decide +kernel
theorem dX10_refuses_10 : decode cX10_refuses 10 = .ok (.iaload, 1) := by decide +kernel
theorem dX10_refuses_11 : decode cX10_refuses 11 = .ok (.iconst 1, 1) := by decide +kernel
theorem dX10_refuses_12 : decode cX10_refuses 12 = .ok (.if_icmp .ne 7, 3) := by decide +kernel
theorem dX10_refuses_15 : decode cX10_refuses 15 = .ok (.iconst 1, 1) := by decide +kernel
theorem dX10_refuses_16 : decode cX10_refuses 16 = .ok (.goto 4, 3) := by decide +kernel
theorem dX10_refuses_19 : decode cX10_refuses 19 = .ok (.iconst 0, 1) := by decide +kernel
theorem dX10_refuses_20 : decode cX10_refuses 20 = .ok (.ireturn, 1) := by decide +kernel
theorem dX10_add_0 : decode cX10_add 0 = .ok (.aload_n 0, 1) := by decide +kernel
theorem dX10_add_1 : decode cX10_add 1 = .ok (.getfield 9, 3) := by decide +kernel
theorem dX10_add_4 : decode cX10_add 4 = .ok (.istore 4, 2) := by decide +kernel
theorem dX10_add_6 : decode cX10_add 6 = .ok (.aload_n 0, 1) := by decide +kernel
theorem dX10_add_7 : decode cX10_add 7 = .ok (.getfield 15, 3) := by decide +kernel
theorem dX10_add_10 : decode cX10_add 10 = .ok (.iload 4, 2) := by decide +kernel
theorem dX10_add_12 : decode cX10_add 12 = .ok (.iload_n 1, 1) := by decide +kernel
theorem dX10_add_13 : decode cX10_add 13 = .ok (.iastore, 1) := by decide +kernel
theorem dX10_add_14 : decode cX10_add 14 = .ok (.aload_n 0, 1) := by decide +kernel
theorem dX10_add_15 : decode cX10_add 15 = .ok (.getfield 19, 3) := by decide +kernel
theorem dX10_add_18 : decode cX10_add 18 = .ok (.iload 4, 2) := by decide +kernel
theorem dX10_add_20 : decode cX10_add 20 = .ok (.iload_n 2, 1) := by decide +kernel
theorem dX10_add_21 : decode cX10_add 21 = .ok (.iastore, 1) := by decide +kernel
theorem dX10_add_22 : decode cX10_add 22 = .ok (.aload_n 0, 1) := by decide +kernel
theorem dX10_add_23 : decode cX10_add 23 = .ok (.getfield 22, 3) := by decide +kernel
theorem dX10_add_26 : decode cX10_add 26 = .ok (.iload 4, 2) := by decide +kernel
theorem dX10_add_28 : decode cX10_add 28 = .ok (.iload_n 3, 1) := by decide +kernel
theorem dX10_add_29 : decode cX10_add 29 = .ok (.ifCond .eq 7, 3) := by decide +kernel
theorem dX10_add_32 : decode cX10_add 32 = .ok (.iconst 1, 1) := by decide +kernel
theorem dX10_add_33 : decode cX10_add 33 = .ok (.goto 4, 3) := by decide +kernel
theorem dX10_add_36 : decode cX10_add 36 = .ok (.iconst 0, 1) := by decide +kernel
theorem dX10_add_37 : decode cX10_add 37 = .ok (.iastore, 1) := by decide +kernel
theorem dX10_add_38 : decode cX10_add 38 = .ok (.aload_n 0, 1) := by decide +kernel
theorem dX10_add_39 : decode cX10_add 39 = .ok (.dup, 1) := by decide +kernel
theorem dX10_add_40 : decode cX10_add 40 = .ok (.getfield 9, 3) := by decide +kernel
theorem dX10_add_43 : decode cX10_add 43 = .ok (.iconst 1, 1) := by decide +kernel
theorem dX10_add_44 : decode cX10_add 44 = .ok (.iadd, 1) := by decide +kernel
theorem dX10_add_45 : decode cX10_add 45 = .ok (.putfield 9, 3) := by decide +kernel
theorem dX10_add_48 : decode cX10_add 48 = .ok (.iload 4, 2) := by decide +kernel
theorem dX10_add_50 : decode cX10_add 50 = .ok (.ireturn, 1) := by decide +kernel
theorem dX10_wayInto_0 : decode cX10_wayInto 0 = .ok (.aload_n 0, 1) := by decide +kernel
theorem dX10_wayInto_1 : decode cX10_wayInto 1 = .ok (.getfield 15, 3) := by decide +kernel
theorem dX10_wayInto_4 : decode cX10_wayInto 4 = .ok (.iload_n 1, 1) := by decide +kernel
theorem dX10_wayInto_5 : decode cX10_wayInto 5 = .ok (.iaload, 1) := by decide +kernel
theorem dX10_wayInto_6 : decode cX10_wayInto 6 = .ok (.iload_n 2, 1) := by decide +kernel
theorem dX10_wayInto_7 : decode cX10_wayInto 7 = .ok (.if_icmp .ne 5, 3) := by decide +kernel
theorem dX10_wayInto_10 : decode cX10_wayInto 10 = .ok (.iload_n 1, 1) := by decide +kernel
theorem dX10_wayInto_11 : decode cX10_wayInto 11 = .ok (.ireturn, 1) := by decide +kernel
theorem dX10_wayInto_12 : decode cX10_wayInto 12 = .ok (.aload_n 0, 1) := by decide +kernel
theorem dX10_wayInto_13 : decode cX10_wayInto 13 = .ok (.getfield 15, 3) := by decide +kernel
theorem dX10_wayInto_16 : decode cX10_wayInto 16 = .ok (.iload_n 2, 1) := by decide +kernel
theorem dX10_wayInto_17 : decode cX10_wayInto 17 = .ok (.iaload, 1) := by decide +kernel
theorem dX10_wayInto_18 : decode cX10_wayInto 18 = .ok (.iload_n 1, 1) := by decide +kernel
theorem dX10_wayInto_19 : decode cX10_wayInto 19 = .ok (.if_icmp .ne 10, 3) := by decide +kernel
theorem dX10_wayInto_22 : decode cX10_wayInto 22 = .ok (.bipush 8, 2) := by decide +kernel
theorem dX10_wayInto_24 : decode cX10_wayInto 24 = .ok (.iload_n 2, 1) := by decide +kernel
theorem dX10_wayInto_25 : decode cX10_wayInto 25 = .ok (.iadd, 1) := by decide +kernel
theorem dX10_wayInto_26 : decode cX10_wayInto 26 = .ok (.goto 4, 3) := by decide +kernel
theorem dX10_wayInto_29 : decode cX10_wayInto 29 = .ok (.iconst (-1), 1) := by decide +kernel
theorem dX10_wayInto_30 : decode cX10_wayInto 30 = .ok (.ireturn, 1) := by decide +kernel
theorem dX10_placesOf_0 : decode cX10_placesOf 0 = .ok (.aload_n 0, 1) := by decide +kernel
theorem dX10_placesOf_1 : decode cX10_placesOf 1 = .ok (.getfield 19, 3) := by decide +kernel
theorem dX10_placesOf_4 : decode cX10_placesOf 4 = .ok (.iload_n 1, 1) := by decide +kernel
theorem dX10_placesOf_5 : decode cX10_placesOf 5 = .ok (.bipush 8, 2) := by decide +kernel
theorem dX10_placesOf_7 : decode cX10_placesOf 7 = .ok (.if_icmp .ge 7, 3) := by decide +kernel
theorem dX10_placesOf_10 : decode cX10_placesOf 10 = .ok (.iload_n 1, 1) := by decide +kernel
theorem dX10_placesOf_11 : decode cX10_placesOf 11 = .ok (.goto 7, 3) := by decide +kernel
theorem dX10_placesOf_14 : decode cX10_placesOf 14 = .ok (.iload_n 1, 1) := by decide +kernel
theorem dX10_placesOf_15 : decode cX10_placesOf 15 = .ok (.bipush 8, 2) := by decide +kernel
theorem dX10_placesOf_17 : decode cX10_placesOf 17 = .ok (.isub, 1) := by decide +kernel
theorem dX10_placesOf_18 : decode cX10_placesOf 18 = .ok (.iaload, 1) := by decide +kernel
theorem dX10_placesOf_19 : decode cX10_placesOf 19 = .ok (.ireturn, 1) := by decide +kernel
theorem dX10_linksBetween_0 : decode cX10_linksBetween 0 = .ok (.iload_n 1, 1) := by decide +kernel
theorem dX10_linksBetween_1 : decode cX10_linksBetween 1 = .ok (.istore_n 3, 1) := by decide +kernel
theorem dX10_linksBetween_2 : decode cX10_linksBetween 2 = .ok (.iload_n 2, 1) := by decide +kernel
theorem dX10_linksBetween_3 : decode cX10_linksBetween 3 = .ok (.istore 4, 2) := by decide +kernel
theorem dX10_linksBetween_5 : decode cX10_linksBetween 5 = .ok (.iconst 0, 1) := by decide +kernel
theorem dX10_linksBetween_6 : decode cX10_linksBetween 6 = .ok (.istore 5, 2) := by decide +kernel
theorem dX10_linksBetween_8 : decode cX10_linksBetween 8 = .ok (.iload_n 3, 1) := by decide +kernel
theorem dX10_linksBetween_9 : decode cX10_linksBetween 9 = .ok (.iload 4, 2) := by decide +kernel
theorem dX10_linksBetween_11 : decode cX10_linksBetween 11 = .ok (.if_icmp .eq 41, 3) := by decide +kernel
theorem dX10_linksBetween_14 : decode cX10_linksBetween 14 = .ok (.iload 5, 2) := by decide +kernel
theorem dX10_linksBetween_16 : decode cX10_linksBetween 16 = .ok (.bipush 8, 2) := by decide +kernel
theorem dX10_linksBetween_18 : decode cX10_linksBetween 18 = .ok (.if_icmp .ge 34, 3) := by decide +kernel
theorem dX10_linksBetween_21 : decode cX10_linksBetween 21 = .ok (.iload_n 3, 1) := by decide +kernel
theorem dX10_linksBetween_22 : decode cX10_linksBetween 22 = .ok (.iload 4, 2) := by decide +kernel
theorem dX10_linksBetween_24 : decode cX10_linksBetween 24 = .ok (.if_icmp .le 13, 3) := by decide +kernel
theorem dX10_linksBetween_27 : decode cX10_linksBetween 27 = .ok (.aload_n 0, 1) := by decide +kernel
theorem dX10_linksBetween_28 : decode cX10_linksBetween 28 = .ok (.getfield 15, 3) := by decide +kernel
theorem dX10_linksBetween_31 : decode cX10_linksBetween 31 = .ok (.iload_n 3, 1) := by decide +kernel
theorem dX10_linksBetween_32 : decode cX10_linksBetween 32 = .ok (.iaload, 1) := by decide +kernel
theorem dX10_linksBetween_33 : decode cX10_linksBetween 33 = .ok (.istore_n 3, 1) := by decide +kernel
theorem dX10_linksBetween_34 : decode cX10_linksBetween 34 = .ok (.goto 12, 3) := by decide +kernel
theorem dX10_linksBetween_37 : decode cX10_linksBetween 37 = .ok (.aload_n 0, 1) := by decide +kernel
theorem dX10_linksBetween_38 : decode cX10_linksBetween 38 = .ok (.getfield 15, 3) := by decide +kernel
theorem dX10_linksBetween_41 : decode cX10_linksBetween 41 = .ok (.iload 4, 2) := by decide +kernel
theorem dX10_linksBetween_43 : decode cX10_linksBetween 43 = .ok (.iaload, 1) := by decide +kernel
theorem dX10_linksBetween_44 : decode cX10_linksBetween 44 = .ok (.istore 4, 2) := by decide +kernel
theorem dX10_linksBetween_46 : decode cX10_linksBetween 46 = .ok (.iinc 5 1, 3) := by decide +kernel
theorem dX10_linksBetween_49 : decode cX10_linksBetween 49 = .ok (.goto (-41), 3) := by decide +kernel
theorem dX10_linksBetween_52 : decode cX10_linksBetween 52 = .ok (.iload 5, 2) := by decide +kernel
theorem dX10_linksBetween_54 : decode cX10_linksBetween 54 = .ok (.ireturn, 1) := by decide +kernel
theorem dX11_init_0 : decode cX11_init 0 = .ok (.aload_n 0, 1) := by decide +kernel
theorem dX11_init_1 : decode cX11_init 1 = .ok (.invokespecial 1, 3) := by decide +kernel
theorem dX11_init_4 : decode cX11_init 4 = .ok (.aload_n 0, 1) := by decide +kernel
theorem dX11_init_5 : decode cX11_init 5 = .ok (.new 7, 3) := by decide +kernel
theorem dX11_init_8 : decode cX11_init 8 = .ok (.dup, 1) := by decide +kernel
theorem dX11_init_9 : decode cX11_init 9 = .ok (.invokespecial 9, 3) := by decide +kernel
theorem dX11_init_12 : decode cX11_init 12 = .ok (.putfield 10, 3) := by decide +kernel
theorem dX11_init_15 : decode cX11_init 15 = .ok (.aload_n 0, 1) := by decide +kernel
theorem dX11_init_16 : decode cX11_init 16 = .ok (.new 7, 3) := by decide +kernel
theorem dX11_init_19 : decode cX11_init 19 = .ok (.dup, 1) := by decide +kernel
theorem dX11_init_20 : decode cX11_init 20 = .ok (.invokespecial 9, 3) := by decide +kernel
theorem dX11_init_23 : decode cX11_init 23 = .ok (.putfield 16, 3) := by decide +kernel
theorem dX11_init_26 : decode cX11_init 26 = .ok (.aload_n 0, 1) := by decide +kernel
theorem dX11_init_27 : decode cX11_init 27 = .ok (.new 19, 3) := by decide +kernel
theorem dX11_init_30 : decode cX11_init 30 = .ok (.dup, 1) := by decide +kernel
theorem dX11_init_31 : decode cX11_init 31 = .ok (.invokespecial 21, 3) := by decide +kernel
theorem dX11_init_34 : decode cX11_init 34 = .ok (.putfield 22, 3) := by decide +kernel
theorem dX11_init_37 : decode cX11_init 37 = .ok (.aload_n 0, 1) := by decide +kernel
theorem dX11_init_38 : decode cX11_init 38 = .ok (.new 26, 3) := by decide +kernel
theorem dX11_init_41 : decode cX11_init 41 = .ok (.dup, 1) := by decide +kernel
theorem dX11_init_42 : decode cX11_init 42 = .ok (.invokespecial 28, 3) := by decide +kernel
theorem dX11_init_45 : decode cX11_init 45 = .ok (.putfield 29, 3) := by decide +kernel
theorem dX11_init_48 : decode cX11_init 48 = .ok (.aload_n 0, 1) := by decide +kernel
theorem dX11_init_49 : decode cX11_init 49 = .ok (.new 33, 3) := by decide +kernel
theorem dX11_init_52 : decode cX11_init 52 = .ok (.dup, 1) := by decide +kernel
theorem dX11_init_53 : decode cX11_init 53 = .ok (.invokespecial 35, 3) := by decide +kernel
theorem dX11_init_56 : decode cX11_init 56 = .ok (.putfield 36, 3) := by decide +kernel
theorem dX11_init_59 : decode cX11_init 59 = .ok (.return_, 1) := by decide +kernel
theorem dX11_addBridge_0 : decode cX11_addBridge 0 = .ok (.aload_n 0, 1) := by decide +kernel
theorem dX11_addBridge_1 : decode cX11_addBridge 1 = .ok (.getfield 29, 3) := by decide +kernel
theorem dX11_addBridge_4 : decode cX11_addBridge 4 = .ok (.aload_n 0, 1) := by decide +kernel
theorem dX11_addBridge_5 : decode cX11_addBridge 5 = .ok (.getfield 10, 3) := by decide +kernel
theorem dX11_addBridge_8 : decode cX11_addBridge 8 = .ok (.invokevirtual 40, 3) := by decide +kernel
theorem dX11_addBridge_11 : decode cX11_addBridge 11 = .ok (.aload_n 0, 1) := by decide +kernel
theorem dX11_addBridge_12 : decode cX11_addBridge 12 = .ok (.getfield 29, 3) := by decide +kernel
theorem dX11_addBridge_15 : decode cX11_addBridge 15 = .ok (.aload_n 0, 1) := by decide +kernel
theorem dX11_addBridge_16 : decode cX11_addBridge 16 = .ok (.getfield 10, 3) := by decide +kernel
theorem dX11_addBridge_19 : decode cX11_addBridge 19 = .ok (.iload_n 1, 1) := by decide +kernel
theorem dX11_addBridge_20 : decode cX11_addBridge 20 = .ok (.iload_n 2, 1) := by decide +kernel
theorem dX11_addBridge_21 : decode cX11_addBridge 21 = .ok (.iload_n 3, 1) := by decide +kernel
theorem dX11_addBridge_22 : decode cX11_addBridge 22 = .ok (.invokevirtual 44, 3) := by decide +kernel
theorem dX11_addBridge_25 : decode cX11_addBridge 25 = .ok (.invokevirtual 48, 3) := by decide +kernel
theorem dX11_addBridge_28 : decode cX11_addBridge 28 = .ok (.ireturn, 1) := by decide +kernel
theorem dX11_join_0 : decode cX11_join 0 = .ok (.aload_n 0, 1) := by decide +kernel
theorem dX11_join_1 : decode cX11_join 1 = .ok (.getfield 29, 3) := by decide +kernel
theorem dX11_join_4 : decode cX11_join 4 = .ok (.aload_n 0, 1) := by decide +kernel
theorem dX11_join_5 : decode cX11_join 5 = .ok (.getfield 10, 3) := by decide +kernel
theorem dX11_join_8 : decode cX11_join 8 = .ok (.invokevirtual 40, 3) := by decide +kernel
theorem dX11_join_11 : decode cX11_join 11 = .ok (.aload_n 0, 1) := by decide +kernel
theorem dX11_join_12 : decode cX11_join 12 = .ok (.getfield 29, 3) := by decide +kernel
theorem dX11_join_15 : decode cX11_join 15 = .ok (.aload_n 0, 1) := by decide +kernel
theorem dX11_join_16 : decode cX11_join 16 = .ok (.getfield 10, 3) := by decide +kernel
theorem dX11_join_19 : decode cX11_join 19 = .ok (.iload_n 1, 1) := by decide +kernel
theorem dX11_join_20 : decode cX11_join 20 = .ok (.iload_n 2, 1) := by decide +kernel
theorem dX11_join_21 : decode cX11_join 21 = .ok (.invokevirtual 52, 3) := by decide +kernel
theorem dX11_join_24 : decode cX11_join 24 = .ok (.invokevirtual 48, 3) := by decide +kernel
theorem dX11_join_27 : decode cX11_join 27 = .ok (.ireturn, 1) := by decide +kernel
theorem dX11_leave_0 : decode cX11_leave 0 = .ok (.aload_n 0, 1) := by decide +kernel
theorem dX11_leave_1 : decode cX11_leave 1 = .ok (.getfield 29, 3) := by decide +kernel
theorem dX11_leave_4 : decode cX11_leave 4 = .ok (.aload_n 0, 1) := by decide +kernel
theorem dX11_leave_5 : decode cX11_leave 5 = .ok (.getfield 10, 3) := by decide +kernel
theorem dX11_leave_8 : decode cX11_leave 8 = .ok (.invokevirtual 40, 3) := by decide +kernel
theorem dX11_leave_11 : decode cX11_leave 11 = .ok (.aload_n 0, 1) := by decide +kernel
theorem dX11_leave_12 : decode cX11_leave 12 = .ok (.getfield 29, 3) := by decide +kernel
theorem dX11_leave_15 : decode cX11_leave 15 = .ok (.aload_n 0, 1) := by decide +kernel
theorem dX11_leave_16 : decode cX11_leave 16 = .ok (.getfield 10, 3) := by decide +kernel
theorem dX11_leave_19 : decode cX11_leave 19 = .ok (.iload_n 1, 1) := by decide +kernel
theorem dX11_leave_20 : decode cX11_leave 20 = .ok (.invokevirtual 56, 3) := by decide +kernel
theorem dX11_leave_23 : decode cX11_leave 23 = .ok (.invokevirtual 48, 3) := by decide +kernel
theorem dX11_leave_26 : decode cX11_leave 26 = .ok (.ireturn, 1) := by decide +kernel
theorem dX11_move_0 : decode cX11_move 0 = .ok (.aload_n 0, 1) := by decide +kernel
theorem dX11_move_1 : decode cX11_move 1 = .ok (.getfield 29, 3) := by decide +kernel
theorem dX11_move_4 : decode cX11_move 4 = .ok (.aload_n 0, 1) := by decide +kernel
theorem dX11_move_5 : decode cX11_move 5 = .ok (.getfield 10, 3) := by decide +kernel
theorem dX11_move_8 : decode cX11_move 8 = .ok (.invokevirtual 40, 3) := by decide +kernel
theorem dX11_move_11 : decode cX11_move 11 = .ok (.aload_n 0, 1) := by decide +kernel
theorem dX11_move_12 : decode cX11_move 12 = .ok (.getfield 29, 3) := by decide +kernel
theorem dX11_move_15 : decode cX11_move 15 = .ok (.aload_n 0, 1) := by decide +kernel
theorem dX11_move_16 : decode cX11_move 16 = .ok (.getfield 10, 3) := by decide +kernel
theorem dX11_move_19 : decode cX11_move 19 = .ok (.iload_n 1, 1) := by decide +kernel
theorem dX11_move_20 : decode cX11_move 20 = .ok (.iload_n 2, 1) := by decide +kernel
theorem dX11_move_21 : decode cX11_move 21 = .ok (.invokevirtual 59, 3) := by decide +kernel
theorem dX11_move_24 : decode cX11_move 24 = .ok (.invokevirtual 48, 3) := by decide +kernel
theorem dX11_move_27 : decode cX11_move 27 = .ok (.ireturn, 1) := by decide +kernel
theorem dX11_setLevel_0 : decode cX11_setLevel 0 = .ok (.aload_n 0, 1) := by decide +kernel
theorem dX11_setLevel_1 : decode cX11_setLevel 1 = .ok (.getfield 29, 3) := by decide +kernel
theorem dX11_setLevel_4 : decode cX11_setLevel 4 = .ok (.aload_n 0, 1) := by decide +kernel
theorem dX11_setLevel_5 : decode cX11_setLevel 5 = .ok (.getfield 10, 3) := by decide +kernel
theorem dX11_setLevel_8 : decode cX11_setLevel 8 = .ok (.invokevirtual 40, 3) := by decide +kernel
theorem dX11_setLevel_11 : decode cX11_setLevel 11 = .ok (.aload_n 0, 1) := by decide +kernel
theorem dX11_setLevel_12 : decode cX11_setLevel 12 = .ok (.getfield 29, 3) := by decide +kernel
theorem dX11_setLevel_15 : decode cX11_setLevel 15 = .ok (.aload_n 0, 1) := by decide +kernel
theorem dX11_setLevel_16 : decode cX11_setLevel 16 = .ok (.getfield 10, 3) := by decide +kernel
theorem dX11_setLevel_19 : decode cX11_setLevel 19 = .ok (.iload_n 1, 1) := by decide +kernel
theorem dX11_setLevel_20 : decode cX11_setLevel 20 = .ok (.iload_n 2, 1) := by decide +kernel
theorem dX11_setLevel_21 : decode cX11_setLevel 21 = .ok (.invokevirtual 62, 3) := by decide +kernel
theorem dX11_setLevel_24 : decode cX11_setLevel 24 = .ok (.invokevirtual 48, 3) := by decide +kernel
theorem dX11_setLevel_27 : decode cX11_setLevel 27 = .ok (.ireturn, 1) := by decide +kernel
theorem dX11_setMuted_0 : decode cX11_setMuted 0 = .ok (.aload_n 0, 1) := by decide +kernel
theorem dX11_setMuted_1 : decode cX11_setMuted 1 = .ok (.getfield 29, 3) := by decide +kernel
theorem dX11_setMuted_4 : decode cX11_setMuted 4 = .ok (.aload_n 0, 1) := by decide +kernel
theorem dX11_setMuted_5 : decode cX11_setMuted 5 = .ok (.getfield 10, 3) := by decide +kernel
theorem dX11_setMuted_8 : decode cX11_setMuted 8 = .ok (.invokevirtual 40, 3) := by decide +kernel
theorem dX11_setMuted_11 : decode cX11_setMuted 11 = .ok (.aload_n 0, 1) := by decide +kernel
theorem dX11_setMuted_12 : decode cX11_setMuted 12 = .ok (.getfield 29, 3) := by decide +kernel
theorem dX11_setMuted_15 : decode cX11_setMuted 15 = .ok (.aload_n 0, 1) := by decide +kernel
theorem dX11_setMuted_16 : decode cX11_setMuted 16 = .ok (.getfield 10, 3) := by decide +kernel
theorem dX11_setMuted_19 : decode cX11_setMuted 19 = .ok (.iload_n 1, 1) := by decide +kernel
theorem dX11_setMuted_20 : decode cX11_setMuted 20 = .ok (.iload_n 2, 1) := by decide +kernel
theorem dX11_setMuted_21 : decode cX11_setMuted 21 = .ok (.invokevirtual 65, 3) := by decide +kernel
theorem dX11_setMuted_24 : decode cX11_setMuted 24 = .ok (.invokevirtual 48, 3) := by decide +kernel
theorem dX11_setMuted_27 : decode cX11_setMuted 27 = .ok (.ireturn, 1) := by decide +kernel
theorem dX11_setSelection_0 : decode cX11_setSelection 0 = .ok (.aload_n 0, 1) := by decide +kernel
theorem dX11_setSelection_1 : decode cX11_setSelection 1 = .ok (.getfield 29, 3) := by decide +kernel
theorem dX11_setSelection_4 : decode cX11_setSelection 4 = .ok (.aload_n 0, 1) := by decide +kernel
theorem dX11_setSelection_5 : decode cX11_setSelection 5 = .ok (.getfield 10, 3) := by decide +kernel
theorem dX11_setSelection_8 : decode cX11_setSelection 8 = .ok (.invokevirtual 40, 3) := by decide +kernel
theorem dX11_setSelection_11 : decode cX11_setSelection 11 = .ok (.aload_n 0, 1) := by decide +kernel
theorem dX11_setSelection_12 : decode cX11_setSelection 12 = .ok (.getfield 29, 3) := by decide +kernel
theorem dX11_setSelection_15 : decode cX11_setSelection 15 = .ok (.aload_n 0, 1) := by decide +kernel
theorem dX11_setSelection_16 : decode cX11_setSelection 16 = .ok (.getfield 10, 3) := by decide +kernel
theorem dX11_setSelection_19 : decode cX11_setSelection 19 = .ok (.getfield 69, 3) := by decide +kernel
theorem dX11_setSelection_22 : decode cX11_setSelection 22 = .ok (.iload_n 1, 1) := by decide +kernel
theorem dX11_setSelection_23 : decode cX11_setSelection 23 = .ok (.iload_n 2, 1) := by decide +kernel
theorem dX11_setSelection_24 : decode cX11_setSelection 24 = .ok (.iload_n 3, 1) := by decide +kernel
theorem dX11_setSelection_25 : decode cX11_setSelection 25 = .ok (.iload 4, 2) := by decide +kernel
theorem dX11_setSelection_27 : decode cX11_setSelection 27 = .ok (.invokevirtual 73, 3) := by decide +kernel
theorem dX11_setSelection_30 : decode cX11_setSelection 30 = .ok (.invokevirtual 48, 3) := by decide +kernel
theorem dX11_setSelection_33 : decode cX11_setSelection 33 = .ok (.ireturn, 1) := by decide +kernel
theorem dX11_setFloor_0 : decode cX11_setFloor 0 = .ok (.aload_n 0, 1) := by decide +kernel
theorem dX11_setFloor_1 : decode cX11_setFloor 1 = .ok (.getfield 29, 3) := by decide +kernel
theorem dX11_setFloor_4 : decode cX11_setFloor 4 = .ok (.aload_n 0, 1) := by decide +kernel
theorem dX11_setFloor_5 : decode cX11_setFloor 5 = .ok (.getfield 10, 3) := by decide +kernel
theorem dX11_setFloor_8 : decode cX11_setFloor 8 = .ok (.invokevirtual 40, 3) := by decide +kernel
theorem dX11_setFloor_11 : decode cX11_setFloor 11 = .ok (.aload_n 0, 1) := by decide +kernel
theorem dX11_setFloor_12 : decode cX11_setFloor 12 = .ok (.getfield 29, 3) := by decide +kernel
theorem dX11_setFloor_15 : decode cX11_setFloor 15 = .ok (.aload_n 0, 1) := by decide +kernel
theorem dX11_setFloor_16 : decode cX11_setFloor 16 = .ok (.getfield 10, 3) := by decide +kernel
theorem dX11_setFloor_19 : decode cX11_setFloor 19 = .ok (.getfield 69, 3) := by decide +kernel
theorem dX11_setFloor_22 : decode cX11_setFloor 22 = .ok (.iload_n 1, 1) := by decide +kernel
theorem dX11_setFloor_23 : decode cX11_setFloor 23 = .ok (.iload_n 2, 1) := by decide +kernel
theorem dX11_setFloor_24 : decode cX11_setFloor 24 = .ok (.iload_n 3, 1) := by decide +kernel
theorem dX11_setFloor_25 : decode cX11_setFloor 25 = .ok (.iload 4, 2) := by decide +kernel
theorem dX11_setFloor_27 : decode cX11_setFloor 27 = .ok (.invokevirtual 79, 3) := by decide +kernel
theorem dX11_setFloor_30 : decode cX11_setFloor 30 = .ok (.invokevirtual 48, 3) := by decide +kernel
theorem dX11_setFloor_33 : decode cX11_setFloor 33 = .ok (.ireturn, 1) := by decide +kernel
theorem dX11_request_0 : decode cX11_request 0 = .ok (.aload_n 0, 1) := by decide +kernel
theorem dX11_request_1 : decode cX11_request 1 = .ok (.getfield 29, 3) := by decide +kernel
theorem dX11_request_4 : decode cX11_request 4 = .ok (.aload_n 0, 1) := by decide +kernel
theorem dX11_request_5 : decode cX11_request 5 = .ok (.getfield 10, 3) := by decide +kernel
theorem dX11_request_8 : decode cX11_request 8 = .ok (.invokevirtual 40, 3) := by decide +kernel
theorem dX11_request_11 : decode cX11_request 11 = .ok (.aload_n 0, 1) := by decide +kernel
theorem dX11_request_12 : decode cX11_request 12 = .ok (.getfield 29, 3) := by decide +kernel
theorem dX11_request_15 : decode cX11_request 15 = .ok (.aload_n 0, 1) := by decide +kernel
theorem dX11_request_16 : decode cX11_request 16 = .ok (.getfield 10, 3) := by decide +kernel
theorem dX11_request_19 : decode cX11_request 19 = .ok (.iload_n 1, 1) := by decide +kernel
theorem dX11_request_20 : decode cX11_request 20 = .ok (.iload_n 2, 1) := by decide +kernel
theorem dX11_request_21 : decode cX11_request 21 = .ok (.invokevirtual 83, 3) := by decide +kernel
theorem dX11_request_24 : decode cX11_request 24 = .ok (.invokevirtual 48, 3) := by decide +kernel
theorem dX11_request_27 : decode cX11_request 27 = .ok (.ireturn, 1) := by decide +kernel
theorem dX11_giveUp_0 : decode cX11_giveUp 0 = .ok (.aload_n 0, 1) := by decide +kernel
theorem dX11_giveUp_1 : decode cX11_giveUp 1 = .ok (.getfield 29, 3) := by decide +kernel
theorem dX11_giveUp_4 : decode cX11_giveUp 4 = .ok (.aload_n 0, 1) := by decide +kernel
theorem dX11_giveUp_5 : decode cX11_giveUp 5 = .ok (.getfield 10, 3) := by decide +kernel
theorem dX11_giveUp_8 : decode cX11_giveUp 8 = .ok (.invokevirtual 40, 3) := by decide +kernel
theorem dX11_giveUp_11 : decode cX11_giveUp 11 = .ok (.aload_n 0, 1) := by decide +kernel
theorem dX11_giveUp_12 : decode cX11_giveUp 12 = .ok (.getfield 29, 3) := by decide +kernel
theorem dX11_giveUp_15 : decode cX11_giveUp 15 = .ok (.aload_n 0, 1) := by decide +kernel
theorem dX11_giveUp_16 : decode cX11_giveUp 16 = .ok (.getfield 10, 3) := by decide +kernel
theorem dX11_giveUp_19 : decode cX11_giveUp 19 = .ok (.iload_n 1, 1) := by decide +kernel
theorem dX11_giveUp_20 : decode cX11_giveUp 20 = .ok (.invokevirtual 86, 3) := by decide +kernel
theorem dX11_giveUp_23 : decode cX11_giveUp 23 = .ok (.invokevirtual 48, 3) := by decide +kernel
theorem dX11_giveUp_26 : decode cX11_giveUp 26 = .ok (.ireturn, 1) := by decide +kernel
theorem dX11_tick_0 : decode cX11_tick 0 = .ok (.aload_n 0, 1) := by decide +kernel
theorem dX11_tick_1 : decode cX11_tick 1 = .ok (.getfield 29, 3) := by decide +kernel
theorem dX11_tick_4 : decode cX11_tick 4 = .ok (.aload_n 0, 1) := by decide +kernel
theorem dX11_tick_5 : decode cX11_tick 5 = .ok (.getfield 10, 3) := by decide +kernel
theorem dX11_tick_8 : decode cX11_tick 8 = .ok (.invokevirtual 40, 3) := by decide +kernel
theorem dX11_tick_11 : decode cX11_tick 11 = .ok (.aload_n 0, 1) := by decide +kernel
theorem dX11_tick_12 : decode cX11_tick 12 = .ok (.getfield 29, 3) := by decide +kernel
theorem dX11_tick_15 : decode cX11_tick 15 = .ok (.aload_n 0, 1) := by decide +kernel
theorem dX11_tick_16 : decode cX11_tick 16 = .ok (.getfield 10, 3) := by decide +kernel
theorem dX11_tick_19 : decode cX11_tick 19 = .ok (.iload_n 1, 1) := by decide +kernel
theorem dX11_tick_20 : decode cX11_tick 20 = .ok (.aload_n 0, 1) := by decide +kernel
theorem dX11_tick_21 : decode cX11_tick 21 = .ok (.getfield 22, 3) := by decide +kernel
theorem dX11_tick_24 : decode cX11_tick 24 = .ok (.invokevirtual 89, 3) := by decide +kernel
theorem dX11_tick_27 : decode cX11_tick 27 = .ok (.invokevirtual 48, 3) := by decide +kernel
theorem dX11_tick_30 : decode cX11_tick 30 = .ok (.ireturn, 1) := by decide +kernel
theorem dX11_undo_0 : decode cX11_undo 0 = .ok (.aload_n 0, 1) := by decide +kernel
theorem dX11_undo_1 : decode cX11_undo 1 = .ok (.getfield 29, 3) := by decide +kernel
theorem dX11_undo_4 : decode cX11_undo 4 = .ok (.aload_n 0, 1) := by decide +kernel
theorem dX11_undo_5 : decode cX11_undo 5 = .ok (.getfield 10, 3) := by decide +kernel
theorem dX11_undo_8 : decode cX11_undo 8 = .ok (.invokevirtual 93, 3) := by decide +kernel
theorem dX11_undo_11 : decode cX11_undo 11 = .ok (.ireturn, 1) := by decide +kernel
theorem dX11_type_0 : decode cX11_type 0 = .ok (.aload_n 0, 1) := by decide +kernel
theorem dX11_type_1 : decode cX11_type 1 = .ok (.getfield 36, 3) := by decide +kernel
theorem dX11_type_4 : decode cX11_type 4 = .ok (.iload_n 1, 1) := by decide +kernel
theorem dX11_type_5 : decode cX11_type 5 = .ok (.invokevirtual 97, 3) := by decide +kernel
theorem dX11_type_8 : decode cX11_type 8 = .ok (.ireturn, 1) := by decide +kernel
theorem dX11_clearText_0 : decode cX11_clearText 0 = .ok (.aload_n 0, 1) := by decide +kernel
theorem dX11_clearText_1 : decode cX11_clearText 1 = .ok (.getfield 36, 3) := by decide +kernel
theorem dX11_clearText_4 : decode cX11_clearText 4 = .ok (.invokevirtual 100, 3) := by decide +kernel
theorem dX11_clearText_7 : decode cX11_clearText 7 = .ok (.ireturn, 1) := by decide +kernel
theorem dX11_textFault_0 : decode cX11_textFault 0 = .ok (.aload_n 0, 1) := by decide +kernel
theorem dX11_textFault_1 : decode cX11_textFault 1 = .ok (.getfield 36, 3) := by decide +kernel
theorem dX11_textFault_4 : decode cX11_textFault 4 = .ok (.invokevirtual 104, 3) := by decide +kernel
theorem dX11_textFault_7 : decode cX11_textFault 7 = .ok (.ireturn, 1) := by decide +kernel
theorem dX11_run_0 : decode cX11_run 0 = .ok (.aload_n 0, 1) := by decide +kernel
theorem dX11_run_1 : decode cX11_run 1 = .ok (.getfield 36, 3) := by decide +kernel
theorem dX11_run_4 : decode cX11_run 4 = .ok (.invokevirtual 104, 3) := by decide +kernel
theorem dX11_run_7 : decode cX11_run 7 = .ok (.iconst (-1), 1) := by decide +kernel
theorem dX11_run_8 : decode cX11_run 8 = .ok (.if_icmp .eq 6, 3) := by decide +kernel
theorem dX11_run_11 : decode cX11_run 11 = .ok (.bipush (-4), 2) := by decide +kernel
theorem dX11_run_13 : decode cX11_run 13 = .ok (.ireturn, 1) := by decide +kernel
theorem dX11_run_14 : decode cX11_run 14 = .ok (.aload_n 0, 1) := by decide +kernel
theorem dX11_run_15 : decode cX11_run 15 = .ok (.getfield 29, 3) := by decide +kernel
theorem dX11_run_18 : decode cX11_run 18 = .ok (.aload_n 0, 1) := by decide +kernel
theorem dX11_run_19 : decode cX11_run 19 = .ok (.getfield 10, 3) := by decide +kernel
theorem dX11_run_22 : decode cX11_run 22 = .ok (.invokevirtual 40, 3) := by decide +kernel
theorem dX11_run_25 : decode cX11_run 25 = .ok (.iconst 0, 1) := by decide +kernel
theorem dX11_run_26 : decode cX11_run 26 = .ok (.istore_n 1, 1) := by decide +kernel
theorem dX11_run_27 : decode cX11_run 27 = .ok (.iload_n 1, 1) := by decide +kernel
theorem dX11_run_28 : decode cX11_run 28 = .ok (.aload_n 0, 1) := by decide +kernel
theorem dX11_run_29 : decode cX11_run 29 = .ok (.getfield 36, 3) := by decide +kernel
theorem dX11_run_32 : decode cX11_run 32 = .ok (.getfield 107, 3) := by decide +kernel
theorem dX11_run_35 : decode cX11_run 35 = .ok (.if_icmp .ge 17, 3) := by decide +kernel
theorem dX11_run_38 : decode cX11_run 38 = .ok (.aload_n 0, 1) := by decide +kernel
theorem dX11_run_39 : decode cX11_run 39 = .ok (.iload_n 1, 1) := by decide +kernel
theorem dX11_run_40 : decode cX11_run 40 = .ok (.invokevirtual 111, 3) := by decide +kernel
theorem dX11_run_43 : decode cX11_run 43 = .ok (.ifCond .lt 9, 3) := by decide +kernel
theorem dX11_run_46 : decode cX11_run 46 = .ok (.iinc 1 1, 3) := by decide +kernel
theorem dX11_run_49 : decode cX11_run 49 = .ok (.goto (-22), 3) := by decide +kernel
theorem dX11_run_52 : decode cX11_run 52 = .ok (.aload_n 0, 1) := by decide +kernel
theorem dX11_run_53 : decode cX11_run 53 = .ok (.getfield 29, 3) := by decide +kernel
theorem dX11_run_56 : decode cX11_run 56 = .ok (.iload_n 1, 1) := by decide +kernel
theorem dX11_run_57 : decode cX11_run 57 = .ok (.invokevirtual 48, 3) := by decide +kernel
theorem dX11_run_60 : decode cX11_run 60 = .ok (.ireturn, 1) := by decide +kernel
theorem dX11_carryOut_0 : decode cX11_carryOut 0 = .ok (.aload_n 0, 1) := by decide +kernel
theorem dX11_carryOut_1 : decode cX11_carryOut 1 = .ok (.getfield 36, 3) := by decide +kernel
theorem dX11_carryOut_4 : decode cX11_carryOut 4 = .ok (.getfield 114, 3) := by decide +kernel
theorem dX11_carryOut_7 : decode cX11_carryOut 7 = .ok (.iload_n 1, 1) := by decide +kernel
theorem dX11_carryOut_8 : decode cX11_carryOut 8 = .ok (.iaload, 1) := by decide +kernel
theorem dX11_carryOut_9 : decode cX11_carryOut 9 = .ok (.istore_n 2, 1) := by decide +kernel
theorem dX11_carryOut_10 : decode cX11_carryOut 10 = .ok (.aload_n 0, 1) := by decide +kernel
theorem dX11_carryOut_11 : decode cX11_carryOut 11 = .ok (.getfield 36, 3) := by decide +kernel
theorem dX11_carryOut_14 : decode cX11_carryOut 14 = .ok (.getfield 118, 3) := by decide +kernel
theorem dX11_carryOut_17 : decode cX11_carryOut 17 = .ok (.iload_n 1, 1) := by decide +kernel
theorem dX11_carryOut_18 : decode cX11_carryOut 18 = .ok (.iaload, 1) := by decide +kernel
theorem dX11_carryOut_19 : decode cX11_carryOut 19 = .ok (.istore_n 3, 1) := by decide +kernel
theorem dX11_carryOut_20 : decode cX11_carryOut 20 = .ok (.aload_n 0, 1) := by decide +kernel
theorem dX11_carryOut_21 : decode cX11_carryOut 21 = .ok (.getfield 36, 3) := by decide +kernel
theorem dX11_carryOut_24 : decode cX11_carryOut 24 = .ok (.getfield 121, 3) := by decide +kernel
theorem dX11_carryOut_27 : decode cX11_carryOut 27 = .ok (.iload_n 1, 1) := by decide +kernel
theorem dX11_carryOut_28 : decode cX11_carryOut 28 = .ok (.iaload, 1) := by decide +kernel
theorem dX11_carryOut_29 : decode cX11_carryOut 29 = .ok (.tableswitch 127 70 84 #[118, 127, 127, 127, 127, 127, 75, 85, 127, 127, 127, 127, 95, 127, 105], 75) := by decide +kernel
theorem dX11_carryOut_104 : decode cX11_carryOut 104 = .ok (.aload_n 0, 1) := by decide +kernel
theorem dX11_carryOut_105 : decode cX11_carryOut 105 = .ok (.getfield 10, 3) := by decide +kernel
theorem dX11_carryOut_108 : decode cX11_carryOut 108 = .ok (.iload_n 2, 1) := by decide +kernel
theorem dX11_carryOut_109 : decode cX11_carryOut 109 = .ok (.iload_n 3, 1) := by decide +kernel
theorem dX11_carryOut_110 : decode cX11_carryOut 110 = .ok (.invokevirtual 62, 3) := by decide +kernel
theorem dX11_carryOut_113 : decode cX11_carryOut 113 = .ok (.ireturn, 1) := by decide +kernel
theorem dX11_carryOut_114 : decode cX11_carryOut 114 = .ok (.aload_n 0, 1) := by decide +kernel
theorem dX11_carryOut_115 : decode cX11_carryOut 115 = .ok (.getfield 10, 3) := by decide +kernel
theorem dX11_carryOut_118 : decode cX11_carryOut 118 = .ok (.iload_n 2, 1) := by decide +kernel
theorem dX11_carryOut_119 : decode cX11_carryOut 119 = .ok (.iload_n 3, 1) := by decide +kernel
theorem dX11_carryOut_120 : decode cX11_carryOut 120 = .ok (.invokevirtual 59, 3) := by decide +kernel
theorem dX11_carryOut_123 : decode cX11_carryOut 123 = .ok (.ireturn, 1) := by decide +kernel
theorem dX11_carryOut_124 : decode cX11_carryOut 124 = .ok (.aload_n 0, 1) := by decide +kernel
theorem dX11_carryOut_125 : decode cX11_carryOut 125 = .ok (.getfield 10, 3) := by decide +kernel
theorem dX11_carryOut_128 : decode cX11_carryOut 128 = .ok (.iload_n 2, 1) := by decide +kernel
theorem dX11_carryOut_129 : decode cX11_carryOut 129 = .ok (.iload_n 3, 1) := by decide +kernel
theorem dX11_carryOut_130 : decode cX11_carryOut 130 = .ok (.invokevirtual 83, 3) := by decide +kernel
theorem dX11_carryOut_133 : decode cX11_carryOut 133 = .ok (.ireturn, 1) := by decide +kernel
theorem dX11_carryOut_134 : decode cX11_carryOut 134 = .ok (.aload_n 0, 1) := by decide +kernel
theorem dX11_carryOut_135 : decode cX11_carryOut 135 = .ok (.getfield 10, 3) := by decide +kernel
theorem dX11_carryOut_138 : decode cX11_carryOut 138 = .ok (.iload_n 2, 1) := by decide +kernel
theorem dX11_carryOut_139 : decode cX11_carryOut 139 = .ok (.aload_n 0, 1) := by decide +kernel
theorem dX11_carryOut_140 : decode cX11_carryOut 140 = .ok (.getfield 22, 3) := by decide +kernel
theorem dX11_carryOut_143 : decode cX11_carryOut 143 = .ok (.invokevirtual 89, 3) := by decide +kernel
theorem dX11_carryOut_146 : decode cX11_carryOut 146 = .ok (.ireturn, 1) := by decide +kernel
theorem dX11_carryOut_147 : decode cX11_carryOut 147 = .ok (.aload_n 0, 1) := by decide +kernel
theorem dX11_carryOut_148 : decode cX11_carryOut 148 = .ok (.getfield 10, 3) := by decide +kernel
theorem dX11_carryOut_151 : decode cX11_carryOut 151 = .ok (.iload_n 2, 1) := by decide +kernel
theorem dX11_carryOut_152 : decode cX11_carryOut 152 = .ok (.invokevirtual 86, 3) := by decide +kernel
theorem dX11_carryOut_155 : decode cX11_carryOut 155 = .ok (.ireturn, 1) := by decide +kernel
theorem dX11_carryOut_156 : decode cX11_carryOut 156 = .ok (.aload_n 0, 1) := by decide +kernel
theorem dX11_carryOut_157 : decode cX11_carryOut 157 = .ok (.getfield 10, 3) := by decide +kernel
theorem dX11_carryOut_160 : decode cX11_carryOut 160 = .ok (.iload_n 2, 1) := by decide +kernel
theorem dX11_carryOut_161 : decode cX11_carryOut 161 = .ok (.invokevirtual 124, 3) := by decide +kernel
theorem dX11_carryOut_164 : decode cX11_carryOut 164 = .ok (.ireturn, 1) := by decide +kernel
theorem dX11_count_0 : decode cX11_count 0 = .ok (.iload_n 1, 1) := by decide +kernel
theorem dX11_count_1 : decode cX11_count 1 = .ok (.tableswitch 117 0 6 #[43, 54, 65, 76, 84, 95, 106], 43) := by decide +kernel
theorem dX11_count_44 : decode cX11_count 44 = .ok (.aload_n 0, 1) := by decide +kernel
theorem dX11_count_45 : decode cX11_count 45 = .ok (.getfield 10, 3) := by decide +kernel
theorem dX11_count_48 : decode cX11_count 48 = .ok (.getfield 127, 3) := by decide +kernel
theorem dX11_count_51 : decode cX11_count 51 = .ok (.getfield 131, 3) := by decide +kernel
theorem dX11_count_54 : decode cX11_count 54 = .ok (.ireturn, 1) := by decide +kernel
theorem dX11_count_55 : decode cX11_count 55 = .ok (.aload_n 0, 1) := by decide +kernel
theorem dX11_count_56 : decode cX11_count 56 = .ok (.getfield 10, 3) := by decide +kernel
theorem dX11_count_59 : decode cX11_count 59 = .ok (.getfield 136, 3) := by decide +kernel
theorem dX11_count_62 : decode cX11_count 62 = .ok (.getfield 140, 3) := by decide +kernel
theorem dX11_count_65 : decode cX11_count 65 = .ok (.ireturn, 1) := by decide +kernel
theorem dX11_count_66 : decode cX11_count 66 = .ok (.aload_n 0, 1) := by decide +kernel
theorem dX11_count_67 : decode cX11_count 67 = .ok (.getfield 10, 3) := by decide +kernel
theorem dX11_count_70 : decode cX11_count 70 = .ok (.getfield 136, 3) := by decide +kernel
theorem dX11_count_73 : decode cX11_count 73 = .ok (.getfield 145, 3) := by decide +kernel
theorem dX11_count_76 : decode cX11_count 76 = .ok (.ireturn, 1) := by decide +kernel
theorem dX11_count_77 : decode cX11_count 77 = .ok (.aload_n 0, 1) := by decide +kernel
theorem dX11_count_78 : decode cX11_count 78 = .ok (.getfield 10, 3) := by decide +kernel
theorem dX11_count_81 : decode cX11_count 81 = .ok (.getfield 148, 3) := by decide +kernel
theorem dX11_count_84 : decode cX11_count 84 = .ok (.ireturn, 1) := by decide +kernel
theorem dX11_count_85 : decode cX11_count 85 = .ok (.aload_n 0, 1) := by decide +kernel
theorem dX11_count_86 : decode cX11_count 86 = .ok (.getfield 10, 3) := by decide +kernel
theorem dX11_count_89 : decode cX11_count 89 = .ok (.getfield 151, 3) := by decide +kernel
theorem dX11_count_92 : decode cX11_count 92 = .ok (.getfield 155, 3) := by decide +kernel
theorem dX11_count_95 : decode cX11_count 95 = .ok (.ireturn, 1) := by decide +kernel
theorem dX11_count_96 : decode cX11_count 96 = .ok (.aload_n 0, 1) := by decide +kernel
theorem dX11_count_97 : decode cX11_count 97 = .ok (.getfield 10, 3) := by decide +kernel
theorem dX11_count_100 : decode cX11_count 100 = .ok (.getfield 151, 3) := by decide +kernel
theorem dX11_count_103 : decode cX11_count 103 = .ok (.invokevirtual 160, 3) := by decide +kernel
theorem dX11_count_106 : decode cX11_count 106 = .ok (.ireturn, 1) := by decide +kernel
theorem dX11_count_107 : decode cX11_count 107 = .ok (.aload_n 0, 1) := by decide +kernel
theorem dX11_count_108 : decode cX11_count 108 = .ok (.getfield 10, 3) := by decide +kernel
theorem dX11_count_111 : decode cX11_count 111 = .ok (.getfield 163, 3) := by decide +kernel
theorem dX11_count_114 : decode cX11_count 114 = .ok (.getfield 167, 3) := by decide +kernel
theorem dX11_count_117 : decode cX11_count 117 = .ok (.ireturn, 1) := by decide +kernel
theorem dX11_count_118 : decode cX11_count 118 = .ok (.bipush (-3), 2) := by decide +kernel
theorem dX11_count_120 : decode cX11_count 120 = .ok (.ireturn, 1) := by decide +kernel
theorem dX11_property_0 : decode cX11_property 0 = .ok (.aload_n 0, 1) := by decide +kernel
theorem dX11_property_1 : decode cX11_property 1 = .ok (.getfield 10, 3) := by decide +kernel
theorem dX11_property_4 : decode cX11_property 4 = .ok (.getfield 136, 3) := by decide +kernel
theorem dX11_property_7 : decode cX11_property 7 = .ok (.astore_n 3, 1) := by decide +kernel
theorem dX11_property_8 : decode cX11_property 8 = .ok (.aload_n 3, 1) := by decide +kernel
theorem dX11_property_9 : decode cX11_property 9 = .ok (.iload_n 1, 1) := by decide +kernel
theorem dX11_property_10 : decode cX11_property 10 = .ok (.invokevirtual 172, 3) := by decide +kernel
theorem dX11_property_13 : decode cX11_property 13 = .ok (.ifCond .ne 6, 3) := by decide +kernel
theorem dX11_property_16 : decode cX11_property 16 = .ok (.bipush (-2), 2) := by decide +kernel
theorem dX11_property_18 : decode cX11_property 18 = .ok (.ireturn, 1) := by decide +kernel
theorem dX11_property_19 : decode cX11_property 19 = .ok (.iload_n 2, 1) := by decide +kernel
theorem dX11_property_20 : decode cX11_property 20 = .ok (.tableswitch 132 0 8 #[52, 59, 66, 73, 80, 96, 103, 110, 122], 52) := by decide +kernel
theorem dX11_property_72 : decode cX11_property 72 = .ok (.aload_n 3, 1) := by decide +kernel
theorem dX11_property_73 : decode cX11_property 73 = .ok (.getfield 176, 3) := by decide +kernel
theorem dX11_property_76 : decode cX11_property 76 = .ok (.iload_n 1, 1) := by decide +kernel
theorem dX11_property_77 : decode cX11_property 77 = .ok (.iaload, 1) := by decide +kernel
theorem dX11_property_78 : decode cX11_property 78 = .ok (.ireturn, 1) := by decide +kernel
theorem dX11_property_79 : decode cX11_property 79 = .ok (.aload_n 3, 1) := by decide +kernel
theorem dX11_property_80 : decode cX11_property 80 = .ok (.getfield 179, 3) := by decide +kernel
theorem dX11_property_83 : decode cX11_property 83 = .ok (.iload_n 1, 1) := by decide +kernel
theorem dX11_property_84 : decode cX11_property 84 = .ok (.iaload, 1) := by decide +kernel
theorem dX11_property_85 : decode cX11_property 85 = .ok (.ireturn, 1) := by decide +kernel
theorem dX11_property_86 : decode cX11_property 86 = .ok (.aload_n 3, 1) := by decide +kernel
theorem dX11_property_87 : decode cX11_property 87 = .ok (.getfield 182, 3) := by decide +kernel
theorem dX11_property_90 : decode cX11_property 90 = .ok (.iload_n 1, 1) := by decide +kernel
theorem dX11_property_91 : decode cX11_property 91 = .ok (.iaload, 1) := by decide +kernel
theorem dX11_property_92 : decode cX11_property 92 = .ok (.ireturn, 1) := by decide +kernel
theorem dX11_property_93 : decode cX11_property 93 = .ok (.aload_n 3, 1) := by decide +kernel
theorem dX11_property_94 : decode cX11_property 94 = .ok (.getfield 185, 3) := by decide +kernel
theorem dX11_property_97 : decode cX11_property 97 = .ok (.iload_n 1, 1) := by decide +kernel
theorem dX11_property_98 : decode cX11_property 98 = .ok (.iaload, 1) := by decide +kernel
theorem dX11_property_99 : decode cX11_property 99 = .ok (.ireturn, 1) := by decide +kernel
theorem dX11_property_100 : decode cX11_property 100 = .ok (.aload_n 3, 1) := by decide +kernel
theorem dX11_property_101 : decode cX11_property 101 = .ok (.getfield 188, 3) := by decide +kernel
theorem dX11_property_104 : decode cX11_property 104 = .ok (.iload_n 1, 1) := by decide +kernel
theorem dX11_property_105 : decode cX11_property 105 = .ok (.iaload, 1) := by decide +kernel
theorem dX11_property_106 : decode cX11_property 106 = .ok (.iconst (-1), 1) := by decide +kernel
theorem dX11_property_107 : decode cX11_property 107 = .ok (.if_icmp .ne 7, 3) := by decide +kernel
theorem dX11_property_110 : decode cX11_property 110 = .ok (.iconst 0, 1) := by decide +kernel
theorem dX11_property_111 : decode cX11_property 111 = .ok (.goto 4, 3) := by decide +kernel
theorem dX11_property_114 : decode cX11_property 114 = .ok (.iconst 1, 1) := by decide +kernel
theorem dX11_property_115 : decode cX11_property 115 = .ok (.ireturn, 1) := by decide +kernel
theorem dX11_property_116 : decode cX11_property 116 = .ok (.aload_n 3, 1) := by decide +kernel
theorem dX11_property_117 : decode cX11_property 117 = .ok (.getfield 191, 3) := by decide +kernel
theorem dX11_property_120 : decode cX11_property 120 = .ok (.iload_n 1, 1) := by decide +kernel
theorem dX11_property_121 : decode cX11_property 121 = .ok (.iaload, 1) := by decide +kernel
theorem dX11_property_122 : decode cX11_property 122 = .ok (.ireturn, 1) := by decide +kernel
theorem dX11_property_123 : decode cX11_property 123 = .ok (.aload_n 3, 1) := by decide +kernel
theorem dX11_property_124 : decode cX11_property 124 = .ok (.getfield 194, 3) := by decide +kernel
theorem dX11_property_127 : decode cX11_property 127 = .ok (.iload_n 1, 1) := by decide +kernel
theorem dX11_property_128 : decode cX11_property 128 = .ok (.iaload, 1) := by decide +kernel
theorem dX11_property_129 : decode cX11_property 129 = .ok (.ireturn, 1) := by decide +kernel
theorem dX11_property_130 : decode cX11_property 130 = .ok (.aload_n 0, 1) := by decide +kernel
theorem dX11_property_131 : decode cX11_property 131 = .ok (.getfield 10, 3) := by decide +kernel
theorem dX11_property_134 : decode cX11_property 134 = .ok (.getfield 151, 3) := by decide +kernel
theorem dX11_property_137 : decode cX11_property 137 = .ok (.iload_n 1, 1) := by decide +kernel
theorem dX11_property_138 : decode cX11_property 138 = .ok (.invokevirtual 197, 3) := by decide +kernel
theorem dX11_property_141 : decode cX11_property 141 = .ok (.ireturn, 1) := by decide +kernel
theorem dX11_property_142 : decode cX11_property 142 = .ok (.aload_n 3, 1) := by decide +kernel
theorem dX11_property_143 : decode cX11_property 143 = .ok (.getfield 200, 3) := by decide +kernel
theorem dX11_property_146 : decode cX11_property 146 = .ok (.iload_n 1, 1) := by decide +kernel
theorem dX11_property_147 : decode cX11_property 147 = .ok (.iaload, 1) := by decide +kernel
theorem dX11_property_148 : decode cX11_property 148 = .ok (.invokestatic 203, 3) := by decide +kernel
theorem dX11_property_151 : decode cX11_property 151 = .ok (.ireturn, 1) := by decide +kernel
theorem dX11_property_152 : decode cX11_property 152 = .ok (.bipush (-3), 2) := by decide +kernel
theorem dX11_property_154 : decode cX11_property 154 = .ok (.ireturn, 1) := by decide +kernel
theorem dX11_loudnessBits_0 : decode cX11_loudnessBits 0 = .ok (.aload_n 0, 1) := by decide +kernel
theorem dX11_loudnessBits_1 : decode cX11_loudnessBits 1 = .ok (.getfield 10, 3) := by decide +kernel
theorem dX11_loudnessBits_4 : decode cX11_loudnessBits 4 = .ok (.getfield 136, 3) := by decide +kernel
theorem dX11_loudnessBits_7 : decode cX11_loudnessBits 7 = .ok (.iload_n 1, 1) := by decide +kernel
theorem dX11_loudnessBits_8 : decode cX11_loudnessBits 8 = .ok (.invokevirtual 172, 3) := by decide +kernel
theorem dX11_loudnessBits_11 : decode cX11_loudnessBits 11 = .ok (.ifCond .eq 21, 3) := by decide +kernel
theorem dX11_loudnessBits_14 : decode cX11_loudnessBits 14 = .ok (.aload_n 0, 1) := by decide +kernel
theorem dX11_loudnessBits_15 : decode cX11_loudnessBits 15 = .ok (.getfield 10, 3) := by decide +kernel
theorem dX11_loudnessBits_18 : decode cX11_loudnessBits 18 = .ok (.getfield 136, 3) := by decide +kernel
theorem dX11_loudnessBits_21 : decode cX11_loudnessBits 21 = .ok (.getfield 208, 3) := by decide +kernel
theorem dX11_loudnessBits_24 : decode cX11_loudnessBits 24 = .ok (.iload_n 1, 1) := by decide +kernel
theorem dX11_loudnessBits_25 : decode cX11_loudnessBits 25 = .ok (.faload, 1) := by decide +kernel
theorem dX11_loudnessBits_26 : decode cX11_loudnessBits 26 = .ok (.invokestatic 212, 3) := by decide +kernel
theorem dX11_loudnessBits_29 : decode cX11_loudnessBits 29 = .ok (.goto 5, 3) := by decide +kernel
theorem dX11_loudnessBits_32 : decode cX11_loudnessBits 32 = .ok (.bipush (-2), 2) := by decide +kernel
theorem dX11_loudnessBits_34 : decode cX11_loudnessBits 34 = .ok (.ireturn, 1) := by decide +kernel
theorem dX11_mixBits_0 : decode cX11_mixBits 0 = .ok (.aload_n 0, 1) := by decide +kernel
theorem dX11_mixBits_1 : decode cX11_mixBits 1 = .ok (.getfield 10, 3) := by decide +kernel
theorem dX11_mixBits_4 : decode cX11_mixBits 4 = .ok (.getfield 136, 3) := by decide +kernel
theorem dX11_mixBits_7 : decode cX11_mixBits 7 = .ok (.iload_n 1, 1) := by decide +kernel
theorem dX11_mixBits_8 : decode cX11_mixBits 8 = .ok (.invokevirtual 172, 3) := by decide +kernel
theorem dX11_mixBits_11 : decode cX11_mixBits 11 = .ok (.ifCond .eq 21, 3) := by decide +kernel
theorem dX11_mixBits_14 : decode cX11_mixBits 14 = .ok (.aload_n 0, 1) := by decide +kernel
theorem dX11_mixBits_15 : decode cX11_mixBits 15 = .ok (.getfield 10, 3) := by decide +kernel
theorem dX11_mixBits_18 : decode cX11_mixBits 18 = .ok (.getfield 136, 3) := by decide +kernel
theorem dX11_mixBits_21 : decode cX11_mixBits 21 = .ok (.getfield 216, 3) := by decide +kernel
theorem dX11_mixBits_24 : decode cX11_mixBits 24 = .ok (.iload_n 1, 1) := by decide +kernel
theorem dX11_mixBits_25 : decode cX11_mixBits 25 = .ok (.faload, 1) := by decide +kernel
theorem dX11_mixBits_26 : decode cX11_mixBits 26 = .ok (.invokestatic 212, 3) := by decide +kernel
theorem dX11_mixBits_29 : decode cX11_mixBits 29 = .ok (.goto 5, 3) := by decide +kernel
theorem dX11_mixBits_32 : decode cX11_mixBits 32 = .ok (.bipush (-2), 2) := by decide +kernel
theorem dX11_mixBits_34 : decode cX11_mixBits 34 = .ok (.ireturn, 1) := by decide +kernel
theorem dX11_mix_0 : decode cX11_mix 0 = .ok (.aload_n 0, 1) := by decide +kernel
theorem dX11_mix_1 : decode cX11_mix 1 = .ok (.getfield 10, 3) := by decide +kernel
theorem dX11_mix_4 : decode cX11_mix 4 = .ok (.getfield 136, 3) := by decide +kernel
theorem dX11_mix_7 : decode cX11_mix 7 = .ok (.iload_n 1, 1) := by decide +kernel
theorem dX11_mix_8 : decode cX11_mix 8 = .ok (.invokevirtual 172, 3) := by decide +kernel
theorem dX11_mix_11 : decode cX11_mix 11 = .ok (.ifCond .eq 22, 3) := by decide +kernel
theorem dX11_mix_14 : decode cX11_mix 14 = .ok (.aload_n 0, 1) := by decide +kernel
theorem dX11_mix_15 : decode cX11_mix 15 = .ok (.getfield 10, 3) := by decide +kernel
theorem dX11_mix_18 : decode cX11_mix 18 = .ok (.getfield 136, 3) := by decide +kernel
theorem dX11_mix_21 : decode cX11_mix 21 = .ok (.getfield 216, 3) := by decide +kernel
theorem dX11_mix_24 : decode cX11_mix 24 = .ok (.iload_n 1, 1) := by decide +kernel
theorem dX11_mix_25 : decode cX11_mix 25 = .ok (.faload, 1) := by decide +kernel
theorem dX11_mix_26 : decode cX11_mix 26 = .ok (.ldc 219, 2) := by decide +kernel
theorem dX11_mix_28 : decode cX11_mix 28 = .ok (.fmul, 1) := by decide +kernel
theorem dX11_mix_29 : decode cX11_mix 29 = .ok (.f2i, 1) := by decide +kernel
theorem dX11_mix_30 : decode cX11_mix 30 = .ok (.goto 5, 3) := by decide +kernel
theorem dX11_mix_33 : decode cX11_mix 33 = .ok (.bipush (-2), 2) := by decide +kernel
theorem dX11_mix_35 : decode cX11_mix 35 = .ok (.ireturn, 1) := by decide +kernel
theorem dX11_hears_0 : decode cX11_hears 0 = .ok (.aload_n 0, 1) := by decide +kernel
theorem dX11_hears_1 : decode cX11_hears 1 = .ok (.getfield 10, 3) := by decide +kernel
theorem dX11_hears_4 : decode cX11_hears 4 = .ok (.getfield 136, 3) := by decide +kernel
theorem dX11_hears_7 : decode cX11_hears 7 = .ok (.iload_n 1, 1) := by decide +kernel
theorem dX11_hears_8 : decode cX11_hears 8 = .ok (.invokevirtual 172, 3) := by decide +kernel
theorem dX11_hears_11 : decode cX11_hears 11 = .ok (.ifCond .eq 21, 3) := by decide +kernel
theorem dX11_hears_14 : decode cX11_hears 14 = .ok (.iload_n 2, 1) := by decide +kernel
theorem dX11_hears_15 : decode cX11_hears 15 = .ok (.ifCond .lt 17, 3) := by decide +kernel
theorem dX11_hears_18 : decode cX11_hears 18 = .ok (.iload_n 2, 1) := by decide +kernel
theorem dX11_hears_19 : decode cX11_hears 19 = .ok (.aload_n 0, 1) := by decide +kernel
theorem dX11_hears_20 : decode cX11_hears 20 = .ok (.getfield 10, 3) := by decide +kernel
theorem dX11_hears_23 : decode cX11_hears 23 = .ok (.getfield 136, 3) := by decide +kernel
theorem dX11_hears_26 : decode cX11_hears 26 = .ok (.getfield 140, 3) := by decide +kernel
theorem dX11_hears_29 : decode cX11_hears 29 = .ok (.if_icmp .lt 6, 3) := by decide +kernel
theorem dX11_hears_32 : decode cX11_hears 32 = .ok (.bipush (-2), 2) := by decide +kernel
theorem dX11_hears_34 : decode cX11_hears 34 = .ok (.ireturn, 1) := by decide +kernel
theorem dX11_hears_35 : decode cX11_hears 35 = .ok (.aload_n 0, 1) := by decide +kernel
theorem dX11_hears_36 : decode cX11_hears 36 = .ok (.getfield 10, 3) := by decide +kernel
theorem dX11_hears_39 : decode cX11_hears 39 = .ok (.getfield 136, 3) := by decide +kernel
theorem dX11_hears_42 : decode cX11_hears 42 = .ok (.getfield 200, 3) := by decide +kernel
theorem dX11_hears_45 : decode cX11_hears 45 = .ok (.iload_n 1, 1) := by decide +kernel
theorem dX11_hears_46 : decode cX11_hears 46 = .ok (.iaload, 1) := by decide +kernel
theorem dX11_hears_47 : decode cX11_hears 47 = .ok (.iload_n 2, 1) := by decide +kernel
theorem dX11_hears_48 : decode cX11_hears 48 = .ok (.ishr, 1) := by decide +kernel
theorem dX11_hears_49 : decode cX11_hears 49 = .ok (.iconst 1, 1) := by decide +kernel
theorem dX11_hears_50 : decode cX11_hears 50 = .ok (.iand, 1) := by decide +kernel
theorem dX11_hears_51 : decode cX11_hears 51 = .ok (.ireturn, 1) := by decide +kernel
theorem dX11_stream_0 : decode cX11_stream 0 = .ok (.aload_n 0, 1) := by decide +kernel
theorem dX11_stream_1 : decode cX11_stream 1 = .ok (.getfield 10, 3) := by decide +kernel
theorem dX11_stream_4 : decode cX11_stream 4 = .ok (.getfield 127, 3) := by decide +kernel
theorem dX11_stream_7 : decode cX11_stream 7 = .ok (.iload_n 1, 1) := by decide +kernel
theorem dX11_stream_8 : decode cX11_stream 8 = .ok (.invokevirtual 220, 3) := by decide +kernel
theorem dX11_stream_11 : decode cX11_stream 11 = .ok (.ifCond .eq 17, 3) := by decide +kernel
theorem dX11_stream_14 : decode cX11_stream 14 = .ok (.aload_n 0, 1) := by decide +kernel
theorem dX11_stream_15 : decode cX11_stream 15 = .ok (.getfield 10, 3) := by decide +kernel
theorem dX11_stream_18 : decode cX11_stream 18 = .ok (.getfield 127, 3) := by decide +kernel
theorem dX11_stream_21 : decode cX11_stream 21 = .ok (.iload_n 2, 1) := by decide +kernel
theorem dX11_stream_22 : decode cX11_stream 22 = .ok (.invokevirtual 220, 3) := by decide +kernel
theorem dX11_stream_25 : decode cX11_stream 25 = .ok (.ifCond .ne 6, 3) := by decide +kernel
theorem dX11_stream_28 : decode cX11_stream 28 = .ok (.bipush (-2), 2) := by decide +kernel
theorem dX11_stream_30 : decode cX11_stream 30 = .ok (.ireturn, 1) := by decide +kernel
theorem dX11_stream_31 : decode cX11_stream 31 = .ok (.iload_n 3, 1) := by decide +kernel
theorem dX11_stream_32 : decode cX11_stream 32 = .ok (.ifCond .lt 13, 3) := by decide +kernel
theorem dX11_stream_35 : decode cX11_stream 35 = .ok (.iload 4, 2) := by decide +kernel
theorem dX11_stream_37 : decode cX11_stream 37 = .ok (.iconst 0, 1) := by decide +kernel
theorem dX11_stream_38 : decode cX11_stream 38 = .ok (.iconst 2, 1) := by decide +kernel
theorem dX11_stream_39 : decode cX11_stream 39 = .ok (.invokestatic 223, 3) := by decide +kernel
theorem dX11_stream_42 : decode cX11_stream 42 = .ok (.ifCond .ne 6, 3) := by decide +kernel
theorem dX11_stream_45 : decode cX11_stream 45 = .ok (.bipush (-3), 2) := by decide +kernel
theorem dX11_stream_47 : decode cX11_stream 47 = .ok (.ireturn, 1) := by decide +kernel
theorem dX11_stream_48 : decode cX11_stream 48 = .ok (.aload_n 0, 1) := by decide +kernel
theorem dX11_stream_49 : decode cX11_stream 49 = .ok (.getfield 10, 3) := by decide +kernel
theorem dX11_stream_52 : decode cX11_stream 52 = .ok (.getfield 127, 3) := by decide +kernel
theorem dX11_stream_55 : decode cX11_stream 55 = .ok (.iload_n 1, 1) := by decide +kernel
theorem dX11_stream_56 : decode cX11_stream 56 = .ok (.iload_n 2, 1) := by decide +kernel
theorem dX11_stream_57 : decode cX11_stream 57 = .ok (.invokevirtual 227, 3) := by decide +kernel
theorem dX11_stream_60 : decode cX11_stream 60 = .ok (.istore 5, 2) := by decide +kernel
theorem dX11_stream_62 : decode cX11_stream 62 = .ok (.iload 5, 2) := by decide +kernel
theorem dX11_stream_64 : decode cX11_stream 64 = .ok (.iconst (-1), 1) := by decide +kernel
theorem dX11_stream_65 : decode cX11_stream 65 = .ok (.if_icmp .ne 6, 3) := by decide +kernel
theorem dX11_stream_68 : decode cX11_stream 68 = .ok (.bipush (-4), 2) := by decide +kernel
theorem dX11_stream_70 : decode cX11_stream 70 = .ok (.ireturn, 1) := by decide +kernel
theorem dX11_stream_71 : decode cX11_stream 71 = .ok (.iload_n 3, 1) := by decide +kernel
theorem dX11_stream_72 : decode cX11_stream 72 = .ok (.aload_n 0, 1) := by decide +kernel
theorem dX11_stream_73 : decode cX11_stream 73 = .ok (.getfield 10, 3) := by decide +kernel
theorem dX11_stream_76 : decode cX11_stream 76 = .ok (.getfield 230, 3) := by decide +kernel
theorem dX11_stream_79 : decode cX11_stream 79 = .ok (.getfield 234, 3) := by decide +kernel
theorem dX11_stream_82 : decode cX11_stream 82 = .ok (.iload 5, 2) := by decide +kernel
theorem dX11_stream_84 : decode cX11_stream 84 = .ok (.iaload, 1) := by decide +kernel
theorem dX11_stream_85 : decode cX11_stream 85 = .ok (.if_icmp .lt 5, 3) := by decide +kernel
theorem dX11_stream_88 : decode cX11_stream 88 = .ok (.iconst (-1), 1) := by decide +kernel
theorem dX11_stream_89 : decode cX11_stream 89 = .ok (.ireturn, 1) := by decide +kernel
theorem dX11_stream_90 : decode cX11_stream 90 = .ok (.iload 5, 2) := by decide +kernel
theorem dX11_stream_92 : decode cX11_stream 92 = .ok (.iconst 4, 1) := by decide +kernel
theorem dX11_stream_93 : decode cX11_stream 93 = .ok (.imul, 1) := by decide +kernel
theorem dX11_stream_94 : decode cX11_stream 94 = .ok (.iload_n 3, 1) := by decide +kernel
theorem dX11_stream_95 : decode cX11_stream 95 = .ok (.iadd, 1) := by decide +kernel
theorem dX11_stream_96 : decode cX11_stream 96 = .ok (.istore 6, 2) := by decide +kernel
theorem dX11_stream_98 : decode cX11_stream 98 = .ok (.iload 4, 2) := by decide +kernel
theorem dX11_stream_100 : decode cX11_stream 100 = .ok (.lookupswitch 56 #[(0, 28), (1, 42)], 28) := by decide +kernel
theorem dX11_stream_128 : decode cX11_stream 128 = .ok (.aload_n 0, 1) := by decide +kernel
theorem dX11_stream_129 : decode cX11_stream 129 = .ok (.getfield 10, 3) := by decide +kernel
theorem dX11_stream_132 : decode cX11_stream 132 = .ok (.getfield 230, 3) := by decide +kernel
theorem dX11_stream_135 : decode cX11_stream 135 = .ok (.getfield 238, 3) := by decide +kernel
theorem dX11_stream_138 : decode cX11_stream 138 = .ok (.iload 6, 2) := by decide +kernel
theorem dX11_stream_140 : decode cX11_stream 140 = .ok (.iaload, 1) := by decide +kernel
theorem dX11_stream_141 : decode cX11_stream 141 = .ok (.ireturn, 1) := by decide +kernel
theorem dX11_stream_142 : decode cX11_stream 142 = .ok (.aload_n 0, 1) := by decide +kernel
theorem dX11_stream_143 : decode cX11_stream 143 = .ok (.getfield 10, 3) := by decide +kernel
theorem dX11_stream_146 : decode cX11_stream 146 = .ok (.getfield 230, 3) := by decide +kernel
theorem dX11_stream_149 : decode cX11_stream 149 = .ok (.getfield 241, 3) := by decide +kernel
theorem dX11_stream_152 : decode cX11_stream 152 = .ok (.iload 6, 2) := by decide +kernel
theorem dX11_stream_154 : decode cX11_stream 154 = .ok (.iaload, 1) := by decide +kernel
theorem dX11_stream_155 : decode cX11_stream 155 = .ok (.ireturn, 1) := by decide +kernel
theorem dX11_stream_156 : decode cX11_stream 156 = .ok (.aload_n 0, 1) := by decide +kernel
theorem dX11_stream_157 : decode cX11_stream 157 = .ok (.getfield 10, 3) := by decide +kernel
theorem dX11_stream_160 : decode cX11_stream 160 = .ok (.getfield 230, 3) := by decide +kernel
theorem dX11_stream_163 : decode cX11_stream 163 = .ok (.getfield 244, 3) := by decide +kernel
theorem dX11_stream_166 : decode cX11_stream 166 = .ok (.iload 6, 2) := by decide +kernel
theorem dX11_stream_168 : decode cX11_stream 168 = .ok (.faload, 1) := by decide +kernel
theorem dX11_stream_169 : decode cX11_stream 169 = .ok (.invokestatic 212, 3) := by decide +kernel
theorem dX11_stream_172 : decode cX11_stream 172 = .ok (.ireturn, 1) := by decide +kernel
theorem dX11_distance_0 : decode cX11_distance 0 = .ok (.aload_n 0, 1) := by decide +kernel
theorem dX11_distance_1 : decode cX11_distance 1 = .ok (.getfield 10, 3) := by decide +kernel
theorem dX11_distance_4 : decode cX11_distance 4 = .ok (.getfield 136, 3) := by decide +kernel
theorem dX11_distance_7 : decode cX11_distance 7 = .ok (.iload_n 1, 1) := by decide +kernel
theorem dX11_distance_8 : decode cX11_distance 8 = .ok (.invokevirtual 172, 3) := by decide +kernel
theorem dX11_distance_11 : decode cX11_distance 11 = .ok (.ifCond .eq 17, 3) := by decide +kernel
theorem dX11_distance_14 : decode cX11_distance 14 = .ok (.aload_n 0, 1) := by decide +kernel
theorem dX11_distance_15 : decode cX11_distance 15 = .ok (.getfield 10, 3) := by decide +kernel
theorem dX11_distance_18 : decode cX11_distance 18 = .ok (.getfield 136, 3) := by decide +kernel
theorem dX11_distance_21 : decode cX11_distance 21 = .ok (.iload_n 2, 1) := by decide +kernel
theorem dX11_distance_22 : decode cX11_distance 22 = .ok (.invokevirtual 172, 3) := by decide +kernel
theorem dX11_distance_25 : decode cX11_distance 25 = .ok (.ifCond .ne 6, 3) := by decide +kernel
theorem dX11_distance_28 : decode cX11_distance 28 = .ok (.bipush (-2), 2) := by decide +kernel
theorem dX11_distance_30 : decode cX11_distance 30 = .ok (.ireturn, 1) := by decide +kernel
theorem dX11_distance_31 : decode cX11_distance 31 = .ok (.aload_n 0, 1) := by decide +kernel
theorem dX11_distance_32 : decode cX11_distance 32 = .ok (.getfield 10, 3) := by decide +kernel
theorem dX11_distance_35 : decode cX11_distance 35 = .ok (.getfield 127, 3) := by decide +kernel
theorem dX11_distance_38 : decode cX11_distance 38 = .ok (.aload_n 0, 1) := by decide +kernel
theorem dX11_distance_39 : decode cX11_distance 39 = .ok (.getfield 10, 3) := by decide +kernel
theorem dX11_distance_42 : decode cX11_distance 42 = .ok (.getfield 136, 3) := by decide +kernel
theorem dX11_distance_45 : decode cX11_distance 45 = .ok (.getfield 176, 3) := by decide +kernel
theorem dX11_distance_48 : decode cX11_distance 48 = .ok (.iload_n 1, 1) := by decide +kernel
theorem dX11_distance_49 : decode cX11_distance 49 = .ok (.iaload, 1) := by decide +kernel
theorem dX11_distance_50 : decode cX11_distance 50 = .ok (.aload_n 0, 1) := by decide +kernel
theorem dX11_distance_51 : decode cX11_distance 51 = .ok (.getfield 10, 3) := by decide +kernel
theorem dX11_distance_54 : decode cX11_distance 54 = .ok (.getfield 136, 3) := by decide +kernel
theorem dX11_distance_57 : decode cX11_distance 57 = .ok (.getfield 176, 3) := by decide +kernel
theorem dX11_distance_60 : decode cX11_distance 60 = .ok (.iload_n 2, 1) := by decide +kernel
theorem dX11_distance_61 : decode cX11_distance 61 = .ok (.iaload, 1) := by decide +kernel
theorem dX11_distance_62 : decode cX11_distance 62 = .ok (.invokevirtual 245, 3) := by decide +kernel
theorem dX11_distance_65 : decode cX11_distance 65 = .ok (.ireturn, 1) := by decide +kernel
theorem dX11_waiting_0 : decode cX11_waiting 0 = .ok (.iload_n 1, 1) := by decide +kernel
theorem dX11_waiting_1 : decode cX11_waiting 1 = .ok (.ifCond .lt 32, 3) := by decide +kernel
theorem dX11_waiting_4 : decode cX11_waiting 4 = .ok (.iload_n 1, 1) := by decide +kernel
theorem dX11_waiting_5 : decode cX11_waiting 5 = .ok (.aload_n 0, 1) := by decide +kernel
theorem dX11_waiting_6 : decode cX11_waiting 6 = .ok (.getfield 10, 3) := by decide +kernel
theorem dX11_waiting_9 : decode cX11_waiting 9 = .ok (.getfield 151, 3) := by decide +kernel
theorem dX11_waiting_12 : decode cX11_waiting 12 = .ok (.getfield 155, 3) := by decide +kernel
theorem dX11_waiting_15 : decode cX11_waiting 15 = .ok (.if_icmp .ge 18, 3) := by decide +kernel
theorem dX11_waiting_18 : decode cX11_waiting 18 = .ok (.aload_n 0, 1) := by decide +kernel
theorem dX11_waiting_19 : decode cX11_waiting 19 = .ok (.getfield 10, 3) := by decide +kernel
theorem dX11_waiting_22 : decode cX11_waiting 22 = .ok (.getfield 151, 3) := by decide +kernel
theorem dX11_waiting_25 : decode cX11_waiting 25 = .ok (.getfield 248, 3) := by decide +kernel
theorem dX11_waiting_28 : decode cX11_waiting 28 = .ok (.iload_n 1, 1) := by decide +kernel
theorem dX11_waiting_29 : decode cX11_waiting 29 = .ok (.iaload, 1) := by decide +kernel
theorem dX11_waiting_30 : decode cX11_waiting 30 = .ok (.goto 5, 3) := by decide +kernel
theorem dX11_waiting_33 : decode cX11_waiting 33 = .ok (.bipush (-2), 2) := by decide +kernel
theorem dX11_waiting_35 : decode cX11_waiting 35 = .ok (.ireturn, 1) := by decide +kernel
theorem dX11_foretell_0 : decode cX11_foretell 0 = .ok (.aload_n 0, 1) := by decide +kernel
theorem dX11_foretell_1 : decode cX11_foretell 1 = .ok (.getfield 10, 3) := by decide +kernel
theorem dX11_foretell_4 : decode cX11_foretell 4 = .ok (.getfield 136, 3) := by decide +kernel
theorem dX11_foretell_7 : decode cX11_foretell 7 = .ok (.iload_n 1, 1) := by decide +kernel
theorem dX11_foretell_8 : decode cX11_foretell 8 = .ok (.invokevirtual 172, 3) := by decide +kernel
theorem dX11_foretell_11 : decode cX11_foretell 11 = .ok (.ifCond .ne 6, 3) := by decide +kernel
theorem dX11_foretell_14 : decode cX11_foretell 14 = .ok (.bipush (-2), 2) := by decide +kernel
theorem dX11_foretell_16 : decode cX11_foretell 16 = .ok (.ireturn, 1) := by decide +kernel
theorem dX11_foretell_17 : decode cX11_foretell 17 = .ok (.iload_n 2, 1) := by decide +kernel
theorem dX11_foretell_18 : decode cX11_foretell 18 = .ok (.iconst 1, 1) := by decide +kernel
theorem dX11_foretell_19 : decode cX11_foretell 19 = .ok (.bipush 99, 2) := by decide +kernel
theorem dX11_foretell_21 : decode cX11_foretell 21 = .ok (.invokestatic 223, 3) := by decide +kernel
theorem dX11_foretell_24 : decode cX11_foretell 24 = .ok (.ifCond .ne 6, 3) := by decide +kernel
theorem dX11_foretell_27 : decode cX11_foretell 27 = .ok (.bipush (-3), 2) := by decide +kernel
theorem dX11_foretell_29 : decode cX11_foretell 29 = .ok (.ireturn, 1) := by decide +kernel
theorem dX11_foretell_30 : decode cX11_foretell 30 = .ok (.aload_n 0, 1) := by decide +kernel
theorem dX11_foretell_31 : decode cX11_foretell 31 = .ok (.getfield 16, 3) := by decide +kernel
theorem dX11_foretell_34 : decode cX11_foretell 34 = .ok (.aload_n 0, 1) := by decide +kernel
theorem dX11_foretell_35 : decode cX11_foretell 35 = .ok (.getfield 10, 3) := by decide +kernel
theorem dX11_foretell_38 : decode cX11_foretell 38 = .ok (.invokevirtual 251, 3) := by decide +kernel
theorem dX11_foretell_41 : decode cX11_foretell 41 = .ok (.iconst 0, 1) := by decide +kernel
theorem dX11_foretell_42 : decode cX11_foretell 42 = .ok (.istore_n 3, 1) := by decide +kernel
theorem dX11_foretell_43 : decode cX11_foretell 43 = .ok (.iload_n 3, 1) := by decide +kernel
theorem dX11_foretell_44 : decode cX11_foretell 44 = .ok (.iload_n 2, 1) := by decide +kernel
theorem dX11_foretell_45 : decode cX11_foretell 45 = .ok (.if_icmp .ge 34, 3) := by decide +kernel
theorem dX11_foretell_48 : decode cX11_foretell 48 = .ok (.aload_n 0, 1) := by decide +kernel
theorem dX11_foretell_49 : decode cX11_foretell 49 = .ok (.getfield 16, 3) := by decide +kernel
theorem dX11_foretell_52 : decode cX11_foretell 52 = .ok (.getfield 136, 3) := by decide +kernel
theorem dX11_foretell_55 : decode cX11_foretell 55 = .ok (.getfield 188, 3) := by decide +kernel
theorem dX11_foretell_58 : decode cX11_foretell 58 = .ok (.iload_n 1, 1) := by decide +kernel
theorem dX11_foretell_59 : decode cX11_foretell 59 = .ok (.iaload, 1) := by decide +kernel
theorem dX11_foretell_60 : decode cX11_foretell 60 = .ok (.iconst (-1), 1) := by decide +kernel
theorem dX11_foretell_61 : decode cX11_foretell 61 = .ok (.if_icmp .eq 5, 3) := by decide +kernel
theorem dX11_foretell_64 : decode cX11_foretell 64 = .ok (.iload_n 3, 1) := by decide +kernel
theorem dX11_foretell_65 : decode cX11_foretell 65 = .ok (.ireturn, 1) := by decide +kernel
theorem dX11_foretell_66 : decode cX11_foretell 66 = .ok (.aload_n 0, 1) := by decide +kernel
theorem dX11_foretell_67 : decode cX11_foretell 67 = .ok (.getfield 16, 3) := by decide +kernel
theorem dX11_foretell_70 : decode cX11_foretell 70 = .ok (.invokevirtual 254, 3) := by decide +kernel
theorem dX11_foretell_73 : decode cX11_foretell 73 = .ok (.iinc 3 1, 3) := by decide +kernel
theorem dX11_foretell_76 : decode cX11_foretell 76 = .ok (.goto (-33), 3) := by decide +kernel
theorem dX11_foretell_79 : decode cX11_foretell 79 = .ok (.aload_n 0, 1) := by decide +kernel
theorem dX11_foretell_80 : decode cX11_foretell 80 = .ok (.getfield 16, 3) := by decide +kernel
theorem dX11_foretell_83 : decode cX11_foretell 83 = .ok (.getfield 136, 3) := by decide +kernel
theorem dX11_foretell_86 : decode cX11_foretell 86 = .ok (.getfield 188, 3) := by decide +kernel
theorem dX11_foretell_89 : decode cX11_foretell 89 = .ok (.iload_n 1, 1) := by decide +kernel
theorem dX11_foretell_90 : decode cX11_foretell 90 = .ok (.iaload, 1) := by decide +kernel
theorem dX11_foretell_91 : decode cX11_foretell 91 = .ok (.iconst (-1), 1) := by decide +kernel
theorem dX11_foretell_92 : decode cX11_foretell 92 = .ok (.if_icmp .eq 7, 3) := by decide +kernel
theorem dX11_foretell_95 : decode cX11_foretell 95 = .ok (.iload_n 2, 1) := by decide +kernel
theorem dX11_foretell_96 : decode cX11_foretell 96 = .ok (.goto 4, 3) := by decide +kernel
theorem dX11_foretell_99 : decode cX11_foretell 99 = .ok (.iconst (-1), 1) := by decide +kernel
theorem dX11_foretell_100 : decode cX11_foretell 100 = .ok (.ireturn, 1) := by decide +kernel
theorem dX11_event_0 : decode cX11_event 0 = .ok (.aload_n 0, 1) := by decide +kernel
theorem dX11_event_1 : decode cX11_event 1 = .ok (.getfield 10, 3) := by decide +kernel
theorem dX11_event_4 : decode cX11_event 4 = .ok (.getfield 163, 3) := by decide +kernel
theorem dX11_event_7 : decode cX11_event 7 = .ok (.astore_n 3, 1) := by decide +kernel
theorem dX11_event_8 : decode cX11_event 8 = .ok (.iload_n 1, 1) := by decide +kernel
theorem dX11_event_9 : decode cX11_event 9 = .ok (.ifCond .lt 11, 3) := by decide +kernel
theorem dX11_event_12 : decode cX11_event 12 = .ok (.iload_n 1, 1) := by decide +kernel
theorem dX11_event_13 : decode cX11_event 13 = .ok (.aload_n 3, 1) := by decide +kernel
theorem dX11_event_14 : decode cX11_event 14 = .ok (.getfield 167, 3) := by decide +kernel
theorem dX11_event_17 : decode cX11_event 17 = .ok (.if_icmp .lt 6, 3) := by decide +kernel
theorem dX11_event_20 : decode cX11_event 20 = .ok (.bipush (-2), 2) := by decide +kernel
theorem dX11_event_22 : decode cX11_event 22 = .ok (.ireturn, 1) := by decide +kernel
theorem dX11_event_23 : decode cX11_event 23 = .ok (.aload_n 3, 1) := by decide +kernel
theorem dX11_event_24 : decode cX11_event 24 = .ok (.iload_n 1, 1) := by decide +kernel
theorem dX11_event_25 : decode cX11_event 25 = .ok (.invokevirtual 257, 3) := by decide +kernel
theorem dX11_event_28 : decode cX11_event 28 = .ok (.istore 4, 2) := by decide +kernel
theorem dX11_event_30 : decode cX11_event 30 = .ok (.iload_n 2, 1) := by decide +kernel
theorem dX11_event_31 : decode cX11_event 31 = .ok (.tableswitch 49 0 2 #[25, 33, 41], 25) := by decide +kernel
theorem dX11_event_56 : decode cX11_event 56 = .ok (.aload_n 3, 1) := by decide +kernel
theorem dX11_event_57 : decode cX11_event 57 = .ok (.getfield 260, 3) := by decide +kernel
theorem dX11_event_60 : decode cX11_event 60 = .ok (.iload 4, 2) := by decide +kernel
theorem dX11_event_62 : decode cX11_event 62 = .ok (.iaload, 1) := by decide +kernel
theorem dX11_event_63 : decode cX11_event 63 = .ok (.ireturn, 1) := by decide +kernel
theorem dX11_event_64 : decode cX11_event 64 = .ok (.aload_n 3, 1) := by decide +kernel
theorem dX11_event_65 : decode cX11_event 65 = .ok (.getfield 261, 3) := by decide +kernel
theorem dX11_event_68 : decode cX11_event 68 = .ok (.iload 4, 2) := by decide +kernel
theorem dX11_event_70 : decode cX11_event 70 = .ok (.iaload, 1) := by decide +kernel
theorem dX11_event_71 : decode cX11_event 71 = .ok (.ireturn, 1) := by decide +kernel
theorem dX11_event_72 : decode cX11_event 72 = .ok (.aload_n 3, 1) := by decide +kernel
theorem dX11_event_73 : decode cX11_event 73 = .ok (.getfield 264, 3) := by decide +kernel
theorem dX11_event_76 : decode cX11_event 76 = .ok (.iload 4, 2) := by decide +kernel
theorem dX11_event_78 : decode cX11_event 78 = .ok (.iaload, 1) := by decide +kernel
theorem dX11_event_79 : decode cX11_event 79 = .ok (.ireturn, 1) := by decide +kernel
theorem dX11_event_80 : decode cX11_event 80 = .ok (.bipush (-3), 2) := by decide +kernel
theorem dX11_event_82 : decode cX11_event 82 = .ok (.ireturn, 1) := by decide +kernel
theorem dX11_digest_0 : decode cX11_digest 0 = .ok (.ldc2_w 267, 3) := by decide +kernel
theorem dX11_digest_3 : decode cX11_digest 3 = .ok (.lstore_n 1, 1) := by decide +kernel
theorem dX11_digest_4 : decode cX11_digest 4 = .ok (.iconst 0, 1) := by decide +kernel
theorem dX11_digest_5 : decode cX11_digest 5 = .ok (.istore_n 3, 1) := by decide +kernel
theorem dX11_digest_6 : decode cX11_digest 6 = .ok (.iload_n 3, 1) := by decide +kernel
theorem dX11_digest_7 : decode cX11_digest 7 = .ok (.bipush 6, 2) := by decide +kernel
theorem dX11_digest_9 : decode cX11_digest 9 = .ok (.if_icmp .gt 22, 3) := by decide +kernel
theorem dX11_digest_12 : decode cX11_digest 12 = .ok (.ldc2_w 269, 3) := by decide +kernel
theorem dX11_digest_15 : decode cX11_digest 15 = .ok (.lload_n 1, 1) := by decide +kernel
theorem dX11_digest_16 : decode cX11_digest 16 = .ok (.lmul, 1) := by decide +kernel
theorem dX11_digest_17 : decode cX11_digest 17 = .ok (.aload_n 0, 1) := by decide +kernel
theorem dX11_digest_18 : decode cX11_digest 18 = .ok (.iload_n 3, 1) := by decide +kernel
theorem dX11_digest_19 : decode cX11_digest 19 = .ok (.invokevirtual 271, 3) := by decide +kernel
theorem dX11_digest_22 : decode cX11_digest 22 = .ok (.i2l, 1) := by decide +kernel
theorem dX11_digest_23 : decode cX11_digest 23 = .ok (.ladd, 1) := by decide +kernel
theorem dX11_digest_24 : decode cX11_digest 24 = .ok (.lstore_n 1, 1) := by decide +kernel
theorem dX11_digest_25 : decode cX11_digest 25 = .ok (.iinc 3 1, 3) := by decide +kernel
theorem dX11_digest_28 : decode cX11_digest 28 = .ok (.goto (-22), 3) := by decide +kernel
theorem dX11_digest_31 : decode cX11_digest 31 = .ok (.aload_n 0, 1) := by decide +kernel
theorem dX11_digest_32 : decode cX11_digest 32 = .ok (.aload_n 0, 1) := by decide +kernel
theorem dX11_digest_33 : decode cX11_digest 33 = .ok (.aload_n 0, 1) := by decide +kernel
theorem dX11_digest_34 : decode cX11_digest 34 = .ok (.lload_n 1, 1) := by decide +kernel
theorem dX11_digest_35 : decode cX11_digest 35 = .ok (.invokevirtual 274, 3) := by decide +kernel
theorem dX11_digest_38 : decode cX11_digest 38 = .ok (.invokevirtual 278, 3) := by decide +kernel
theorem dX11_digest_41 : decode cX11_digest 41 = .ok (.invokevirtual 281, 3) := by decide +kernel
theorem dX11_digest_44 : decode cX11_digest 44 = .ok (.lreturn, 1) := by decide +kernel
theorem dX11_hashPeople_0 : decode cX11_hashPeople 0 = .ok (.lload_n 1, 1) := by decide +kernel
theorem dX11_hashPeople_1 : decode cX11_hashPeople 1 = .ok (.lstore_n 3, 1) := by decide +kernel
theorem dX11_hashPeople_2 : decode cX11_hashPeople 2 = .ok (.iconst 0, 1) := by decide +kernel
theorem dX11_hashPeople_3 : decode cX11_hashPeople 3 = .ok (.istore 5, 2) := by decide +kernel
theorem dX11_hashPeople_5 : decode cX11_hashPeople 5 = .ok (.iload 5, 2) := by decide +kernel
theorem dX11_hashPeople_7 : decode cX11_hashPeople 7 = .ok (.aload_n 0, 1) := by decide +kernel
theorem dX11_hashPeople_8 : decode cX11_hashPeople 8 = .ok (.getfield 10, 3) := by decide +kernel
theorem dX11_hashPeople_11 : decode cX11_hashPeople 11 = .ok (.getfield 136, 3) := by decide +kernel
theorem dX11_hashPeople_14 : decode cX11_hashPeople 14 = .ok (.getfield 140, 3) := by decide +kernel
theorem dX11_hashPeople_17 : decode cX11_hashPeople 17 = .ok (.if_icmp .ge 84, 3) := by decide +kernel
theorem dX11_hashPeople_20 : decode cX11_hashPeople 20 = .ok (.aload_n 0, 1) := by decide +kernel
theorem dX11_hashPeople_21 : decode cX11_hashPeople 21 = .ok (.getfield 10, 3) := by decide +kernel
theorem dX11_hashPeople_24 : decode cX11_hashPeople 24 = .ok (.getfield 136, 3) := by decide +kernel
theorem dX11_hashPeople_27 : decode cX11_hashPeople 27 = .ok (.iload 5, 2) := by decide +kernel
theorem dX11_hashPeople_29 : decode cX11_hashPeople 29 = .ok (.invokevirtual 172, 3) := by decide +kernel
theorem dX11_hashPeople_32 : decode cX11_hashPeople 32 = .ok (.ifCond .eq 63, 3) := by decide +kernel
theorem dX11_hashPeople_35 : decode cX11_hashPeople 35 = .ok (.iconst 0, 1) := by decide +kernel
theorem dX11_hashPeople_36 : decode cX11_hashPeople 36 = .ok (.istore 6, 2) := by decide +kernel
theorem dX11_hashPeople_38 : decode cX11_hashPeople 38 = .ok (.iload 6, 2) := by decide +kernel
theorem dX11_hashPeople_40 : decode cX11_hashPeople 40 = .ok (.bipush 8, 2) := by decide +kernel
theorem dX11_hashPeople_42 : decode cX11_hashPeople 42 = .ok (.if_icmp .gt 25, 3) := by decide +kernel
theorem dX11_hashPeople_45 : decode cX11_hashPeople 45 = .ok (.ldc2_w 269, 3) := by decide +kernel
theorem dX11_hashPeople_48 : decode cX11_hashPeople 48 = .ok (.lload_n 3, 1) := by decide +kernel
theorem dX11_hashPeople_49 : decode cX11_hashPeople 49 = .ok (.lmul, 1) := by decide +kernel
theorem dX11_hashPeople_50 : decode cX11_hashPeople 50 = .ok (.aload_n 0, 1) := by decide +kernel
theorem dX11_hashPeople_51 : decode cX11_hashPeople 51 = .ok (.iload 5, 2) := by decide +kernel
theorem dX11_hashPeople_53 : decode cX11_hashPeople 53 = .ok (.iload 6, 2) := by decide +kernel
theorem dX11_hashPeople_55 : decode cX11_hashPeople 55 = .ok (.invokevirtual 284, 3) := by decide +kernel
theorem dX11_hashPeople_58 : decode cX11_hashPeople 58 = .ok (.i2l, 1) := by decide +kernel
theorem dX11_hashPeople_59 : decode cX11_hashPeople 59 = .ok (.ladd, 1) := by decide +kernel
theorem dX11_hashPeople_60 : decode cX11_hashPeople 60 = .ok (.lstore_n 3, 1) := by decide +kernel
theorem dX11_hashPeople_61 : decode cX11_hashPeople 61 = .ok (.iinc 6 1, 3) := by decide +kernel
theorem dX11_hashPeople_64 : decode cX11_hashPeople 64 = .ok (.goto (-26), 3) := by decide +kernel
theorem dX11_hashPeople_67 : decode cX11_hashPeople 67 = .ok (.ldc2_w 269, 3) := by decide +kernel
theorem dX11_hashPeople_70 : decode cX11_hashPeople 70 = .ok (.lload_n 3, 1) := by decide +kernel
theorem dX11_hashPeople_71 : decode cX11_hashPeople 71 = .ok (.lmul, 1) := by decide +kernel
theorem dX11_hashPeople_72 : decode cX11_hashPeople 72 = .ok (.aload_n 0, 1) := by decide +kernel
theorem dX11_hashPeople_73 : decode cX11_hashPeople 73 = .ok (.iload 5, 2) := by decide +kernel
theorem dX11_hashPeople_75 : decode cX11_hashPeople 75 = .ok (.invokevirtual 287, 3) := by decide +kernel
theorem dX11_hashPeople_78 : decode cX11_hashPeople 78 = .ok (.i2l, 1) := by decide +kernel
theorem dX11_hashPeople_79 : decode cX11_hashPeople 79 = .ok (.ladd, 1) := by decide +kernel
theorem dX11_hashPeople_80 : decode cX11_hashPeople 80 = .ok (.lstore_n 3, 1) := by decide +kernel
theorem dX11_hashPeople_81 : decode cX11_hashPeople 81 = .ok (.ldc2_w 269, 3) := by decide +kernel
theorem dX11_hashPeople_84 : decode cX11_hashPeople 84 = .ok (.lload_n 3, 1) := by decide +kernel
theorem dX11_hashPeople_85 : decode cX11_hashPeople 85 = .ok (.lmul, 1) := by decide +kernel
theorem dX11_hashPeople_86 : decode cX11_hashPeople 86 = .ok (.aload_n 0, 1) := by decide +kernel
theorem dX11_hashPeople_87 : decode cX11_hashPeople 87 = .ok (.iload 5, 2) := by decide +kernel
theorem dX11_hashPeople_89 : decode cX11_hashPeople 89 = .ok (.invokevirtual 290, 3) := by decide +kernel
theorem dX11_hashPeople_92 : decode cX11_hashPeople 92 = .ok (.i2l, 1) := by decide +kernel
theorem dX11_hashPeople_93 : decode cX11_hashPeople 93 = .ok (.ladd, 1) := by decide +kernel
theorem dX11_hashPeople_94 : decode cX11_hashPeople 94 = .ok (.lstore_n 3, 1) := by decide +kernel
theorem dX11_hashPeople_95 : decode cX11_hashPeople 95 = .ok (.iinc 5 1, 3) := by decide +kernel
theorem dX11_hashPeople_98 : decode cX11_hashPeople 98 = .ok (.goto (-93), 3) := by decide +kernel
theorem dX11_hashPeople_101 : decode cX11_hashPeople 101 = .ok (.lload_n 3, 1) := by decide +kernel
theorem dX11_hashPeople_102 : decode cX11_hashPeople 102 = .ok (.lreturn, 1) := by decide +kernel
theorem dX11_hashStreams_0 : decode cX11_hashStreams 0 = .ok (.lload_n 1, 1) := by decide +kernel
theorem dX11_hashStreams_1 : decode cX11_hashStreams 1 = .ok (.lstore_n 3, 1) := by decide +kernel
theorem dX11_hashStreams_2 : decode cX11_hashStreams 2 = .ok (.iconst 0, 1) := by decide +kernel
theorem dX11_hashStreams_3 : decode cX11_hashStreams 3 = .ok (.istore 5, 2) := by decide +kernel
theorem dX11_hashStreams_5 : decode cX11_hashStreams 5 = .ok (.iload 5, 2) := by decide +kernel
theorem dX11_hashStreams_7 : decode cX11_hashStreams 7 = .ok (.aload_n 0, 1) := by decide +kernel
theorem dX11_hashStreams_8 : decode cX11_hashStreams 8 = .ok (.getfield 10, 3) := by decide +kernel
theorem dX11_hashStreams_11 : decode cX11_hashStreams 11 = .ok (.getfield 127, 3) := by decide +kernel
theorem dX11_hashStreams_14 : decode cX11_hashStreams 14 = .ok (.getfield 131, 3) := by decide +kernel
theorem dX11_hashStreams_17 : decode cX11_hashStreams 17 = .ok (.if_icmp .ge 116, 3) := by decide +kernel
theorem dX11_hashStreams_20 : decode cX11_hashStreams 20 = .ok (.iconst 0, 1) := by decide +kernel
theorem dX11_hashStreams_21 : decode cX11_hashStreams 21 = .ok (.istore 6, 2) := by decide +kernel
theorem dX11_hashStreams_23 : decode cX11_hashStreams 23 = .ok (.iload 6, 2) := by decide +kernel
theorem dX11_hashStreams_25 : decode cX11_hashStreams 25 = .ok (.aload_n 0, 1) := by decide +kernel
theorem dX11_hashStreams_26 : decode cX11_hashStreams 26 = .ok (.getfield 10, 3) := by decide +kernel
theorem dX11_hashStreams_29 : decode cX11_hashStreams 29 = .ok (.getfield 127, 3) := by decide +kernel
theorem dX11_hashStreams_32 : decode cX11_hashStreams 32 = .ok (.getfield 131, 3) := by decide +kernel
theorem dX11_hashStreams_35 : decode cX11_hashStreams 35 = .ok (.if_icmp .ge 92, 3) := by decide +kernel
theorem dX11_hashStreams_38 : decode cX11_hashStreams 38 = .ok (.aload_n 0, 1) := by decide +kernel
theorem dX11_hashStreams_39 : decode cX11_hashStreams 39 = .ok (.getfield 10, 3) := by decide +kernel
theorem dX11_hashStreams_42 : decode cX11_hashStreams 42 = .ok (.getfield 127, 3) := by decide +kernel
theorem dX11_hashStreams_45 : decode cX11_hashStreams 45 = .ok (.iload 5, 2) := by decide +kernel
theorem dX11_hashStreams_47 : decode cX11_hashStreams 47 = .ok (.iload 6, 2) := by decide +kernel
theorem dX11_hashStreams_49 : decode cX11_hashStreams 49 = .ok (.invokevirtual 227, 3) := by decide +kernel
theorem dX11_hashStreams_52 : decode cX11_hashStreams 52 = .ok (.istore 7, 2) := by decide +kernel
theorem dX11_hashStreams_54 : decode cX11_hashStreams 54 = .ok (.iload 7, 2) := by decide +kernel
theorem dX11_hashStreams_56 : decode cX11_hashStreams 56 = .ok (.iconst (-1), 1) := by decide +kernel
theorem dX11_hashStreams_57 : decode cX11_hashStreams 57 = .ok (.if_icmp .ne 7, 3) := by decide +kernel
theorem dX11_hashStreams_60 : decode cX11_hashStreams 60 = .ok (.iconst 0, 1) := by decide +kernel
theorem dX11_hashStreams_61 : decode cX11_hashStreams 61 = .ok (.goto 16, 3) := by decide +kernel
theorem dX11_hashStreams_64 : decode cX11_hashStreams 64 = .ok (.aload_n 0, 1) := by decide +kernel
theorem dX11_hashStreams_65 : decode cX11_hashStreams 65 = .ok (.getfield 10, 3) := by decide +kernel
theorem dX11_hashStreams_68 : decode cX11_hashStreams 68 = .ok (.getfield 230, 3) := by decide +kernel
theorem dX11_hashStreams_71 : decode cX11_hashStreams 71 = .ok (.getfield 234, 3) := by decide +kernel
theorem dX11_hashStreams_74 : decode cX11_hashStreams 74 = .ok (.iload 7, 2) := by decide +kernel
theorem dX11_hashStreams_76 : decode cX11_hashStreams 76 = .ok (.iaload, 1) := by decide +kernel
theorem dX11_hashStreams_77 : decode cX11_hashStreams 77 = .ok (.istore 8, 2) := by decide +kernel
theorem dX11_hashStreams_79 : decode cX11_hashStreams 79 = .ok (.iconst 0, 1) := by decide +kernel
theorem dX11_hashStreams_80 : decode cX11_hashStreams 80 = .ok (.istore 9, 2) := by decide +kernel
theorem dX11_hashStreams_82 : decode cX11_hashStreams 82 = .ok (.iload 9, 2) := by decide +kernel
theorem dX11_hashStreams_84 : decode cX11_hashStreams 84 = .ok (.iload 8, 2) := by decide +kernel
theorem dX11_hashStreams_86 : decode cX11_hashStreams 86 = .ok (.if_icmp .ge 35, 3) := by decide +kernel
theorem dX11_hashStreams_89 : decode cX11_hashStreams 89 = .ok (.ldc2_w 269, 3) := by decide +kernel
theorem dX11_hashStreams_92 : decode cX11_hashStreams 92 = .ok (.lload_n 3, 1) := by decide +kernel
theorem dX11_hashStreams_93 : decode cX11_hashStreams 93 = .ok (.lmul, 1) := by decide +kernel
theorem dX11_hashStreams_94 : decode cX11_hashStreams 94 = .ok (.aload_n 0, 1) := by decide +kernel
theorem dX11_hashStreams_95 : decode cX11_hashStreams 95 = .ok (.getfield 10, 3) := by decide +kernel
theorem dX11_hashStreams_98 : decode cX11_hashStreams 98 = .ok (.getfield 230, 3) := by decide +kernel
theorem dX11_hashStreams_101 : decode cX11_hashStreams 101 = .ok (.getfield 238, 3) := by decide +kernel
theorem dX11_hashStreams_104 : decode cX11_hashStreams 104 = .ok (.iload 7, 2) := by decide +kernel
theorem dX11_hashStreams_106 : decode cX11_hashStreams 106 = .ok (.iconst 4, 1) := by decide +kernel
theorem dX11_hashStreams_107 : decode cX11_hashStreams 107 = .ok (.imul, 1) := by decide +kernel
theorem dX11_hashStreams_108 : decode cX11_hashStreams 108 = .ok (.iload 9, 2) := by decide +kernel
theorem dX11_hashStreams_110 : decode cX11_hashStreams 110 = .ok (.iadd, 1) := by decide +kernel
theorem dX11_hashStreams_111 : decode cX11_hashStreams 111 = .ok (.iaload, 1) := by decide +kernel
theorem dX11_hashStreams_112 : decode cX11_hashStreams 112 = .ok (.i2l, 1) := by decide +kernel
theorem dX11_hashStreams_113 : decode cX11_hashStreams 113 = .ok (.ladd, 1) := by decide +kernel
theorem dX11_hashStreams_114 : decode cX11_hashStreams 114 = .ok (.lstore_n 3, 1) := by decide +kernel
theorem dX11_hashStreams_115 : decode cX11_hashStreams 115 = .ok (.iinc 9 1, 3) := by decide +kernel
theorem dX11_hashStreams_118 : decode cX11_hashStreams 118 = .ok (.goto (-36), 3) := by decide +kernel
theorem dX11_hashStreams_121 : decode cX11_hashStreams 121 = .ok (.iinc 6 1, 3) := by decide +kernel
theorem dX11_hashStreams_124 : decode cX11_hashStreams 124 = .ok (.goto (-101), 3) := by decide +kernel
theorem dX11_hashStreams_127 : decode cX11_hashStreams 127 = .ok (.iinc 5 1, 3) := by decide +kernel
theorem dX11_hashStreams_130 : decode cX11_hashStreams 130 = .ok (.goto (-125), 3) := by decide +kernel
theorem dX11_hashStreams_133 : decode cX11_hashStreams 133 = .ok (.lload_n 3, 1) := by decide +kernel
theorem dX11_hashStreams_134 : decode cX11_hashStreams 134 = .ok (.lreturn, 1) := by decide +kernel
theorem dX11_hashEvents_0 : decode cX11_hashEvents 0 = .ok (.lload_n 1, 1) := by decide +kernel
theorem dX11_hashEvents_1 : decode cX11_hashEvents 1 = .ok (.lstore_n 3, 1) := by decide +kernel
theorem dX11_hashEvents_2 : decode cX11_hashEvents 2 = .ok (.aload_n 0, 1) := by decide +kernel
theorem dX11_hashEvents_3 : decode cX11_hashEvents 3 = .ok (.getfield 10, 3) := by decide +kernel
theorem dX11_hashEvents_6 : decode cX11_hashEvents 6 = .ok (.getfield 163, 3) := by decide +kernel
theorem dX11_hashEvents_9 : decode cX11_hashEvents 9 = .ok (.getfield 167, 3) := by decide +kernel
theorem dX11_hashEvents_12 : decode cX11_hashEvents 12 = .ok (.iconst 1, 1) := by decide +kernel
theorem dX11_hashEvents_13 : decode cX11_hashEvents 13 = .ok (.isub, 1) := by decide +kernel
theorem dX11_hashEvents_14 : decode cX11_hashEvents 14 = .ok (.istore 5, 2) := by decide +kernel
theorem dX11_hashEvents_16 : decode cX11_hashEvents 16 = .ok (.iload 5, 2) := by decide +kernel
theorem dX11_hashEvents_18 : decode cX11_hashEvents 18 = .ok (.ifCond .lt 40, 3) := by decide +kernel
theorem dX11_hashEvents_21 : decode cX11_hashEvents 21 = .ok (.iconst 0, 1) := by decide +kernel
theorem dX11_hashEvents_22 : decode cX11_hashEvents 22 = .ok (.istore 6, 2) := by decide +kernel
theorem dX11_hashEvents_24 : decode cX11_hashEvents 24 = .ok (.iload 6, 2) := by decide +kernel
theorem dX11_hashEvents_26 : decode cX11_hashEvents 26 = .ok (.iconst 2, 1) := by decide +kernel
theorem dX11_hashEvents_27 : decode cX11_hashEvents 27 = .ok (.if_icmp .gt 25, 3) := by decide +kernel
theorem dX11_hashEvents_30 : decode cX11_hashEvents 30 = .ok (.ldc2_w 269, 3) := by decide +kernel
theorem dX11_hashEvents_33 : decode cX11_hashEvents 33 = .ok (.lload_n 3, 1) := by decide +kernel
theorem dX11_hashEvents_34 : decode cX11_hashEvents 34 = .ok (.lmul, 1) := by decide +kernel
theorem dX11_hashEvents_35 : decode cX11_hashEvents 35 = .ok (.aload_n 0, 1) := by decide +kernel
theorem dX11_hashEvents_36 : decode cX11_hashEvents 36 = .ok (.iload 5, 2) := by decide +kernel
theorem dX11_hashEvents_38 : decode cX11_hashEvents 38 = .ok (.iload 6, 2) := by decide +kernel
theorem dX11_hashEvents_40 : decode cX11_hashEvents 40 = .ok (.invokevirtual 293, 3) := by decide +kernel
theorem dX11_hashEvents_43 : decode cX11_hashEvents 43 = .ok (.i2l, 1) := by decide +kernel
theorem dX11_hashEvents_44 : decode cX11_hashEvents 44 = .ok (.ladd, 1) := by decide +kernel
theorem dX11_hashEvents_45 : decode cX11_hashEvents 45 = .ok (.lstore_n 3, 1) := by decide +kernel
theorem dX11_hashEvents_46 : decode cX11_hashEvents 46 = .ok (.iinc 6 1, 3) := by decide +kernel
theorem dX11_hashEvents_49 : decode cX11_hashEvents 49 = .ok (.goto (-25), 3) := by decide +kernel
theorem dX11_hashEvents_52 : decode cX11_hashEvents 52 = .ok (.iinc 5 (-1), 3) := by decide +kernel
theorem dX11_hashEvents_55 : decode cX11_hashEvents 55 = .ok (.goto (-39), 3) := by decide +kernel
theorem dX11_hashEvents_58 : decode cX11_hashEvents 58 = .ok (.lload_n 3, 1) := by decide +kernel
theorem dX11_hashEvents_59 : decode cX11_hashEvents 59 = .ok (.lreturn, 1) := by decide +kernel
theorem dX11_isWithin_0 : decode cX11_isWithin 0 = .ok (.iload_n 0, 1) := by decide +kernel
theorem dX11_isWithin_1 : decode cX11_isWithin 1 = .ok (.iload_n 1, 1) := by decide +kernel
theorem dX11_isWithin_2 : decode cX11_isWithin 2 = .ok (.if_icmp .lt 12, 3) := by decide +kernel
theorem dX11_isWithin_5 : decode cX11_isWithin 5 = .ok (.iload_n 0, 1) := by decide +kernel
theorem dX11_isWithin_6 : decode cX11_isWithin 6 = .ok (.iload_n 2, 1) := by decide +kernel
theorem dX11_isWithin_7 : decode cX11_isWithin 7 = .ok (.if_icmp .gt 7, 3) := by decide +kernel
theorem dX11_isWithin_10 : decode cX11_isWithin 10 = .ok (.iconst 1, 1) := by decide +kernel
theorem dX11_isWithin_11 : decode cX11_isWithin 11 = .ok (.goto 4, 3) := by decide +kernel
theorem dX11_isWithin_14 : decode cX11_isWithin 14 = .ok (.iconst 0, 1) := by decide +kernel
theorem dX11_isWithin_15 : decode cX11_isWithin 15 = .ok (.ireturn, 1) := by decide +kernel
theorem dX11_power_0 : decode cX11_power 0 = .ok (.iload_n 0, 1) := by decide +kernel
theorem dX11_power_1 : decode cX11_power 1 = .ok (.iconst 3, 1) := by decide +kernel
theorem dX11_power_2 : decode cX11_power 2 = .ok (.irem, 1) := by decide +kernel
theorem dX11_power_3 : decode cX11_power 3 = .ok (.istore_n 1, 1) := by decide +kernel
theorem dX11_power_4 : decode cX11_power 4 = .ok (.iload_n 1, 1) := by decide +kernel
theorem dX11_power_5 : decode cX11_power 5 = .ok (.ifCond .ne 7, 3) := by decide +kernel
theorem dX11_power_8 : decode cX11_power 8 = .ok (.fconst 1, 1) := by decide +kernel
theorem dX11_power_9 : decode cX11_power 9 = .ok (.goto 17, 3) := by decide +kernel
theorem dX11_power_12 : decode cX11_power 12 = .ok (.iload_n 1, 1) := by decide +kernel
theorem dX11_power_13 : decode cX11_power 13 = .ok (.iconst 1, 1) := by decide +kernel
theorem dX11_power_14 : decode cX11_power 14 = .ok (.if_icmp .ne 9, 3) := by decide +kernel
theorem dX11_power_17 : decode cX11_power 17 = .ok (.ldc_w 296, 3) := by decide +kernel
theorem dX11_power_20 : decode cX11_power 20 = .ok (.goto 6, 3) := by decide +kernel
theorem dX11_power_23 : decode cX11_power 23 = .ok (.ldc_w 297, 3) := by decide +kernel
theorem dX11_power_26 : decode cX11_power 26 = .ok (.fstore_n 2, 1) := by decide +kernel
theorem dX11_power_27 : decode cX11_power 27 = .ok (.fload_n 2, 1) := by decide +kernel
theorem dX11_power_28 : decode cX11_power 28 = .ok (.iconst 1, 1) := by decide +kernel
theorem dX11_power_29 : decode cX11_power 29 = .ok (.iload_n 0, 1) := by decide +kernel
theorem dX11_power_30 : decode cX11_power 30 = .ok (.iconst 3, 1) := by decide +kernel
theorem dX11_power_31 : decode cX11_power 31 = .ok (.idiv, 1) := by decide +kernel
theorem dX11_power_32 : decode cX11_power 32 = .ok (.ishl, 1) := by decide +kernel
theorem dX11_power_33 : decode cX11_power 33 = .ok (.i2f, 1) := by decide +kernel
theorem dX11_power_34 : decode cX11_power 34 = .ok (.fmul, 1) := by decide +kernel
theorem dX11_power_35 : decode cX11_power 35 = .ok (.freturn, 1) := by decide +kernel
theorem dX11_bitsOf_0 : decode cX11_bitsOf 0 = .ok (.fload_n 0, 1) := by decide +kernel
theorem dX11_bitsOf_1 : decode cX11_bitsOf 1 = .ok (.fconst 0, 1) := by decide +kernel
theorem dX11_bitsOf_2 : decode cX11_bitsOf 2 = .ok (.fcmp .l, 1) := by decide +kernel
theorem dX11_bitsOf_3 : decode cX11_bitsOf 3 = .ok (.ifCond .le 7, 3) := by decide +kernel
theorem dX11_bitsOf_6 : decode cX11_bitsOf 6 = .ok (.fload_n 0, 1) := by decide +kernel
theorem dX11_bitsOf_7 : decode cX11_bitsOf 7 = .ok (.goto 4, 3) := by decide +kernel
theorem dX11_bitsOf_10 : decode cX11_bitsOf 10 = .ok (.fconst 0, 1) := by decide +kernel
theorem dX11_bitsOf_11 : decode cX11_bitsOf 11 = .ok (.fstore_n 1, 1) := by decide +kernel
theorem dX11_bitsOf_12 : decode cX11_bitsOf 12 = .ok (.bipush 127, 2) := by decide +kernel
theorem dX11_bitsOf_14 : decode cX11_bitsOf 14 = .ok (.istore_n 2, 1) := by decide +kernel
theorem dX11_bitsOf_15 : decode cX11_bitsOf 15 = .ok (.fload_n 1, 1) := by decide +kernel
theorem dX11_bitsOf_16 : decode cX11_bitsOf 16 = .ok (.fconst 2, 1) := by decide +kernel
theorem dX11_bitsOf_17 : decode cX11_bitsOf 17 = .ok (.fcmp .l, 1) := by decide +kernel
theorem dX11_bitsOf_18 : decode cX11_bitsOf 18 = .ok (.ifCond .lt 20, 3) := by decide +kernel
theorem dX11_bitsOf_21 : decode cX11_bitsOf 21 = .ok (.iload_n 2, 1) := by decide +kernel
theorem dX11_bitsOf_22 : decode cX11_bitsOf 22 = .ok (.sipush 254, 3) := by decide +kernel
theorem dX11_bitsOf_25 : decode cX11_bitsOf 25 = .ok (.if_icmp .ge 13, 3) := by decide +kernel
theorem dX11_bitsOf_28 : decode cX11_bitsOf 28 = .ok (.fload_n 1, 1) := by decide +kernel
theorem dX11_bitsOf_29 : decode cX11_bitsOf 29 = .ok (.fconst 2, 1) := by decide +kernel
theorem dX11_bitsOf_30 : decode cX11_bitsOf 30 = .ok (.fdiv, 1) := by decide +kernel
theorem dX11_bitsOf_31 : decode cX11_bitsOf 31 = .ok (.fstore_n 1, 1) := by decide +kernel
theorem dX11_bitsOf_32 : decode cX11_bitsOf 32 = .ok (.iinc 2 1, 3) := by decide +kernel
theorem dX11_bitsOf_35 : decode cX11_bitsOf 35 = .ok (.goto (-20), 3) := by decide +kernel
theorem dX11_bitsOf_38 : decode cX11_bitsOf 38 = .ok (.fload_n 1, 1) := by decide +kernel
theorem dX11_bitsOf_39 : decode cX11_bitsOf 39 = .ok (.fconst 1, 1) := by decide +kernel
theorem dX11_bitsOf_40 : decode cX11_bitsOf 40 = .ok (.fcmp .g, 1) := by decide +kernel
theorem dX11_bitsOf_41 : decode cX11_bitsOf 41 = .ok (.ifCond .ge 18, 3) := by decide +kernel
theorem dX11_bitsOf_44 : decode cX11_bitsOf 44 = .ok (.iload_n 2, 1) := by decide +kernel
theorem dX11_bitsOf_45 : decode cX11_bitsOf 45 = .ok (.iconst 1, 1) := by decide +kernel
theorem dX11_bitsOf_46 : decode cX11_bitsOf 46 = .ok (.if_icmp .le 13, 3) := by decide +kernel
theorem dX11_bitsOf_49 : decode cX11_bitsOf 49 = .ok (.fload_n 1, 1) := by decide +kernel
theorem dX11_bitsOf_50 : decode cX11_bitsOf 50 = .ok (.fconst 2, 1) := by decide +kernel
theorem dX11_bitsOf_51 : decode cX11_bitsOf 51 = .ok (.fmul, 1) := by decide +kernel
theorem dX11_bitsOf_52 : decode cX11_bitsOf 52 = .ok (.fstore_n 1, 1) := by decide +kernel
theorem dX11_bitsOf_53 : decode cX11_bitsOf 53 = .ok (.iinc 2 (-1), 3) := by decide +kernel
theorem dX11_bitsOf_56 : decode cX11_bitsOf 56 = .ok (.goto (-18), 3) := by decide +kernel
theorem dX11_bitsOf_59 : decode cX11_bitsOf 59 = .ok (.iload_n 2, 1) := by decide +kernel
theorem dX11_bitsOf_60 : decode cX11_bitsOf 60 = .ok (.iconst 1, 1) := by decide +kernel
theorem dX11_bitsOf_61 : decode cX11_bitsOf 61 = .ok (.isub, 1) := by decide +kernel
theorem dX11_bitsOf_62 : decode cX11_bitsOf 62 = .ok (.bipush 23, 2) := by decide +kernel
theorem dX11_bitsOf_64 : decode cX11_bitsOf 64 = .ok (.ishl, 1) := by decide +kernel
theorem dX11_bitsOf_65 : decode cX11_bitsOf 65 = .ok (.fload_n 1, 1) := by decide +kernel
theorem dX11_bitsOf_66 : decode cX11_bitsOf 66 = .ok (.ldc_w 298, 3) := by decide +kernel
theorem dX11_bitsOf_69 : decode cX11_bitsOf 69 = .ok (.fmul, 1) := by decide +kernel
theorem dX11_bitsOf_70 : decode cX11_bitsOf 70 = .ok (.f2i, 1) := by decide +kernel
theorem dX11_bitsOf_71 : decode cX11_bitsOf 71 = .ok (.iadd, 1) := by decide +kernel
theorem dX11_bitsOf_72 : decode cX11_bitsOf 72 = .ok (.ireturn, 1) := by decide +kernel
theorem dX12_init_0 : decode cX12_init 0 = .ok (.aload_n 0, 1) := by decide +kernel
theorem dX12_init_1 : decode cX12_init 1 = .ok (.invokespecial 1, 3) := by decide +kernel
theorem dX12_init_4 : decode cX12_init 4 = .ok (.aload_n 0, 1) := by decide +kernel
theorem dX12_init_5 : decode cX12_init 5 = .ok (.sipush 6797, 3) := by decide +kernel
theorem dX12_init_8 : decode cX12_init 8 = .ok (.newarray .int, 2) := by decide +kernel
theorem dX12_init_10 : decode cX12_init 10 = .ok (.putfield 7, 3) := by decide +kernel
theorem dX12_init_13 : decode cX12_init 13 = .ok (.aload_n 0, 1) := by decide +kernel
theorem dX12_init_14 : decode cX12_init 14 = .ok (.sipush 2072, 3) := by decide +kernel
theorem dX12_init_17 : decode cX12_init 17 = .ok (.newarray .float, 2) := by decide +kernel
theorem dX12_init_19 : decode cX12_init 19 = .ok (.putfield 13, 3) := by decide +kernel
theorem dX12_init_22 : decode cX12_init 22 = .ok (.aload_n 0, 1) := by decide +kernel
theorem dX12_init_23 : decode cX12_init 23 = .ok (.iconst 3, 1) := by decide +kernel
theorem dX12_init_24 : decode cX12_init 24 = .ok (.newarray .float, 2) := by decide +kernel
theorem dX12_init_26 : decode cX12_init 26 = .ok (.dup, 1) := by decide +kernel
theorem dX12_init_27 : decode cX12_init 27 = .ok (.iconst 0, 1) := by decide +kernel
theorem dX12_init_28 : decode cX12_init 28 = .ok (.fconst 1, 1) := by decide +kernel
theorem dX12_init_29 : decode cX12_init 29 = .ok (.fastore, 1) := by decide +kernel
theorem dX12_init_30 : decode cX12_init 30 = .ok (.dup, 1) := by decide +kernel
theorem dX12_init_31 : decode cX12_init 31 = .ok (.iconst 1, 1) := by decide +kernel
theorem dX12_init_32 : decode cX12_init 32 = .ok (.ldc 17, 2) := by decide +kernel
theorem dX12_init_34 : decode cX12_init 34 = .ok (.fastore, 1) := by decide +kernel
theorem dX12_init_35 : decode cX12_init 35 = .ok (.dup, 1) := by decide +kernel
theorem dX12_init_36 : decode cX12_init 36 = .ok (.iconst 2, 1) := by decide +kernel
theorem dX12_init_37 : decode cX12_init 37 = .ok (.ldc 18, 2) := by decide +kernel
theorem dX12_init_39 : decode cX12_init 39 = .ok (.fastore, 1) := by decide +kernel
theorem dX12_init_40 : decode cX12_init 40 = .ok (.putfield 19, 3) := by decide +kernel
theorem dX12_init_43 : decode cX12_init 43 = .ok (.aload_n 0, 1) := by decide +kernel
theorem dX12_init_44 : decode cX12_init 44 = .ok (.bipush 20, 2) := by decide +kernel
theorem dX12_init_46 : decode cX12_init 46 = .ok (.newarray .int, 2) := by decide +kernel
theorem dX12_init_48 : decode cX12_init 48 = .ok (.putfield 22, 3) := by decide +kernel
theorem dX12_init_51 : decode cX12_init 51 = .ok (.aload_n 0, 1) := by decide +kernel
theorem dX12_init_52 : decode cX12_init 52 = .ok (.bipush 20, 2) := by decide +kernel
theorem dX12_init_54 : decode cX12_init 54 = .ok (.newarray .float, 2) := by decide +kernel
theorem dX12_init_56 : decode cX12_init 56 = .ok (.putfield 25, 3) := by decide +kernel
theorem dX12_init_59 : decode cX12_init 59 = .ok (.aload_n 0, 1) := by decide +kernel
theorem dX12_init_60 : decode cX12_init 60 = .ok (.sipush 576, 3) := by decide +kernel
theorem dX12_init_63 : decode cX12_init 63 = .ok (.newarray .int, 2) := by decide +kernel
theorem dX12_init_65 : decode cX12_init 65 = .ok (.putfield 28, 3) := by decide +kernel
theorem dX12_init_68 : decode cX12_init 68 = .ok (.aload_n 0, 1) := by decide +kernel
theorem dX12_init_69 : decode cX12_init 69 = .ok (.sipush 256, 3) := by decide +kernel
theorem dX12_init_72 : decode cX12_init 72 = .ok (.newarray .float, 2) := by decide +kernel
theorem dX12_init_74 : decode cX12_init 74 = .ok (.putfield 31, 3) := by decide +kernel
theorem dX12_init_77 : decode cX12_init 77 = .ok (.aload_n 0, 1) := by decide +kernel
theorem dX12_init_78 : decode cX12_init 78 = .ok (.bipush 100, 2) := by decide +kernel
theorem dX12_init_80 : decode cX12_init 80 = .ok (.newarray .int, 2) := by decide +kernel
theorem dX12_init_82 : decode cX12_init 82 = .ok (.putfield 34, 3) := by decide +kernel
theorem dX12_init_85 : decode cX12_init 85 = .ok (.aload_n 0, 1) := by decide +kernel
theorem dX12_init_86 : decode cX12_init 86 = .ok (.getfield 7, 3) := by decide +kernel
theorem dX12_init_89 : decode cX12_init 89 = .ok (.iconst 0, 1) := by decide +kernel
theorem dX12_init_90 : decode cX12_init 90 = .ok (.iconst 2, 1) := by decide +kernel
theorem dX12_init_91 : decode cX12_init 91 = .ok (.iastore, 1) := by decide +kernel
theorem dX12_init_92 : decode cX12_init 92 = .ok (.aload_n 0, 1) := by decide +kernel
theorem dX12_init_93 : decode cX12_init 93 = .ok (.getfield 7, 3) := by decide +kernel
theorem dX12_init_96 : decode cX12_init 96 = .ok (.iconst 1, 1) := by decide +kernel
theorem dX12_init_97 : decode cX12_init 97 = .ok (.bipush 10, 2) := by decide +kernel
theorem dX12_init_99 : decode cX12_init 99 = .ok (.iastore, 1) := by decide +kernel
theorem dX12_init_100 : decode cX12_init 100 = .ok (.aload_n 0, 1) := by decide +kernel
theorem dX12_init_101 : decode cX12_init 101 = .ok (.getfield 7, 3) := by decide +kernel
theorem dX12_init_104 : decode cX12_init 104 = .ok (.iconst 2, 1) := by decide +kernel
theorem dX12_init_105 : decode cX12_init 105 = .ok (.bipush 6, 2) := by decide +kernel
theorem dX12_init_107 : decode cX12_init 107 = .ok (.iastore, 1) := by decide +kernel
theorem dX12_init_108 : decode cX12_init 108 = .ok (.aload_n 0, 1) := by decide +kernel
theorem dX12_init_109 : decode cX12_init 109 = .ok (.getfield 7, 3) := by decide +kernel
theorem dX12_init_112 : decode cX12_init 112 = .ok (.iconst 3, 1) := by decide +kernel
theorem dX12_init_113 : decode cX12_init 113 = .ok (.iconst 3, 1) := by decide +kernel
theorem dX12_init_114 : decode cX12_init 114 = .ok (.iastore, 1) := by decide +kernel
theorem dX12_init_115 : decode cX12_init 115 = .ok (.aload_n 0, 1) := by decide +kernel
theorem dX12_init_116 : decode cX12_init 116 = .ok (.getfield 7, 3) := by decide +kernel
theorem dX12_init_119 : decode cX12_init 119 = .ok (.iconst 5, 1) := by decide +kernel
theorem dX12_init_120 : decode cX12_init 120 = .ok (.iconst 1, 1) := by decide +kernel
theorem dX12_init_121 : decode cX12_init 121 = .ok (.iastore, 1) := by decide +kernel
theorem dX12_init_122 : decode cX12_init 122 = .ok (.aload_n 0, 1) := by decide +kernel
theorem dX12_init_123 : decode cX12_init 123 = .ok (.getfield 7, 3) := by decide +kernel
theorem dX12_init_126 : decode cX12_init 126 = .ok (.bipush 6, 2) := by decide +kernel
theorem dX12_init_128 : decode cX12_init 128 = .ok (.bipush 10, 2) := by decide +kernel
theorem dX12_init_130 : decode cX12_init 130 = .ok (.iastore, 1) := by decide +kernel
theorem dX12_init_131 : decode cX12_init 131 = .ok (.aload_n 0, 1) := by decide +kernel
theorem dX12_init_132 : decode cX12_init 132 = .ok (.getfield 7, 3) := by decide +kernel
theorem dX12_init_135 : decode cX12_init 135 = .ok (.bipush 11, 2) := by decide +kernel
theorem dX12_init_137 : decode cX12_init 137 = .ok (.iconst 1, 1) := by decide +kernel
theorem dX12_init_138 : decode cX12_init 138 = .ok (.iastore, 1) := by decide +kernel
theorem dX12_init_139 : decode cX12_init 139 = .ok (.aload_n 0, 1) := by decide +kernel
theorem dX12_init_140 : decode cX12_init 140 = .ok (.getfield 7, 3) := by decide +kernel
theorem dX12_init_143 : decode cX12_init 143 = .ok (.bipush 13, 2) := by decide +kernel
theorem dX12_init_145 : decode cX12_init 145 = .ok (.iconst (-1), 1) := by decide +kernel
theorem dX12_init_146 : decode cX12_init 146 = .ok (.iastore, 1) := by decide +kernel
theorem dX12_init_147 : decode cX12_init 147 = .ok (.return_, 1) := by decide +kernel
theorem dX12_in_0 : decode cX12_in 0 = .ok (.iload_n 0, 1) := by decide +kernel
theorem dX12_in_1 : decode cX12_in 1 = .ok (.iload_n 1, 1) := by decide +kernel
theorem dX12_in_2 : decode cX12_in 2 = .ok (.if_icmp .lt 12, 3) := by decide +kernel
theorem dX12_in_5 : decode cX12_in 5 = .ok (.iload_n 0, 1) := by decide +kernel
theorem dX12_in_6 : decode cX12_in 6 = .ok (.iload_n 2, 1) := by decide +kernel
theorem dX12_in_7 : decode cX12_in 7 = .ok (.if_icmp .gt 7, 3) := by decide +kernel
theorem dX12_in_10 : decode cX12_in 10 = .ok (.iconst 1, 1) := by decide +kernel
theorem dX12_in_11 : decode cX12_in 11 = .ok (.goto 4, 3) := by decide +kernel
theorem dX12_in_14 : decode cX12_in 14 = .ok (.iconst 0, 1) := by decide +kernel
theorem dX12_in_15 : decode cX12_in 15 = .ok (.ireturn, 1) := by decide +kernel
theorem dX12_copies_0 : decode cX12_copies 0 = .ok (.iconst 0, 1) := by decide +kernel
theorem dX12_copies_1 : decode cX12_copies 1 = .ok (.istore 5, 2) := by decide +kernel
theorem dX12_copies_3 : decode cX12_copies 3 = .ok (.iload 5, 2) := by decide +kernel
theorem dX12_copies_5 : decode cX12_copies 5 = .ok (.sipush 971, 3) := by decide +kernel
theorem dX12_copies_8 : decode cX12_copies 8 = .ok (.if_icmp .ge 27, 3) := by decide +kernel
theorem dX12_copies_11 : decode cX12_copies 11 = .ok (.aload_n 0, 1) := by decide +kernel
theorem dX12_copies_12 : decode cX12_copies 12 = .ok (.getfield 7, 3) := by decide +kernel
theorem dX12_copies_15 : decode cX12_copies 15 = .ok (.iload_n 2, 1) := by decide +kernel
theorem dX12_copies_16 : decode cX12_copies 16 = .ok (.iload 5, 2) := by decide +kernel
theorem dX12_copies_18 : decode cX12_copies 18 = .ok (.iadd, 1) := by decide +kernel
theorem dX12_copies_19 : decode cX12_copies 19 = .ok (.aload_n 0, 1) := by decide +kernel
theorem dX12_copies_20 : decode cX12_copies 20 = .ok (.getfield 7, 3) := by decide +kernel
theorem dX12_copies_23 : decode cX12_copies 23 = .ok (.iload_n 1, 1) := by decide +kernel
theorem dX12_copies_24 : decode cX12_copies 24 = .ok (.iload 5, 2) := by decide +kernel
theorem dX12_copies_26 : decode cX12_copies 26 = .ok (.iadd, 1) := by decide +kernel
theorem dX12_copies_27 : decode cX12_copies 27 = .ok (.iaload, 1) := by decide +kernel
theorem dX12_copies_28 : decode cX12_copies 28 = .ok (.iastore, 1) := by decide +kernel
theorem dX12_copies_29 : decode cX12_copies 29 = .ok (.iinc 5 1, 3) := by decide +kernel
theorem dX12_copies_32 : decode cX12_copies 32 = .ok (.goto (-29), 3) := by decide +kernel
theorem dX12_copies_35 : decode cX12_copies 35 = .ok (.iconst 0, 1) := by decide +kernel
theorem dX12_copies_36 : decode cX12_copies 36 = .ok (.istore 5, 2) := by decide +kernel
theorem dX12_copies_38 : decode cX12_copies 38 = .ok (.iload 5, 2) := by decide +kernel
theorem dX12_copies_40 : decode cX12_copies 40 = .ok (.sipush 296, 3) := by decide +kernel
theorem dX12_copies_43 : decode cX12_copies 43 = .ok (.if_icmp .ge 28, 3) := by decide +kernel
theorem dX12_copies_46 : decode cX12_copies 46 = .ok (.aload_n 0, 1) := by decide +kernel
theorem dX12_copies_47 : decode cX12_copies 47 = .ok (.getfield 13, 3) := by decide +kernel
theorem dX12_copies_50 : decode cX12_copies 50 = .ok (.iload 4, 2) := by decide +kernel
theorem dX12_copies_52 : decode cX12_copies 52 = .ok (.iload 5, 2) := by decide +kernel
theorem dX12_copies_54 : decode cX12_copies 54 = .ok (.iadd, 1) := by decide +kernel
theorem dX12_copies_55 : decode cX12_copies 55 = .ok (.aload_n 0, 1) := by decide +kernel
theorem dX12_copies_56 : decode cX12_copies 56 = .ok (.getfield 13, 3) := by decide +kernel
theorem dX12_copies_59 : decode cX12_copies 59 = .ok (.iload_n 3, 1) := by decide +kernel
theorem dX12_copies_60 : decode cX12_copies 60 = .ok (.iload 5, 2) := by decide +kernel
theorem dX12_copies_62 : decode cX12_copies 62 = .ok (.iadd, 1) := by decide +kernel
theorem dX12_copies_63 : decode cX12_copies 63 = .ok (.faload, 1) := by decide +kernel
theorem dX12_copies_64 : decode cX12_copies 64 = .ok (.fastore, 1) := by decide +kernel
theorem dX12_copies_65 : decode cX12_copies 65 = .ok (.iinc 5 1, 3) := by decide +kernel
theorem dX12_copies_68 : decode cX12_copies 68 = .ok (.goto (-30), 3) := by decide +kernel
theorem dX12_copies_71 : decode cX12_copies 71 = .ok (.return_, 1) := by decide +kernel
theorem dX12_saves_0 : decode cX12_saves 0 = .ok (.aload_n 0, 1) := by decide +kernel
theorem dX12_saves_1 : decode cX12_saves 1 = .ok (.getfield 37, 3) := by decide +kernel
theorem dX12_saves_4 : decode cX12_saves 4 = .ok (.ifCond .eq 4, 3) := by decide +kernel
theorem dX12_saves_7 : decode cX12_saves 7 = .ok (.return_, 1) := by decide +kernel
theorem dX12_saves_8 : decode cX12_saves 8 = .ok (.iconst 1, 1) := by decide +kernel
theorem dX12_saves_9 : decode cX12_saves 9 = .ok (.istore_n 1, 1) := by decide +kernel
theorem dX12_saves_10 : decode cX12_saves 10 = .ok (.iload_n 1, 1) := by decide +kernel
theorem dX12_saves_11 : decode cX12_saves 11 = .ok (.iconst 5, 1) := by decide +kernel
theorem dX12_saves_12 : decode cX12_saves 12 = .ok (.if_icmp .ge 45, 3) := by decide +kernel
theorem dX12_saves_15 : decode cX12_saves 15 = .ok (.aload_n 0, 1) := by decide +kernel
theorem dX12_saves_16 : decode cX12_saves 16 = .ok (.getfield 41, 3) := by decide +kernel
theorem dX12_saves_19 : decode cX12_saves 19 = .ok (.iconst 5, 1) := by decide +kernel
theorem dX12_saves_20 : decode cX12_saves 20 = .ok (.if_icmp .ne 37, 3) := by decide +kernel
theorem dX12_saves_23 : decode cX12_saves 23 = .ok (.aload_n 0, 1) := by decide +kernel
theorem dX12_saves_24 : decode cX12_saves 24 = .ok (.sipush 971, 3) := by decide +kernel
theorem dX12_saves_27 : decode cX12_saves 27 = .ok (.iload_n 1, 1) := by decide +kernel
theorem dX12_saves_28 : decode cX12_saves 28 = .ok (.iconst 1, 1) := by decide +kernel
theorem dX12_saves_29 : decode cX12_saves 29 = .ok (.iadd, 1) := by decide +kernel
theorem dX12_saves_30 : decode cX12_saves 30 = .ok (.imul, 1) := by decide +kernel
theorem dX12_saves_31 : decode cX12_saves 31 = .ok (.sipush 971, 3) := by decide +kernel
theorem dX12_saves_34 : decode cX12_saves 34 = .ok (.iload_n 1, 1) := by decide +kernel
theorem dX12_saves_35 : decode cX12_saves 35 = .ok (.imul, 1) := by decide +kernel
theorem dX12_saves_36 : decode cX12_saves 36 = .ok (.sipush 296, 3) := by decide +kernel
theorem dX12_saves_39 : decode cX12_saves 39 = .ok (.iload_n 1, 1) := by decide +kernel
theorem dX12_saves_40 : decode cX12_saves 40 = .ok (.iconst 1, 1) := by decide +kernel
theorem dX12_saves_41 : decode cX12_saves 41 = .ok (.iadd, 1) := by decide +kernel
theorem dX12_saves_42 : decode cX12_saves 42 = .ok (.imul, 1) := by decide +kernel
theorem dX12_saves_43 : decode cX12_saves 43 = .ok (.sipush 296, 3) := by decide +kernel
theorem dX12_saves_46 : decode cX12_saves 46 = .ok (.iload_n 1, 1) := by decide +kernel
theorem dX12_saves_47 : decode cX12_saves 47 = .ok (.imul, 1) := by decide +kernel
theorem dX12_saves_48 : decode cX12_saves 48 = .ok (.invokevirtual 45, 3) := by decide +kernel
theorem dX12_saves_51 : decode cX12_saves 51 = .ok (.iinc 1 1, 3) := by decide +kernel
theorem dX12_saves_54 : decode cX12_saves 54 = .ok (.goto (-44), 3) := by decide +kernel
theorem dX12_saves_57 : decode cX12_saves 57 = .ok (.aload_n 0, 1) := by decide +kernel
theorem dX12_saves_58 : decode cX12_saves 58 = .ok (.dup, 1) := by decide +kernel
theorem dX12_saves_59 : decode cX12_saves 59 = .ok (.getfield 41, 3) := by decide +kernel
theorem dX12_saves_62 : decode cX12_saves 62 = .ok (.aload_n 0, 1) := by decide +kernel
theorem dX12_saves_63 : decode cX12_saves 63 = .ok (.getfield 41, 3) := by decide +kernel
theorem dX12_saves_66 : decode cX12_saves 66 = .ok (.iconst 5, 1) := by decide +kernel
theorem dX12_saves_67 : decode cX12_saves 67 = .ok (.if_icmp .ne 7, 3) := by decide +kernel
theorem dX12_saves_70 : decode cX12_saves 70 = .ok (.iconst 1, 1) := by decide +kernel
theorem dX12_saves_71 : decode cX12_saves 71 = .ok (.goto 4, 3) := by decide +kernel
theorem dX12_saves_74 : decode cX12_saves 74 = .ok (.iconst 0, 1) := by decide +kernel
theorem dX12_saves_75 : decode cX12_saves 75 = .ok (.isub, 1) := by decide +kernel
theorem dX12_saves_76 : decode cX12_saves 76 = .ok (.putfield 41, 3) := by decide +kernel
theorem dX12_saves_79 : decode cX12_saves 79 = .ok (.aload_n 0, 1) := by decide +kernel
theorem dX12_saves_80 : decode cX12_saves 80 = .ok (.dup, 1) := by decide +kernel
theorem dX12_saves_81 : decode cX12_saves 81 = .ok (.getfield 41, 3) := by decide +kernel
theorem dX12_saves_84 : decode cX12_saves 84 = .ok (.iconst 1, 1) := by decide +kernel
theorem dX12_saves_85 : decode cX12_saves 85 = .ok (.iadd, 1) := by decide +kernel
theorem dX12_saves_86 : decode cX12_saves 86 = .ok (.putfield 41, 3) := by decide +kernel
theorem dX12_saves_89 : decode cX12_saves 89 = .ok (.aload_n 0, 1) := by decide +kernel
theorem dX12_saves_90 : decode cX12_saves 90 = .ok (.iconst 0, 1) := by decide +kernel
theorem dX12_saves_91 : decode cX12_saves 91 = .ok (.sipush 971, 3) := by decide +kernel
theorem dX12_saves_94 : decode cX12_saves 94 = .ok (.aload_n 0, 1) := by decide +kernel
theorem dX12_saves_95 : decode cX12_saves 95 = .ok (.getfield 41, 3) := by decide +kernel
theorem dX12_saves_98 : decode cX12_saves 98 = .ok (.imul, 1) := by decide +kernel
theorem dX12_saves_99 : decode cX12_saves 99 = .ok (.iconst 0, 1) := by decide +kernel
theorem dX12_saves_100 : decode cX12_saves 100 = .ok (.sipush 296, 3) := by decide +kernel
theorem dX12_saves_103 : decode cX12_saves 103 = .ok (.aload_n 0, 1) := by decide +kernel
theorem dX12_saves_104 : decode cX12_saves 104 = .ok (.getfield 41, 3) := by decide +kernel
theorem dX12_saves_107 : decode cX12_saves 107 = .ok (.imul, 1) := by decide +kernel
theorem dX12_saves_108 : decode cX12_saves 108 = .ok (.invokevirtual 45, 3) := by decide +kernel
theorem dX12_saves_111 : decode cX12_saves 111 = .ok (.return_, 1) := by decide +kernel
theorem dX12_ofBridge_0 : decode cX12_ofBridge 0 = .ok (.aload_n 0, 1) := by decide +kernel
theorem dX12_ofBridge_1 : decode cX12_ofBridge 1 = .ok (.getfield 7, 3) := by decide +kernel
theorem dX12_ofBridge_4 : decode cX12_ofBridge 4 = .ok (.bipush 13, 2) := by decide +kernel
theorem dX12_ofBridge_6 : decode cX12_ofBridge 6 = .ok (.iconst 4, 1) := by decide +kernel
theorem dX12_ofBridge_7 : decode cX12_ofBridge 7 = .ok (.iload_n 1, 1) := by decide +kernel
theorem dX12_ofBridge_8 : decode cX12_ofBridge 8 = .ok (.imul, 1) := by decide +kernel
theorem dX12_ofBridge_9 : decode cX12_ofBridge 9 = .ok (.iadd, 1) := by decide +kernel
theorem dX12_ofBridge_10 : decode cX12_ofBridge 10 = .ok (.iload_n 2, 1) := by decide +kernel
theorem dX12_ofBridge_11 : decode cX12_ofBridge 11 = .ok (.iadd, 1) := by decide +kernel
theorem dX12_ofBridge_12 : decode cX12_ofBridge 12 = .ok (.iaload, 1) := by decide +kernel
theorem dX12_ofBridge_13 : decode cX12_ofBridge 13 = .ok (.ireturn, 1) := by decide +kernel
theorem dX12_setsBridge_0 : decode cX12_setsBridge 0 = .ok (.aload_n 0, 1) := by decide +kernel
theorem dX12_setsBridge_1 : decode cX12_setsBridge 1 = .ok (.getfield 7, 3) := by decide +kernel
theorem dX12_setsBridge_4 : decode cX12_setsBridge 4 = .ok (.bipush 13, 2) := by decide +kernel
theorem dX12_setsBridge_6 : decode cX12_setsBridge 6 = .ok (.iconst 4, 1) := by decide +kernel
theorem dX12_setsBridge_7 : decode cX12_setsBridge 7 = .ok (.iload_n 1, 1) := by decide +kernel
theorem dX12_setsBridge_8 : decode cX12_setsBridge 8 = .ok (.imul, 1) := by decide +kernel
theorem dX12_setsBridge_9 : decode cX12_setsBridge 9 = .ok (.iadd, 1) := by decide +kernel
theorem dX12_setsBridge_10 : decode cX12_setsBridge 10 = .ok (.iload_n 2, 1) := by decide +kernel
theorem dX12_setsBridge_11 : decode cX12_setsBridge 11 = .ok (.iadd, 1) := by decide +kernel
theorem dX12_setsBridge_12 : decode cX12_setsBridge 12 = .ok (.iload_n 3, 1) := by decide +kernel
theorem dX12_setsBridge_13 : decode cX12_setsBridge 13 = .ok (.iastore, 1) := by decide +kernel
theorem dX12_setsBridge_14 : decode cX12_setsBridge 14 = .ok (.return_, 1) := by decide +kernel
theorem dX12_of_0 : decode cX12_of 0 = .ok (.aload_n 0, 1) := by decide +kernel
theorem dX12_of_1 : decode cX12_of 1 = .ok (.getfield 7, 3) := by decide +kernel
theorem dX12_of_4 : decode cX12_of 4 = .ok (.bipush 45, 2) := by decide +kernel
theorem dX12_of_6 : decode cX12_of 6 = .ok (.bipush 13, 2) := by decide +kernel
theorem dX12_of_8 : decode cX12_of 8 = .ok (.iload_n 1, 1) := by decide +kernel
theorem dX12_of_9 : decode cX12_of 9 = .ok (.imul, 1) := by decide +kernel
theorem dX12_of_10 : decode cX12_of 10 = .ok (.iadd, 1) := by decide +kernel
theorem dX12_of_11 : decode cX12_of 11 = .ok (.iload_n 2, 1) := by decide +kernel
theorem dX12_of_12 : decode cX12_of 12 = .ok (.iadd, 1) := by decide +kernel
theorem dX12_of_13 : decode cX12_of 13 = .ok (.iaload, 1) := by decide +kernel
theorem dX12_of_14 : decode cX12_of 14 = .ok (.ireturn, 1) := by decide +kernel
theorem dX12_sets_0 : decode cX12_sets 0 = .ok (.aload_n 0, 1) := by decide +kernel
theorem dX12_sets_1 : decode cX12_sets 1 = .ok (.getfield 7, 3) := by decide +kernel
theorem dX12_sets_4 : decode cX12_sets 4 = .ok (.bipush 45, 2) := by decide +kernel
theorem dX12_sets_6 : decode cX12_sets 6 = .ok (.bipush 13, 2) := by decide +kernel
theorem dX12_sets_8 : decode cX12_sets 8 = .ok (.iload_n 1, 1) := by decide +kernel
theorem dX12_sets_9 : decode cX12_sets 9 = .ok (.imul, 1) := by decide +kernel
theorem dX12_sets_10 : decode cX12_sets 10 = .ok (.iadd, 1) := by decide +kernel
theorem dX12_sets_11 : decode cX12_sets 11 = .ok (.iload_n 2, 1) := by decide +kernel
theorem dX12_sets_12 : decode cX12_sets 12 = .ok (.iadd, 1) := by decide +kernel
theorem dX12_sets_13 : decode cX12_sets 13 = .ok (.iload_n 3, 1) := by decide +kernel
theorem dX12_sets_14 : decode cX12_sets 14 = .ok (.iastore, 1) := by decide +kernel
theorem dX12_sets_15 : decode cX12_sets 15 = .ok (.return_, 1) := by decide +kernel
theorem dX12_isBridge_0 : decode cX12_isBridge 0 = .ok (.iload_n 1, 1) := by decide +kernel
theorem dX12_isBridge_1 : decode cX12_isBridge 1 = .ok (.iconst 0, 1) := by decide +kernel
theorem dX12_isBridge_2 : decode cX12_isBridge 2 = .ok (.aload_n 0, 1) := by decide +kernel
theorem dX12_isBridge_3 : decode cX12_isBridge 3 = .ok (.getfield 7, 3) := by decide +kernel
theorem dX12_isBridge_6 : decode cX12_isBridge 6 = .ok (.bipush 11, 2) := by decide +kernel
theorem dX12_isBridge_8 : decode cX12_isBridge 8 = .ok (.iaload, 1) := by decide +kernel
theorem dX12_isBridge_9 : decode cX12_isBridge 9 = .ok (.iconst 1, 1) := by decide +kernel
theorem dX12_isBridge_10 : decode cX12_isBridge 10 = .ok (.isub, 1) := by decide +kernel
theorem dX12_isBridge_11 : decode cX12_isBridge 11 = .ok (.invokestatic 49, 3) := by decide +kernel
theorem dX12_isBridge_14 : decode cX12_isBridge 14 = .ok (.ireturn, 1) := by decide +kernel
theorem dX12_isHere_0 : decode cX12_isHere 0 = .ok (.iload_n 1, 1) := by decide +kernel
theorem dX12_isHere_1 : decode cX12_isHere 1 = .ok (.iconst 0, 1) := by decide +kernel
theorem dX12_isHere_2 : decode cX12_isHere 2 = .ok (.aload_n 0, 1) := by decide +kernel
theorem dX12_isHere_3 : decode cX12_isHere 3 = .ok (.getfield 7, 3) := by decide +kernel
theorem dX12_isHere_6 : decode cX12_isHere 6 = .ok (.bipush 12, 2) := by decide +kernel
theorem dX12_isHere_8 : decode cX12_isHere 8 = .ok (.iaload, 1) := by decide +kernel
theorem dX12_isHere_9 : decode cX12_isHere 9 = .ok (.iconst 1, 1) := by decide +kernel
theorem dX12_isHere_10 : decode cX12_isHere 10 = .ok (.isub, 1) := by decide +kernel
theorem dX12_isHere_11 : decode cX12_isHere 11 = .ok (.invokestatic 49, 3) := by decide +kernel
theorem dX12_isHere_14 : decode cX12_isHere 14 = .ok (.ifCond .eq 17, 3) := by decide +kernel
theorem dX12_isHere_17 : decode cX12_isHere 17 = .ok (.aload_n 0, 1) := by decide +kernel
theorem dX12_isHere_18 : decode cX12_isHere 18 = .ok (.iload_n 1, 1) := by decide +kernel
theorem dX12_isHere_19 : decode cX12_isHere 19 = .ok (.iconst 0, 1) := by decide +kernel
theorem dX12_isHere_20 : decode cX12_isHere 20 = .ok (.invokevirtual 53, 3) := by decide +kernel
theorem dX12_isHere_23 : decode cX12_isHere 23 = .ok (.iconst 1, 1) := by decide +kernel
theorem dX12_isHere_24 : decode cX12_isHere 24 = .ok (.if_icmp .ne 7, 3) := by decide +kernel
theorem dX12_isHere_27 : decode cX12_isHere 27 = .ok (.iconst 1, 1) := by decide +kernel
theorem dX12_isHere_28 : decode cX12_isHere 28 = .ok (.goto 4, 3) := by decide +kernel
theorem dX12_isHere_31 : decode cX12_isHere 31 = .ok (.iconst 0, 1) := by decide +kernel
theorem dX12_isHere_32 : decode cX12_isHere 32 = .ok (.ireturn, 1) := by decide +kernel
theorem dX12_areNeighbours_0 : decode cX12_areNeighbours 0 = .ok (.iload_n 1, 1) := by decide +kernel
theorem dX12_areNeighbours_1 : decode cX12_areNeighbours 1 = .ok (.iload_n 2, 1) := by decide +kernel
theorem dX12_areNeighbours_2 : decode cX12_areNeighbours 2 = .ok (.if_icmp .eq 27, 3) := by decide +kernel
theorem dX12_areNeighbours_5 : decode cX12_areNeighbours 5 = .ok (.aload_n 0, 1) := by decide +kernel
theorem dX12_areNeighbours_6 : decode cX12_areNeighbours 6 = .ok (.iload_n 1, 1) := by decide +kernel
theorem dX12_areNeighbours_7 : decode cX12_areNeighbours 7 = .ok (.iconst 0, 1) := by decide +kernel
theorem dX12_areNeighbours_8 : decode cX12_areNeighbours 8 = .ok (.invokevirtual 57, 3) := by decide +kernel
theorem dX12_areNeighbours_11 : decode cX12_areNeighbours 11 = .ok (.iload_n 2, 1) := by decide +kernel
theorem dX12_areNeighbours_12 : decode cX12_areNeighbours 12 = .ok (.if_icmp .eq 13, 3) := by decide +kernel
theorem dX12_areNeighbours_15 : decode cX12_areNeighbours 15 = .ok (.aload_n 0, 1) := by decide +kernel
theorem dX12_areNeighbours_16 : decode cX12_areNeighbours 16 = .ok (.iload_n 2, 1) := by decide +kernel
theorem dX12_areNeighbours_17 : decode cX12_areNeighbours 17 = .ok (.iconst 0, 1) := by decide +kernel
theorem dX12_areNeighbours_18 : decode cX12_areNeighbours 18 = .ok (.invokevirtual 57, 3) := by decide +kernel
theorem dX12_areNeighbours_21 : decode cX12_areNeighbours 21 = .ok (.iload_n 1, 1) := by decide +kernel
theorem dX12_areNeighbours_22 : decode cX12_areNeighbours 22 = .ok (.if_icmp .ne 7, 3) := by decide +kernel
theorem dX12_areNeighbours_25 : decode cX12_areNeighbours 25 = .ok (.iconst 1, 1) := by decide +kernel
theorem dX12_areNeighbours_26 : decode cX12_areNeighbours 26 = .ok (.goto 4, 3) := by decide +kernel
theorem dX12_areNeighbours_29 : decode cX12_areNeighbours 29 = .ok (.iconst 0, 1) := by decide +kernel
theorem dX12_areNeighbours_30 : decode cX12_areNeighbours 30 = .ok (.ireturn, 1) := by decide +kernel
theorem dX12_placesOf_0 : decode cX12_placesOf 0 = .ok (.aload_n 0, 1) := by decide +kernel
theorem dX12_placesOf_1 : decode cX12_placesOf 1 = .ok (.iload_n 1, 1) := by decide +kernel
theorem dX12_placesOf_2 : decode cX12_placesOf 2 = .ok (.iconst 0, 1) := by decide +kernel
theorem dX12_placesOf_3 : decode cX12_placesOf 3 = .ok (.invokevirtual 57, 3) := by decide +kernel
theorem dX12_placesOf_6 : decode cX12_placesOf 6 = .ok (.iload_n 2, 1) := by decide +kernel
theorem dX12_placesOf_7 : decode cX12_placesOf 7 = .ok (.if_icmp .ne 12, 3) := by decide +kernel
theorem dX12_placesOf_10 : decode cX12_placesOf 10 = .ok (.aload_n 0, 1) := by decide +kernel
theorem dX12_placesOf_11 : decode cX12_placesOf 11 = .ok (.iload_n 1, 1) := by decide +kernel
theorem dX12_placesOf_12 : decode cX12_placesOf 12 = .ok (.iconst 1, 1) := by decide +kernel
theorem dX12_placesOf_13 : decode cX12_placesOf 13 = .ok (.invokevirtual 57, 3) := by decide +kernel
theorem dX12_placesOf_16 : decode cX12_placesOf 16 = .ok (.goto 9, 3) := by decide +kernel
theorem dX12_placesOf_19 : decode cX12_placesOf 19 = .ok (.aload_n 0, 1) := by decide +kernel
theorem dX12_placesOf_20 : decode cX12_placesOf 20 = .ok (.iload_n 2, 1) := by decide +kernel
theorem dX12_placesOf_21 : decode cX12_placesOf 21 = .ok (.iconst 1, 1) := by decide +kernel
theorem dX12_placesOf_22 : decode cX12_placesOf 22 = .ok (.invokevirtual 57, 3) := by decide +kernel
theorem dX12_placesOf_25 : decode cX12_placesOf 25 = .ok (.ireturn, 1) := by decide +kernel
theorem dX12_power_0 : decode cX12_power 0 = .ok (.aload_n 0, 1) := by decide +kernel
theorem dX12_power_1 : decode cX12_power 1 = .ok (.getfield 19, 3) := by decide +kernel
theorem dX12_power_4 : decode cX12_power 4 = .ok (.iload_n 1, 1) := by decide +kernel
theorem dX12_power_5 : decode cX12_power 5 = .ok (.iconst 3, 1) := by decide +kernel
theorem dX12_power_6 : decode cX12_power 6 = .ok (.irem, 1) := by decide +kernel
theorem dX12_power_7 : decode cX12_power 7 = .ok (.faload, 1) := by decide +kernel
theorem dX12_power_8 : decode cX12_power 8 = .ok (.fstore_n 2, 1) := by decide +kernel
theorem dX12_power_9 : decode cX12_power 9 = .ok (.iconst 0, 1) := by decide +kernel
theorem dX12_power_10 : decode cX12_power 10 = .ok (.istore_n 3, 1) := by decide +kernel
theorem dX12_power_11 : decode cX12_power 11 = .ok (.iload_n 3, 1) := by decide +kernel
theorem dX12_power_12 : decode cX12_power 12 = .ok (.iload_n 1, 1) := by decide +kernel
theorem dX12_power_13 : decode cX12_power 13 = .ok (.iconst 3, 1) := by decide +kernel
theorem dX12_power_14 : decode cX12_power 14 = .ok (.idiv, 1) := by decide +kernel
theorem dX12_power_15 : decode cX12_power 15 = .ok (.if_icmp .ge 13, 3) := by decide +kernel
theorem dX12_power_18 : decode cX12_power 18 = .ok (.fload_n 2, 1) := by decide +kernel
theorem dX12_power_19 : decode cX12_power 19 = .ok (.fconst 2, 1) := by decide +kernel
theorem dX12_power_20 : decode cX12_power 20 = .ok (.fmul, 1) := by decide +kernel
theorem dX12_power_21 : decode cX12_power 21 = .ok (.fstore_n 2, 1) := by decide +kernel
theorem dX12_power_22 : decode cX12_power 22 = .ok (.iinc 3 1, 3) := by decide +kernel
theorem dX12_power_25 : decode cX12_power 25 = .ok (.goto (-14), 3) := by decide +kernel
theorem dX12_power_28 : decode cX12_power 28 = .ok (.fload_n 2, 1) := by decide +kernel
theorem dX12_power_29 : decode cX12_power 29 = .ok (.freturn, 1) := by decide +kernel
theorem dX12_notes_0 : decode cX12_notes 0 = .ok (.aload_n 0, 1) := by decide +kernel
theorem dX12_notes_1 : decode cX12_notes 1 = .ok (.getfield 7, 3) := by decide +kernel
theorem dX12_notes_4 : decode cX12_notes 4 = .ok (.bipush 10, 2) := by decide +kernel
theorem dX12_notes_6 : decode cX12_notes 6 = .ok (.iaload, 1) := by decide +kernel
theorem dX12_notes_7 : decode cX12_notes 7 = .ok (.bipush 30, 2) := by decide +kernel
theorem dX12_notes_9 : decode cX12_notes 9 = .ok (.if_icmp .ne 50, 3) := by decide +kernel
theorem dX12_notes_12 : decode cX12_notes 12 = .ok (.iconst 0, 1) := by decide +kernel
theorem dX12_notes_13 : decode cX12_notes 13 = .ok (.istore_n 3, 1) := by decide +kernel
theorem dX12_notes_14 : decode cX12_notes 14 = .ok (.iload_n 3, 1) := by decide +kernel
theorem dX12_notes_15 : decode cX12_notes 15 = .ok (.bipush 87, 2) := by decide +kernel
theorem dX12_notes_17 : decode cX12_notes 17 = .ok (.if_icmp .ge 31, 3) := by decide +kernel
theorem dX12_notes_20 : decode cX12_notes 20 = .ok (.aload_n 0, 1) := by decide +kernel
theorem dX12_notes_21 : decode cX12_notes 21 = .ok (.getfield 7, 3) := by decide +kernel
theorem dX12_notes_24 : decode cX12_notes 24 = .ok (.sipush 305, 3) := by decide +kernel
theorem dX12_notes_27 : decode cX12_notes 27 = .ok (.iload_n 3, 1) := by decide +kernel
theorem dX12_notes_28 : decode cX12_notes 28 = .ok (.iadd, 1) := by decide +kernel
theorem dX12_notes_29 : decode cX12_notes 29 = .ok (.aload_n 0, 1) := by decide +kernel
theorem dX12_notes_30 : decode cX12_notes 30 = .ok (.getfield 7, 3) := by decide +kernel
theorem dX12_notes_33 : decode cX12_notes 33 = .ok (.sipush 305, 3) := by decide +kernel
theorem dX12_notes_36 : decode cX12_notes 36 = .ok (.iload_n 3, 1) := by decide +kernel
theorem dX12_notes_37 : decode cX12_notes 37 = .ok (.iadd, 1) := by decide +kernel
theorem dX12_notes_38 : decode cX12_notes 38 = .ok (.iconst 3, 1) := by decide +kernel
theorem dX12_notes_39 : decode cX12_notes 39 = .ok (.iadd, 1) := by decide +kernel
theorem dX12_notes_40 : decode cX12_notes 40 = .ok (.iaload, 1) := by decide +kernel
theorem dX12_notes_41 : decode cX12_notes 41 = .ok (.iastore, 1) := by decide +kernel
theorem dX12_notes_42 : decode cX12_notes 42 = .ok (.iinc 3 1, 3) := by decide +kernel
theorem dX12_notes_45 : decode cX12_notes 45 = .ok (.goto (-31), 3) := by decide +kernel
theorem dX12_notes_48 : decode cX12_notes 48 = .ok (.aload_n 0, 1) := by decide +kernel
theorem dX12_notes_49 : decode cX12_notes 49 = .ok (.getfield 7, 3) := by decide +kernel
theorem dX12_notes_52 : decode cX12_notes 52 = .ok (.bipush 10, 2) := by decide +kernel
theorem dX12_notes_54 : decode cX12_notes 54 = .ok (.dup2, 1) := by decide +kernel
theorem dX12_notes_55 : decode cX12_notes 55 = .ok (.iaload, 1) := by decide +kernel
theorem dX12_notes_56 : decode cX12_notes 56 = .ok (.iconst 1, 1) := by decide +kernel
theorem dX12_notes_57 : decode cX12_notes 57 = .ok (.isub, 1) := by decide +kernel
theorem dX12_notes_58 : decode cX12_notes 58 = .ok (.iastore, 1) := by decide +kernel
theorem dX12_notes_59 : decode cX12_notes 59 = .ok (.sipush 305, 3) := by decide +kernel
theorem dX12_notes_62 : decode cX12_notes 62 = .ok (.iconst 3, 1) := by decide +kernel
theorem dX12_notes_63 : decode cX12_notes 63 = .ok (.aload_n 0, 1) := by decide +kernel
theorem dX12_notes_64 : decode cX12_notes 64 = .ok (.getfield 7, 3) := by decide +kernel
theorem dX12_notes_67 : decode cX12_notes 67 = .ok (.bipush 10, 2) := by decide +kernel
theorem dX12_notes_69 : decode cX12_notes 69 = .ok (.iaload, 1) := by decide +kernel
theorem dX12_notes_70 : decode cX12_notes 70 = .ok (.imul, 1) := by decide +kernel
theorem dX12_notes_71 : decode cX12_notes 71 = .ok (.iadd, 1) := by decide +kernel
theorem dX12_notes_72 : decode cX12_notes 72 = .ok (.istore_n 3, 1) := by decide +kernel
theorem dX12_notes_73 : decode cX12_notes 73 = .ok (.aload_n 0, 1) := by decide +kernel
theorem dX12_notes_74 : decode cX12_notes 74 = .ok (.getfield 7, 3) := by decide +kernel
theorem dX12_notes_77 : decode cX12_notes 77 = .ok (.iload_n 3, 1) := by decide +kernel
theorem dX12_notes_78 : decode cX12_notes 78 = .ok (.iload_n 1, 1) := by decide +kernel
theorem dX12_notes_79 : decode cX12_notes 79 = .ok (.iastore, 1) := by decide +kernel
theorem dX12_notes_80 : decode cX12_notes 80 = .ok (.aload_n 0, 1) := by decide +kernel
theorem dX12_notes_81 : decode cX12_notes 81 = .ok (.getfield 7, 3) := by decide +kernel
theorem dX12_notes_84 : decode cX12_notes 84 = .ok (.iload_n 3, 1) := by decide +kernel
theorem dX12_notes_85 : decode cX12_notes 85 = .ok (.iconst 1, 1) := by decide +kernel
theorem dX12_notes_86 : decode cX12_notes 86 = .ok (.iadd, 1) := by decide +kernel
theorem dX12_notes_87 : decode cX12_notes 87 = .ok (.iload_n 2, 1) := by decide +kernel
theorem dX12_notes_88 : decode cX12_notes 88 = .ok (.iastore, 1) := by decide +kernel
theorem dX12_notes_89 : decode cX12_notes 89 = .ok (.aload_n 0, 1) := by decide +kernel
theorem dX12_notes_90 : decode cX12_notes 90 = .ok (.getfield 7, 3) := by decide +kernel
theorem dX12_notes_93 : decode cX12_notes 93 = .ok (.iload_n 3, 1) := by decide +kernel
theorem dX12_notes_94 : decode cX12_notes 94 = .ok (.iconst 2, 1) := by decide +kernel
theorem dX12_notes_95 : decode cX12_notes 95 = .ok (.iadd, 1) := by decide +kernel
theorem dX12_notes_96 : decode cX12_notes 96 = .ok (.aload_n 0, 1) := by decide +kernel
theorem dX12_notes_97 : decode cX12_notes 97 = .ok (.getfield 7, 3) := by decide +kernel
theorem dX12_notes_100 : decode cX12_notes 100 = .ok (.bipush 9, 2) := by decide +kernel
theorem dX12_notes_102 : decode cX12_notes 102 = .ok (.iaload, 1) := by decide +kernel
theorem dX12_notes_103 : decode cX12_notes 103 = .ok (.iastore, 1) := by decide +kernel
theorem dX12_notes_104 : decode cX12_notes 104 = .ok (.aload_n 0, 1) := by decide +kernel
theorem dX12_notes_105 : decode cX12_notes 105 = .ok (.getfield 7, 3) := by decide +kernel
theorem dX12_notes_108 : decode cX12_notes 108 = .ok (.bipush 10, 2) := by decide +kernel
theorem dX12_notes_110 : decode cX12_notes 110 = .ok (.dup2, 1) := by decide +kernel
theorem dX12_notes_111 : decode cX12_notes 111 = .ok (.iaload, 1) := by decide +kernel
theorem dX12_notes_112 : decode cX12_notes 112 = .ok (.iconst 1, 1) := by decide +kernel
theorem dX12_notes_113 : decode cX12_notes 113 = .ok (.iadd, 1) := by decide +kernel
theorem dX12_notes_114 : decode cX12_notes 114 = .ok (.iastore, 1) := by decide +kernel
theorem dX12_notes_115 : decode cX12_notes 115 = .ok (.return_, 1) := by decide +kernel
theorem dX12_listens_0 : decode cX12_listens 0 = .ok (.iconst 0, 1) := by decide +kernel
theorem dX12_listens_1 : decode cX12_listens 1 = .ok (.istore_n 2, 1) := by decide +kernel
theorem dX12_listens_2 : decode cX12_listens 2 = .ok (.iload_n 2, 1) := by decide +kernel
theorem dX12_listens_3 : decode cX12_listens 3 = .ok (.aload_n 0, 1) := by decide +kernel
theorem dX12_listens_4 : decode cX12_listens 4 = .ok (.getfield 7, 3) := by decide +kernel
theorem dX12_listens_7 : decode cX12_listens 7 = .ok (.bipush 12, 2) := by decide +kernel
theorem dX12_listens_9 : decode cX12_listens 9 = .ok (.iaload, 1) := by decide +kernel
theorem dX12_listens_10 : decode cX12_listens 10 = .ok (.if_icmp .ge 126, 3) := by decide +kernel
theorem dX12_listens_13 : decode cX12_listens 13 = .ok (.aload_n 0, 1) := by decide +kernel
theorem dX12_listens_14 : decode cX12_listens 14 = .ok (.iload_n 2, 1) := by decide +kernel
theorem dX12_listens_15 : decode cX12_listens 15 = .ok (.iconst 0, 1) := by decide +kernel
theorem dX12_listens_16 : decode cX12_listens 16 = .ok (.invokevirtual 53, 3) := by decide +kernel
theorem dX12_listens_19 : decode cX12_listens 19 = .ok (.iconst 1, 1) := by decide +kernel
theorem dX12_listens_20 : decode cX12_listens 20 = .ok (.if_icmp .ne 110, 3) := by decide +kernel
theorem dX12_listens_23 : decode cX12_listens 23 = .ok (.aload_n 0, 1) := by decide +kernel
theorem dX12_listens_24 : decode cX12_listens 24 = .ok (.iload_n 2, 1) := by decide +kernel
theorem dX12_listens_25 : decode cX12_listens 25 = .ok (.iconst 4, 1) := by decide +kernel
theorem dX12_listens_26 : decode cX12_listens 26 = .ok (.invokevirtual 53, 3) := by decide +kernel
theorem dX12_listens_29 : decode cX12_listens 29 = .ok (.iconst 1, 1) := by decide +kernel
theorem dX12_listens_30 : decode cX12_listens 30 = .ok (.if_icmp .eq 12, 3) := by decide +kernel
theorem dX12_listens_33 : decode cX12_listens 33 = .ok (.aload_n 0, 1) := by decide +kernel
theorem dX12_listens_34 : decode cX12_listens 34 = .ok (.iload_n 2, 1) := by decide +kernel
theorem dX12_listens_35 : decode cX12_listens 35 = .ok (.iconst 3, 1) := by decide +kernel
theorem dX12_listens_36 : decode cX12_listens 36 = .ok (.invokevirtual 53, 3) := by decide +kernel
theorem dX12_listens_39 : decode cX12_listens 39 = .ok (.ifCond .ne 7, 3) := by decide +kernel
theorem dX12_listens_42 : decode cX12_listens 42 = .ok (.fconst 0, 1) := by decide +kernel
theorem dX12_listens_43 : decode cX12_listens 43 = .ok (.goto 13, 3) := by decide +kernel
theorem dX12_listens_46 : decode cX12_listens 46 = .ok (.aload_n 0, 1) := by decide +kernel
theorem dX12_listens_47 : decode cX12_listens 47 = .ok (.aload_n 0, 1) := by decide +kernel
theorem dX12_listens_48 : decode cX12_listens 48 = .ok (.iload_n 2, 1) := by decide +kernel
theorem dX12_listens_49 : decode cX12_listens 49 = .ok (.iconst 3, 1) := by decide +kernel
theorem dX12_listens_50 : decode cX12_listens 50 = .ok (.invokevirtual 53, 3) := by decide +kernel
theorem dX12_listens_53 : decode cX12_listens 53 = .ok (.invokevirtual 60, 3) := by decide +kernel
theorem dX12_listens_56 : decode cX12_listens 56 = .ok (.fstore_n 3, 1) := by decide +kernel
theorem dX12_listens_57 : decode cX12_listens 57 = .ok (.aload_n 0, 1) := by decide +kernel
theorem dX12_listens_58 : decode cX12_listens 58 = .ok (.getfield 13, 3) := by decide +kernel
theorem dX12_listens_61 : decode cX12_listens 61 = .ok (.iload_n 2, 1) := by decide +kernel
theorem dX12_listens_62 : decode cX12_listens 62 = .ok (.faload, 1) := by decide +kernel
theorem dX12_listens_63 : decode cX12_listens 63 = .ok (.fstore 4, 2) := by decide +kernel
theorem dX12_listens_65 : decode cX12_listens 65 = .ok (.aload_n 0, 1) := by decide +kernel
theorem dX12_listens_66 : decode cX12_listens 66 = .ok (.getfield 13, 3) := by decide +kernel
theorem dX12_listens_69 : decode cX12_listens 69 = .ok (.iload_n 2, 1) := by decide +kernel
theorem dX12_listens_70 : decode cX12_listens 70 = .ok (.fload_n 3, 1) := by decide +kernel
theorem dX12_listens_71 : decode cX12_listens 71 = .ok (.fload 4, 2) := by decide +kernel
theorem dX12_listens_73 : decode cX12_listens 73 = .ok (.fcmp .l, 1) := by decide +kernel
theorem dX12_listens_74 : decode cX12_listens 74 = .ok (.ifCond .le 16, 3) := by decide +kernel
theorem dX12_listens_77 : decode cX12_listens 77 = .ok (.fload 4, 2) := by decide +kernel
theorem dX12_listens_79 : decode cX12_listens 79 = .ok (.fload_n 3, 1) := by decide +kernel
theorem dX12_listens_80 : decode cX12_listens 80 = .ok (.fload 4, 2) := by decide +kernel
theorem dX12_listens_82 : decode cX12_listens 82 = .ok (.fsub, 1) := by decide +kernel
theorem dX12_listens_83 : decode cX12_listens 83 = .ok (.ldc 64, 2) := by decide +kernel
theorem dX12_listens_85 : decode cX12_listens 85 = .ok (.fmul, 1) := by decide +kernel
theorem dX12_listens_86 : decode cX12_listens 86 = .ok (.fadd, 1) := by decide +kernel
theorem dX12_listens_87 : decode cX12_listens 87 = .ok (.goto 13, 3) := by decide +kernel
theorem dX12_listens_90 : decode cX12_listens 90 = .ok (.fload 4, 2) := by decide +kernel
theorem dX12_listens_92 : decode cX12_listens 92 = .ok (.fload_n 3, 1) := by decide +kernel
theorem dX12_listens_93 : decode cX12_listens 93 = .ok (.fload 4, 2) := by decide +kernel
theorem dX12_listens_95 : decode cX12_listens 95 = .ok (.fsub, 1) := by decide +kernel
theorem dX12_listens_96 : decode cX12_listens 96 = .ok (.ldc 65, 2) := by decide +kernel
theorem dX12_listens_98 : decode cX12_listens 98 = .ok (.fmul, 1) := by decide +kernel
theorem dX12_listens_99 : decode cX12_listens 99 = .ok (.fadd, 1) := by decide +kernel
theorem dX12_listens_100 : decode cX12_listens 100 = .ok (.fastore, 1) := by decide +kernel
theorem dX12_listens_101 : decode cX12_listens 101 = .ok (.aload_n 0, 1) := by decide +kernel
theorem dX12_listens_102 : decode cX12_listens 102 = .ok (.iload_n 2, 1) := by decide +kernel
theorem dX12_listens_103 : decode cX12_listens 103 = .ok (.iconst 5, 1) := by decide +kernel
theorem dX12_listens_104 : decode cX12_listens 104 = .ok (.aload_n 0, 1) := by decide +kernel
theorem dX12_listens_105 : decode cX12_listens 105 = .ok (.getfield 13, 3) := by decide +kernel
theorem dX12_listens_108 : decode cX12_listens 108 = .ok (.iload_n 2, 1) := by decide +kernel
theorem dX12_listens_109 : decode cX12_listens 109 = .ok (.faload, 1) := by decide +kernel
theorem dX12_listens_110 : decode cX12_listens 110 = .ok (.fload_n 1, 1) := by decide +kernel
theorem dX12_listens_111 : decode cX12_listens 111 = .ok (.fcmp .g, 1) := by decide +kernel
theorem dX12_listens_112 : decode cX12_listens 112 = .ok (.ifCond .ge 14, 3) := by decide +kernel
theorem dX12_listens_115 : decode cX12_listens 115 = .ok (.aload_n 0, 1) := by decide +kernel
theorem dX12_listens_116 : decode cX12_listens 116 = .ok (.iload_n 2, 1) := by decide +kernel
theorem dX12_listens_117 : decode cX12_listens 117 = .ok (.iconst 5, 1) := by decide +kernel
theorem dX12_listens_118 : decode cX12_listens 118 = .ok (.invokevirtual 53, 3) := by decide +kernel
theorem dX12_listens_121 : decode cX12_listens 121 = .ok (.iconst 1, 1) := by decide +kernel
theorem dX12_listens_122 : decode cX12_listens 122 = .ok (.iadd, 1) := by decide +kernel
theorem dX12_listens_123 : decode cX12_listens 123 = .ok (.goto 4, 3) := by decide +kernel
theorem dX12_listens_126 : decode cX12_listens 126 = .ok (.iconst 0, 1) := by decide +kernel
theorem dX12_listens_127 : decode cX12_listens 127 = .ok (.invokevirtual 66, 3) := by decide +kernel
theorem dX12_listens_130 : decode cX12_listens 130 = .ok (.iinc 2 1, 3) := by decide +kernel
theorem dX12_listens_133 : decode cX12_listens 133 = .ok (.goto (-131), 3) := by decide +kernel
theorem dX12_listens_136 : decode cX12_listens 136 = .ok (.return_, 1) := by decide +kernel
theorem dX12_counts_0 : decode cX12_counts 0 = .ok (.iconst 0, 1) := by decide +kernel
theorem dX12_counts_1 : decode cX12_counts 1 = .ok (.istore_n 3, 1) := by decide +kernel
theorem dX12_counts_2 : decode cX12_counts 2 = .ok (.iconst 0, 1) := by decide +kernel
theorem dX12_counts_3 : decode cX12_counts 3 = .ok (.istore 4, 2) := by decide +kernel
theorem dX12_counts_5 : decode cX12_counts 5 = .ok (.iload 4, 2) := by decide +kernel
theorem dX12_counts_7 : decode cX12_counts 7 = .ok (.aload_n 0, 1) := by decide +kernel
theorem dX12_counts_8 : decode cX12_counts 8 = .ok (.getfield 7, 3) := by decide +kernel
theorem dX12_counts_11 : decode cX12_counts 11 = .ok (.bipush 12, 2) := by decide +kernel
theorem dX12_counts_13 : decode cX12_counts 13 = .ok (.iaload, 1) := by decide +kernel
theorem dX12_counts_14 : decode cX12_counts 14 = .ok (.if_icmp .ge 39, 3) := by decide +kernel
theorem dX12_counts_17 : decode cX12_counts 17 = .ok (.iload_n 3, 1) := by decide +kernel
theorem dX12_counts_18 : decode cX12_counts 18 = .ok (.aload_n 0, 1) := by decide +kernel
theorem dX12_counts_19 : decode cX12_counts 19 = .ok (.iload 4, 2) := by decide +kernel
theorem dX12_counts_21 : decode cX12_counts 21 = .ok (.iconst 0, 1) := by decide +kernel
theorem dX12_counts_22 : decode cX12_counts 22 = .ok (.invokevirtual 53, 3) := by decide +kernel
theorem dX12_counts_25 : decode cX12_counts 25 = .ok (.iconst 1, 1) := by decide +kernel
theorem dX12_counts_26 : decode cX12_counts 26 = .ok (.if_icmp .ne 18, 3) := by decide +kernel
theorem dX12_counts_29 : decode cX12_counts 29 = .ok (.aload_n 0, 1) := by decide +kernel
theorem dX12_counts_30 : decode cX12_counts 30 = .ok (.iload 4, 2) := by decide +kernel
theorem dX12_counts_32 : decode cX12_counts 32 = .ok (.iload_n 1, 1) := by decide +kernel
theorem dX12_counts_33 : decode cX12_counts 33 = .ok (.invokevirtual 53, 3) := by decide +kernel
theorem dX12_counts_36 : decode cX12_counts 36 = .ok (.iload_n 2, 1) := by decide +kernel
theorem dX12_counts_37 : decode cX12_counts 37 = .ok (.if_icmp .ne 7, 3) := by decide +kernel
theorem dX12_counts_40 : decode cX12_counts 40 = .ok (.iconst 1, 1) := by decide +kernel
theorem dX12_counts_41 : decode cX12_counts 41 = .ok (.goto 4, 3) := by decide +kernel
theorem dX12_counts_44 : decode cX12_counts 44 = .ok (.iconst 0, 1) := by decide +kernel
theorem dX12_counts_45 : decode cX12_counts 45 = .ok (.iadd, 1) := by decide +kernel
theorem dX12_counts_46 : decode cX12_counts 46 = .ok (.istore_n 3, 1) := by decide +kernel
theorem dX12_counts_47 : decode cX12_counts 47 = .ok (.iinc 4 1, 3) := by decide +kernel
theorem dX12_counts_50 : decode cX12_counts 50 = .ok (.goto (-45), 3) := by decide +kernel
theorem dX12_counts_53 : decode cX12_counts 53 = .ok (.iload_n 3, 1) := by decide +kernel
theorem dX12_counts_54 : decode cX12_counts 54 = .ok (.ireturn, 1) := by decide +kernel
theorem dX12_requests_0 : decode cX12_requests 0 = .ok (.iconst 0, 1) := by decide +kernel
theorem dX12_requests_1 : decode cX12_requests 1 = .ok (.istore_n 1, 1) := by decide +kernel
theorem dX12_requests_2 : decode cX12_requests 2 = .ok (.iconst 0, 1) := by decide +kernel
theorem dX12_requests_3 : decode cX12_requests 3 = .ok (.istore_n 2, 1) := by decide +kernel
theorem dX12_requests_4 : decode cX12_requests 4 = .ok (.iload_n 2, 1) := by decide +kernel
theorem dX12_requests_5 : decode cX12_requests 5 = .ok (.aload_n 0, 1) := by decide +kernel
theorem dX12_requests_6 : decode cX12_requests 6 = .ok (.getfield 7, 3) := by decide +kernel
theorem dX12_requests_9 : decode cX12_requests 9 = .ok (.bipush 12, 2) := by decide +kernel
theorem dX12_requests_11 : decode cX12_requests 11 = .ok (.iaload, 1) := by decide +kernel
theorem dX12_requests_12 : decode cX12_requests 12 = .ok (.if_icmp .ge 38, 3) := by decide +kernel
theorem dX12_requests_15 : decode cX12_requests 15 = .ok (.iload_n 1, 1) := by decide +kernel
theorem dX12_requests_16 : decode cX12_requests 16 = .ok (.aload_n 0, 1) := by decide +kernel
theorem dX12_requests_17 : decode cX12_requests 17 = .ok (.iload_n 2, 1) := by decide +kernel
theorem dX12_requests_18 : decode cX12_requests 18 = .ok (.iconst 0, 1) := by decide +kernel
theorem dX12_requests_19 : decode cX12_requests 19 = .ok (.invokevirtual 53, 3) := by decide +kernel
theorem dX12_requests_22 : decode cX12_requests 22 = .ok (.iconst 1, 1) := by decide +kernel
theorem dX12_requests_23 : decode cX12_requests 23 = .ok (.if_icmp .ne 18, 3) := by decide +kernel
theorem dX12_requests_26 : decode cX12_requests 26 = .ok (.aload_n 0, 1) := by decide +kernel
theorem dX12_requests_27 : decode cX12_requests 27 = .ok (.iload_n 2, 1) := by decide +kernel
theorem dX12_requests_28 : decode cX12_requests 28 = .ok (.bipush 10, 2) := by decide +kernel
theorem dX12_requests_30 : decode cX12_requests 30 = .ok (.invokevirtual 53, 3) := by decide +kernel
theorem dX12_requests_33 : decode cX12_requests 33 = .ok (.iconst (-1), 1) := by decide +kernel
theorem dX12_requests_34 : decode cX12_requests 34 = .ok (.if_icmp .eq 7, 3) := by decide +kernel
theorem dX12_requests_37 : decode cX12_requests 37 = .ok (.iconst 1, 1) := by decide +kernel
theorem dX12_requests_38 : decode cX12_requests 38 = .ok (.goto 4, 3) := by decide +kernel
theorem dX12_requests_41 : decode cX12_requests 41 = .ok (.iconst 0, 1) := by decide +kernel
theorem dX12_requests_42 : decode cX12_requests 42 = .ok (.iadd, 1) := by decide +kernel
theorem dX12_requests_43 : decode cX12_requests 43 = .ok (.istore_n 1, 1) := by decide +kernel
theorem dX12_requests_44 : decode cX12_requests 44 = .ok (.iinc 2 1, 3) := by decide +kernel
theorem dX12_requests_47 : decode cX12_requests 47 = .ok (.goto (-43), 3) := by decide +kernel
theorem dX12_requests_50 : decode cX12_requests 50 = .ok (.iload_n 1, 1) := by decide +kernel
theorem dX12_requests_51 : decode cX12_requests 51 = .ok (.ireturn, 1) := by decide +kernel
theorem dX12_waits_0 : decode cX12_waits 0 = .ok (.iconst 0, 1) := by decide +kernel
theorem dX12_waits_1 : decode cX12_waits 1 = .ok (.istore_n 2, 1) := by decide +kernel
theorem dX12_waits_2 : decode cX12_waits 2 = .ok (.iload_n 2, 1) := by decide +kernel
theorem dX12_waits_3 : decode cX12_waits 3 = .ok (.aload_n 0, 1) := by decide +kernel
theorem dX12_waits_4 : decode cX12_waits 4 = .ok (.getfield 7, 3) := by decide +kernel
theorem dX12_waits_7 : decode cX12_waits 7 = .ok (.bipush 12, 2) := by decide +kernel
theorem dX12_waits_9 : decode cX12_waits 9 = .ok (.iaload, 1) := by decide +kernel
theorem dX12_waits_10 : decode cX12_waits 10 = .ok (.if_icmp .ge 157, 3) := by decide +kernel
theorem dX12_waits_13 : decode cX12_waits 13 = .ok (.iconst 0, 1) := by decide +kernel
theorem dX12_waits_14 : decode cX12_waits 14 = .ok (.istore_n 3, 1) := by decide +kernel
theorem dX12_waits_15 : decode cX12_waits 15 = .ok (.iconst 0, 1) := by decide +kernel
theorem dX12_waits_16 : decode cX12_waits 16 = .ok (.istore 4, 2) := by decide +kernel
theorem dX12_waits_18 : decode cX12_waits 18 = .ok (.iload 4, 2) := by decide +kernel
theorem dX12_waits_20 : decode cX12_waits 20 = .ok (.aload_n 0, 1) := by decide +kernel
theorem dX12_waits_21 : decode cX12_waits 21 = .ok (.getfield 7, 3) := by decide +kernel
theorem dX12_waits_24 : decode cX12_waits 24 = .ok (.bipush 12, 2) := by decide +kernel
theorem dX12_waits_26 : decode cX12_waits 26 = .ok (.iaload, 1) := by decide +kernel
theorem dX12_waits_27 : decode cX12_waits 27 = .ok (.if_icmp .ge 106, 3) := by decide +kernel
theorem dX12_waits_30 : decode cX12_waits 30 = .ok (.aload_n 0, 1) := by decide +kernel
theorem dX12_waits_31 : decode cX12_waits 31 = .ok (.iload 4, 2) := by decide +kernel
theorem dX12_waits_33 : decode cX12_waits 33 = .ok (.bipush 10, 2) := by decide +kernel
theorem dX12_waits_35 : decode cX12_waits 35 = .ok (.invokevirtual 53, 3) := by decide +kernel
theorem dX12_waits_38 : decode cX12_waits 38 = .ok (.aload_n 0, 1) := by decide +kernel
theorem dX12_waits_39 : decode cX12_waits 39 = .ok (.iload_n 2, 1) := by decide +kernel
theorem dX12_waits_40 : decode cX12_waits 40 = .ok (.bipush 10, 2) := by decide +kernel
theorem dX12_waits_42 : decode cX12_waits 42 = .ok (.invokevirtual 53, 3) := by decide +kernel
theorem dX12_waits_45 : decode cX12_waits 45 = .ok (.if_icmp .gt 39, 3) := by decide +kernel
theorem dX12_waits_48 : decode cX12_waits 48 = .ok (.aload_n 0, 1) := by decide +kernel
theorem dX12_waits_49 : decode cX12_waits 49 = .ok (.iload 4, 2) := by decide +kernel
theorem dX12_waits_51 : decode cX12_waits 51 = .ok (.bipush 10, 2) := by decide +kernel
theorem dX12_waits_53 : decode cX12_waits 53 = .ok (.invokevirtual 53, 3) := by decide +kernel
theorem dX12_waits_56 : decode cX12_waits 56 = .ok (.aload_n 0, 1) := by decide +kernel
theorem dX12_waits_57 : decode cX12_waits 57 = .ok (.iload_n 2, 1) := by decide +kernel
theorem dX12_waits_58 : decode cX12_waits 58 = .ok (.bipush 10, 2) := by decide +kernel
theorem dX12_waits_60 : decode cX12_waits 60 = .ok (.invokevirtual 53, 3) := by decide +kernel
theorem dX12_waits_63 : decode cX12_waits 63 = .ok (.if_icmp .ne 25, 3) := by decide +kernel
theorem dX12_waits_66 : decode cX12_waits 66 = .ok (.aload_n 0, 1) := by decide +kernel
theorem dX12_waits_67 : decode cX12_waits 67 = .ok (.iload 4, 2) := by decide +kernel
theorem dX12_waits_69 : decode cX12_waits 69 = .ok (.bipush 11, 2) := by decide +kernel
theorem dX12_waits_71 : decode cX12_waits 71 = .ok (.invokevirtual 53, 3) := by decide +kernel
theorem dX12_waits_74 : decode cX12_waits 74 = .ok (.aload_n 0, 1) := by decide +kernel
theorem dX12_waits_75 : decode cX12_waits 75 = .ok (.iload_n 2, 1) := by decide +kernel
theorem dX12_waits_76 : decode cX12_waits 76 = .ok (.bipush 11, 2) := by decide +kernel
theorem dX12_waits_78 : decode cX12_waits 78 = .ok (.invokevirtual 53, 3) := by decide +kernel
theorem dX12_waits_81 : decode cX12_waits 81 = .ok (.if_icmp .ge 7, 3) := by decide +kernel
theorem dX12_waits_84 : decode cX12_waits 84 = .ok (.iconst 1, 1) := by decide +kernel
theorem dX12_waits_85 : decode cX12_waits 85 = .ok (.goto 4, 3) := by decide +kernel
theorem dX12_waits_88 : decode cX12_waits 88 = .ok (.iconst 0, 1) := by decide +kernel
theorem dX12_waits_89 : decode cX12_waits 89 = .ok (.istore 5, 2) := by decide +kernel
theorem dX12_waits_91 : decode cX12_waits 91 = .ok (.iload_n 3, 1) := by decide +kernel
theorem dX12_waits_92 : decode cX12_waits 92 = .ok (.aload_n 0, 1) := by decide +kernel
theorem dX12_waits_93 : decode cX12_waits 93 = .ok (.iload 4, 2) := by decide +kernel
theorem dX12_waits_95 : decode cX12_waits 95 = .ok (.iconst 0, 1) := by decide +kernel
theorem dX12_waits_96 : decode cX12_waits 96 = .ok (.invokevirtual 53, 3) := by decide +kernel
theorem dX12_waits_99 : decode cX12_waits 99 = .ok (.iconst 1, 1) := by decide +kernel
theorem dX12_waits_100 : decode cX12_waits 100 = .ok (.if_icmp .ne 24, 3) := by decide +kernel
theorem dX12_waits_103 : decode cX12_waits 103 = .ok (.aload_n 0, 1) := by decide +kernel
theorem dX12_waits_104 : decode cX12_waits 104 = .ok (.iload 4, 2) := by decide +kernel
theorem dX12_waits_106 : decode cX12_waits 106 = .ok (.bipush 10, 2) := by decide +kernel
theorem dX12_waits_108 : decode cX12_waits 108 = .ok (.invokevirtual 53, 3) := by decide +kernel
theorem dX12_waits_111 : decode cX12_waits 111 = .ok (.iconst (-1), 1) := by decide +kernel
theorem dX12_waits_112 : decode cX12_waits 112 = .ok (.if_icmp .eq 12, 3) := by decide +kernel
theorem dX12_waits_115 : decode cX12_waits 115 = .ok (.iload 5, 2) := by decide +kernel
theorem dX12_waits_117 : decode cX12_waits 117 = .ok (.ifCond .eq 7, 3) := by decide +kernel
theorem dX12_waits_120 : decode cX12_waits 120 = .ok (.iconst 1, 1) := by decide +kernel
theorem dX12_waits_121 : decode cX12_waits 121 = .ok (.goto 4, 3) := by decide +kernel
theorem dX12_waits_124 : decode cX12_waits 124 = .ok (.iconst 0, 1) := by decide +kernel
theorem dX12_waits_125 : decode cX12_waits 125 = .ok (.iadd, 1) := by decide +kernel
theorem dX12_waits_126 : decode cX12_waits 126 = .ok (.istore_n 3, 1) := by decide +kernel
theorem dX12_waits_127 : decode cX12_waits 127 = .ok (.iinc 4 1, 3) := by decide +kernel
theorem dX12_waits_130 : decode cX12_waits 130 = .ok (.goto (-112), 3) := by decide +kernel
theorem dX12_waits_133 : decode cX12_waits 133 = .ok (.aload_n 0, 1) := by decide +kernel
theorem dX12_waits_134 : decode cX12_waits 134 = .ok (.iload_n 2, 1) := by decide +kernel
theorem dX12_waits_135 : decode cX12_waits 135 = .ok (.iconst 0, 1) := by decide +kernel
theorem dX12_waits_136 : decode cX12_waits 136 = .ok (.invokevirtual 53, 3) := by decide +kernel
theorem dX12_waits_139 : decode cX12_waits 139 = .ok (.iconst 1, 1) := by decide +kernel
theorem dX12_waits_140 : decode cX12_waits 140 = .ok (.if_icmp .ne 21, 3) := by decide +kernel
theorem dX12_waits_143 : decode cX12_waits 143 = .ok (.aload_n 0, 1) := by decide +kernel
theorem dX12_waits_144 : decode cX12_waits 144 = .ok (.iload_n 2, 1) := by decide +kernel
theorem dX12_waits_145 : decode cX12_waits 145 = .ok (.bipush 10, 2) := by decide +kernel
theorem dX12_waits_147 : decode cX12_waits 147 = .ok (.invokevirtual 53, 3) := by decide +kernel
theorem dX12_waits_150 : decode cX12_waits 150 = .ok (.iconst (-1), 1) := by decide +kernel
theorem dX12_waits_151 : decode cX12_waits 151 = .ok (.if_icmp .eq 10, 3) := by decide +kernel
theorem dX12_waits_154 : decode cX12_waits 154 = .ok (.iload_n 3, 1) := by decide +kernel
theorem dX12_waits_155 : decode cX12_waits 155 = .ok (.iload_n 1, 1) := by decide +kernel
theorem dX12_waits_156 : decode cX12_waits 156 = .ok (.if_icmp .ne 5, 3) := by decide +kernel
theorem dX12_waits_159 : decode cX12_waits 159 = .ok (.iload_n 2, 1) := by decide +kernel
theorem dX12_waits_160 : decode cX12_waits 160 = .ok (.ireturn, 1) := by decide +kernel
theorem dX12_waits_161 : decode cX12_waits 161 = .ok (.iinc 2 1, 3) := by decide +kernel
theorem dX12_waits_164 : decode cX12_waits 164 = .ok (.goto (-162), 3) := by decide +kernel
theorem dX12_waits_167 : decode cX12_waits 167 = .ok (.iconst (-1), 1) := by decide +kernel
theorem dX12_waits_168 : decode cX12_waits 168 = .ok (.ireturn, 1) := by decide +kernel
theorem dX12_floor_0 : decode cX12_floor 0 = .ok (.iconst 0, 1) := by decide +kernel
theorem dX12_floor_1 : decode cX12_floor 1 = .ok (.istore_n 2, 1) := by decide +kernel
theorem dX12_floor_2 : decode cX12_floor 2 = .ok (.iload_n 2, 1) := by decide +kernel
theorem dX12_floor_3 : decode cX12_floor 3 = .ok (.aload_n 0, 1) := by decide +kernel
theorem dX12_floor_4 : decode cX12_floor 4 = .ok (.getfield 7, 3) := by decide +kernel
theorem dX12_floor_7 : decode cX12_floor 7 = .ok (.bipush 12, 2) := by decide +kernel
theorem dX12_floor_9 : decode cX12_floor 9 = .ok (.iaload, 1) := by decide +kernel
theorem dX12_floor_10 : decode cX12_floor 10 = .ok (.if_icmp .ge 159, 3) := by decide +kernel
theorem dX12_floor_13 : decode cX12_floor 13 = .ok (.aload_n 0, 1) := by decide +kernel
theorem dX12_floor_14 : decode cX12_floor 14 = .ok (.iload_n 2, 1) := by decide +kernel
theorem dX12_floor_15 : decode cX12_floor 15 = .ok (.iconst 0, 1) := by decide +kernel
theorem dX12_floor_16 : decode cX12_floor 16 = .ok (.invokevirtual 53, 3) := by decide +kernel
theorem dX12_floor_19 : decode cX12_floor 19 = .ok (.iconst 1, 1) := by decide +kernel
theorem dX12_floor_20 : decode cX12_floor 20 = .ok (.if_icmp .ne 143, 3) := by decide +kernel
theorem dX12_floor_23 : decode cX12_floor 23 = .ok (.aload_n 0, 1) := by decide +kernel
theorem dX12_floor_24 : decode cX12_floor 24 = .ok (.iload_n 2, 1) := by decide +kernel
theorem dX12_floor_25 : decode cX12_floor 25 = .ok (.bipush 7, 2) := by decide +kernel
theorem dX12_floor_27 : decode cX12_floor 27 = .ok (.invokevirtual 53, 3) := by decide +kernel
theorem dX12_floor_30 : decode cX12_floor 30 = .ok (.iconst 1, 1) := by decide +kernel
theorem dX12_floor_31 : decode cX12_floor 31 = .ok (.if_icmp .ne 132, 3) := by decide +kernel
theorem dX12_floor_34 : decode cX12_floor 34 = .ok (.aload_n 0, 1) := by decide +kernel
theorem dX12_floor_35 : decode cX12_floor 35 = .ok (.iload_n 2, 1) := by decide +kernel
theorem dX12_floor_36 : decode cX12_floor 36 = .ok (.bipush 8, 2) := by decide +kernel
theorem dX12_floor_38 : decode cX12_floor 38 = .ok (.aload_n 0, 1) := by decide +kernel
theorem dX12_floor_39 : decode cX12_floor 39 = .ok (.iload_n 2, 1) := by decide +kernel
theorem dX12_floor_40 : decode cX12_floor 40 = .ok (.bipush 8, 2) := by decide +kernel
theorem dX12_floor_42 : decode cX12_floor 42 = .ok (.invokevirtual 53, 3) := by decide +kernel
theorem dX12_floor_45 : decode cX12_floor 45 = .ok (.iconst 1, 1) := by decide +kernel
theorem dX12_floor_46 : decode cX12_floor 46 = .ok (.iadd, 1) := by decide +kernel
theorem dX12_floor_47 : decode cX12_floor 47 = .ok (.invokevirtual 66, 3) := by decide +kernel
theorem dX12_floor_50 : decode cX12_floor 50 = .ok (.aload_n 0, 1) := by decide +kernel
theorem dX12_floor_51 : decode cX12_floor 51 = .ok (.iload_n 2, 1) := by decide +kernel
theorem dX12_floor_52 : decode cX12_floor 52 = .ok (.bipush 9, 2) := by decide +kernel
theorem dX12_floor_54 : decode cX12_floor 54 = .ok (.aload_n 0, 1) := by decide +kernel
theorem dX12_floor_55 : decode cX12_floor 55 = .ok (.getfield 13, 3) := by decide +kernel
theorem dX12_floor_58 : decode cX12_floor 58 = .ok (.iload_n 2, 1) := by decide +kernel
theorem dX12_floor_59 : decode cX12_floor 59 = .ok (.faload, 1) := by decide +kernel
theorem dX12_floor_60 : decode cX12_floor 60 = .ok (.fload_n 1, 1) := by decide +kernel
theorem dX12_floor_61 : decode cX12_floor 61 = .ok (.fcmp .g, 1) := by decide +kernel
theorem dX12_floor_62 : decode cX12_floor 62 = .ok (.ifCond .ge 15, 3) := by decide +kernel
theorem dX12_floor_65 : decode cX12_floor 65 = .ok (.aload_n 0, 1) := by decide +kernel
theorem dX12_floor_66 : decode cX12_floor 66 = .ok (.iload_n 2, 1) := by decide +kernel
theorem dX12_floor_67 : decode cX12_floor 67 = .ok (.bipush 9, 2) := by decide +kernel
theorem dX12_floor_69 : decode cX12_floor 69 = .ok (.invokevirtual 53, 3) := by decide +kernel
theorem dX12_floor_72 : decode cX12_floor 72 = .ok (.iconst 1, 1) := by decide +kernel
theorem dX12_floor_73 : decode cX12_floor 73 = .ok (.iadd, 1) := by decide +kernel
theorem dX12_floor_74 : decode cX12_floor 74 = .ok (.goto 4, 3) := by decide +kernel
theorem dX12_floor_77 : decode cX12_floor 77 = .ok (.iconst 0, 1) := by decide +kernel
theorem dX12_floor_78 : decode cX12_floor 78 = .ok (.invokevirtual 66, 3) := by decide +kernel
theorem dX12_floor_81 : decode cX12_floor 81 = .ok (.aload_n 0, 1) := by decide +kernel
theorem dX12_floor_82 : decode cX12_floor 82 = .ok (.iload_n 2, 1) := by decide +kernel
theorem dX12_floor_83 : decode cX12_floor 83 = .ok (.bipush 9, 2) := by decide +kernel
theorem dX12_floor_85 : decode cX12_floor 85 = .ok (.invokevirtual 53, 3) := by decide +kernel
theorem dX12_floor_88 : decode cX12_floor 88 = .ok (.aload_n 0, 1) := by decide +kernel
theorem dX12_floor_89 : decode cX12_floor 89 = .ok (.getfield 7, 3) := by decide +kernel
theorem dX12_floor_92 : decode cX12_floor 92 = .ok (.bipush 6, 2) := by decide +kernel
theorem dX12_floor_94 : decode cX12_floor 94 = .ok (.iaload, 1) := by decide +kernel
theorem dX12_floor_95 : decode cX12_floor 95 = .ok (.if_icmp .le 20, 3) := by decide +kernel
theorem dX12_floor_98 : decode cX12_floor 98 = .ok (.aload_n 0, 1) := by decide +kernel
theorem dX12_floor_99 : decode cX12_floor 99 = .ok (.iload_n 2, 1) := by decide +kernel
theorem dX12_floor_100 : decode cX12_floor 100 = .ok (.bipush 7, 2) := by decide +kernel
theorem dX12_floor_102 : decode cX12_floor 102 = .ok (.iconst 0, 1) := by decide +kernel
theorem dX12_floor_103 : decode cX12_floor 103 = .ok (.invokevirtual 66, 3) := by decide +kernel
theorem dX12_floor_106 : decode cX12_floor 106 = .ok (.aload_n 0, 1) := by decide +kernel
theorem dX12_floor_107 : decode cX12_floor 107 = .ok (.iconst 3, 1) := by decide +kernel
theorem dX12_floor_108 : decode cX12_floor 108 = .ok (.iload_n 2, 1) := by decide +kernel
theorem dX12_floor_109 : decode cX12_floor 109 = .ok (.invokevirtual 70, 3) := by decide +kernel
theorem dX12_floor_112 : decode cX12_floor 112 = .ok (.goto 51, 3) := by decide +kernel
theorem dX12_floor_115 : decode cX12_floor 115 = .ok (.aload_n 0, 1) := by decide +kernel
theorem dX12_floor_116 : decode cX12_floor 116 = .ok (.getfield 7, 3) := by decide +kernel
theorem dX12_floor_119 : decode cX12_floor 119 = .ok (.bipush 7, 2) := by decide +kernel
theorem dX12_floor_121 : decode cX12_floor 121 = .ok (.iaload, 1) := by decide +kernel
theorem dX12_floor_122 : decode cX12_floor 122 = .ok (.ifCond .le 41, 3) := by decide +kernel
theorem dX12_floor_125 : decode cX12_floor 125 = .ok (.aload_n 0, 1) := by decide +kernel
theorem dX12_floor_126 : decode cX12_floor 126 = .ok (.iload_n 2, 1) := by decide +kernel
theorem dX12_floor_127 : decode cX12_floor 127 = .ok (.bipush 8, 2) := by decide +kernel
theorem dX12_floor_129 : decode cX12_floor 129 = .ok (.invokevirtual 53, 3) := by decide +kernel
theorem dX12_floor_132 : decode cX12_floor 132 = .ok (.aload_n 0, 1) := by decide +kernel
theorem dX12_floor_133 : decode cX12_floor 133 = .ok (.getfield 7, 3) := by decide +kernel
theorem dX12_floor_136 : decode cX12_floor 136 = .ok (.bipush 7, 2) := by decide +kernel
theorem dX12_floor_138 : decode cX12_floor 138 = .ok (.iaload, 1) := by decide +kernel
theorem dX12_floor_139 : decode cX12_floor 139 = .ok (.if_icmp .lt 24, 3) := by decide +kernel
theorem dX12_floor_142 : decode cX12_floor 142 = .ok (.aload_n 0, 1) := by decide +kernel
theorem dX12_floor_143 : decode cX12_floor 143 = .ok (.invokevirtual 74, 3) := by decide +kernel
theorem dX12_floor_146 : decode cX12_floor 146 = .ok (.ifCond .le 17, 3) := by decide +kernel
theorem dX12_floor_149 : decode cX12_floor 149 = .ok (.aload_n 0, 1) := by decide +kernel
theorem dX12_floor_150 : decode cX12_floor 150 = .ok (.iload_n 2, 1) := by decide +kernel
theorem dX12_floor_151 : decode cX12_floor 151 = .ok (.bipush 7, 2) := by decide +kernel
theorem dX12_floor_153 : decode cX12_floor 153 = .ok (.iconst 0, 1) := by decide +kernel
theorem dX12_floor_154 : decode cX12_floor 154 = .ok (.invokevirtual 66, 3) := by decide +kernel
theorem dX12_floor_157 : decode cX12_floor 157 = .ok (.aload_n 0, 1) := by decide +kernel
theorem dX12_floor_158 : decode cX12_floor 158 = .ok (.iconst 4, 1) := by decide +kernel
theorem dX12_floor_159 : decode cX12_floor 159 = .ok (.iload_n 2, 1) := by decide +kernel
theorem dX12_floor_160 : decode cX12_floor 160 = .ok (.invokevirtual 70, 3) := by decide +kernel
theorem dX12_floor_163 : decode cX12_floor 163 = .ok (.iinc 2 1, 3) := by decide +kernel
theorem dX12_floor_166 : decode cX12_floor 166 = .ok (.goto (-164), 3) := by decide +kernel
theorem dX12_floor_169 : decode cX12_floor 169 = .ok (.aload_n 0, 1) := by decide +kernel
theorem dX12_floor_170 : decode cX12_floor 170 = .ok (.iconst 0, 1) := by decide +kernel
theorem dX12_floor_171 : decode cX12_floor 171 = .ok (.invokevirtual 78, 3) := by decide +kernel
theorem dX12_floor_174 : decode cX12_floor 174 = .ok (.istore_n 2, 1) := by decide +kernel
theorem dX12_floor_175 : decode cX12_floor 175 = .ok (.iload_n 2, 1) := by decide +kernel
theorem dX12_floor_176 : decode cX12_floor 176 = .ok (.iconst (-1), 1) := by decide +kernel
theorem dX12_floor_177 : decode cX12_floor 177 = .ok (.if_icmp .eq 66, 3) := by decide +kernel
theorem dX12_floor_180 : decode cX12_floor 180 = .ok (.aload_n 0, 1) := by decide +kernel
theorem dX12_floor_181 : decode cX12_floor 181 = .ok (.bipush 7, 2) := by decide +kernel
theorem dX12_floor_183 : decode cX12_floor 183 = .ok (.iconst 1, 1) := by decide +kernel
theorem dX12_floor_184 : decode cX12_floor 184 = .ok (.invokevirtual 82, 3) := by decide +kernel
theorem dX12_floor_187 : decode cX12_floor 187 = .ok (.aload_n 0, 1) := by decide +kernel
theorem dX12_floor_188 : decode cX12_floor 188 = .ok (.getfield 7, 3) := by decide +kernel
theorem dX12_floor_191 : decode cX12_floor 191 = .ok (.iconst 5, 1) := by decide +kernel
theorem dX12_floor_192 : decode cX12_floor 192 = .ok (.iaload, 1) := by decide +kernel
theorem dX12_floor_193 : decode cX12_floor 193 = .ok (.if_icmp .ge 50, 3) := by decide +kernel
theorem dX12_floor_196 : decode cX12_floor 196 = .ok (.aload_n 0, 1) := by decide +kernel
theorem dX12_floor_197 : decode cX12_floor 197 = .ok (.iload_n 2, 1) := by decide +kernel
theorem dX12_floor_198 : decode cX12_floor 198 = .ok (.bipush 7, 2) := by decide +kernel
theorem dX12_floor_200 : decode cX12_floor 200 = .ok (.iconst 1, 1) := by decide +kernel
theorem dX12_floor_201 : decode cX12_floor 201 = .ok (.invokevirtual 66, 3) := by decide +kernel
theorem dX12_floor_204 : decode cX12_floor 204 = .ok (.aload_n 0, 1) := by decide +kernel
theorem dX12_floor_205 : decode cX12_floor 205 = .ok (.iload_n 2, 1) := by decide +kernel
theorem dX12_floor_206 : decode cX12_floor 206 = .ok (.bipush 8, 2) := by decide +kernel
theorem dX12_floor_208 : decode cX12_floor 208 = .ok (.iconst 0, 1) := by decide +kernel
theorem dX12_floor_209 : decode cX12_floor 209 = .ok (.invokevirtual 66, 3) := by decide +kernel
theorem dX12_floor_212 : decode cX12_floor 212 = .ok (.aload_n 0, 1) := by decide +kernel
theorem dX12_floor_213 : decode cX12_floor 213 = .ok (.iload_n 2, 1) := by decide +kernel
theorem dX12_floor_214 : decode cX12_floor 214 = .ok (.bipush 9, 2) := by decide +kernel
theorem dX12_floor_216 : decode cX12_floor 216 = .ok (.iconst 0, 1) := by decide +kernel
theorem dX12_floor_217 : decode cX12_floor 217 = .ok (.invokevirtual 66, 3) := by decide +kernel
theorem dX12_floor_220 : decode cX12_floor 220 = .ok (.aload_n 0, 1) := by decide +kernel
theorem dX12_floor_221 : decode cX12_floor 221 = .ok (.iload_n 2, 1) := by decide +kernel
theorem dX12_floor_222 : decode cX12_floor 222 = .ok (.bipush 10, 2) := by decide +kernel
theorem dX12_floor_224 : decode cX12_floor 224 = .ok (.iconst (-1), 1) := by decide +kernel
theorem dX12_floor_225 : decode cX12_floor 225 = .ok (.invokevirtual 66, 3) := by decide +kernel
theorem dX12_floor_228 : decode cX12_floor 228 = .ok (.aload_n 0, 1) := by decide +kernel
theorem dX12_floor_229 : decode cX12_floor 229 = .ok (.iconst 2, 1) := by decide +kernel
theorem dX12_floor_230 : decode cX12_floor 230 = .ok (.iload_n 2, 1) := by decide +kernel
theorem dX12_floor_231 : decode cX12_floor 231 = .ok (.invokevirtual 70, 3) := by decide +kernel
theorem dX12_floor_234 : decode cX12_floor 234 = .ok (.aload_n 0, 1) := by decide +kernel
theorem dX12_floor_235 : decode cX12_floor 235 = .ok (.iconst 0, 1) := by decide +kernel
theorem dX12_floor_236 : decode cX12_floor 236 = .ok (.invokevirtual 78, 3) := by decide +kernel
theorem dX12_floor_239 : decode cX12_floor 239 = .ok (.istore_n 2, 1) := by decide +kernel
theorem dX12_floor_240 : decode cX12_floor 240 = .ok (.goto (-65), 3) := by decide +kernel
theorem dX12_floor_243 : decode cX12_floor 243 = .ok (.return_, 1) := by decide +kernel
theorem dX12_isTalking_0 : decode cX12_isTalking 0 = .ok (.aload_n 0, 1) := by decide +kernel
theorem dX12_isTalking_1 : decode cX12_isTalking 1 = .ok (.iload_n 1, 1) := by decide +kernel
theorem dX12_isTalking_2 : decode cX12_isTalking 2 = .ok (.iconst 3, 1) := by decide +kernel
theorem dX12_isTalking_3 : decode cX12_isTalking 3 = .ok (.invokevirtual 57, 3) := by decide +kernel
theorem dX12_isTalking_6 : decode cX12_isTalking 6 = .ok (.iload_n 2, 1) := by decide +kernel
theorem dX12_isTalking_7 : decode cX12_isTalking 7 = .ok (.ishr, 1) := by decide +kernel
theorem dX12_isTalking_8 : decode cX12_isTalking 8 = .ok (.iconst 1, 1) := by decide +kernel
theorem dX12_isTalking_9 : decode cX12_isTalking 9 = .ok (.iand, 1) := by decide +kernel
theorem dX12_isTalking_10 : decode cX12_isTalking 10 = .ok (.iconst 1, 1) := by decide +kernel
theorem dX12_isTalking_11 : decode cX12_isTalking 11 = .ok (.if_icmp .ne 7, 3) := by decide +kernel
theorem dX12_isTalking_14 : decode cX12_isTalking 14 = .ok (.iconst 1, 1) := by decide +kernel
theorem dX12_isTalking_15 : decode cX12_isTalking 15 = .ok (.goto 4, 3) := by decide +kernel
theorem dX12_isTalking_18 : decode cX12_isTalking 18 = .ok (.iconst 0, 1) := by decide +kernel
theorem dX12_isTalking_19 : decode cX12_isTalking 19 = .ok (.ireturn, 1) := by decide +kernel
theorem dX12_isSpeaker_0 : decode cX12_isSpeaker 0 = .ok (.iconst 0, 1) := by decide +kernel
theorem dX12_isSpeaker_1 : decode cX12_isSpeaker 1 = .ok (.istore_n 2, 1) := by decide +kernel
theorem dX12_isSpeaker_2 : decode cX12_isSpeaker 2 = .ok (.iconst 0, 1) := by decide +kernel
theorem dX12_isSpeaker_3 : decode cX12_isSpeaker 3 = .ok (.istore_n 3, 1) := by decide +kernel
theorem dX12_isSpeaker_4 : decode cX12_isSpeaker 4 = .ok (.iload_n 3, 1) := by decide +kernel
theorem dX12_isSpeaker_5 : decode cX12_isSpeaker 5 = .ok (.aload_n 0, 1) := by decide +kernel
theorem dX12_isSpeaker_6 : decode cX12_isSpeaker 6 = .ok (.getfield 7, 3) := by decide +kernel
theorem dX12_isSpeaker_9 : decode cX12_isSpeaker 9 = .ok (.bipush 11, 2) := by decide +kernel
theorem dX12_isSpeaker_11 : decode cX12_isSpeaker 11 = .ok (.iaload, 1) := by decide +kernel
theorem dX12_isSpeaker_12 : decode cX12_isSpeaker 12 = .ok (.if_icmp .ge 28, 3) := by decide +kernel
theorem dX12_isSpeaker_15 : decode cX12_isSpeaker 15 = .ok (.iload_n 2, 1) := by decide +kernel
theorem dX12_isSpeaker_16 : decode cX12_isSpeaker 16 = .ok (.ifCond .ne 12, 3) := by decide +kernel
theorem dX12_isSpeaker_19 : decode cX12_isSpeaker 19 = .ok (.aload_n 0, 1) := by decide +kernel
theorem dX12_isSpeaker_20 : decode cX12_isSpeaker 20 = .ok (.iload_n 3, 1) := by decide +kernel
theorem dX12_isSpeaker_21 : decode cX12_isSpeaker 21 = .ok (.iload_n 1, 1) := by decide +kernel
theorem dX12_isSpeaker_22 : decode cX12_isSpeaker 22 = .ok (.invokevirtual 85, 3) := by decide +kernel
theorem dX12_isSpeaker_25 : decode cX12_isSpeaker 25 = .ok (.ifCond .eq 7, 3) := by decide +kernel
theorem dX12_isSpeaker_28 : decode cX12_isSpeaker 28 = .ok (.iconst 1, 1) := by decide +kernel
theorem dX12_isSpeaker_29 : decode cX12_isSpeaker 29 = .ok (.goto 4, 3) := by decide +kernel
theorem dX12_isSpeaker_32 : decode cX12_isSpeaker 32 = .ok (.iconst 0, 1) := by decide +kernel
theorem dX12_isSpeaker_33 : decode cX12_isSpeaker 33 = .ok (.istore_n 2, 1) := by decide +kernel
theorem dX12_isSpeaker_34 : decode cX12_isSpeaker 34 = .ok (.iinc 3 1, 3) := by decide +kernel
theorem dX12_isSpeaker_37 : decode cX12_isSpeaker 37 = .ok (.goto (-33), 3) := by decide +kernel
theorem dX12_isSpeaker_40 : decode cX12_isSpeaker 40 = .ok (.iload_n 2, 1) := by decide +kernel
theorem dX12_isSpeaker_41 : decode cX12_isSpeaker 41 = .ok (.ireturn, 1) := by decide +kernel
theorem dX12_maySpeak_0 : decode cX12_maySpeak 0 = .ok (.aload_n 0, 1) := by decide +kernel
theorem dX12_maySpeak_1 : decode cX12_maySpeak 1 = .ok (.iload_n 2, 1) := by decide +kernel
theorem dX12_maySpeak_2 : decode cX12_maySpeak 2 = .ok (.iconst 0, 1) := by decide +kernel
theorem dX12_maySpeak_3 : decode cX12_maySpeak 3 = .ok (.invokevirtual 53, 3) := by decide +kernel
theorem dX12_maySpeak_6 : decode cX12_maySpeak 6 = .ok (.iconst 1, 1) := by decide +kernel
theorem dX12_maySpeak_7 : decode cX12_maySpeak 7 = .ok (.if_icmp .ne 46, 3) := by decide +kernel
theorem dX12_maySpeak_10 : decode cX12_maySpeak 10 = .ok (.aload_n 0, 1) := by decide +kernel
theorem dX12_maySpeak_11 : decode cX12_maySpeak 11 = .ok (.iload_n 2, 1) := by decide +kernel
theorem dX12_maySpeak_12 : decode cX12_maySpeak 12 = .ok (.iconst 2, 1) := by decide +kernel
theorem dX12_maySpeak_13 : decode cX12_maySpeak 13 = .ok (.invokevirtual 53, 3) := by decide +kernel
theorem dX12_maySpeak_16 : decode cX12_maySpeak 16 = .ok (.iload_n 1, 1) := by decide +kernel
theorem dX12_maySpeak_17 : decode cX12_maySpeak 17 = .ok (.if_icmp .ne 36, 3) := by decide +kernel
theorem dX12_maySpeak_20 : decode cX12_maySpeak 20 = .ok (.aload_n 0, 1) := by decide +kernel
theorem dX12_maySpeak_21 : decode cX12_maySpeak 21 = .ok (.iload_n 2, 1) := by decide +kernel
theorem dX12_maySpeak_22 : decode cX12_maySpeak 22 = .ok (.iconst 4, 1) := by decide +kernel
theorem dX12_maySpeak_23 : decode cX12_maySpeak 23 = .ok (.invokevirtual 53, 3) := by decide +kernel
theorem dX12_maySpeak_26 : decode cX12_maySpeak 26 = .ok (.ifCond .ne 27, 3) := by decide +kernel
theorem dX12_maySpeak_29 : decode cX12_maySpeak 29 = .ok (.aload_n 0, 1) := by decide +kernel
theorem dX12_maySpeak_30 : decode cX12_maySpeak 30 = .ok (.getfield 7, 3) := by decide +kernel
theorem dX12_maySpeak_33 : decode cX12_maySpeak 33 = .ok (.iconst 4, 1) := by decide +kernel
theorem dX12_maySpeak_34 : decode cX12_maySpeak 34 = .ok (.iaload, 1) := by decide +kernel
theorem dX12_maySpeak_35 : decode cX12_maySpeak 35 = .ok (.ifCond .eq 14, 3) := by decide +kernel
theorem dX12_maySpeak_38 : decode cX12_maySpeak 38 = .ok (.aload_n 0, 1) := by decide +kernel
theorem dX12_maySpeak_39 : decode cX12_maySpeak 39 = .ok (.iload_n 2, 1) := by decide +kernel
theorem dX12_maySpeak_40 : decode cX12_maySpeak 40 = .ok (.bipush 7, 2) := by decide +kernel
theorem dX12_maySpeak_42 : decode cX12_maySpeak 42 = .ok (.invokevirtual 53, 3) := by decide +kernel
theorem dX12_maySpeak_45 : decode cX12_maySpeak 45 = .ok (.iconst 1, 1) := by decide +kernel
theorem dX12_maySpeak_46 : decode cX12_maySpeak 46 = .ok (.if_icmp .ne 7, 3) := by decide +kernel
theorem dX12_maySpeak_49 : decode cX12_maySpeak 49 = .ok (.iconst 1, 1) := by decide +kernel
theorem dX12_maySpeak_50 : decode cX12_maySpeak 50 = .ok (.goto 4, 3) := by decide +kernel
theorem dX12_maySpeak_53 : decode cX12_maySpeak 53 = .ok (.iconst 0, 1) := by decide +kernel
theorem dX12_maySpeak_54 : decode cX12_maySpeak 54 = .ok (.ireturn, 1) := by decide +kernel
theorem dX12_stops_0 : decode cX12_stops 0 = .ok (.aload_n 0, 1) := by decide +kernel
theorem dX12_stops_1 : decode cX12_stops 1 = .ok (.iload_n 1, 1) := by decide +kernel
theorem dX12_stops_2 : decode cX12_stops 2 = .ok (.iconst 3, 1) := by decide +kernel
theorem dX12_stops_3 : decode cX12_stops 3 = .ok (.aload_n 0, 1) := by decide +kernel
theorem dX12_stops_4 : decode cX12_stops 4 = .ok (.iload_n 1, 1) := by decide +kernel
theorem dX12_stops_5 : decode cX12_stops 5 = .ok (.iconst 3, 1) := by decide +kernel
theorem dX12_stops_6 : decode cX12_stops 6 = .ok (.invokevirtual 57, 3) := by decide +kernel
theorem dX12_stops_9 : decode cX12_stops 9 = .ok (.iconst 1, 1) := by decide +kernel
theorem dX12_stops_10 : decode cX12_stops 10 = .ok (.iload_n 2, 1) := by decide +kernel
theorem dX12_stops_11 : decode cX12_stops 11 = .ok (.ishl, 1) := by decide +kernel
theorem dX12_stops_12 : decode cX12_stops 12 = .ok (.iconst (-1), 1) := by decide +kernel
theorem dX12_stops_13 : decode cX12_stops 13 = .ok (.ixor, 1) := by decide +kernel
theorem dX12_stops_14 : decode cX12_stops 14 = .ok (.iand, 1) := by decide +kernel
theorem dX12_stops_15 : decode cX12_stops 15 = .ok (.invokevirtual 89, 3) := by decide +kernel
theorem dX12_stops_18 : decode cX12_stops 18 = .ok (.aload_n 0, 1) := by decide +kernel
theorem dX12_stops_19 : decode cX12_stops 19 = .ok (.iconst 5, 1) := by decide +kernel
theorem dX12_stops_20 : decode cX12_stops 20 = .ok (.iload_n 2, 1) := by decide +kernel
theorem dX12_stops_21 : decode cX12_stops 21 = .ok (.invokevirtual 70, 3) := by decide +kernel
theorem dX12_stops_24 : decode cX12_stops 24 = .ok (.return_, 1) := by decide +kernel
theorem dX12_begins_0 : decode cX12_begins 0 = .ok (.aload_n 0, 1) := by decide +kernel
theorem dX12_begins_1 : decode cX12_begins 1 = .ok (.iload_n 1, 1) := by decide +kernel
theorem dX12_begins_2 : decode cX12_begins 2 = .ok (.iconst 3, 1) := by decide +kernel
theorem dX12_begins_3 : decode cX12_begins 3 = .ok (.aload_n 0, 1) := by decide +kernel
theorem dX12_begins_4 : decode cX12_begins 4 = .ok (.iload_n 1, 1) := by decide +kernel
theorem dX12_begins_5 : decode cX12_begins 5 = .ok (.iconst 3, 1) := by decide +kernel
theorem dX12_begins_6 : decode cX12_begins 6 = .ok (.invokevirtual 57, 3) := by decide +kernel
theorem dX12_begins_9 : decode cX12_begins 9 = .ok (.iconst 1, 1) := by decide +kernel
theorem dX12_begins_10 : decode cX12_begins 10 = .ok (.iload_n 2, 1) := by decide +kernel
theorem dX12_begins_11 : decode cX12_begins 11 = .ok (.ishl, 1) := by decide +kernel
theorem dX12_begins_12 : decode cX12_begins 12 = .ok (.ior, 1) := by decide +kernel
theorem dX12_begins_13 : decode cX12_begins 13 = .ok (.invokevirtual 89, 3) := by decide +kernel
theorem dX12_begins_16 : decode cX12_begins 16 = .ok (.aload_n 0, 1) := by decide +kernel
theorem dX12_begins_17 : decode cX12_begins 17 = .ok (.iconst 1, 1) := by decide +kernel
theorem dX12_begins_18 : decode cX12_begins 18 = .ok (.iload_n 2, 1) := by decide +kernel
theorem dX12_begins_19 : decode cX12_begins 19 = .ok (.invokevirtual 70, 3) := by decide +kernel
theorem dX12_begins_22 : decode cX12_begins 22 = .ok (.return_, 1) := by decide +kernel
theorem dX12_speakersOf_0 : decode cX12_speakersOf 0 = .ok (.iconst 0, 1) := by decide +kernel
theorem dX12_speakersOf_1 : decode cX12_speakersOf 1 = .ok (.istore_n 2, 1) := by decide +kernel
theorem dX12_speakersOf_2 : decode cX12_speakersOf 2 = .ok (.iconst 0, 1) := by decide +kernel
theorem dX12_speakersOf_3 : decode cX12_speakersOf 3 = .ok (.istore_n 3, 1) := by decide +kernel
theorem dX12_speakersOf_4 : decode cX12_speakersOf 4 = .ok (.iload_n 3, 1) := by decide +kernel
theorem dX12_speakersOf_5 : decode cX12_speakersOf 5 = .ok (.aload_n 0, 1) := by decide +kernel
theorem dX12_speakersOf_6 : decode cX12_speakersOf 6 = .ok (.getfield 7, 3) := by decide +kernel
theorem dX12_speakersOf_9 : decode cX12_speakersOf 9 = .ok (.bipush 12, 2) := by decide +kernel
theorem dX12_speakersOf_11 : decode cX12_speakersOf 11 = .ok (.iaload, 1) := by decide +kernel
theorem dX12_speakersOf_12 : decode cX12_speakersOf 12 = .ok (.if_icmp .ge 26, 3) := by decide +kernel
theorem dX12_speakersOf_15 : decode cX12_speakersOf 15 = .ok (.iload_n 2, 1) := by decide +kernel
theorem dX12_speakersOf_16 : decode cX12_speakersOf 16 = .ok (.aload_n 0, 1) := by decide +kernel
theorem dX12_speakersOf_17 : decode cX12_speakersOf 17 = .ok (.iload_n 1, 1) := by decide +kernel
theorem dX12_speakersOf_18 : decode cX12_speakersOf 18 = .ok (.iload_n 3, 1) := by decide +kernel
theorem dX12_speakersOf_19 : decode cX12_speakersOf 19 = .ok (.invokevirtual 85, 3) := by decide +kernel
theorem dX12_speakersOf_22 : decode cX12_speakersOf 22 = .ok (.ifCond .eq 7, 3) := by decide +kernel
theorem dX12_speakersOf_25 : decode cX12_speakersOf 25 = .ok (.iconst 1, 1) := by decide +kernel
theorem dX12_speakersOf_26 : decode cX12_speakersOf 26 = .ok (.goto 4, 3) := by decide +kernel
theorem dX12_speakersOf_29 : decode cX12_speakersOf 29 = .ok (.iconst 0, 1) := by decide +kernel
theorem dX12_speakersOf_30 : decode cX12_speakersOf 30 = .ok (.iadd, 1) := by decide +kernel
theorem dX12_speakersOf_31 : decode cX12_speakersOf 31 = .ok (.istore_n 2, 1) := by decide +kernel
theorem dX12_speakersOf_32 : decode cX12_speakersOf 32 = .ok (.iinc 3 1, 3) := by decide +kernel
theorem dX12_speakersOf_35 : decode cX12_speakersOf 35 = .ok (.goto (-31), 3) := by decide +kernel
theorem dX12_speakersOf_38 : decode cX12_speakersOf 38 = .ok (.iload_n 2, 1) := by decide +kernel
theorem dX12_speakersOf_39 : decode cX12_speakersOf 39 = .ok (.ireturn, 1) := by decide +kernel
theorem dX12_quietest_0 : decode cX12_quietest 0 = .ok (.iconst (-1), 1) := by decide +kernel
theorem dX12_quietest_1 : decode cX12_quietest 1 = .ok (.istore_n 2, 1) := by decide +kernel
theorem dX12_quietest_2 : decode cX12_quietest 2 = .ok (.iconst 0, 1) := by decide +kernel
theorem dX12_quietest_3 : decode cX12_quietest 3 = .ok (.istore_n 3, 1) := by decide +kernel
theorem dX12_quietest_4 : decode cX12_quietest 4 = .ok (.iload_n 3, 1) := by decide +kernel
theorem dX12_quietest_5 : decode cX12_quietest 5 = .ok (.aload_n 0, 1) := by decide +kernel
theorem dX12_quietest_6 : decode cX12_quietest 6 = .ok (.getfield 7, 3) := by decide +kernel
theorem dX12_quietest_9 : decode cX12_quietest 9 = .ok (.bipush 12, 2) := by decide +kernel
theorem dX12_quietest_11 : decode cX12_quietest 11 = .ok (.iaload, 1) := by decide +kernel
theorem dX12_quietest_12 : decode cX12_quietest 12 = .ok (.if_icmp .ge 45, 3) := by decide +kernel
theorem dX12_quietest_15 : decode cX12_quietest 15 = .ok (.aload_n 0, 1) := by decide +kernel
theorem dX12_quietest_16 : decode cX12_quietest 16 = .ok (.iload_n 1, 1) := by decide +kernel
theorem dX12_quietest_17 : decode cX12_quietest 17 = .ok (.iload_n 3, 1) := by decide +kernel
theorem dX12_quietest_18 : decode cX12_quietest 18 = .ok (.invokevirtual 85, 3) := by decide +kernel
theorem dX12_quietest_21 : decode cX12_quietest 21 = .ok (.ifCond .eq 28, 3) := by decide +kernel
theorem dX12_quietest_24 : decode cX12_quietest 24 = .ok (.iload_n 2, 1) := by decide +kernel
theorem dX12_quietest_25 : decode cX12_quietest 25 = .ok (.iconst (-1), 1) := by decide +kernel
theorem dX12_quietest_26 : decode cX12_quietest 26 = .ok (.if_icmp .eq 19, 3) := by decide +kernel
theorem dX12_quietest_29 : decode cX12_quietest 29 = .ok (.aload_n 0, 1) := by decide +kernel
theorem dX12_quietest_30 : decode cX12_quietest 30 = .ok (.getfield 13, 3) := by decide +kernel
theorem dX12_quietest_33 : decode cX12_quietest 33 = .ok (.iload_n 3, 1) := by decide +kernel
theorem dX12_quietest_34 : decode cX12_quietest 34 = .ok (.faload, 1) := by decide +kernel
theorem dX12_quietest_35 : decode cX12_quietest 35 = .ok (.aload_n 0, 1) := by decide +kernel
theorem dX12_quietest_36 : decode cX12_quietest 36 = .ok (.getfield 13, 3) := by decide +kernel
theorem dX12_quietest_39 : decode cX12_quietest 39 = .ok (.iload_n 2, 1) := by decide +kernel
theorem dX12_quietest_40 : decode cX12_quietest 40 = .ok (.faload, 1) := by decide +kernel
theorem dX12_quietest_41 : decode cX12_quietest 41 = .ok (.fcmp .g, 1) := by decide +kernel
theorem dX12_quietest_42 : decode cX12_quietest 42 = .ok (.ifCond .gt 7, 3) := by decide +kernel
theorem dX12_quietest_45 : decode cX12_quietest 45 = .ok (.iload_n 3, 1) := by decide +kernel
theorem dX12_quietest_46 : decode cX12_quietest 46 = .ok (.goto 4, 3) := by decide +kernel
theorem dX12_quietest_49 : decode cX12_quietest 49 = .ok (.iload_n 2, 1) := by decide +kernel
theorem dX12_quietest_50 : decode cX12_quietest 50 = .ok (.istore_n 2, 1) := by decide +kernel
theorem dX12_quietest_51 : decode cX12_quietest 51 = .ok (.iinc 3 1, 3) := by decide +kernel
theorem dX12_quietest_54 : decode cX12_quietest 54 = .ok (.goto (-50), 3) := by decide +kernel
theorem dX12_quietest_57 : decode cX12_quietest 57 = .ok (.iload_n 2, 1) := by decide +kernel
theorem dX12_quietest_58 : decode cX12_quietest 58 = .ok (.ireturn, 1) := by decide +kernel
theorem dX12_loudest_0 : decode cX12_loudest 0 = .ok (.iconst (-1), 1) := by decide +kernel
theorem dX12_loudest_1 : decode cX12_loudest 1 = .ok (.istore_n 3, 1) := by decide +kernel
theorem dX12_loudest_2 : decode cX12_loudest 2 = .ok (.iconst 0, 1) := by decide +kernel
theorem dX12_loudest_3 : decode cX12_loudest 3 = .ok (.istore 4, 2) := by decide +kernel
theorem dX12_loudest_5 : decode cX12_loudest 5 = .ok (.iload 4, 2) := by decide +kernel
theorem dX12_loudest_7 : decode cX12_loudest 7 = .ok (.aload_n 0, 1) := by decide +kernel
theorem dX12_loudest_8 : decode cX12_loudest 8 = .ok (.getfield 7, 3) := by decide +kernel
theorem dX12_loudest_11 : decode cX12_loudest 11 = .ok (.bipush 12, 2) := by decide +kernel
theorem dX12_loudest_13 : decode cX12_loudest 13 = .ok (.iaload, 1) := by decide +kernel
theorem dX12_loudest_14 : decode cX12_loudest 14 = .ok (.if_icmp .ge 81, 3) := by decide +kernel
theorem dX12_loudest_17 : decode cX12_loudest 17 = .ok (.aload_n 0, 1) := by decide +kernel
theorem dX12_loudest_18 : decode cX12_loudest 18 = .ok (.iload_n 1, 1) := by decide +kernel
theorem dX12_loudest_19 : decode cX12_loudest 19 = .ok (.iload 4, 2) := by decide +kernel
theorem dX12_loudest_21 : decode cX12_loudest 21 = .ok (.invokevirtual 92, 3) := by decide +kernel
theorem dX12_loudest_24 : decode cX12_loudest 24 = .ok (.ifCond .eq 28, 3) := by decide +kernel
theorem dX12_loudest_27 : decode cX12_loudest 27 = .ok (.aload_n 0, 1) := by decide +kernel
theorem dX12_loudest_28 : decode cX12_loudest 28 = .ok (.iload 4, 2) := by decide +kernel
theorem dX12_loudest_30 : decode cX12_loudest 30 = .ok (.invokevirtual 95, 3) := by decide +kernel
theorem dX12_loudest_33 : decode cX12_loudest 33 = .ok (.ifCond .ne 19, 3) := by decide +kernel
theorem dX12_loudest_36 : decode cX12_loudest 36 = .ok (.aload_n 0, 1) := by decide +kernel
theorem dX12_loudest_37 : decode cX12_loudest 37 = .ok (.getfield 13, 3) := by decide +kernel
theorem dX12_loudest_40 : decode cX12_loudest 40 = .ok (.iload 4, 2) := by decide +kernel
theorem dX12_loudest_42 : decode cX12_loudest 42 = .ok (.faload, 1) := by decide +kernel
theorem dX12_loudest_43 : decode cX12_loudest 43 = .ok (.fload_n 2, 1) := by decide +kernel
theorem dX12_loudest_44 : decode cX12_loudest 44 = .ok (.fcmp .l, 1) := by decide +kernel
theorem dX12_loudest_45 : decode cX12_loudest 45 = .ok (.ifCond .lt 7, 3) := by decide +kernel
theorem dX12_loudest_48 : decode cX12_loudest 48 = .ok (.iconst 1, 1) := by decide +kernel
theorem dX12_loudest_49 : decode cX12_loudest 49 = .ok (.goto 4, 3) := by decide +kernel
theorem dX12_loudest_52 : decode cX12_loudest 52 = .ok (.iconst 0, 1) := by decide +kernel
theorem dX12_loudest_53 : decode cX12_loudest 53 = .ok (.istore 5, 2) := by decide +kernel
theorem dX12_loudest_55 : decode cX12_loudest 55 = .ok (.iload 5, 2) := by decide +kernel
theorem dX12_loudest_57 : decode cX12_loudest 57 = .ok (.ifCond .eq 30, 3) := by decide +kernel
theorem dX12_loudest_60 : decode cX12_loudest 60 = .ok (.iload_n 3, 1) := by decide +kernel
theorem dX12_loudest_61 : decode cX12_loudest 61 = .ok (.iconst (-1), 1) := by decide +kernel
theorem dX12_loudest_62 : decode cX12_loudest 62 = .ok (.if_icmp .eq 20, 3) := by decide +kernel
theorem dX12_loudest_65 : decode cX12_loudest 65 = .ok (.aload_n 0, 1) := by decide +kernel
theorem dX12_loudest_66 : decode cX12_loudest 66 = .ok (.getfield 13, 3) := by decide +kernel
theorem dX12_loudest_69 : decode cX12_loudest 69 = .ok (.iload 4, 2) := by decide +kernel
theorem dX12_loudest_71 : decode cX12_loudest 71 = .ok (.faload, 1) := by decide +kernel
theorem dX12_loudest_72 : decode cX12_loudest 72 = .ok (.aload_n 0, 1) := by decide +kernel
theorem dX12_loudest_73 : decode cX12_loudest 73 = .ok (.getfield 13, 3) := by decide +kernel
theorem dX12_loudest_76 : decode cX12_loudest 76 = .ok (.iload_n 3, 1) := by decide +kernel
theorem dX12_loudest_77 : decode cX12_loudest 77 = .ok (.faload, 1) := by decide +kernel
theorem dX12_loudest_78 : decode cX12_loudest 78 = .ok (.fcmp .l, 1) := by decide +kernel
theorem dX12_loudest_79 : decode cX12_loudest 79 = .ok (.ifCond .le 8, 3) := by decide +kernel
theorem dX12_loudest_82 : decode cX12_loudest 82 = .ok (.iload 4, 2) := by decide +kernel
theorem dX12_loudest_84 : decode cX12_loudest 84 = .ok (.goto 4, 3) := by decide +kernel
theorem dX12_loudest_87 : decode cX12_loudest 87 = .ok (.iload_n 3, 1) := by decide +kernel
theorem dX12_loudest_88 : decode cX12_loudest 88 = .ok (.istore_n 3, 1) := by decide +kernel
theorem dX12_loudest_89 : decode cX12_loudest 89 = .ok (.iinc 4 1, 3) := by decide +kernel
theorem dX12_loudest_92 : decode cX12_loudest 92 = .ok (.goto (-87), 3) := by decide +kernel
theorem dX12_loudest_95 : decode cX12_loudest 95 = .ok (.iload_n 3, 1) := by decide +kernel
theorem dX12_loudest_96 : decode cX12_loudest 96 = .ok (.ireturn, 1) := by decide +kernel
theorem dX12_selects_0 : decode cX12_selects 0 = .ok (.iconst 0, 1) := by decide +kernel
theorem dX12_selects_1 : decode cX12_selects 1 = .ok (.istore_n 3, 1) := by decide +kernel
theorem dX12_selects_2 : decode cX12_selects 2 = .ok (.iload_n 3, 1) := by decide +kernel
theorem dX12_selects_3 : decode cX12_selects 3 = .ok (.aload_n 0, 1) := by decide +kernel
theorem dX12_selects_4 : decode cX12_selects 4 = .ok (.getfield 7, 3) := by decide +kernel
theorem dX12_selects_7 : decode cX12_selects 7 = .ok (.bipush 12, 2) := by decide +kernel
theorem dX12_selects_9 : decode cX12_selects 9 = .ok (.iaload, 1) := by decide +kernel
theorem dX12_selects_10 : decode cX12_selects 10 = .ok (.if_icmp .ge 48, 3) := by decide +kernel
theorem dX12_selects_13 : decode cX12_selects 13 = .ok (.aload_n 0, 1) := by decide +kernel
theorem dX12_selects_14 : decode cX12_selects 14 = .ok (.iload_n 1, 1) := by decide +kernel
theorem dX12_selects_15 : decode cX12_selects 15 = .ok (.iload_n 3, 1) := by decide +kernel
theorem dX12_selects_16 : decode cX12_selects 16 = .ok (.invokevirtual 85, 3) := by decide +kernel
theorem dX12_selects_19 : decode cX12_selects 19 = .ok (.ifCond .eq 33, 3) := by decide +kernel
theorem dX12_selects_22 : decode cX12_selects 22 = .ok (.aload_n 0, 1) := by decide +kernel
theorem dX12_selects_23 : decode cX12_selects 23 = .ok (.iload_n 1, 1) := by decide +kernel
theorem dX12_selects_24 : decode cX12_selects 24 = .ok (.iload_n 3, 1) := by decide +kernel
theorem dX12_selects_25 : decode cX12_selects 25 = .ok (.invokevirtual 92, 3) := by decide +kernel
theorem dX12_selects_28 : decode cX12_selects 28 = .ok (.ifCond .eq 18, 3) := by decide +kernel
theorem dX12_selects_31 : decode cX12_selects 31 = .ok (.aload_n 0, 1) := by decide +kernel
theorem dX12_selects_32 : decode cX12_selects 32 = .ok (.iload_n 3, 1) := by decide +kernel
theorem dX12_selects_33 : decode cX12_selects 33 = .ok (.iconst 5, 1) := by decide +kernel
theorem dX12_selects_34 : decode cX12_selects 34 = .ok (.invokevirtual 53, 3) := by decide +kernel
theorem dX12_selects_37 : decode cX12_selects 37 = .ok (.aload_n 0, 1) := by decide +kernel
theorem dX12_selects_38 : decode cX12_selects 38 = .ok (.getfield 7, 3) := by decide +kernel
theorem dX12_selects_41 : decode cX12_selects 41 = .ok (.iconst 3, 1) := by decide +kernel
theorem dX12_selects_42 : decode cX12_selects 42 = .ok (.iaload, 1) := by decide +kernel
theorem dX12_selects_43 : decode cX12_selects 43 = .ok (.if_icmp .le 9, 3) := by decide +kernel
theorem dX12_selects_46 : decode cX12_selects 46 = .ok (.aload_n 0, 1) := by decide +kernel
theorem dX12_selects_47 : decode cX12_selects 47 = .ok (.iload_n 1, 1) := by decide +kernel
theorem dX12_selects_48 : decode cX12_selects 48 = .ok (.iload_n 3, 1) := by decide +kernel
theorem dX12_selects_49 : decode cX12_selects 49 = .ok (.invokevirtual 99, 3) := by decide +kernel
theorem dX12_selects_52 : decode cX12_selects 52 = .ok (.iinc 3 1, 3) := by decide +kernel
theorem dX12_selects_55 : decode cX12_selects 55 = .ok (.goto (-53), 3) := by decide +kernel
theorem dX12_selects_58 : decode cX12_selects 58 = .ok (.aload_n 0, 1) := by decide +kernel
theorem dX12_selects_59 : decode cX12_selects 59 = .ok (.iload_n 1, 1) := by decide +kernel
theorem dX12_selects_60 : decode cX12_selects 60 = .ok (.invokevirtual 102, 3) := by decide +kernel
theorem dX12_selects_63 : decode cX12_selects 63 = .ok (.aload_n 0, 1) := by decide +kernel
theorem dX12_selects_64 : decode cX12_selects 64 = .ok (.getfield 7, 3) := by decide +kernel
theorem dX12_selects_67 : decode cX12_selects 67 = .ok (.iconst 0, 1) := by decide +kernel
theorem dX12_selects_68 : decode cX12_selects 68 = .ok (.iaload, 1) := by decide +kernel
theorem dX12_selects_69 : decode cX12_selects 69 = .ok (.if_icmp .le 16, 3) := by decide +kernel
theorem dX12_selects_72 : decode cX12_selects 72 = .ok (.aload_n 0, 1) := by decide +kernel
theorem dX12_selects_73 : decode cX12_selects 73 = .ok (.iload_n 1, 1) := by decide +kernel
theorem dX12_selects_74 : decode cX12_selects 74 = .ok (.aload_n 0, 1) := by decide +kernel
theorem dX12_selects_75 : decode cX12_selects 75 = .ok (.iload_n 1, 1) := by decide +kernel
theorem dX12_selects_76 : decode cX12_selects 76 = .ok (.invokevirtual 105, 3) := by decide +kernel
theorem dX12_selects_79 : decode cX12_selects 79 = .ok (.invokevirtual 99, 3) := by decide +kernel
theorem dX12_selects_82 : decode cX12_selects 82 = .ok (.goto (-24), 3) := by decide +kernel
theorem dX12_selects_85 : decode cX12_selects 85 = .ok (.aload_n 0, 1) := by decide +kernel
theorem dX12_selects_86 : decode cX12_selects 86 = .ok (.iload_n 1, 1) := by decide +kernel
theorem dX12_selects_87 : decode cX12_selects 87 = .ok (.fload_n 2, 1) := by decide +kernel
theorem dX12_selects_88 : decode cX12_selects 88 = .ok (.invokevirtual 108, 3) := by decide +kernel
theorem dX12_selects_91 : decode cX12_selects 91 = .ok (.istore_n 3, 1) := by decide +kernel
theorem dX12_selects_92 : decode cX12_selects 92 = .ok (.iload_n 3, 1) := by decide +kernel
theorem dX12_selects_93 : decode cX12_selects 93 = .ok (.iconst (-1), 1) := by decide +kernel
theorem dX12_selects_94 : decode cX12_selects 94 = .ok (.if_icmp .eq 33, 3) := by decide +kernel
theorem dX12_selects_97 : decode cX12_selects 97 = .ok (.aload_n 0, 1) := by decide +kernel
theorem dX12_selects_98 : decode cX12_selects 98 = .ok (.iload_n 1, 1) := by decide +kernel
theorem dX12_selects_99 : decode cX12_selects 99 = .ok (.invokevirtual 102, 3) := by decide +kernel
theorem dX12_selects_102 : decode cX12_selects 102 = .ok (.aload_n 0, 1) := by decide +kernel
theorem dX12_selects_103 : decode cX12_selects 103 = .ok (.getfield 7, 3) := by decide +kernel
theorem dX12_selects_106 : decode cX12_selects 106 = .ok (.iconst 0, 1) := by decide +kernel
theorem dX12_selects_107 : decode cX12_selects 107 = .ok (.iaload, 1) := by decide +kernel
theorem dX12_selects_108 : decode cX12_selects 108 = .ok (.if_icmp .ge 19, 3) := by decide +kernel
theorem dX12_selects_111 : decode cX12_selects 111 = .ok (.aload_n 0, 1) := by decide +kernel
theorem dX12_selects_112 : decode cX12_selects 112 = .ok (.iload_n 1, 1) := by decide +kernel
theorem dX12_selects_113 : decode cX12_selects 113 = .ok (.iload_n 3, 1) := by decide +kernel
theorem dX12_selects_114 : decode cX12_selects 114 = .ok (.invokevirtual 112, 3) := by decide +kernel
theorem dX12_selects_117 : decode cX12_selects 117 = .ok (.aload_n 0, 1) := by decide +kernel
theorem dX12_selects_118 : decode cX12_selects 118 = .ok (.iload_n 1, 1) := by decide +kernel
theorem dX12_selects_119 : decode cX12_selects 119 = .ok (.fload_n 2, 1) := by decide +kernel
theorem dX12_selects_120 : decode cX12_selects 120 = .ok (.invokevirtual 108, 3) := by decide +kernel
theorem dX12_selects_123 : decode cX12_selects 123 = .ok (.istore_n 3, 1) := by decide +kernel
theorem dX12_selects_124 : decode cX12_selects 124 = .ok (.goto (-32), 3) := by decide +kernel
theorem dX12_selects_127 : decode cX12_selects 127 = .ok (.iload_n 3, 1) := by decide +kernel
theorem dX12_selects_128 : decode cX12_selects 128 = .ok (.iconst (-1), 1) := by decide +kernel
theorem dX12_selects_129 : decode cX12_selects 129 = .ok (.if_icmp .eq 51, 3) := by decide +kernel
theorem dX12_selects_132 : decode cX12_selects 132 = .ok (.aload_n 0, 1) := by decide +kernel
theorem dX12_selects_133 : decode cX12_selects 133 = .ok (.iload_n 1, 1) := by decide +kernel
theorem dX12_selects_134 : decode cX12_selects 134 = .ok (.invokevirtual 105, 3) := by decide +kernel
theorem dX12_selects_137 : decode cX12_selects 137 = .ok (.istore 4, 2) := by decide +kernel
theorem dX12_selects_139 : decode cX12_selects 139 = .ok (.aload_n 0, 1) := by decide +kernel
theorem dX12_selects_140 : decode cX12_selects 140 = .ok (.getfield 13, 3) := by decide +kernel
theorem dX12_selects_143 : decode cX12_selects 143 = .ok (.iload_n 3, 1) := by decide +kernel
theorem dX12_selects_144 : decode cX12_selects 144 = .ok (.faload, 1) := by decide +kernel
theorem dX12_selects_145 : decode cX12_selects 145 = .ok (.aload_n 0, 1) := by decide +kernel
theorem dX12_selects_146 : decode cX12_selects 146 = .ok (.getfield 13, 3) := by decide +kernel
theorem dX12_selects_149 : decode cX12_selects 149 = .ok (.iload 4, 2) := by decide +kernel
theorem dX12_selects_151 : decode cX12_selects 151 = .ok (.faload, 1) := by decide +kernel
theorem dX12_selects_152 : decode cX12_selects 152 = .ok (.aload_n 0, 1) := by decide +kernel
theorem dX12_selects_153 : decode cX12_selects 153 = .ok (.getfield 7, 3) := by decide +kernel
theorem dX12_selects_156 : decode cX12_selects 156 = .ok (.iconst 2, 1) := by decide +kernel
theorem dX12_selects_157 : decode cX12_selects 157 = .ok (.iaload, 1) := by decide +kernel
theorem dX12_selects_158 : decode cX12_selects 158 = .ok (.i2f, 1) := by decide +kernel
theorem dX12_selects_159 : decode cX12_selects 159 = .ok (.fmul, 1) := by decide +kernel
theorem dX12_selects_160 : decode cX12_selects 160 = .ok (.ldc 115, 2) := by decide +kernel
theorem dX12_selects_162 : decode cX12_selects 162 = .ok (.fdiv, 1) := by decide +kernel
theorem dX12_selects_163 : decode cX12_selects 163 = .ok (.fcmp .l, 1) := by decide +kernel
theorem dX12_selects_164 : decode cX12_selects 164 = .ok (.ifCond .le 16, 3) := by decide +kernel
theorem dX12_selects_167 : decode cX12_selects 167 = .ok (.aload_n 0, 1) := by decide +kernel
theorem dX12_selects_168 : decode cX12_selects 168 = .ok (.iload_n 1, 1) := by decide +kernel
theorem dX12_selects_169 : decode cX12_selects 169 = .ok (.iload 4, 2) := by decide +kernel
theorem dX12_selects_171 : decode cX12_selects 171 = .ok (.invokevirtual 99, 3) := by decide +kernel
theorem dX12_selects_174 : decode cX12_selects 174 = .ok (.aload_n 0, 1) := by decide +kernel
theorem dX12_selects_175 : decode cX12_selects 175 = .ok (.iload_n 1, 1) := by decide +kernel
theorem dX12_selects_176 : decode cX12_selects 176 = .ok (.iload_n 3, 1) := by decide +kernel
theorem dX12_selects_177 : decode cX12_selects 177 = .ok (.invokevirtual 112, 3) := by decide +kernel
theorem dX12_selects_180 : decode cX12_selects 180 = .ok (.iconst 0, 1) := by decide +kernel
theorem dX12_selects_181 : decode cX12_selects 181 = .ok (.istore 4, 2) := by decide +kernel
theorem dX12_selects_183 : decode cX12_selects 183 = .ok (.iload 4, 2) := by decide +kernel
theorem dX12_selects_185 : decode cX12_selects 185 = .ok (.aload_n 0, 1) := by decide +kernel
theorem dX12_selects_186 : decode cX12_selects 186 = .ok (.getfield 7, 3) := by decide +kernel
theorem dX12_selects_189 : decode cX12_selects 189 = .ok (.bipush 12, 2) := by decide +kernel
theorem dX12_selects_191 : decode cX12_selects 191 = .ok (.iaload, 1) := by decide +kernel
theorem dX12_selects_192 : decode cX12_selects 192 = .ok (.if_icmp .ge 41, 3) := by decide +kernel
theorem dX12_selects_195 : decode cX12_selects 195 = .ok (.aload_n 0, 1) := by decide +kernel
theorem dX12_selects_196 : decode cX12_selects 196 = .ok (.iload 4, 2) := by decide +kernel
theorem dX12_selects_198 : decode cX12_selects 198 = .ok (.bipush 6, 2) := by decide +kernel
theorem dX12_selects_200 : decode cX12_selects 200 = .ok (.aload_n 0, 1) := by decide +kernel
theorem dX12_selects_201 : decode cX12_selects 201 = .ok (.iload 4, 2) := by decide +kernel
theorem dX12_selects_203 : decode cX12_selects 203 = .ok (.bipush 6, 2) := by decide +kernel
theorem dX12_selects_205 : decode cX12_selects 205 = .ok (.invokevirtual 53, 3) := by decide +kernel
theorem dX12_selects_208 : decode cX12_selects 208 = .ok (.aload_n 0, 1) := by decide +kernel
theorem dX12_selects_209 : decode cX12_selects 209 = .ok (.iload_n 1, 1) := by decide +kernel
theorem dX12_selects_210 : decode cX12_selects 210 = .ok (.iload 4, 2) := by decide +kernel
theorem dX12_selects_212 : decode cX12_selects 212 = .ok (.invokevirtual 85, 3) := by decide +kernel
theorem dX12_selects_215 : decode cX12_selects 215 = .ok (.ifCond .eq 7, 3) := by decide +kernel
theorem dX12_selects_218 : decode cX12_selects 218 = .ok (.iconst 1, 1) := by decide +kernel
theorem dX12_selects_219 : decode cX12_selects 219 = .ok (.goto 4, 3) := by decide +kernel
theorem dX12_selects_222 : decode cX12_selects 222 = .ok (.iconst 0, 1) := by decide +kernel
theorem dX12_selects_223 : decode cX12_selects 223 = .ok (.iadd, 1) := by decide +kernel
theorem dX12_selects_224 : decode cX12_selects 224 = .ok (.invokevirtual 66, 3) := by decide +kernel
theorem dX12_selects_227 : decode cX12_selects 227 = .ok (.iinc 4 1, 3) := by decide +kernel
theorem dX12_selects_230 : decode cX12_selects 230 = .ok (.goto (-47), 3) := by decide +kernel
theorem dX12_selects_233 : decode cX12_selects 233 = .ok (.return_, 1) := by decide +kernel
theorem dX12_gathers_0 : decode cX12_gathers 0 = .ok (.iconst 0, 1) := by decide +kernel
theorem dX12_gathers_1 : decode cX12_gathers 1 = .ok (.istore_n 3, 1) := by decide +kernel
theorem dX12_gathers_2 : decode cX12_gathers 2 = .ok (.iload_n 3, 1) := by decide +kernel
theorem dX12_gathers_3 : decode cX12_gathers 3 = .ok (.bipush 20, 2) := by decide +kernel
theorem dX12_gathers_5 : decode cX12_gathers 5 = .ok (.if_icmp .ge 41, 3) := by decide +kernel
theorem dX12_gathers_8 : decode cX12_gathers 8 = .ok (.aload_n 0, 1) := by decide +kernel
theorem dX12_gathers_9 : decode cX12_gathers 9 = .ok (.getfield 22, 3) := by decide +kernel
theorem dX12_gathers_12 : decode cX12_gathers 12 = .ok (.iload_n 3, 1) := by decide +kernel
theorem dX12_gathers_13 : decode cX12_gathers 13 = .ok (.aload_n 0, 1) := by decide +kernel
theorem dX12_gathers_14 : decode cX12_gathers 14 = .ok (.iload_n 1, 1) := by decide +kernel
theorem dX12_gathers_15 : decode cX12_gathers 15 = .ok (.iload_n 3, 1) := by decide +kernel
theorem dX12_gathers_16 : decode cX12_gathers 16 = .ok (.invokevirtual 85, 3) := by decide +kernel
theorem dX12_gathers_19 : decode cX12_gathers 19 = .ok (.ifCond .eq 7, 3) := by decide +kernel
theorem dX12_gathers_22 : decode cX12_gathers 22 = .ok (.iconst 0, 1) := by decide +kernel
theorem dX12_gathers_23 : decode cX12_gathers 23 = .ok (.goto 4, 3) := by decide +kernel
theorem dX12_gathers_26 : decode cX12_gathers 26 = .ok (.iconst (-1), 1) := by decide +kernel
theorem dX12_gathers_27 : decode cX12_gathers 27 = .ok (.iastore, 1) := by decide +kernel
theorem dX12_gathers_28 : decode cX12_gathers 28 = .ok (.aload_n 0, 1) := by decide +kernel
theorem dX12_gathers_29 : decode cX12_gathers 29 = .ok (.getfield 25, 3) := by decide +kernel
theorem dX12_gathers_32 : decode cX12_gathers 32 = .ok (.iload_n 3, 1) := by decide +kernel
theorem dX12_gathers_33 : decode cX12_gathers 33 = .ok (.aload_n 0, 1) := by decide +kernel
theorem dX12_gathers_34 : decode cX12_gathers 34 = .ok (.getfield 13, 3) := by decide +kernel
theorem dX12_gathers_37 : decode cX12_gathers 37 = .ok (.iload_n 3, 1) := by decide +kernel
theorem dX12_gathers_38 : decode cX12_gathers 38 = .ok (.faload, 1) := by decide +kernel
theorem dX12_gathers_39 : decode cX12_gathers 39 = .ok (.fastore, 1) := by decide +kernel
theorem dX12_gathers_40 : decode cX12_gathers 40 = .ok (.iinc 3 1, 3) := by decide +kernel
theorem dX12_gathers_43 : decode cX12_gathers 43 = .ok (.goto (-41), 3) := by decide +kernel
theorem dX12_gathers_46 : decode cX12_gathers 46 = .ok (.iconst 0, 1) := by decide +kernel
theorem dX12_gathers_47 : decode cX12_gathers 47 = .ok (.istore_n 3, 1) := by decide +kernel
theorem dX12_gathers_48 : decode cX12_gathers 48 = .ok (.iload_n 3, 1) := by decide +kernel
theorem dX12_gathers_49 : decode cX12_gathers 49 = .ok (.aload_n 0, 1) := by decide +kernel
theorem dX12_gathers_50 : decode cX12_gathers 50 = .ok (.getfield 7, 3) := by decide +kernel
theorem dX12_gathers_53 : decode cX12_gathers 53 = .ok (.bipush 11, 2) := by decide +kernel
theorem dX12_gathers_55 : decode cX12_gathers 55 = .ok (.iaload, 1) := by decide +kernel
theorem dX12_gathers_56 : decode cX12_gathers 56 = .ok (.if_icmp .ge 140, 3) := by decide +kernel
theorem dX12_gathers_59 : decode cX12_gathers 59 = .ok (.sipush 395, 3) := by decide +kernel
theorem dX12_gathers_62 : decode cX12_gathers 62 = .ok (.bipush 9, 2) := by decide +kernel
theorem dX12_gathers_64 : decode cX12_gathers 64 = .ok (.bipush 8, 2) := by decide +kernel
theorem dX12_gathers_66 : decode cX12_gathers 66 = .ok (.iload_n 1, 1) := by decide +kernel
theorem dX12_gathers_67 : decode cX12_gathers 67 = .ok (.imul, 1) := by decide +kernel
theorem dX12_gathers_68 : decode cX12_gathers 68 = .ok (.iload_n 3, 1) := by decide +kernel
theorem dX12_gathers_69 : decode cX12_gathers 69 = .ok (.iadd, 1) := by decide +kernel
theorem dX12_gathers_70 : decode cX12_gathers 70 = .ok (.imul, 1) := by decide +kernel
theorem dX12_gathers_71 : decode cX12_gathers 71 = .ok (.iadd, 1) := by decide +kernel
theorem dX12_gathers_72 : decode cX12_gathers 72 = .ok (.istore 4, 2) := by decide +kernel
theorem dX12_gathers_74 : decode cX12_gathers 74 = .ok (.iconst 0, 1) := by decide +kernel
theorem dX12_gathers_75 : decode cX12_gathers 75 = .ok (.istore 5, 2) := by decide +kernel
theorem dX12_gathers_77 : decode cX12_gathers 77 = .ok (.iload 5, 2) := by decide +kernel
theorem dX12_gathers_79 : decode cX12_gathers 79 = .ok (.aload_n 0, 1) := by decide +kernel
theorem dX12_gathers_80 : decode cX12_gathers 80 = .ok (.getfield 7, 3) := by decide +kernel
theorem dX12_gathers_83 : decode cX12_gathers 83 = .ok (.iload 4, 2) := by decide +kernel
theorem dX12_gathers_85 : decode cX12_gathers 85 = .ok (.iaload, 1) := by decide +kernel
theorem dX12_gathers_86 : decode cX12_gathers 86 = .ok (.if_icmp .ge 104, 3) := by decide +kernel
theorem dX12_gathers_89 : decode cX12_gathers 89 = .ok (.iload_n 3, 1) := by decide +kernel
theorem dX12_gathers_90 : decode cX12_gathers 90 = .ok (.iload_n 2, 1) := by decide +kernel
theorem dX12_gathers_91 : decode cX12_gathers 91 = .ok (.if_icmp .eq 99, 3) := by decide +kernel
theorem dX12_gathers_94 : decode cX12_gathers 94 = .ok (.aload_n 0, 1) := by decide +kernel
theorem dX12_gathers_95 : decode cX12_gathers 95 = .ok (.getfield 7, 3) := by decide +kernel
theorem dX12_gathers_98 : decode cX12_gathers 98 = .ok (.iload 4, 2) := by decide +kernel
theorem dX12_gathers_100 : decode cX12_gathers 100 = .ok (.iconst 1, 1) := by decide +kernel
theorem dX12_gathers_101 : decode cX12_gathers 101 = .ok (.iadd, 1) := by decide +kernel
theorem dX12_gathers_102 : decode cX12_gathers 102 = .ok (.iconst 2, 1) := by decide +kernel
theorem dX12_gathers_103 : decode cX12_gathers 103 = .ok (.iload 5, 2) := by decide +kernel
theorem dX12_gathers_105 : decode cX12_gathers 105 = .ok (.imul, 1) := by decide +kernel
theorem dX12_gathers_106 : decode cX12_gathers 106 = .ok (.iadd, 1) := by decide +kernel
theorem dX12_gathers_107 : decode cX12_gathers 107 = .ok (.iaload, 1) := by decide +kernel
theorem dX12_gathers_108 : decode cX12_gathers 108 = .ok (.istore 6, 2) := by decide +kernel
theorem dX12_gathers_110 : decode cX12_gathers 110 = .ok (.aload_n 0, 1) := by decide +kernel
theorem dX12_gathers_111 : decode cX12_gathers 111 = .ok (.getfield 7, 3) := by decide +kernel
theorem dX12_gathers_114 : decode cX12_gathers 114 = .ok (.iload 4, 2) := by decide +kernel
theorem dX12_gathers_116 : decode cX12_gathers 116 = .ok (.iconst 2, 1) := by decide +kernel
theorem dX12_gathers_117 : decode cX12_gathers 117 = .ok (.iadd, 1) := by decide +kernel
theorem dX12_gathers_118 : decode cX12_gathers 118 = .ok (.iconst 2, 1) := by decide +kernel
theorem dX12_gathers_119 : decode cX12_gathers 119 = .ok (.iload 5, 2) := by decide +kernel
theorem dX12_gathers_121 : decode cX12_gathers 121 = .ok (.imul, 1) := by decide +kernel
theorem dX12_gathers_122 : decode cX12_gathers 122 = .ok (.iadd, 1) := by decide +kernel
theorem dX12_gathers_123 : decode cX12_gathers 123 = .ok (.iaload, 1) := by decide +kernel
theorem dX12_gathers_124 : decode cX12_gathers 124 = .ok (.istore 7, 2) := by decide +kernel
theorem dX12_gathers_126 : decode cX12_gathers 126 = .ok (.aload_n 0, 1) := by decide +kernel
theorem dX12_gathers_127 : decode cX12_gathers 127 = .ok (.getfield 22, 3) := by decide +kernel
theorem dX12_gathers_130 : decode cX12_gathers 130 = .ok (.iload 6, 2) := by decide +kernel
theorem dX12_gathers_132 : decode cX12_gathers 132 = .ok (.iaload, 1) := by decide +kernel
theorem dX12_gathers_133 : decode cX12_gathers 133 = .ok (.iconst (-1), 1) := by decide +kernel
theorem dX12_gathers_134 : decode cX12_gathers 134 = .ok (.if_icmp .eq 15, 3) := by decide +kernel
theorem dX12_gathers_137 : decode cX12_gathers 137 = .ok (.iload 7, 2) := by decide +kernel
theorem dX12_gathers_139 : decode cX12_gathers 139 = .ok (.aload_n 0, 1) := by decide +kernel
theorem dX12_gathers_140 : decode cX12_gathers 140 = .ok (.getfield 22, 3) := by decide +kernel
theorem dX12_gathers_143 : decode cX12_gathers 143 = .ok (.iload 6, 2) := by decide +kernel
theorem dX12_gathers_145 : decode cX12_gathers 145 = .ok (.iaload, 1) := by decide +kernel
theorem dX12_gathers_146 : decode cX12_gathers 146 = .ok (.if_icmp .ge 38, 3) := by decide +kernel
theorem dX12_gathers_149 : decode cX12_gathers 149 = .ok (.aload_n 0, 1) := by decide +kernel
theorem dX12_gathers_150 : decode cX12_gathers 150 = .ok (.getfield 22, 3) := by decide +kernel
theorem dX12_gathers_153 : decode cX12_gathers 153 = .ok (.iload 6, 2) := by decide +kernel
theorem dX12_gathers_155 : decode cX12_gathers 155 = .ok (.iload 7, 2) := by decide +kernel
theorem dX12_gathers_157 : decode cX12_gathers 157 = .ok (.iastore, 1) := by decide +kernel
theorem dX12_gathers_158 : decode cX12_gathers 158 = .ok (.aload_n 0, 1) := by decide +kernel
theorem dX12_gathers_159 : decode cX12_gathers 159 = .ok (.getfield 25, 3) := by decide +kernel
theorem dX12_gathers_162 : decode cX12_gathers 162 = .ok (.iload 6, 2) := by decide +kernel
theorem dX12_gathers_164 : decode cX12_gathers 164 = .ok (.aload_n 0, 1) := by decide +kernel
theorem dX12_gathers_165 : decode cX12_gathers 165 = .ok (.getfield 13, 3) := by decide +kernel
theorem dX12_gathers_168 : decode cX12_gathers 168 = .ok (.bipush 40, 2) := by decide +kernel
theorem dX12_gathers_170 : decode cX12_gathers 170 = .ok (.iconst 4, 1) := by decide +kernel
theorem dX12_gathers_171 : decode cX12_gathers 171 = .ok (.bipush 8, 2) := by decide +kernel
theorem dX12_gathers_173 : decode cX12_gathers 173 = .ok (.iload_n 1, 1) := by decide +kernel
theorem dX12_gathers_174 : decode cX12_gathers 174 = .ok (.imul, 1) := by decide +kernel
theorem dX12_gathers_175 : decode cX12_gathers 175 = .ok (.iload_n 3, 1) := by decide +kernel
theorem dX12_gathers_176 : decode cX12_gathers 176 = .ok (.iadd, 1) := by decide +kernel
theorem dX12_gathers_177 : decode cX12_gathers 177 = .ok (.imul, 1) := by decide +kernel
theorem dX12_gathers_178 : decode cX12_gathers 178 = .ok (.iadd, 1) := by decide +kernel
theorem dX12_gathers_179 : decode cX12_gathers 179 = .ok (.iload 5, 2) := by decide +kernel
theorem dX12_gathers_181 : decode cX12_gathers 181 = .ok (.iadd, 1) := by decide +kernel
theorem dX12_gathers_182 : decode cX12_gathers 182 = .ok (.faload, 1) := by decide +kernel
theorem dX12_gathers_183 : decode cX12_gathers 183 = .ok (.fastore, 1) := by decide +kernel
theorem dX12_gathers_184 : decode cX12_gathers 184 = .ok (.iinc 5 1, 3) := by decide +kernel
theorem dX12_gathers_187 : decode cX12_gathers 187 = .ok (.goto (-110), 3) := by decide +kernel
theorem dX12_gathers_190 : decode cX12_gathers 190 = .ok (.iinc 3 1, 3) := by decide +kernel
theorem dX12_gathers_193 : decode cX12_gathers 193 = .ok (.goto (-145), 3) := by decide +kernel
theorem dX12_gathers_196 : decode cX12_gathers 196 = .ok (.return_, 1) := by decide +kernel
theorem dX12_listensAll_0 : decode cX12_listensAll 0 = .ok (.iconst 0, 1) := by decide +kernel
theorem dX12_listensAll_1 : decode cX12_listensAll 1 = .ok (.istore_n 1, 1) := by decide +kernel
theorem dX12_listensAll_2 : decode cX12_listensAll 2 = .ok (.iload_n 1, 1) := by decide +kernel
theorem dX12_listensAll_3 : decode cX12_listensAll 3 = .ok (.aload_n 0, 1) := by decide +kernel
theorem dX12_listensAll_4 : decode cX12_listensAll 4 = .ok (.getfield 7, 3) := by decide +kernel
theorem dX12_listensAll_7 : decode cX12_listensAll 7 = .ok (.bipush 11, 2) := by decide +kernel
theorem dX12_listensAll_9 : decode cX12_listensAll 9 = .ok (.iaload, 1) := by decide +kernel
theorem dX12_listensAll_10 : decode cX12_listensAll 10 = .ok (.if_icmp .ge 59, 3) := by decide +kernel
theorem dX12_listensAll_13 : decode cX12_listensAll 13 = .ok (.aload_n 0, 1) := by decide +kernel
theorem dX12_listensAll_14 : decode cX12_listensAll 14 = .ok (.iload_n 1, 1) := by decide +kernel
theorem dX12_listensAll_15 : decode cX12_listensAll 15 = .ok (.iconst (-1), 1) := by decide +kernel
theorem dX12_listensAll_16 : decode cX12_listensAll 16 = .ok (.invokevirtual 116, 3) := by decide +kernel
theorem dX12_listensAll_19 : decode cX12_listensAll 19 = .ok (.iconst 0, 1) := by decide +kernel
theorem dX12_listensAll_20 : decode cX12_listensAll 20 = .ok (.istore_n 2, 1) := by decide +kernel
theorem dX12_listensAll_21 : decode cX12_listensAll 21 = .ok (.iload_n 2, 1) := by decide +kernel
theorem dX12_listensAll_22 : decode cX12_listensAll 22 = .ok (.aload_n 0, 1) := by decide +kernel
theorem dX12_listensAll_23 : decode cX12_listensAll 23 = .ok (.getfield 7, 3) := by decide +kernel
theorem dX12_listensAll_26 : decode cX12_listensAll 26 = .ok (.bipush 12, 2) := by decide +kernel
theorem dX12_listensAll_28 : decode cX12_listensAll 28 = .ok (.iaload, 1) := by decide +kernel
theorem dX12_listensAll_29 : decode cX12_listensAll 29 = .ok (.if_icmp .ge 34, 3) := by decide +kernel
theorem dX12_listensAll_32 : decode cX12_listensAll 32 = .ok (.aload_n 0, 1) := by decide +kernel
theorem dX12_listensAll_33 : decode cX12_listensAll 33 = .ok (.iload_n 2, 1) := by decide +kernel
theorem dX12_listensAll_34 : decode cX12_listensAll 34 = .ok (.iconst 0, 1) := by decide +kernel
theorem dX12_listensAll_35 : decode cX12_listensAll 35 = .ok (.invokevirtual 53, 3) := by decide +kernel
theorem dX12_listensAll_38 : decode cX12_listensAll 38 = .ok (.iconst 1, 1) := by decide +kernel
theorem dX12_listensAll_39 : decode cX12_listensAll 39 = .ok (.if_icmp .ne 18, 3) := by decide +kernel
theorem dX12_listensAll_42 : decode cX12_listensAll 42 = .ok (.aload_n 0, 1) := by decide +kernel
theorem dX12_listensAll_43 : decode cX12_listensAll 43 = .ok (.iload_n 2, 1) := by decide +kernel
theorem dX12_listensAll_44 : decode cX12_listensAll 44 = .ok (.iconst 2, 1) := by decide +kernel
theorem dX12_listensAll_45 : decode cX12_listensAll 45 = .ok (.invokevirtual 53, 3) := by decide +kernel
theorem dX12_listensAll_48 : decode cX12_listensAll 48 = .ok (.iload_n 1, 1) := by decide +kernel
theorem dX12_listensAll_49 : decode cX12_listensAll 49 = .ok (.if_icmp .ne 8, 3) := by decide +kernel
theorem dX12_listensAll_52 : decode cX12_listensAll 52 = .ok (.aload_n 0, 1) := by decide +kernel
theorem dX12_listensAll_53 : decode cX12_listensAll 53 = .ok (.iload_n 2, 1) := by decide +kernel
theorem dX12_listensAll_54 : decode cX12_listensAll 54 = .ok (.invokevirtual 119, 3) := by decide +kernel
theorem dX12_listensAll_57 : decode cX12_listensAll 57 = .ok (.iinc 2 1, 3) := by decide +kernel
theorem dX12_listensAll_60 : decode cX12_listensAll 60 = .ok (.goto (-39), 3) := by decide +kernel
theorem dX12_listensAll_63 : decode cX12_listensAll 63 = .ok (.iinc 1 1, 3) := by decide +kernel
theorem dX12_listensAll_66 : decode cX12_listensAll 66 = .ok (.goto (-64), 3) := by decide +kernel
theorem dX12_listensAll_69 : decode cX12_listensAll 69 = .ok (.return_, 1) := by decide +kernel
theorem dX12_hearsAt_0 : decode cX12_hearsAt 0 = .ok (.iconst 0, 1) := by decide +kernel
theorem dX12_hearsAt_1 : decode cX12_hearsAt 1 = .ok (.istore_n 2, 1) := by decide +kernel
theorem dX12_hearsAt_2 : decode cX12_hearsAt 2 = .ok (.fconst 0, 1) := by decide +kernel
theorem dX12_hearsAt_3 : decode cX12_hearsAt 3 = .ok (.fstore_n 3, 1) := by decide +kernel
theorem dX12_hearsAt_4 : decode cX12_hearsAt 4 = .ok (.iconst 0, 1) := by decide +kernel
theorem dX12_hearsAt_5 : decode cX12_hearsAt 5 = .ok (.istore 4, 2) := by decide +kernel
theorem dX12_hearsAt_7 : decode cX12_hearsAt 7 = .ok (.iload 4, 2) := by decide +kernel
theorem dX12_hearsAt_9 : decode cX12_hearsAt 9 = .ok (.bipush 20, 2) := by decide +kernel
theorem dX12_hearsAt_11 : decode cX12_hearsAt 11 = .ok (.if_icmp .ge 43, 3) := by decide +kernel
theorem dX12_hearsAt_14 : decode cX12_hearsAt 14 = .ok (.iload 4, 2) := by decide +kernel
theorem dX12_hearsAt_16 : decode cX12_hearsAt 16 = .ok (.iload_n 1, 1) := by decide +kernel
theorem dX12_hearsAt_17 : decode cX12_hearsAt 17 = .ok (.if_icmp .eq 31, 3) := by decide +kernel
theorem dX12_hearsAt_20 : decode cX12_hearsAt 20 = .ok (.aload_n 0, 1) := by decide +kernel
theorem dX12_hearsAt_21 : decode cX12_hearsAt 21 = .ok (.getfield 22, 3) := by decide +kernel
theorem dX12_hearsAt_24 : decode cX12_hearsAt 24 = .ok (.iload 4, 2) := by decide +kernel
theorem dX12_hearsAt_26 : decode cX12_hearsAt 26 = .ok (.iaload, 1) := by decide +kernel
theorem dX12_hearsAt_27 : decode cX12_hearsAt 27 = .ok (.iconst (-1), 1) := by decide +kernel
theorem dX12_hearsAt_28 : decode cX12_hearsAt 28 = .ok (.if_icmp .eq 20, 3) := by decide +kernel
theorem dX12_hearsAt_31 : decode cX12_hearsAt 31 = .ok (.iload_n 2, 1) := by decide +kernel
theorem dX12_hearsAt_32 : decode cX12_hearsAt 32 = .ok (.iconst 1, 1) := by decide +kernel
theorem dX12_hearsAt_33 : decode cX12_hearsAt 33 = .ok (.iload 4, 2) := by decide +kernel
theorem dX12_hearsAt_35 : decode cX12_hearsAt 35 = .ok (.ishl, 1) := by decide +kernel
theorem dX12_hearsAt_36 : decode cX12_hearsAt 36 = .ok (.ior, 1) := by decide +kernel
theorem dX12_hearsAt_37 : decode cX12_hearsAt 37 = .ok (.istore_n 2, 1) := by decide +kernel
theorem dX12_hearsAt_38 : decode cX12_hearsAt 38 = .ok (.fload_n 3, 1) := by decide +kernel
theorem dX12_hearsAt_39 : decode cX12_hearsAt 39 = .ok (.aload_n 0, 1) := by decide +kernel
theorem dX12_hearsAt_40 : decode cX12_hearsAt 40 = .ok (.getfield 25, 3) := by decide +kernel
theorem dX12_hearsAt_43 : decode cX12_hearsAt 43 = .ok (.iload 4, 2) := by decide +kernel
theorem dX12_hearsAt_45 : decode cX12_hearsAt 45 = .ok (.faload, 1) := by decide +kernel
theorem dX12_hearsAt_46 : decode cX12_hearsAt 46 = .ok (.fadd, 1) := by decide +kernel
theorem dX12_hearsAt_47 : decode cX12_hearsAt 47 = .ok (.fstore_n 3, 1) := by decide +kernel
theorem dX12_hearsAt_48 : decode cX12_hearsAt 48 = .ok (.iinc 4 1, 3) := by decide +kernel
theorem dX12_hearsAt_51 : decode cX12_hearsAt 51 = .ok (.goto (-44), 3) := by decide +kernel
theorem dX12_hearsAt_54 : decode cX12_hearsAt 54 = .ok (.aload_n 0, 1) := by decide +kernel
theorem dX12_hearsAt_55 : decode cX12_hearsAt 55 = .ok (.iload_n 1, 1) := by decide +kernel
theorem dX12_hearsAt_56 : decode cX12_hearsAt 56 = .ok (.bipush 12, 2) := by decide +kernel
theorem dX12_hearsAt_58 : decode cX12_hearsAt 58 = .ok (.iload_n 2, 1) := by decide +kernel
theorem dX12_hearsAt_59 : decode cX12_hearsAt 59 = .ok (.invokevirtual 66, 3) := by decide +kernel
theorem dX12_hearsAt_62 : decode cX12_hearsAt 62 = .ok (.aload_n 0, 1) := by decide +kernel
theorem dX12_hearsAt_63 : decode cX12_hearsAt 63 = .ok (.getfield 13, 3) := by decide +kernel
theorem dX12_hearsAt_66 : decode cX12_hearsAt 66 = .ok (.bipush 20, 2) := by decide +kernel
theorem dX12_hearsAt_68 : decode cX12_hearsAt 68 = .ok (.iload_n 1, 1) := by decide +kernel
theorem dX12_hearsAt_69 : decode cX12_hearsAt 69 = .ok (.iadd, 1) := by decide +kernel
theorem dX12_hearsAt_70 : decode cX12_hearsAt 70 = .ok (.fload_n 3, 1) := by decide +kernel
theorem dX12_hearsAt_71 : decode cX12_hearsAt 71 = .ok (.fastore, 1) := by decide +kernel
theorem dX12_hearsAt_72 : decode cX12_hearsAt 72 = .ok (.return_, 1) := by decide +kernel
theorem dX12_sends_0 : decode cX12_sends 0 = .ok (.aload_n 0, 1) := by decide +kernel
theorem dX12_sends_1 : decode cX12_sends 1 = .ok (.iload_n 1, 1) := by decide +kernel
theorem dX12_sends_2 : decode cX12_sends 2 = .ok (.iload_n 2, 1) := by decide +kernel
theorem dX12_sends_3 : decode cX12_sends 3 = .ok (.invokevirtual 116, 3) := by decide +kernel
theorem dX12_sends_6 : decode cX12_sends 6 = .ok (.aload_n 0, 1) := by decide +kernel
theorem dX12_sends_7 : decode cX12_sends 7 = .ok (.iload_n 1, 1) := by decide +kernel
theorem dX12_sends_8 : decode cX12_sends 8 = .ok (.iload_n 2, 1) := by decide +kernel
theorem dX12_sends_9 : decode cX12_sends 9 = .ok (.invokevirtual 123, 3) := by decide +kernel
theorem dX12_sends_12 : decode cX12_sends 12 = .ok (.istore_n 3, 1) := by decide +kernel
theorem dX12_sends_13 : decode cX12_sends 13 = .ok (.bipush 8, 2) := by decide +kernel
theorem dX12_sends_15 : decode cX12_sends 15 = .ok (.iload_n 2, 1) := by decide +kernel
theorem dX12_sends_16 : decode cX12_sends 16 = .ok (.imul, 1) := by decide +kernel
theorem dX12_sends_17 : decode cX12_sends 17 = .ok (.iload_n 1, 1) := by decide +kernel
theorem dX12_sends_18 : decode cX12_sends 18 = .ok (.iadd, 1) := by decide +kernel
theorem dX12_sends_19 : decode cX12_sends 19 = .ok (.istore 4, 2) := by decide +kernel
theorem dX12_sends_21 : decode cX12_sends 21 = .ok (.iconst 0, 1) := by decide +kernel
theorem dX12_sends_22 : decode cX12_sends 22 = .ok (.istore 5, 2) := by decide +kernel
theorem dX12_sends_24 : decode cX12_sends 24 = .ok (.iconst 0, 1) := by decide +kernel
theorem dX12_sends_25 : decode cX12_sends 25 = .ok (.istore 6, 2) := by decide +kernel
theorem dX12_sends_27 : decode cX12_sends 27 = .ok (.iload 5, 2) := by decide +kernel
theorem dX12_sends_29 : decode cX12_sends 29 = .ok (.iload_n 3, 1) := by decide +kernel
theorem dX12_sends_30 : decode cX12_sends 30 = .ok (.if_icmp .ge 156, 3) := by decide +kernel
theorem dX12_sends_33 : decode cX12_sends 33 = .ok (.iload 6, 2) := by decide +kernel
theorem dX12_sends_35 : decode cX12_sends 35 = .ok (.iconst (-1), 1) := by decide +kernel
theorem dX12_sends_36 : decode cX12_sends 36 = .ok (.if_icmp .eq 150, 3) := by decide +kernel
theorem dX12_sends_39 : decode cX12_sends 39 = .ok (.iconst (-1), 1) := by decide +kernel
theorem dX12_sends_40 : decode cX12_sends 40 = .ok (.istore 6, 2) := by decide +kernel
theorem dX12_sends_42 : decode cX12_sends 42 = .ok (.iconst 0, 1) := by decide +kernel
theorem dX12_sends_43 : decode cX12_sends 43 = .ok (.istore 7, 2) := by decide +kernel
theorem dX12_sends_45 : decode cX12_sends 45 = .ok (.iload 7, 2) := by decide +kernel
theorem dX12_sends_47 : decode cX12_sends 47 = .ok (.bipush 20, 2) := by decide +kernel
theorem dX12_sends_49 : decode cX12_sends 49 = .ok (.if_icmp .ge 53, 3) := by decide +kernel
theorem dX12_sends_52 : decode cX12_sends 52 = .ok (.aload_n 0, 1) := by decide +kernel
theorem dX12_sends_53 : decode cX12_sends 53 = .ok (.getfield 22, 3) := by decide +kernel
theorem dX12_sends_56 : decode cX12_sends 56 = .ok (.iload 7, 2) := by decide +kernel
theorem dX12_sends_58 : decode cX12_sends 58 = .ok (.iaload, 1) := by decide +kernel
theorem dX12_sends_59 : decode cX12_sends 59 = .ok (.iconst (-1), 1) := by decide +kernel
theorem dX12_sends_60 : decode cX12_sends 60 = .ok (.if_icmp .eq 32, 3) := by decide +kernel
theorem dX12_sends_63 : decode cX12_sends 63 = .ok (.iload 6, 2) := by decide +kernel
theorem dX12_sends_65 : decode cX12_sends 65 = .ok (.iconst (-1), 1) := by decide +kernel
theorem dX12_sends_66 : decode cX12_sends 66 = .ok (.if_icmp .eq 21, 3) := by decide +kernel
theorem dX12_sends_69 : decode cX12_sends 69 = .ok (.aload_n 0, 1) := by decide +kernel
theorem dX12_sends_70 : decode cX12_sends 70 = .ok (.getfield 25, 3) := by decide +kernel
theorem dX12_sends_73 : decode cX12_sends 73 = .ok (.iload 7, 2) := by decide +kernel
theorem dX12_sends_75 : decode cX12_sends 75 = .ok (.faload, 1) := by decide +kernel
theorem dX12_sends_76 : decode cX12_sends 76 = .ok (.aload_n 0, 1) := by decide +kernel
theorem dX12_sends_77 : decode cX12_sends 77 = .ok (.getfield 25, 3) := by decide +kernel
theorem dX12_sends_80 : decode cX12_sends 80 = .ok (.iload 6, 2) := by decide +kernel
theorem dX12_sends_82 : decode cX12_sends 82 = .ok (.faload, 1) := by decide +kernel
theorem dX12_sends_83 : decode cX12_sends 83 = .ok (.fcmp .l, 1) := by decide +kernel
theorem dX12_sends_84 : decode cX12_sends 84 = .ok (.ifCond .le 8, 3) := by decide +kernel
theorem dX12_sends_87 : decode cX12_sends 87 = .ok (.iload 7, 2) := by decide +kernel
theorem dX12_sends_89 : decode cX12_sends 89 = .ok (.goto 5, 3) := by decide +kernel
theorem dX12_sends_92 : decode cX12_sends 92 = .ok (.iload 6, 2) := by decide +kernel
theorem dX12_sends_94 : decode cX12_sends 94 = .ok (.istore 6, 2) := by decide +kernel
theorem dX12_sends_96 : decode cX12_sends 96 = .ok (.iinc 7 1, 3) := by decide +kernel
theorem dX12_sends_99 : decode cX12_sends 99 = .ok (.goto (-54), 3) := by decide +kernel
theorem dX12_sends_102 : decode cX12_sends 102 = .ok (.iload 6, 2) := by decide +kernel
theorem dX12_sends_104 : decode cX12_sends 104 = .ok (.iconst (-1), 1) := by decide +kernel
theorem dX12_sends_105 : decode cX12_sends 105 = .ok (.if_icmp .eq (-78), 3) := by decide +kernel
theorem dX12_sends_108 : decode cX12_sends 108 = .ok (.aload_n 0, 1) := by decide +kernel
theorem dX12_sends_109 : decode cX12_sends 109 = .ok (.getfield 28, 3) := by decide +kernel
theorem dX12_sends_112 : decode cX12_sends 112 = .ok (.bipush 9, 2) := by decide +kernel
theorem dX12_sends_114 : decode cX12_sends 114 = .ok (.iload 4, 2) := by decide +kernel
theorem dX12_sends_116 : decode cX12_sends 116 = .ok (.imul, 1) := by decide +kernel
theorem dX12_sends_117 : decode cX12_sends 117 = .ok (.iconst 1, 1) := by decide +kernel
theorem dX12_sends_118 : decode cX12_sends 118 = .ok (.iadd, 1) := by decide +kernel
theorem dX12_sends_119 : decode cX12_sends 119 = .ok (.iconst 2, 1) := by decide +kernel
theorem dX12_sends_120 : decode cX12_sends 120 = .ok (.iload 5, 2) := by decide +kernel
theorem dX12_sends_122 : decode cX12_sends 122 = .ok (.imul, 1) := by decide +kernel
theorem dX12_sends_123 : decode cX12_sends 123 = .ok (.iadd, 1) := by decide +kernel
theorem dX12_sends_124 : decode cX12_sends 124 = .ok (.iload 6, 2) := by decide +kernel
theorem dX12_sends_126 : decode cX12_sends 126 = .ok (.iastore, 1) := by decide +kernel
theorem dX12_sends_127 : decode cX12_sends 127 = .ok (.aload_n 0, 1) := by decide +kernel
theorem dX12_sends_128 : decode cX12_sends 128 = .ok (.getfield 28, 3) := by decide +kernel
theorem dX12_sends_131 : decode cX12_sends 131 = .ok (.bipush 9, 2) := by decide +kernel
theorem dX12_sends_133 : decode cX12_sends 133 = .ok (.iload 4, 2) := by decide +kernel
theorem dX12_sends_135 : decode cX12_sends 135 = .ok (.imul, 1) := by decide +kernel
theorem dX12_sends_136 : decode cX12_sends 136 = .ok (.iconst 2, 1) := by decide +kernel
theorem dX12_sends_137 : decode cX12_sends 137 = .ok (.iadd, 1) := by decide +kernel
theorem dX12_sends_138 : decode cX12_sends 138 = .ok (.iconst 2, 1) := by decide +kernel
theorem dX12_sends_139 : decode cX12_sends 139 = .ok (.iload 5, 2) := by decide +kernel
theorem dX12_sends_141 : decode cX12_sends 141 = .ok (.imul, 1) := by decide +kernel
theorem dX12_sends_142 : decode cX12_sends 142 = .ok (.iadd, 1) := by decide +kernel
theorem dX12_sends_143 : decode cX12_sends 143 = .ok (.aload_n 0, 1) := by decide +kernel
theorem dX12_sends_144 : decode cX12_sends 144 = .ok (.getfield 22, 3) := by decide +kernel
theorem dX12_sends_147 : decode cX12_sends 147 = .ok (.iload 6, 2) := by decide +kernel
theorem dX12_sends_149 : decode cX12_sends 149 = .ok (.iaload, 1) := by decide +kernel
theorem dX12_sends_150 : decode cX12_sends 150 = .ok (.iconst 1, 1) := by decide +kernel
theorem dX12_sends_151 : decode cX12_sends 151 = .ok (.iadd, 1) := by decide +kernel
theorem dX12_sends_152 : decode cX12_sends 152 = .ok (.iastore, 1) := by decide +kernel
theorem dX12_sends_153 : decode cX12_sends 153 = .ok (.aload_n 0, 1) := by decide +kernel
theorem dX12_sends_154 : decode cX12_sends 154 = .ok (.getfield 31, 3) := by decide +kernel
theorem dX12_sends_157 : decode cX12_sends 157 = .ok (.iconst 4, 1) := by decide +kernel
theorem dX12_sends_158 : decode cX12_sends 158 = .ok (.iload 4, 2) := by decide +kernel
theorem dX12_sends_160 : decode cX12_sends 160 = .ok (.imul, 1) := by decide +kernel
theorem dX12_sends_161 : decode cX12_sends 161 = .ok (.iload 5, 2) := by decide +kernel
theorem dX12_sends_163 : decode cX12_sends 163 = .ok (.iadd, 1) := by decide +kernel
