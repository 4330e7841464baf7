theorem dX0_init_0 : decode cX0_init 0 = .ok (.aload_n 0, 1) := by decide +kernel
theorem dX0_init_1 : decode cX0_init 1 = .ok (.invokespecial 3, 3) := by decide +kernel
theorem dX0_init_4 : decode cX0_init 4 = .ok (.aload_n 0, 1) := by decide +kernel
theorem dX0_init_5 : decode cX0_init 5 = .ok (.new 9, 3) := by decide +kernel
theorem dX0_init_8 : decode cX0_init 8 = .ok (.dup, 1) := by decide +kernel
theorem dX0_init_9 : decode cX0_init 9 = .ok (.invokespecial 11, 3) := by decide +kernel
theorem dX0_init_12 : decode cX0_init 12 = .ok (.putfield 12, 3) := by decide +kernel
theorem dX0_init_15 : decode cX0_init 15 = .ok (.aload_n 0, 1) := by decide +kernel
theorem dX0_init_16 : decode cX0_init 16 = .ok (.new 18, 3) := by decide +kernel
theorem dX0_init_19 : decode cX0_init 19 = .ok (.dup, 1) := by decide +kernel
theorem dX0_init_20 : decode cX0_init 20 = .ok (.invokespecial 20, 3) := by decide +kernel
theorem dX0_init_23 : decode cX0_init 23 = .ok (.putfield 21, 3) := by decide +kernel
theorem dX0_init_26 : decode cX0_init 26 = .ok (.aload_n 0, 1) := by decide +kernel
theorem dX0_init_27 : decode cX0_init 27 = .ok (.new 25, 3) := by decide +kernel
theorem dX0_init_30 : decode cX0_init 30 = .ok (.dup, 1) := by decide +kernel
theorem dX0_init_31 : decode cX0_init 31 = .ok (.invokespecial 27, 3) := by decide +kernel
theorem dX0_init_34 : decode cX0_init 34 = .ok (.putfield 28, 3) := by decide +kernel
theorem dX0_init_37 : decode cX0_init 37 = .ok (.aload_n 0, 1) := by decide +kernel
theorem dX0_init_38 : decode cX0_init 38 = .ok (.new 32, 3) := by decide +kernel
theorem dX0_init_41 : decode cX0_init 41 = .ok (.dup, 1) := by decide +kernel
theorem dX0_init_42 : decode cX0_init 42 = .ok (.invokespecial 34, 3) := by decide +kernel
theorem dX0_init_45 : decode cX0_init 45 = .ok (.putfield 35, 3) := by decide +kernel
theorem dX0_init_48 : decode cX0_init 48 = .ok (.aload_n 0, 1) := by decide +kernel
theorem dX0_init_49 : decode cX0_init 49 = .ok (.new 39, 3) := by decide +kernel
theorem dX0_init_52 : decode cX0_init 52 = .ok (.dup, 1) := by decide +kernel
theorem dX0_init_53 : decode cX0_init 53 = .ok (.invokespecial 41, 3) := by decide +kernel
theorem dX0_init_56 : decode cX0_init 56 = .ok (.putfield 42, 3) := by decide +kernel
theorem dX0_init_59 : decode cX0_init 59 = .ok (.aload_n 0, 1) := by decide +kernel
theorem dX0_init_60 : decode cX0_init 60 = .ok (.new 46, 3) := by decide +kernel
theorem dX0_init_63 : decode cX0_init 63 = .ok (.dup, 1) := by decide +kernel
theorem dX0_init_64 : decode cX0_init 64 = .ok (.invokespecial 48, 3) := by decide +kernel
theorem dX0_init_67 : decode cX0_init 67 = .ok (.putfield 49, 3) := by decide +kernel
theorem dX0_init_70 : decode cX0_init 70 = .ok (.return_, 1) := by decide +kernel
theorem dX0_copyFrom_0 : decode cX0_copyFrom 0 = .ok (.aload_n 0, 1) := by decide +kernel
theorem dX0_copyFrom_1 : decode cX0_copyFrom 1 = .ok (.aload_n 1, 1) := by decide +kernel
theorem dX0_copyFrom_2 : decode cX0_copyFrom 2 = .ok (.getfield 53, 3) := by decide +kernel
theorem dX0_copyFrom_5 : decode cX0_copyFrom 5 = .ok (.putfield 53, 3) := by decide +kernel
theorem dX0_copyFrom_8 : decode cX0_copyFrom 8 = .ok (.aload_n 0, 1) := by decide +kernel
theorem dX0_copyFrom_9 : decode cX0_copyFrom 9 = .ok (.getfield 12, 3) := by decide +kernel
theorem dX0_copyFrom_12 : decode cX0_copyFrom 12 = .ok (.aload_n 1, 1) := by decide +kernel
theorem dX0_copyFrom_13 : decode cX0_copyFrom 13 = .ok (.getfield 12, 3) := by decide +kernel
theorem dX0_copyFrom_16 : decode cX0_copyFrom 16 = .ok (.invokevirtual 57, 3) := by decide +kernel
theorem dX0_copyFrom_19 : decode cX0_copyFrom 19 = .ok (.aload_n 0, 1) := by decide +kernel
theorem dX0_copyFrom_20 : decode cX0_copyFrom 20 = .ok (.getfield 21, 3) := by decide +kernel
theorem dX0_copyFrom_23 : decode cX0_copyFrom 23 = .ok (.aload_n 1, 1) := by decide +kernel
theorem dX0_copyFrom_24 : decode cX0_copyFrom 24 = .ok (.getfield 21, 3) := by decide +kernel
theorem dX0_copyFrom_27 : decode cX0_copyFrom 27 = .ok (.invokevirtual 61, 3) := by decide +kernel
theorem dX0_copyFrom_30 : decode cX0_copyFrom 30 = .ok (.aload_n 0, 1) := by decide +kernel
theorem dX0_copyFrom_31 : decode cX0_copyFrom 31 = .ok (.getfield 28, 3) := by decide +kernel
theorem dX0_copyFrom_34 : decode cX0_copyFrom 34 = .ok (.aload_n 1, 1) := by decide +kernel
theorem dX0_copyFrom_35 : decode cX0_copyFrom 35 = .ok (.getfield 28, 3) := by decide +kernel
theorem dX0_copyFrom_38 : decode cX0_copyFrom 38 = .ok (.invokevirtual 64, 3) := by decide +kernel
theorem dX0_copyFrom_41 : decode cX0_copyFrom 41 = .ok (.aload_n 0, 1) := by decide +kernel
theorem dX0_copyFrom_42 : decode cX0_copyFrom 42 = .ok (.getfield 35, 3) := by decide +kernel
theorem dX0_copyFrom_45 : decode cX0_copyFrom 45 = .ok (.aload_n 1, 1) := by decide +kernel
theorem dX0_copyFrom_46 : decode cX0_copyFrom 46 = .ok (.getfield 35, 3) := by decide +kernel
theorem dX0_copyFrom_49 : decode cX0_copyFrom 49 = .ok (.invokevirtual 67, 3) := by decide +kernel
theorem dX0_copyFrom_52 : decode cX0_copyFrom 52 = .ok (.aload_n 0, 1) := by decide +kernel
theorem dX0_copyFrom_53 : decode cX0_copyFrom 53 = .ok (.getfield 42, 3) := by decide +kernel
theorem dX0_copyFrom_56 : decode cX0_copyFrom 56 = .ok (.aload_n 1, 1) := by decide +kernel
theorem dX0_copyFrom_57 : decode cX0_copyFrom 57 = .ok (.getfield 42, 3) := by decide +kernel
theorem dX0_copyFrom_60 : decode cX0_copyFrom 60 = .ok (.invokevirtual 70, 3) := by decide +kernel
theorem dX0_copyFrom_63 : decode cX0_copyFrom 63 = .ok (.aload_n 0, 1) := by decide +kernel
theorem dX0_copyFrom_64 : decode cX0_copyFrom 64 = .ok (.getfield 49, 3) := by decide +kernel
theorem dX0_copyFrom_67 : decode cX0_copyFrom 67 = .ok (.aload_n 1, 1) := by decide +kernel
theorem dX0_copyFrom_68 : decode cX0_copyFrom 68 = .ok (.getfield 49, 3) := by decide +kernel
theorem dX0_copyFrom_71 : decode cX0_copyFrom 71 = .ok (.invokevirtual 73, 3) := by decide +kernel
theorem dX0_copyFrom_74 : decode cX0_copyFrom 74 = .ok (.return_, 1) := by decide +kernel
theorem dX0_linkBridge_0 : decode cX0_linkBridge 0 = .ok (.aload_n 0, 1) := by decide +kernel
theorem dX0_linkBridge_1 : decode cX0_linkBridge 1 = .ok (.getfield 21, 3) := by decide +kernel
theorem dX0_linkBridge_4 : decode cX0_linkBridge 4 = .ok (.iload_n 1, 1) := by decide +kernel
theorem dX0_linkBridge_5 : decode cX0_linkBridge 5 = .ok (.invokevirtual 76, 3) := by decide +kernel
theorem dX0_linkBridge_8 : decode cX0_linkBridge 8 = .ok (.ifCond .ne 6, 3) := by decide +kernel
theorem dX0_linkBridge_11 : decode cX0_linkBridge 11 = .ok (.bipush (-2), 2) := by decide +kernel
theorem dX0_linkBridge_13 : decode cX0_linkBridge 13 = .ok (.ireturn, 1) := by decide +kernel
theorem dX0_linkBridge_14 : decode cX0_linkBridge 14 = .ok (.iload_n 2, 1) := by decide +kernel
theorem dX0_linkBridge_15 : decode cX0_linkBridge 15 = .ok (.iconst 1, 1) := by decide +kernel
theorem dX0_linkBridge_16 : decode cX0_linkBridge 16 = .ok (.iconst 4, 1) := by decide +kernel
theorem dX0_linkBridge_17 : decode cX0_linkBridge 17 = .ok (.invokestatic 80, 3) := by decide +kernel
theorem dX0_linkBridge_20 : decode cX0_linkBridge 20 = .ok (.ifCond .ne 6, 3) := by decide +kernel
theorem dX0_linkBridge_23 : decode cX0_linkBridge 23 = .ok (.bipush (-3), 2) := by decide +kernel
theorem dX0_linkBridge_25 : decode cX0_linkBridge 25 = .ok (.ireturn, 1) := by decide +kernel
theorem dX0_linkBridge_26 : decode cX0_linkBridge 26 = .ok (.aload_n 0, 1) := by decide +kernel
theorem dX0_linkBridge_27 : decode cX0_linkBridge 27 = .ok (.getfield 21, 3) := by decide +kernel
theorem dX0_linkBridge_30 : decode cX0_linkBridge 30 = .ok (.getfield 84, 3) := by decide +kernel
theorem dX0_linkBridge_33 : decode cX0_linkBridge 33 = .ok (.bipush 8, 2) := by decide +kernel
theorem dX0_linkBridge_35 : decode cX0_linkBridge 35 = .ok (.if_icmp .lt 6, 3) := by decide +kernel
theorem dX0_linkBridge_38 : decode cX0_linkBridge 38 = .ok (.bipush (-5), 2) := by decide +kernel
theorem dX0_linkBridge_40 : decode cX0_linkBridge 40 = .ok (.ireturn, 1) := by decide +kernel
theorem dX0_linkBridge_41 : decode cX0_linkBridge 41 = .ok (.aload_n 0, 1) := by decide +kernel
theorem dX0_linkBridge_42 : decode cX0_linkBridge 42 = .ok (.getfield 21, 3) := by decide +kernel
theorem dX0_linkBridge_45 : decode cX0_linkBridge 45 = .ok (.iload_n 1, 1) := by decide +kernel
theorem dX0_linkBridge_46 : decode cX0_linkBridge 46 = .ok (.iload_n 2, 1) := by decide +kernel
theorem dX0_linkBridge_47 : decode cX0_linkBridge 47 = .ok (.iload_n 3, 1) := by decide +kernel
theorem dX0_linkBridge_48 : decode cX0_linkBridge 48 = .ok (.invokevirtual 87, 3) := by decide +kernel
theorem dX0_linkBridge_51 : decode cX0_linkBridge 51 = .ok (.ireturn, 1) := by decide +kernel
theorem dX0_adm_0 : decode cX0_adm 0 = .ok (.aload_n 0, 1) := by decide +kernel
theorem dX0_adm_1 : decode cX0_adm 1 = .ok (.getfield 21, 3) := by decide +kernel
theorem dX0_adm_4 : decode cX0_adm 4 = .ok (.iload_n 1, 1) := by decide +kernel
theorem dX0_adm_5 : decode cX0_adm 5 = .ok (.invokevirtual 76, 3) := by decide +kernel
theorem dX0_adm_8 : decode cX0_adm 8 = .ok (.ifCond .ne 6, 3) := by decide +kernel
theorem dX0_adm_11 : decode cX0_adm 11 = .ok (.bipush (-2), 2) := by decide +kernel
theorem dX0_adm_13 : decode cX0_adm 13 = .ok (.ireturn, 1) := by decide +kernel
theorem dX0_adm_14 : decode cX0_adm 14 = .ok (.iload_n 2, 1) := by decide +kernel
theorem dX0_adm_15 : decode cX0_adm 15 = .ok (.iconst 0, 1) := by decide +kernel
theorem dX0_adm_16 : decode cX0_adm 16 = .ok (.iconst 1, 1) := by decide +kernel
theorem dX0_adm_17 : decode cX0_adm 17 = .ok (.invokestatic 80, 3) := by decide +kernel
theorem dX0_adm_20 : decode cX0_adm 20 = .ok (.ifCond .ne 6, 3) := by decide +kernel
theorem dX0_adm_23 : decode cX0_adm 23 = .ok (.bipush (-3), 2) := by decide +kernel
theorem dX0_adm_25 : decode cX0_adm 25 = .ok (.ireturn, 1) := by decide +kernel
theorem dX0_adm_26 : decode cX0_adm 26 = .ok (.aload_n 0, 1) := by decide +kernel
theorem dX0_adm_27 : decode cX0_adm 27 = .ok (.getfield 28, 3) := by decide +kernel
theorem dX0_adm_30 : decode cX0_adm 30 = .ok (.getfield 91, 3) := by decide +kernel
theorem dX0_adm_33 : decode cX0_adm 33 = .ok (.bipush 20, 2) := by decide +kernel
theorem dX0_adm_35 : decode cX0_adm 35 = .ok (.if_icmp .ge 17, 3) := by decide +kernel
theorem dX0_adm_38 : decode cX0_adm 38 = .ok (.aload_n 0, 1) := by decide +kernel
theorem dX0_adm_39 : decode cX0_adm 39 = .ok (.getfield 28, 3) := by decide +kernel
theorem dX0_adm_42 : decode cX0_adm 42 = .ok (.iload_n 1, 1) := by decide +kernel
theorem dX0_adm_43 : decode cX0_adm 43 = .ok (.iconst (-1), 1) := by decide +kernel
theorem dX0_adm_44 : decode cX0_adm 44 = .ok (.invokevirtual 94, 3) := by decide +kernel
theorem dX0_adm_47 : decode cX0_adm 47 = .ok (.bipush 6, 2) := by decide +kernel
theorem dX0_adm_49 : decode cX0_adm 49 = .ok (.if_icmp .lt 6, 3) := by decide +kernel
theorem dX0_adm_52 : decode cX0_adm 52 = .ok (.bipush (-5), 2) := by decide +kernel
theorem dX0_adm_54 : decode cX0_adm 54 = .ok (.ireturn, 1) := by decide +kernel
theorem dX0_adm_55 : decode cX0_adm 55 = .ok (.aload_n 0, 1) := by decide +kernel
theorem dX0_adm_56 : decode cX0_adm 56 = .ok (.getfield 21, 3) := by decide +kernel
theorem dX0_adm_59 : decode cX0_adm 59 = .ok (.iload_n 1, 1) := by decide +kernel
theorem dX0_adm_60 : decode cX0_adm 60 = .ok (.iload_n 2, 1) := by decide +kernel
theorem dX0_adm_61 : decode cX0_adm 61 = .ok (.invokevirtual 98, 3) := by decide +kernel
theorem dX0_adm_64 : decode cX0_adm 64 = .ok (.ifCond .eq 6, 3) := by decide +kernel
theorem dX0_adm_67 : decode cX0_adm 67 = .ok (.bipush (-6), 2) := by decide +kernel
theorem dX0_adm_69 : decode cX0_adm 69 = .ok (.ireturn, 1) := by decide +kernel
theorem dX0_adm_70 : decode cX0_adm 70 = .ok (.aload_n 0, 1) := by decide +kernel
theorem dX0_adm_71 : decode cX0_adm 71 = .ok (.getfield 28, 3) := by decide +kernel
theorem dX0_adm_74 : decode cX0_adm 74 = .ok (.iload_n 1, 1) := by decide +kernel
theorem dX0_adm_75 : decode cX0_adm 75 = .ok (.iload_n 2, 1) := by decide +kernel
theorem dX0_adm_76 : decode cX0_adm 76 = .ok (.invokevirtual 102, 3) := by decide +kernel
theorem dX0_adm_79 : decode cX0_adm 79 = .ok (.ireturn, 1) := by decide +kernel
theorem dX0_dismiss_0 : decode cX0_dismiss 0 = .ok (.aload_n 0, 1) := by decide +kernel
theorem dX0_dismiss_1 : decode cX0_dismiss 1 = .ok (.getfield 28, 3) := by decide +kernel
theorem dX0_dismiss_4 : decode cX0_dismiss 4 = .ok (.iload_n 1, 1) := by decide +kernel
theorem dX0_dismiss_5 : decode cX0_dismiss 5 = .ok (.invokevirtual 104, 3) := by decide +kernel
theorem dX0_dismiss_8 : decode cX0_dismiss 8 = .ok (.ifCond .ne 6, 3) := by decide +kernel
theorem dX0_dismiss_11 : decode cX0_dismiss 11 = .ok (.bipush (-2), 2) := by decide +kernel
theorem dX0_dismiss_13 : decode cX0_dismiss 13 = .ok (.ireturn, 1) := by decide +kernel
theorem dX0_dismiss_14 : decode cX0_dismiss 14 = .ok (.aload_n 0, 1) := by decide +kernel
theorem dX0_dismiss_15 : decode cX0_dismiss 15 = .ok (.getfield 35, 3) := by decide +kernel
theorem dX0_dismiss_18 : decode cX0_dismiss 18 = .ok (.iload_n 1, 1) := by decide +kernel
theorem dX0_dismiss_19 : decode cX0_dismiss 19 = .ok (.invokevirtual 107, 3) := by decide +kernel
theorem dX0_dismiss_22 : decode cX0_dismiss 22 = .ok (.aload_n 0, 1) := by decide +kernel
theorem dX0_dismiss_23 : decode cX0_dismiss 23 = .ok (.getfield 28, 3) := by decide +kernel
theorem dX0_dismiss_26 : decode cX0_dismiss 26 = .ok (.getfield 111, 3) := by decide +kernel
theorem dX0_dismiss_29 : decode cX0_dismiss 29 = .ok (.iload_n 1, 1) := by decide +kernel
theorem dX0_dismiss_30 : decode cX0_dismiss 30 = .ok (.iconst (-1), 1) := by decide +kernel
theorem dX0_dismiss_31 : decode cX0_dismiss 31 = .ok (.iastore, 1) := by decide +kernel
theorem dX0_dismiss_32 : decode cX0_dismiss 32 = .ok (.aload_n 0, 1) := by decide +kernel
theorem dX0_dismiss_33 : decode cX0_dismiss 33 = .ok (.getfield 28, 3) := by decide +kernel
theorem dX0_dismiss_36 : decode cX0_dismiss 36 = .ok (.dup, 1) := by decide +kernel
theorem dX0_dismiss_37 : decode cX0_dismiss 37 = .ok (.getfield 115, 3) := by decide +kernel
theorem dX0_dismiss_40 : decode cX0_dismiss 40 = .ok (.iconst 1, 1) := by decide +kernel
theorem dX0_dismiss_41 : decode cX0_dismiss 41 = .ok (.isub, 1) := by decide +kernel
theorem dX0_dismiss_42 : decode cX0_dismiss 42 = .ok (.putfield 115, 3) := by decide +kernel
theorem dX0_dismiss_45 : decode cX0_dismiss 45 = .ok (.aload_n 0, 1) := by decide +kernel
theorem dX0_dismiss_46 : decode cX0_dismiss 46 = .ok (.getfield 28, 3) := by decide +kernel
theorem dX0_dismiss_49 : decode cX0_dismiss 49 = .ok (.getfield 115, 3) := by decide +kernel
theorem dX0_dismiss_52 : decode cX0_dismiss 52 = .ok (.ireturn, 1) := by decide +kernel
theorem dX0_transfer_0 : decode cX0_transfer 0 = .ok (.aload_n 0, 1) := by decide +kernel
theorem dX0_transfer_1 : decode cX0_transfer 1 = .ok (.getfield 28, 3) := by decide +kernel
theorem dX0_transfer_4 : decode cX0_transfer 4 = .ok (.iload_n 1, 1) := by decide +kernel
theorem dX0_transfer_5 : decode cX0_transfer 5 = .ok (.invokevirtual 104, 3) := by decide +kernel
theorem dX0_transfer_8 : decode cX0_transfer 8 = .ok (.ifCond .eq 14, 3) := by decide +kernel
theorem dX0_transfer_11 : decode cX0_transfer 11 = .ok (.aload_n 0, 1) := by decide +kernel
theorem dX0_transfer_12 : decode cX0_transfer 12 = .ok (.getfield 21, 3) := by decide +kernel
theorem dX0_transfer_15 : decode cX0_transfer 15 = .ok (.iload_n 2, 1) := by decide +kernel
theorem dX0_transfer_16 : decode cX0_transfer 16 = .ok (.invokevirtual 76, 3) := by decide +kernel
theorem dX0_transfer_19 : decode cX0_transfer 19 = .ok (.ifCond .ne 6, 3) := by decide +kernel
theorem dX0_transfer_22 : decode cX0_transfer 22 = .ok (.bipush (-2), 2) := by decide +kernel
theorem dX0_transfer_24 : decode cX0_transfer 24 = .ok (.ireturn, 1) := by decide +kernel
theorem dX0_transfer_25 : decode cX0_transfer 25 = .ok (.aload_n 0, 1) := by decide +kernel
theorem dX0_transfer_26 : decode cX0_transfer 26 = .ok (.getfield 28, 3) := by decide +kernel
theorem dX0_transfer_29 : decode cX0_transfer 29 = .ok (.iload_n 2, 1) := by decide +kernel
theorem dX0_transfer_30 : decode cX0_transfer 30 = .ok (.iload_n 1, 1) := by decide +kernel
theorem dX0_transfer_31 : decode cX0_transfer 31 = .ok (.invokevirtual 94, 3) := by decide +kernel
theorem dX0_transfer_34 : decode cX0_transfer 34 = .ok (.bipush 6, 2) := by decide +kernel
theorem dX0_transfer_36 : decode cX0_transfer 36 = .ok (.if_icmp .lt 6, 3) := by decide +kernel
theorem dX0_transfer_39 : decode cX0_transfer 39 = .ok (.bipush (-5), 2) := by decide +kernel
theorem dX0_transfer_41 : decode cX0_transfer 41 = .ok (.ireturn, 1) := by decide +kernel
theorem dX0_transfer_42 : decode cX0_transfer 42 = .ok (.aload_n 0, 1) := by decide +kernel
theorem dX0_transfer_43 : decode cX0_transfer 43 = .ok (.getfield 21, 3) := by decide +kernel
theorem dX0_transfer_46 : decode cX0_transfer 46 = .ok (.iload_n 2, 1) := by decide +kernel
theorem dX0_transfer_47 : decode cX0_transfer 47 = .ok (.aload_n 0, 1) := by decide +kernel
theorem dX0_transfer_48 : decode cX0_transfer 48 = .ok (.getfield 28, 3) := by decide +kernel
theorem dX0_transfer_51 : decode cX0_transfer 51 = .ok (.getfield 118, 3) := by decide +kernel
theorem dX0_transfer_54 : decode cX0_transfer 54 = .ok (.iload_n 1, 1) := by decide +kernel
theorem dX0_transfer_55 : decode cX0_transfer 55 = .ok (.iaload, 1) := by decide +kernel
theorem dX0_transfer_56 : decode cX0_transfer 56 = .ok (.invokevirtual 98, 3) := by decide +kernel
theorem dX0_transfer_59 : decode cX0_transfer 59 = .ok (.ifCond .eq 6, 3) := by decide +kernel
theorem dX0_transfer_62 : decode cX0_transfer 62 = .ok (.bipush (-6), 2) := by decide +kernel
theorem dX0_transfer_64 : decode cX0_transfer 64 = .ok (.ireturn, 1) := by decide +kernel
theorem dX0_transfer_65 : decode cX0_transfer 65 = .ok (.aload_n 0, 1) := by decide +kernel
theorem dX0_transfer_66 : decode cX0_transfer 66 = .ok (.getfield 28, 3) := by decide +kernel
theorem dX0_transfer_69 : decode cX0_transfer 69 = .ok (.getfield 111, 3) := by decide +kernel
theorem dX0_transfer_72 : decode cX0_transfer 72 = .ok (.iload_n 1, 1) := by decide +kernel
theorem dX0_transfer_73 : decode cX0_transfer 73 = .ok (.iaload, 1) := by decide +kernel
theorem dX0_transfer_74 : decode cX0_transfer 74 = .ok (.istore_n 3, 1) := by decide +kernel
theorem dX0_transfer_75 : decode cX0_transfer 75 = .ok (.aload_n 0, 1) := by decide +kernel
theorem dX0_transfer_76 : decode cX0_transfer 76 = .ok (.getfield 28, 3) := by decide +kernel
theorem dX0_transfer_79 : decode cX0_transfer 79 = .ok (.getfield 111, 3) := by decide +kernel
theorem dX0_transfer_82 : decode cX0_transfer 82 = .ok (.iload_n 1, 1) := by decide +kernel
theorem dX0_transfer_83 : decode cX0_transfer 83 = .ok (.iload_n 2, 1) := by decide +kernel
theorem dX0_transfer_84 : decode cX0_transfer 84 = .ok (.iastore, 1) := by decide +kernel
theorem dX0_transfer_85 : decode cX0_transfer 85 = .ok (.iload_n 3, 1) := by decide +kernel
theorem dX0_transfer_86 : decode cX0_transfer 86 = .ok (.ireturn, 1) := by decide +kernel
theorem dX0_changeLevel_0 : decode cX0_changeLevel 0 = .ok (.aload_n 0, 1) := by decide +kernel
theorem dX0_changeLevel_1 : decode cX0_changeLevel 1 = .ok (.getfield 28, 3) := by decide +kernel
theorem dX0_changeLevel_4 : decode cX0_changeLevel 4 = .ok (.iload_n 1, 1) := by decide +kernel
theorem dX0_changeLevel_5 : decode cX0_changeLevel 5 = .ok (.invokevirtual 104, 3) := by decide +kernel
theorem dX0_changeLevel_8 : decode cX0_changeLevel 8 = .ok (.ifCond .ne 6, 3) := by decide +kernel
theorem dX0_changeLevel_11 : decode cX0_changeLevel 11 = .ok (.bipush (-2), 2) := by decide +kernel
theorem dX0_changeLevel_13 : decode cX0_changeLevel 13 = .ok (.ireturn, 1) := by decide +kernel
theorem dX0_changeLevel_14 : decode cX0_changeLevel 14 = .ok (.iload_n 2, 1) := by decide +kernel
theorem dX0_changeLevel_15 : decode cX0_changeLevel 15 = .ok (.iconst 0, 1) := by decide +kernel
theorem dX0_changeLevel_16 : decode cX0_changeLevel 16 = .ok (.bipush 60, 2) := by decide +kernel
theorem dX0_changeLevel_18 : decode cX0_changeLevel 18 = .ok (.invokestatic 80, 3) := by decide +kernel
theorem dX0_changeLevel_21 : decode cX0_changeLevel 21 = .ok (.ifCond .ne 6, 3) := by decide +kernel
theorem dX0_changeLevel_24 : decode cX0_changeLevel 24 = .ok (.bipush (-3), 2) := by decide +kernel
theorem dX0_changeLevel_26 : decode cX0_changeLevel 26 = .ok (.ireturn, 1) := by decide +kernel
theorem dX0_changeLevel_27 : decode cX0_changeLevel 27 = .ok (.aload_n 0, 1) := by decide +kernel
theorem dX0_changeLevel_28 : decode cX0_changeLevel 28 = .ok (.getfield 28, 3) := by decide +kernel
theorem dX0_changeLevel_31 : decode cX0_changeLevel 31 = .ok (.getfield 121, 3) := by decide +kernel
theorem dX0_changeLevel_34 : decode cX0_changeLevel 34 = .ok (.iload_n 1, 1) := by decide +kernel
theorem dX0_changeLevel_35 : decode cX0_changeLevel 35 = .ok (.iaload, 1) := by decide +kernel
theorem dX0_changeLevel_36 : decode cX0_changeLevel 36 = .ok (.istore_n 3, 1) := by decide +kernel
theorem dX0_changeLevel_37 : decode cX0_changeLevel 37 = .ok (.aload_n 0, 1) := by decide +kernel
theorem dX0_changeLevel_38 : decode cX0_changeLevel 38 = .ok (.getfield 28, 3) := by decide +kernel
theorem dX0_changeLevel_41 : decode cX0_changeLevel 41 = .ok (.getfield 121, 3) := by decide +kernel
theorem dX0_changeLevel_44 : decode cX0_changeLevel 44 = .ok (.iload_n 1, 1) := by decide +kernel
theorem dX0_changeLevel_45 : decode cX0_changeLevel 45 = .ok (.iload_n 2, 1) := by decide +kernel
theorem dX0_changeLevel_46 : decode cX0_changeLevel 46 = .ok (.iastore, 1) := by decide +kernel
theorem dX0_changeLevel_47 : decode cX0_changeLevel 47 = .ok (.iload_n 3, 1) := by decide +kernel
theorem dX0_changeLevel_48 : decode cX0_changeLevel 48 = .ok (.ireturn, 1) := by decide +kernel
theorem dX0_changeMuted_0 : decode cX0_changeMuted 0 = .ok (.aload_n 0, 1) := by decide +kernel
theorem dX0_changeMuted_1 : decode cX0_changeMuted 1 = .ok (.getfield 28, 3) := by decide +kernel
theorem dX0_changeMuted_4 : decode cX0_changeMuted 4 = .ok (.iload_n 1, 1) := by decide +kernel
theorem dX0_changeMuted_5 : decode cX0_changeMuted 5 = .ok (.invokevirtual 104, 3) := by decide +kernel
theorem dX0_changeMuted_8 : decode cX0_changeMuted 8 = .ok (.ifCond .ne 6, 3) := by decide +kernel
theorem dX0_changeMuted_11 : decode cX0_changeMuted 11 = .ok (.bipush (-2), 2) := by decide +kernel
theorem dX0_changeMuted_13 : decode cX0_changeMuted 13 = .ok (.ireturn, 1) := by decide +kernel
theorem dX0_changeMuted_14 : decode cX0_changeMuted 14 = .ok (.aload_n 0, 1) := by decide +kernel
theorem dX0_changeMuted_15 : decode cX0_changeMuted 15 = .ok (.getfield 28, 3) := by decide +kernel
theorem dX0_changeMuted_18 : decode cX0_changeMuted 18 = .ok (.getfield 124, 3) := by decide +kernel
theorem dX0_changeMuted_21 : decode cX0_changeMuted 21 = .ok (.iload_n 1, 1) := by decide +kernel
theorem dX0_changeMuted_22 : decode cX0_changeMuted 22 = .ok (.iaload, 1) := by decide +kernel
theorem dX0_changeMuted_23 : decode cX0_changeMuted 23 = .ok (.istore_n 3, 1) := by decide +kernel
theorem dX0_changeMuted_24 : decode cX0_changeMuted 24 = .ok (.aload_n 0, 1) := by decide +kernel
theorem dX0_changeMuted_25 : decode cX0_changeMuted 25 = .ok (.getfield 28, 3) := by decide +kernel
theorem dX0_changeMuted_28 : decode cX0_changeMuted 28 = .ok (.getfield 124, 3) := by decide +kernel
theorem dX0_changeMuted_31 : decode cX0_changeMuted 31 = .ok (.iload_n 1, 1) := by decide +kernel
theorem dX0_changeMuted_32 : decode cX0_changeMuted 32 = .ok (.iload_n 2, 1) := by decide +kernel
theorem dX0_changeMuted_33 : decode cX0_changeMuted 33 = .ok (.ifCond .eq 7, 3) := by decide +kernel
theorem dX0_changeMuted_36 : decode cX0_changeMuted 36 = .ok (.iconst 1, 1) := by decide +kernel
theorem dX0_changeMuted_37 : decode cX0_changeMuted 37 = .ok (.goto 4, 3) := by decide +kernel
theorem dX0_changeMuted_40 : decode cX0_changeMuted 40 = .ok (.iconst 0, 1) := by decide +kernel
theorem dX0_changeMuted_41 : decode cX0_changeMuted 41 = .ok (.iastore, 1) := by decide +kernel
theorem dX0_changeMuted_42 : decode cX0_changeMuted 42 = .ok (.iload_n 3, 1) := by decide +kernel
theorem dX0_changeMuted_43 : decode cX0_changeMuted 43 = .ok (.ireturn, 1) := by decide +kernel
theorem dX0_toggleMuted_0 : decode cX0_toggleMuted 0 = .ok (.aload_n 0, 1) := by decide +kernel
theorem dX0_toggleMuted_1 : decode cX0_toggleMuted 1 = .ok (.iload_n 1, 1) := by decide +kernel
theorem dX0_toggleMuted_2 : decode cX0_toggleMuted 2 = .ok (.aload_n 0, 1) := by decide +kernel
theorem dX0_toggleMuted_3 : decode cX0_toggleMuted 3 = .ok (.getfield 28, 3) := by decide +kernel
theorem dX0_toggleMuted_6 : decode cX0_toggleMuted 6 = .ok (.iload_n 1, 1) := by decide +kernel
theorem dX0_toggleMuted_7 : decode cX0_toggleMuted 7 = .ok (.invokevirtual 104, 3) := by decide +kernel
theorem dX0_toggleMuted_10 : decode cX0_toggleMuted 10 = .ok (.ifCond .eq 15, 3) := by decide +kernel
theorem dX0_toggleMuted_13 : decode cX0_toggleMuted 13 = .ok (.aload_n 0, 1) := by decide +kernel
theorem dX0_toggleMuted_14 : decode cX0_toggleMuted 14 = .ok (.getfield 28, 3) := by decide +kernel
theorem dX0_toggleMuted_17 : decode cX0_toggleMuted 17 = .ok (.getfield 124, 3) := by decide +kernel
theorem dX0_toggleMuted_20 : decode cX0_toggleMuted 20 = .ok (.iload_n 1, 1) := by decide +kernel
theorem dX0_toggleMuted_21 : decode cX0_toggleMuted 21 = .ok (.iaload, 1) := by decide +kernel
theorem dX0_toggleMuted_22 : decode cX0_toggleMuted 22 = .ok (.ifCond .ne 7, 3) := by decide +kernel
theorem dX0_toggleMuted_25 : decode cX0_toggleMuted 25 = .ok (.iconst 1, 1) := by decide +kernel
theorem dX0_toggleMuted_26 : decode cX0_toggleMuted 26 = .ok (.goto 4, 3) := by decide +kernel
theorem dX0_toggleMuted_29 : decode cX0_toggleMuted 29 = .ok (.iconst 0, 1) := by decide +kernel
theorem dX0_toggleMuted_30 : decode cX0_toggleMuted 30 = .ok (.invokevirtual 127, 3) := by decide +kernel
theorem dX0_toggleMuted_33 : decode cX0_toggleMuted 33 = .ok (.ireturn, 1) := by decide +kernel
theorem dX0_askFloor_0 : decode cX0_askFloor 0 = .ok (.aload_n 0, 1) := by decide +kernel
theorem dX0_askFloor_1 : decode cX0_askFloor 1 = .ok (.getfield 28, 3) := by decide +kernel
theorem dX0_askFloor_4 : decode cX0_askFloor 4 = .ok (.iload_n 1, 1) := by decide +kernel
theorem dX0_askFloor_5 : decode cX0_askFloor 5 = .ok (.invokevirtual 104, 3) := by decide +kernel
theorem dX0_askFloor_8 : decode cX0_askFloor 8 = .ok (.ifCond .ne 6, 3) := by decide +kernel
theorem dX0_askFloor_11 : decode cX0_askFloor 11 = .ok (.bipush (-2), 2) := by decide +kernel
theorem dX0_askFloor_13 : decode cX0_askFloor 13 = .ok (.ireturn, 1) := by decide +kernel
theorem dX0_askFloor_14 : decode cX0_askFloor 14 = .ok (.iload_n 2, 1) := by decide +kernel
theorem dX0_askFloor_15 : decode cX0_askFloor 15 = .ok (.iconst 0, 1) := by decide +kernel
theorem dX0_askFloor_16 : decode cX0_askFloor 16 = .ok (.bipush 9, 2) := by decide +kernel
theorem dX0_askFloor_18 : decode cX0_askFloor 18 = .ok (.invokestatic 80, 3) := by decide +kernel
theorem dX0_askFloor_21 : decode cX0_askFloor 21 = .ok (.ifCond .ne 6, 3) := by decide +kernel
theorem dX0_askFloor_24 : decode cX0_askFloor 24 = .ok (.bipush (-3), 2) := by decide +kernel
theorem dX0_askFloor_26 : decode cX0_askFloor 26 = .ok (.ireturn, 1) := by decide +kernel
theorem dX0_askFloor_27 : decode cX0_askFloor 27 = .ok (.aload_n 0, 1) := by decide +kernel
theorem dX0_askFloor_28 : decode cX0_askFloor 28 = .ok (.getfield 35, 3) := by decide +kernel
theorem dX0_askFloor_31 : decode cX0_askFloor 31 = .ok (.iload_n 1, 1) := by decide +kernel
theorem dX0_askFloor_32 : decode cX0_askFloor 32 = .ok (.invokevirtual 131, 3) := by decide +kernel
theorem dX0_askFloor_35 : decode cX0_askFloor 35 = .ok (.ifCond .eq 6, 3) := by decide +kernel
theorem dX0_askFloor_38 : decode cX0_askFloor 38 = .ok (.bipush (-4), 2) := by decide +kernel
theorem dX0_askFloor_40 : decode cX0_askFloor 40 = .ok (.ireturn, 1) := by decide +kernel
theorem dX0_askFloor_41 : decode cX0_askFloor 41 = .ok (.aload_n 0, 1) := by decide +kernel
theorem dX0_askFloor_42 : decode cX0_askFloor 42 = .ok (.getfield 35, 3) := by decide +kernel
theorem dX0_askFloor_45 : decode cX0_askFloor 45 = .ok (.iload_n 1, 1) := by decide +kernel
theorem dX0_askFloor_46 : decode cX0_askFloor 46 = .ok (.iload_n 2, 1) := by decide +kernel
theorem dX0_askFloor_47 : decode cX0_askFloor 47 = .ok (.invokevirtual 135, 3) := by decide +kernel
theorem dX0_askFloor_50 : decode cX0_askFloor 50 = .ok (.aload_n 0, 1) := by decide +kernel
theorem dX0_askFloor_51 : decode cX0_askFloor 51 = .ok (.getfield 35, 3) := by decide +kernel
theorem dX0_askFloor_54 : decode cX0_askFloor 54 = .ok (.getfield 139, 3) := by decide +kernel
theorem dX0_askFloor_57 : decode cX0_askFloor 57 = .ok (.ireturn, 1) := by decide +kernel
theorem dX0_yieldFloor_0 : decode cX0_yieldFloor 0 = .ok (.aload_n 0, 1) := by decide +kernel
theorem dX0_yieldFloor_1 : decode cX0_yieldFloor 1 = .ok (.getfield 28, 3) := by decide +kernel
theorem dX0_yieldFloor_4 : decode cX0_yieldFloor 4 = .ok (.iload_n 1, 1) := by decide +kernel
theorem dX0_yieldFloor_5 : decode cX0_yieldFloor 5 = .ok (.invokevirtual 104, 3) := by decide +kernel
theorem dX0_yieldFloor_8 : decode cX0_yieldFloor 8 = .ok (.ifCond .ne 6, 3) := by decide +kernel
theorem dX0_yieldFloor_11 : decode cX0_yieldFloor 11 = .ok (.bipush (-2), 2) := by decide +kernel
theorem dX0_yieldFloor_13 : decode cX0_yieldFloor 13 = .ok (.ireturn, 1) := by decide +kernel
theorem dX0_yieldFloor_14 : decode cX0_yieldFloor 14 = .ok (.aload_n 0, 1) := by decide +kernel
theorem dX0_yieldFloor_15 : decode cX0_yieldFloor 15 = .ok (.getfield 35, 3) := by decide +kernel
theorem dX0_yieldFloor_18 : decode cX0_yieldFloor 18 = .ok (.iload_n 1, 1) := by decide +kernel
theorem dX0_yieldFloor_19 : decode cX0_yieldFloor 19 = .ok (.invokevirtual 131, 3) := by decide +kernel
theorem dX0_yieldFloor_22 : decode cX0_yieldFloor 22 = .ok (.istore_n 2, 1) := by decide +kernel
theorem dX0_yieldFloor_23 : decode cX0_yieldFloor 23 = .ok (.iload_n 2, 1) := by decide +kernel
theorem dX0_yieldFloor_24 : decode cX0_yieldFloor 24 = .ok (.ifCond .ne 6, 3) := by decide +kernel
theorem dX0_yieldFloor_27 : decode cX0_yieldFloor 27 = .ok (.bipush (-4), 2) := by decide +kernel
theorem dX0_yieldFloor_29 : decode cX0_yieldFloor 29 = .ok (.ireturn, 1) := by decide +kernel
theorem dX0_yieldFloor_30 : decode cX0_yieldFloor 30 = .ok (.aload_n 0, 1) := by decide +kernel
theorem dX0_yieldFloor_31 : decode cX0_yieldFloor 31 = .ok (.getfield 35, 3) := by decide +kernel
theorem dX0_yieldFloor_34 : decode cX0_yieldFloor 34 = .ok (.iload_n 1, 1) := by decide +kernel
theorem dX0_yieldFloor_35 : decode cX0_yieldFloor 35 = .ok (.invokevirtual 107, 3) := by decide +kernel
theorem dX0_yieldFloor_38 : decode cX0_yieldFloor 38 = .ok (.iload_n 2, 1) := by decide +kernel
theorem dX0_yieldFloor_39 : decode cX0_yieldFloor 39 = .ok (.iconst 2, 1) := by decide +kernel
theorem dX0_yieldFloor_40 : decode cX0_yieldFloor 40 = .ok (.if_icmp .ne 7, 3) := by decide +kernel
theorem dX0_yieldFloor_43 : decode cX0_yieldFloor 43 = .ok (.iconst 1, 1) := by decide +kernel
theorem dX0_yieldFloor_44 : decode cX0_yieldFloor 44 = .ok (.goto 4, 3) := by decide +kernel
theorem dX0_yieldFloor_47 : decode cX0_yieldFloor 47 = .ok (.iconst 0, 1) := by decide +kernel
theorem dX0_yieldFloor_48 : decode cX0_yieldFloor 48 = .ok (.ireturn, 1) := by decide +kernel
theorem dX0_passTicks_0 : decode cX0_passTicks 0 = .ok (.iload_n 1, 1) := by decide +kernel
theorem dX0_passTicks_1 : decode cX0_passTicks 1 = .ok (.iconst 1, 1) := by decide +kernel
theorem dX0_passTicks_2 : decode cX0_passTicks 2 = .ok (.bipush 99, 2) := by decide +kernel
theorem dX0_passTicks_4 : decode cX0_passTicks 4 = .ok (.invokestatic 80, 3) := by decide +kernel
theorem dX0_passTicks_7 : decode cX0_passTicks 7 = .ok (.ifCond .ne 6, 3) := by decide +kernel
theorem dX0_passTicks_10 : decode cX0_passTicks 10 = .ok (.bipush (-3), 2) := by decide +kernel
theorem dX0_passTicks_12 : decode cX0_passTicks 12 = .ok (.ireturn, 1) := by decide +kernel
theorem dX0_passTicks_13 : decode cX0_passTicks 13 = .ok (.iconst 0, 1) := by decide +kernel
theorem dX0_passTicks_14 : decode cX0_passTicks 14 = .ok (.istore_n 3, 1) := by decide +kernel
theorem dX0_passTicks_15 : decode cX0_passTicks 15 = .ok (.iload_n 3, 1) := by decide +kernel
theorem dX0_passTicks_16 : decode cX0_passTicks 16 = .ok (.iload_n 1, 1) := by decide +kernel
theorem dX0_passTicks_17 : decode cX0_passTicks 17 = .ok (.if_icmp .ge 23, 3) := by decide +kernel
theorem dX0_passTicks_20 : decode cX0_passTicks 20 = .ok (.aload_n 0, 1) := by decide +kernel
theorem dX0_passTicks_21 : decode cX0_passTicks 21 = .ok (.invokevirtual 142, 3) := by decide +kernel
theorem dX0_passTicks_24 : decode cX0_passTicks 24 = .ok (.aload_n 2, 1) := by decide +kernel
theorem dX0_passTicks_25 : decode cX0_passTicks 25 = .ok (.aload_n 0, 1) := by decide +kernel
theorem dX0_passTicks_26 : decode cX0_passTicks 26 = .ok (.invokevirtual 145, 3) := by decide +kernel
theorem dX0_passTicks_29 : decode cX0_passTicks 29 = .ok (.aload_n 2, 1) := by decide +kernel
theorem dX0_passTicks_30 : decode cX0_passTicks 30 = .ok (.aload_n 0, 1) := by decide +kernel
theorem dX0_passTicks_31 : decode cX0_passTicks 31 = .ok (.invokevirtual 151, 3) := by decide +kernel
theorem dX0_passTicks_34 : decode cX0_passTicks 34 = .ok (.iinc 3 1, 3) := by decide +kernel
theorem dX0_passTicks_37 : decode cX0_passTicks 37 = .ok (.goto (-22), 3) := by decide +kernel
theorem dX0_passTicks_40 : decode cX0_passTicks 40 = .ok (.aload_n 0, 1) := by decide +kernel
theorem dX0_passTicks_41 : decode cX0_passTicks 41 = .ok (.getfield 28, 3) := by decide +kernel
theorem dX0_passTicks_44 : decode cX0_passTicks 44 = .ok (.invokevirtual 154, 3) := by decide +kernel
theorem dX0_passTicks_47 : decode cX0_passTicks 47 = .ok (.ireturn, 1) := by decide +kernel
theorem dX0_beginTick_0 : decode cX0_beginTick 0 = .ok (.aload_n 0, 1) := by decide +kernel
theorem dX0_beginTick_1 : decode cX0_beginTick 1 = .ok (.dup, 1) := by decide +kernel
theorem dX0_beginTick_2 : decode cX0_beginTick 2 = .ok (.getfield 53, 3) := by decide +kernel
theorem dX0_beginTick_5 : decode cX0_beginTick 5 = .ok (.iconst 1, 1) := by decide +kernel
theorem dX0_beginTick_6 : decode cX0_beginTick 6 = .ok (.iadd, 1) := by decide +kernel
theorem dX0_beginTick_7 : decode cX0_beginTick 7 = .ok (.putfield 53, 3) := by decide +kernel
theorem dX0_beginTick_10 : decode cX0_beginTick 10 = .ok (.aload_n 0, 1) := by decide +kernel
theorem dX0_beginTick_11 : decode cX0_beginTick 11 = .ok (.getfield 28, 3) := by decide +kernel
theorem dX0_beginTick_14 : decode cX0_beginTick 14 = .ok (.aload_n 0, 1) := by decide +kernel
theorem dX0_beginTick_15 : decode cX0_beginTick 15 = .ok (.getfield 12, 3) := by decide +kernel
theorem dX0_beginTick_18 : decode cX0_beginTick 18 = .ok (.getfield 158, 3) := by decide +kernel
theorem dX0_beginTick_21 : decode cX0_beginTick 21 = .ok (.invokevirtual 162, 3) := by decide +kernel
theorem dX0_beginTick_24 : decode cX0_beginTick 24 = .ok (.aload_n 0, 1) := by decide +kernel
theorem dX0_beginTick_25 : decode cX0_beginTick 25 = .ok (.getfield 12, 3) := by decide +kernel
theorem dX0_beginTick_28 : decode cX0_beginTick 28 = .ok (.getfield 166, 3) := by decide +kernel
theorem dX0_beginTick_31 : decode cX0_beginTick 31 = .ok (.ifCond .eq 44, 3) := by decide +kernel
theorem dX0_beginTick_34 : decode cX0_beginTick 34 = .ok (.iconst 0, 1) := by decide +kernel
theorem dX0_beginTick_35 : decode cX0_beginTick 35 = .ok (.istore_n 1, 1) := by decide +kernel
theorem dX0_beginTick_36 : decode cX0_beginTick 36 = .ok (.iload_n 1, 1) := by decide +kernel
theorem dX0_beginTick_37 : decode cX0_beginTick 37 = .ok (.aload_n 0, 1) := by decide +kernel
theorem dX0_beginTick_38 : decode cX0_beginTick 38 = .ok (.getfield 28, 3) := by decide +kernel
theorem dX0_beginTick_41 : decode cX0_beginTick 41 = .ok (.getfield 91, 3) := by decide +kernel
theorem dX0_beginTick_44 : decode cX0_beginTick 44 = .ok (.if_icmp .ge 27, 3) := by decide +kernel
theorem dX0_beginTick_47 : decode cX0_beginTick 47 = .ok (.aload_n 0, 1) := by decide +kernel
theorem dX0_beginTick_48 : decode cX0_beginTick 48 = .ok (.getfield 35, 3) := by decide +kernel
theorem dX0_beginTick_51 : decode cX0_beginTick 51 = .ok (.getfield 170, 3) := by decide +kernel
theorem dX0_beginTick_54 : decode cX0_beginTick 54 = .ok (.iload_n 1, 1) := by decide +kernel
theorem dX0_beginTick_55 : decode cX0_beginTick 55 = .ok (.iaload, 1) := by decide +kernel
theorem dX0_beginTick_56 : decode cX0_beginTick 56 = .ok (.iconst 1, 1) := by decide +kernel
theorem dX0_beginTick_57 : decode cX0_beginTick 57 = .ok (.if_icmp .ne 8, 3) := by decide +kernel
theorem dX0_beginTick_60 : decode cX0_beginTick 60 = .ok (.aload_n 0, 1) := by decide +kernel
theorem dX0_beginTick_61 : decode cX0_beginTick 61 = .ok (.iload_n 1, 1) := by decide +kernel
theorem dX0_beginTick_62 : decode cX0_beginTick 62 = .ok (.invokevirtual 173, 3) := by decide +kernel
theorem dX0_beginTick_65 : decode cX0_beginTick 65 = .ok (.iinc 1 1, 3) := by decide +kernel
theorem dX0_beginTick_68 : decode cX0_beginTick 68 = .ok (.goto (-32), 3) := by decide +kernel
theorem dX0_beginTick_71 : decode cX0_beginTick 71 = .ok (.aload_n 0, 1) := by decide +kernel
theorem dX0_beginTick_72 : decode cX0_beginTick 72 = .ok (.invokevirtual 176, 3) := by decide +kernel
theorem dX0_beginTick_75 : decode cX0_beginTick 75 = .ok (.aload_n 0, 1) := by decide +kernel
theorem dX0_beginTick_76 : decode cX0_beginTick 76 = .ok (.invokestatic 179, 3) := by decide +kernel
theorem dX0_beginTick_79 : decode cX0_beginTick 79 = .ok (.return_, 1) := by decide +kernel
theorem dX0_timeHolder_0 : decode cX0_timeHolder 0 = .ok (.aload_n 0, 1) := by decide +kernel
theorem dX0_timeHolder_1 : decode cX0_timeHolder 1 = .ok (.getfield 35, 3) := by decide +kernel
theorem dX0_timeHolder_4 : decode cX0_timeHolder 4 = .ok (.getfield 184, 3) := by decide +kernel
theorem dX0_timeHolder_7 : decode cX0_timeHolder 7 = .ok (.iload_n 1, 1) := by decide +kernel
theorem dX0_timeHolder_8 : decode cX0_timeHolder 8 = .ok (.dup2, 1) := by decide +kernel
theorem dX0_timeHolder_9 : decode cX0_timeHolder 9 = .ok (.iaload, 1) := by decide +kernel
theorem dX0_timeHolder_10 : decode cX0_timeHolder 10 = .ok (.iconst 1, 1) := by decide +kernel
theorem dX0_timeHolder_11 : decode cX0_timeHolder 11 = .ok (.iadd, 1) := by decide +kernel
theorem dX0_timeHolder_12 : decode cX0_timeHolder 12 = .ok (.iastore, 1) := by decide +kernel
theorem dX0_timeHolder_13 : decode cX0_timeHolder 13 = .ok (.aload_n 0, 1) := by decide +kernel
theorem dX0_timeHolder_14 : decode cX0_timeHolder 14 = .ok (.getfield 28, 3) := by decide +kernel
theorem dX0_timeHolder_17 : decode cX0_timeHolder 17 = .ok (.getfield 187, 3) := by decide +kernel
theorem dX0_timeHolder_20 : decode cX0_timeHolder 20 = .ok (.iload_n 1, 1) := by decide +kernel
theorem dX0_timeHolder_21 : decode cX0_timeHolder 21 = .ok (.faload, 1) := by decide +kernel
theorem dX0_timeHolder_22 : decode cX0_timeHolder 22 = .ok (.aload_n 0, 1) := by decide +kernel
theorem dX0_timeHolder_23 : decode cX0_timeHolder 23 = .ok (.getfield 12, 3) := by decide +kernel
theorem dX0_timeHolder_26 : decode cX0_timeHolder 26 = .ok (.getfield 158, 3) := by decide +kernel
theorem dX0_timeHolder_29 : decode cX0_timeHolder 29 = .ok (.fcmp .g, 1) := by decide +kernel
theorem dX0_timeHolder_30 : decode cX0_timeHolder 30 = .ok (.ifCond .ge 19, 3) := by decide +kernel
theorem dX0_timeHolder_33 : decode cX0_timeHolder 33 = .ok (.aload_n 0, 1) := by decide +kernel
theorem dX0_timeHolder_34 : decode cX0_timeHolder 34 = .ok (.getfield 35, 3) := by decide +kernel
theorem dX0_timeHolder_37 : decode cX0_timeHolder 37 = .ok (.getfield 191, 3) := by decide +kernel
theorem dX0_timeHolder_40 : decode cX0_timeHolder 40 = .ok (.iload_n 1, 1) := by decide +kernel
theorem dX0_timeHolder_41 : decode cX0_timeHolder 41 = .ok (.dup2, 1) := by decide +kernel
theorem dX0_timeHolder_42 : decode cX0_timeHolder 42 = .ok (.iaload, 1) := by decide +kernel
theorem dX0_timeHolder_43 : decode cX0_timeHolder 43 = .ok (.iconst 1, 1) := by decide +kernel
theorem dX0_timeHolder_44 : decode cX0_timeHolder 44 = .ok (.iadd, 1) := by decide +kernel
theorem dX0_timeHolder_45 : decode cX0_timeHolder 45 = .ok (.iastore, 1) := by decide +kernel
theorem dX0_timeHolder_46 : decode cX0_timeHolder 46 = .ok (.goto 13, 3) := by decide +kernel
theorem dX0_timeHolder_49 : decode cX0_timeHolder 49 = .ok (.aload_n 0, 1) := by decide +kernel
theorem dX0_timeHolder_50 : decode cX0_timeHolder 50 = .ok (.getfield 35, 3) := by decide +kernel
theorem dX0_timeHolder_53 : decode cX0_timeHolder 53 = .ok (.getfield 191, 3) := by decide +kernel
theorem dX0_timeHolder_56 : decode cX0_timeHolder 56 = .ok (.iload_n 1, 1) := by decide +kernel
theorem dX0_timeHolder_57 : decode cX0_timeHolder 57 = .ok (.iconst 0, 1) := by decide +kernel
theorem dX0_timeHolder_58 : decode cX0_timeHolder 58 = .ok (.iastore, 1) := by decide +kernel
theorem dX0_timeHolder_59 : decode cX0_timeHolder 59 = .ok (.aload_n 0, 1) := by decide +kernel
theorem dX0_timeHolder_60 : decode cX0_timeHolder 60 = .ok (.getfield 35, 3) := by decide +kernel
theorem dX0_timeHolder_63 : decode cX0_timeHolder 63 = .ok (.getfield 191, 3) := by decide +kernel
theorem dX0_timeHolder_66 : decode cX0_timeHolder 66 = .ok (.iload_n 1, 1) := by decide +kernel
theorem dX0_timeHolder_67 : decode cX0_timeHolder 67 = .ok (.iaload, 1) := by decide +kernel
theorem dX0_timeHolder_68 : decode cX0_timeHolder 68 = .ok (.aload_n 0, 1) := by decide +kernel
theorem dX0_timeHolder_69 : decode cX0_timeHolder 69 = .ok (.getfield 12, 3) := by decide +kernel
theorem dX0_timeHolder_72 : decode cX0_timeHolder 72 = .ok (.getfield 194, 3) := by decide +kernel
theorem dX0_timeHolder_75 : decode cX0_timeHolder 75 = .ok (.if_icmp .le 27, 3) := by decide +kernel
theorem dX0_timeHolder_78 : decode cX0_timeHolder 78 = .ok (.aload_n 0, 1) := by decide +kernel
theorem dX0_timeHolder_79 : decode cX0_timeHolder 79 = .ok (.getfield 35, 3) := by decide +kernel
theorem dX0_timeHolder_82 : decode cX0_timeHolder 82 = .ok (.iload_n 1, 1) := by decide +kernel
theorem dX0_timeHolder_83 : decode cX0_timeHolder 83 = .ok (.invokevirtual 107, 3) := by decide +kernel
theorem dX0_timeHolder_86 : decode cX0_timeHolder 86 = .ok (.aload_n 0, 1) := by decide +kernel
theorem dX0_timeHolder_87 : decode cX0_timeHolder 87 = .ok (.getfield 49, 3) := by decide +kernel
theorem dX0_timeHolder_90 : decode cX0_timeHolder 90 = .ok (.iconst 3, 1) := by decide +kernel
theorem dX0_timeHolder_91 : decode cX0_timeHolder 91 = .ok (.iload_n 1, 1) := by decide +kernel
theorem dX0_timeHolder_92 : decode cX0_timeHolder 92 = .ok (.aload_n 0, 1) := by decide +kernel
theorem dX0_timeHolder_93 : decode cX0_timeHolder 93 = .ok (.getfield 53, 3) := by decide +kernel
theorem dX0_timeHolder_96 : decode cX0_timeHolder 96 = .ok (.invokevirtual 197, 3) := by decide +kernel
theorem dX0_timeHolder_99 : decode cX0_timeHolder 99 = .ok (.goto 63, 3) := by decide +kernel
theorem dX0_timeHolder_102 : decode cX0_timeHolder 102 = .ok (.aload_n 0, 1) := by decide +kernel
theorem dX0_timeHolder_103 : decode cX0_timeHolder 103 = .ok (.getfield 12, 3) := by decide +kernel
theorem dX0_timeHolder_106 : decode cX0_timeHolder 106 = .ok (.getfield 200, 3) := by decide +kernel
theorem dX0_timeHolder_109 : decode cX0_timeHolder 109 = .ok (.ifCond .le 53, 3) := by decide +kernel
theorem dX0_timeHolder_112 : decode cX0_timeHolder 112 = .ok (.aload_n 0, 1) := by decide +kernel
theorem dX0_timeHolder_113 : decode cX0_timeHolder 113 = .ok (.getfield 35, 3) := by decide +kernel
theorem dX0_timeHolder_116 : decode cX0_timeHolder 116 = .ok (.getfield 184, 3) := by decide +kernel
theorem dX0_timeHolder_119 : decode cX0_timeHolder 119 = .ok (.iload_n 1, 1) := by decide +kernel
theorem dX0_timeHolder_120 : decode cX0_timeHolder 120 = .ok (.iaload, 1) := by decide +kernel
theorem dX0_timeHolder_121 : decode cX0_timeHolder 121 = .ok (.aload_n 0, 1) := by decide +kernel
theorem dX0_timeHolder_122 : decode cX0_timeHolder 122 = .ok (.getfield 12, 3) := by decide +kernel
theorem dX0_timeHolder_125 : decode cX0_timeHolder 125 = .ok (.getfield 200, 3) := by decide +kernel
theorem dX0_timeHolder_128 : decode cX0_timeHolder 128 = .ok (.if_icmp .lt 34, 3) := by decide +kernel
theorem dX0_timeHolder_131 : decode cX0_timeHolder 131 = .ok (.aload_n 0, 1) := by decide +kernel
theorem dX0_timeHolder_132 : decode cX0_timeHolder 132 = .ok (.getfield 35, 3) := by decide +kernel
theorem dX0_timeHolder_135 : decode cX0_timeHolder 135 = .ok (.getfield 139, 3) := by decide +kernel
theorem dX0_timeHolder_138 : decode cX0_timeHolder 138 = .ok (.ifCond .le 24, 3) := by decide +kernel
theorem dX0_timeHolder_141 : decode cX0_timeHolder 141 = .ok (.aload_n 0, 1) := by decide +kernel
theorem dX0_timeHolder_142 : decode cX0_timeHolder 142 = .ok (.getfield 35, 3) := by decide +kernel
theorem dX0_timeHolder_145 : decode cX0_timeHolder 145 = .ok (.iload_n 1, 1) := by decide +kernel
theorem dX0_timeHolder_146 : decode cX0_timeHolder 146 = .ok (.invokevirtual 107, 3) := by decide +kernel
theorem dX0_timeHolder_149 : decode cX0_timeHolder 149 = .ok (.aload_n 0, 1) := by decide +kernel
theorem dX0_timeHolder_150 : decode cX0_timeHolder 150 = .ok (.getfield 49, 3) := by decide +kernel
theorem dX0_timeHolder_153 : decode cX0_timeHolder 153 = .ok (.iconst 4, 1) := by decide +kernel
theorem dX0_timeHolder_154 : decode cX0_timeHolder 154 = .ok (.iload_n 1, 1) := by decide +kernel
theorem dX0_timeHolder_155 : decode cX0_timeHolder 155 = .ok (.aload_n 0, 1) := by decide +kernel
theorem dX0_timeHolder_156 : decode cX0_timeHolder 156 = .ok (.getfield 53, 3) := by decide +kernel
theorem dX0_timeHolder_159 : decode cX0_timeHolder 159 = .ok (.invokevirtual 197, 3) := by decide +kernel
theorem dX0_timeHolder_162 : decode cX0_timeHolder 162 = .ok (.return_, 1) := by decide +kernel
theorem dX0_grantFloor_0 : decode cX0_grantFloor 0 = .ok (.aload_n 0, 1) := by decide +kernel
theorem dX0_grantFloor_1 : decode cX0_grantFloor 1 = .ok (.getfield 35, 3) := by decide +kernel
theorem dX0_grantFloor_4 : decode cX0_grantFloor 4 = .ok (.invokevirtual 203, 3) := by decide +kernel
theorem dX0_grantFloor_7 : decode cX0_grantFloor 7 = .ok (.istore_n 1, 1) := by decide +kernel
theorem dX0_grantFloor_8 : decode cX0_grantFloor 8 = .ok (.iload_n 1, 1) := by decide +kernel
theorem dX0_grantFloor_9 : decode cX0_grantFloor 9 = .ok (.aload_n 0, 1) := by decide +kernel
theorem dX0_grantFloor_10 : decode cX0_grantFloor 10 = .ok (.getfield 12, 3) := by decide +kernel
theorem dX0_grantFloor_13 : decode cX0_grantFloor 13 = .ok (.getfield 206, 3) := by decide +kernel
theorem dX0_grantFloor_16 : decode cX0_grantFloor 16 = .ok (.if_icmp .ge 50, 3) := by decide +kernel
theorem dX0_grantFloor_19 : decode cX0_grantFloor 19 = .ok (.aload_n 0, 1) := by decide +kernel
theorem dX0_grantFloor_20 : decode cX0_grantFloor 20 = .ok (.getfield 35, 3) := by decide +kernel
theorem dX0_grantFloor_23 : decode cX0_grantFloor 23 = .ok (.getfield 139, 3) := by decide +kernel
theorem dX0_grantFloor_26 : decode cX0_grantFloor 26 = .ok (.ifCond .le 40, 3) := by decide +kernel
theorem dX0_grantFloor_29 : decode cX0_grantFloor 29 = .ok (.aload_n 0, 1) := by decide +kernel
theorem dX0_grantFloor_30 : decode cX0_grantFloor 30 = .ok (.getfield 35, 3) := by decide +kernel
theorem dX0_grantFloor_33 : decode cX0_grantFloor 33 = .ok (.getfield 209, 3) := by decide +kernel
theorem dX0_grantFloor_36 : decode cX0_grantFloor 36 = .ok (.iconst 0, 1) := by decide +kernel
theorem dX0_grantFloor_37 : decode cX0_grantFloor 37 = .ok (.iaload, 1) := by decide +kernel
theorem dX0_grantFloor_38 : decode cX0_grantFloor 38 = .ok (.istore_n 2, 1) := by decide +kernel
theorem dX0_grantFloor_39 : decode cX0_grantFloor 39 = .ok (.aload_n 0, 1) := by decide +kernel
theorem dX0_grantFloor_40 : decode cX0_grantFloor 40 = .ok (.getfield 35, 3) := by decide +kernel
theorem dX0_grantFloor_43 : decode cX0_grantFloor 43 = .ok (.iload_n 2, 1) := by decide +kernel
theorem dX0_grantFloor_44 : decode cX0_grantFloor 44 = .ok (.invokevirtual 212, 3) := by decide +kernel
theorem dX0_grantFloor_47 : decode cX0_grantFloor 47 = .ok (.aload_n 0, 1) := by decide +kernel
theorem dX0_grantFloor_48 : decode cX0_grantFloor 48 = .ok (.getfield 49, 3) := by decide +kernel
theorem dX0_grantFloor_51 : decode cX0_grantFloor 51 = .ok (.iconst 2, 1) := by decide +kernel
theorem dX0_grantFloor_52 : decode cX0_grantFloor 52 = .ok (.iload_n 2, 1) := by decide +kernel
theorem dX0_grantFloor_53 : decode cX0_grantFloor 53 = .ok (.aload_n 0, 1) := by decide +kernel
theorem dX0_grantFloor_54 : decode cX0_grantFloor 54 = .ok (.getfield 53, 3) := by decide +kernel
theorem dX0_grantFloor_57 : decode cX0_grantFloor 57 = .ok (.invokevirtual 197, 3) := by decide +kernel
theorem dX0_grantFloor_60 : decode cX0_grantFloor 60 = .ok (.iinc 1 1, 3) := by decide +kernel
theorem dX0_grantFloor_63 : decode cX0_grantFloor 63 = .ok (.goto (-55), 3) := by decide +kernel
theorem dX0_grantFloor_66 : decode cX0_grantFloor 66 = .ok (.return_, 1) := by decide +kernel
theorem dX1_init_0 : decode cX1_init 0 = .ok (.aload_n 0, 1) := by decide +kernel
theorem dX1_init_1 : decode cX1_init 1 = .ok (.invokespecial 1, 3) := by decide +kernel
theorem dX1_init_4 : decode cX1_init 4 = .ok (.aload_n 0, 1) := by decide +kernel
theorem dX1_init_5 : decode cX1_init 5 = .ok (.bipush 30, 2) := by decide +kernel
theorem dX1_init_7 : decode cX1_init 7 = .ok (.newarray .int, 2) := by decide +kernel
theorem dX1_init_9 : decode cX1_init 9 = .ok (.putfield 9, 3) := by decide +kernel
theorem dX1_init_12 : decode cX1_init 12 = .ok (.aload_n 0, 1) := by decide +kernel
theorem dX1_init_13 : decode cX1_init 13 = .ok (.bipush 30, 2) := by decide +kernel
theorem dX1_init_15 : decode cX1_init 15 = .ok (.newarray .int, 2) := by decide +kernel
theorem dX1_init_17 : decode cX1_init 17 = .ok (.putfield 13, 3) := by decide +kernel
theorem dX1_init_20 : decode cX1_init 20 = .ok (.aload_n 0, 1) := by decide +kernel
theorem dX1_init_21 : decode cX1_init 21 = .ok (.bipush 30, 2) := by decide +kernel
theorem dX1_init_23 : decode cX1_init 23 = .ok (.newarray .int, 2) := by decide +kernel
theorem dX1_init_25 : decode cX1_init 25 = .ok (.putfield 16, 3) := by decide +kernel
theorem dX1_init_28 : decode cX1_init 28 = .ok (.return_, 1) := by decide +kernel
theorem dX1_copyFrom_0 : decode cX1_copyFrom 0 = .ok (.aload_n 0, 1) := by decide +kernel
theorem dX1_copyFrom_1 : decode cX1_copyFrom 1 = .ok (.aload_n 1, 1) := by decide +kernel
theorem dX1_copyFrom_2 : decode cX1_copyFrom 2 = .ok (.getfield 19, 3) := by decide +kernel
theorem dX1_copyFrom_5 : decode cX1_copyFrom 5 = .ok (.putfield 19, 3) := by decide +kernel
theorem dX1_copyFrom_8 : decode cX1_copyFrom 8 = .ok (.aload_n 0, 1) := by decide +kernel
theorem dX1_copyFrom_9 : decode cX1_copyFrom 9 = .ok (.aload_n 1, 1) := by decide +kernel
theorem dX1_copyFrom_10 : decode cX1_copyFrom 10 = .ok (.getfield 23, 3) := by decide +kernel
theorem dX1_copyFrom_13 : decode cX1_copyFrom 13 = .ok (.putfield 23, 3) := by decide +kernel
theorem dX1_copyFrom_16 : decode cX1_copyFrom 16 = .ok (.aload_n 1, 1) := by decide +kernel
theorem dX1_copyFrom_17 : decode cX1_copyFrom 17 = .ok (.getfield 9, 3) := by decide +kernel
theorem dX1_copyFrom_20 : decode cX1_copyFrom 20 = .ok (.iconst 0, 1) := by decide +kernel
theorem dX1_copyFrom_21 : decode cX1_copyFrom 21 = .ok (.aload_n 0, 1) := by decide +kernel
theorem dX1_copyFrom_22 : decode cX1_copyFrom 22 = .ok (.getfield 9, 3) := by decide +kernel
theorem dX1_copyFrom_25 : decode cX1_copyFrom 25 = .ok (.iconst 0, 1) := by decide +kernel
theorem dX1_copyFrom_26 : decode cX1_copyFrom 26 = .ok (.bipush 30, 2) := by decide +kernel
theorem dX1_copyFrom_28 : decode cX1_copyFrom 28 = .ok (.invokestatic 26, 3) := by decide +kernel
theorem dX1_copyFrom_31 : decode cX1_copyFrom 31 = .ok (.aload_n 1, 1) := by decide +kernel
theorem dX1_copyFrom_32 : decode cX1_copyFrom 32 = .ok (.getfield 13, 3) := by decide +kernel
theorem dX1_copyFrom_35 : decode cX1_copyFrom 35 = .ok (.iconst 0, 1) := by decide +kernel
theorem dX1_copyFrom_36 : decode cX1_copyFrom 36 = .ok (.aload_n 0, 1) := by decide +kernel
theorem dX1_copyFrom_37 : decode cX1_copyFrom 37 = .ok (.getfield 13, 3) := by decide +kernel
theorem dX1_copyFrom_40 : decode cX1_copyFrom 40 = .ok (.iconst 0, 1) := by decide +kernel
theorem dX1_copyFrom_41 : decode cX1_copyFrom 41 = .ok (.bipush 30, 2) := by decide +kernel
theorem dX1_copyFrom_43 : decode cX1_copyFrom 43 = .ok (.invokestatic 26, 3) := by decide +kernel
theorem dX1_copyFrom_46 : decode cX1_copyFrom 46 = .ok (.aload_n 1, 1) := by decide +kernel
theorem dX1_copyFrom_47 : decode cX1_copyFrom 47 = .ok (.getfield 16, 3) := by decide +kernel
theorem dX1_copyFrom_50 : decode cX1_copyFrom 50 = .ok (.iconst 0, 1) := by decide +kernel
theorem dX1_copyFrom_51 : decode cX1_copyFrom 51 = .ok (.aload_n 0, 1) := by decide +kernel
theorem dX1_copyFrom_52 : decode cX1_copyFrom 52 = .ok (.getfield 16, 3) := by decide +kernel
theorem dX1_copyFrom_55 : decode cX1_copyFrom 55 = .ok (.iconst 0, 1) := by decide +kernel
theorem dX1_copyFrom_56 : decode cX1_copyFrom 56 = .ok (.bipush 30, 2) := by decide +kernel
theorem dX1_copyFrom_58 : decode cX1_copyFrom 58 = .ok (.invokestatic 26, 3) := by decide +kernel
theorem dX1_copyFrom_61 : decode cX1_copyFrom 61 = .ok (.return_, 1) := by decide +kernel
theorem dX1_add_0 : decode cX1_add 0 = .ok (.aload_n 0, 1) := by decide +kernel
theorem dX1_add_1 : decode cX1_add 1 = .ok (.getfield 9, 3) := by decide +kernel
theorem dX1_add_4 : decode cX1_add 4 = .ok (.aload_n 0, 1) := by decide +kernel
theorem dX1_add_5 : decode cX1_add 5 = .ok (.getfield 23, 3) := by decide +kernel
theorem dX1_add_8 : decode cX1_add 8 = .ok (.iload_n 1, 1) := by decide +kernel
theorem dX1_add_9 : decode cX1_add 9 = .ok (.iastore, 1) := by decide +kernel
theorem dX1_add_10 : decode cX1_add 10 = .ok (.aload_n 0, 1) := by decide +kernel
theorem dX1_add_11 : decode cX1_add 11 = .ok (.getfield 13, 3) := by decide +kernel
theorem dX1_add_14 : decode cX1_add 14 = .ok (.aload_n 0, 1) := by decide +kernel
theorem dX1_add_15 : decode cX1_add 15 = .ok (.getfield 23, 3) := by decide +kernel
theorem dX1_add_18 : decode cX1_add 18 = .ok (.iload_n 2, 1) := by decide +kernel
theorem dX1_add_19 : decode cX1_add 19 = .ok (.iastore, 1) := by decide +kernel
theorem dX1_add_20 : decode cX1_add 20 = .ok (.aload_n 0, 1) := by decide +kernel
theorem dX1_add_21 : decode cX1_add 21 = .ok (.getfield 16, 3) := by decide +kernel
theorem dX1_add_24 : decode cX1_add 24 = .ok (.aload_n 0, 1) := by decide +kernel
theorem dX1_add_25 : decode cX1_add 25 = .ok (.getfield 23, 3) := by decide +kernel
theorem dX1_add_28 : decode cX1_add 28 = .ok (.iload_n 3, 1) := by decide +kernel
theorem dX1_add_29 : decode cX1_add 29 = .ok (.iastore, 1) := by decide +kernel
theorem dX1_add_30 : decode cX1_add 30 = .ok (.aload_n 0, 1) := by decide +kernel
theorem dX1_add_31 : decode cX1_add 31 = .ok (.aload_n 0, 1) := by decide +kernel
theorem dX1_add_32 : decode cX1_add 32 = .ok (.getfield 23, 3) := by decide +kernel
theorem dX1_add_35 : decode cX1_add 35 = .ok (.iconst 1, 1) := by decide +kernel
theorem dX1_add_36 : decode cX1_add 36 = .ok (.iadd, 1) := by decide +kernel
theorem dX1_add_37 : decode cX1_add 37 = .ok (.bipush 30, 2) := by decide +kernel
theorem dX1_add_39 : decode cX1_add 39 = .ok (.if_icmp .ge 12, 3) := by decide +kernel
theorem dX1_add_42 : decode cX1_add 42 = .ok (.aload_n 0, 1) := by decide +kernel
theorem dX1_add_43 : decode cX1_add 43 = .ok (.getfield 23, 3) := by decide +kernel
theorem dX1_add_46 : decode cX1_add 46 = .ok (.iconst 1, 1) := by decide +kernel
theorem dX1_add_47 : decode cX1_add 47 = .ok (.iadd, 1) := by decide +kernel
theorem dX1_add_48 : decode cX1_add 48 = .ok (.goto 4, 3) := by decide +kernel
theorem dX1_add_51 : decode cX1_add 51 = .ok (.iconst 0, 1) := by decide +kernel
theorem dX1_add_52 : decode cX1_add 52 = .ok (.putfield 23, 3) := by decide +kernel
theorem dX1_add_55 : decode cX1_add 55 = .ok (.aload_n 0, 1) := by decide +kernel
theorem dX1_add_56 : decode cX1_add 56 = .ok (.aload_n 0, 1) := by decide +kernel
theorem dX1_add_57 : decode cX1_add 57 = .ok (.getfield 19, 3) := by decide +kernel
theorem dX1_add_60 : decode cX1_add 60 = .ok (.bipush 30, 2) := by decide +kernel
theorem dX1_add_62 : decode cX1_add 62 = .ok (.if_icmp .ge 12, 3) := by decide +kernel
theorem dX1_add_65 : decode cX1_add 65 = .ok (.aload_n 0, 1) := by decide +kernel
theorem dX1_add_66 : decode cX1_add 66 = .ok (.getfield 19, 3) := by decide +kernel
theorem dX1_add_69 : decode cX1_add 69 = .ok (.iconst 1, 1) := by decide +kernel
theorem dX1_add_70 : decode cX1_add 70 = .ok (.iadd, 1) := by decide +kernel
theorem dX1_add_71 : decode cX1_add 71 = .ok (.goto 5, 3) := by decide +kernel
theorem dX1_add_74 : decode cX1_add 74 = .ok (.bipush 30, 2) := by decide +kernel
theorem dX1_add_76 : decode cX1_add 76 = .ok (.putfield 19, 3) := by decide +kernel
theorem dX1_add_79 : decode cX1_add 79 = .ok (.return_, 1) := by decide +kernel
theorem dX1_placeOf_0 : decode cX1_placeOf 0 = .ok (.aload_n 0, 1) := by decide +kernel
theorem dX1_placeOf_1 : decode cX1_placeOf 1 = .ok (.getfield 23, 3) := by decide +kernel
theorem dX1_placeOf_4 : decode cX1_placeOf 4 = .ok (.bipush 30, 2) := by decide +kernel
theorem dX1_placeOf_6 : decode cX1_placeOf 6 = .ok (.iadd, 1) := by decide +kernel
theorem dX1_placeOf_7 : decode cX1_placeOf 7 = .ok (.iconst 1, 1) := by decide +kernel
theorem dX1_placeOf_8 : decode cX1_placeOf 8 = .ok (.isub, 1) := by decide +kernel
theorem dX1_placeOf_9 : decode cX1_placeOf 9 = .ok (.iload_n 1, 1) := by decide +kernel
theorem dX1_placeOf_10 : decode cX1_placeOf 10 = .ok (.isub, 1) := by decide +kernel
theorem dX1_placeOf_11 : decode cX1_placeOf 11 = .ok (.bipush 30, 2) := by decide +kernel
theorem dX1_placeOf_13 : decode cX1_placeOf 13 = .ok (.irem, 1) := by decide +kernel
theorem dX1_placeOf_14 : decode cX1_placeOf 14 = .ok (.ireturn, 1) := by decide +kernel
theorem dX2_init_0 : decode cX2_init 0 = .ok (.aload_n 0, 1) := by decide +kernel
theorem dX2_init_1 : decode cX2_init 1 = .ok (.invokespecial 3, 3) := by decide +kernel
theorem dX2_init_4 : decode cX2_init 4 = .ok (.aload_n 0, 1) := by decide +kernel
theorem dX2_init_5 : decode cX2_init 5 = .ok (.bipush 20, 2) := by decide +kernel
theorem dX2_init_7 : decode cX2_init 7 = .ok (.newarray .int, 2) := by decide +kernel
theorem dX2_init_9 : decode cX2_init 9 = .ok (.putfield 9, 3) := by decide +kernel
theorem dX2_init_12 : decode cX2_init 12 = .ok (.aload_n 0, 1) := by decide +kernel
theorem dX2_init_13 : decode cX2_init 13 = .ok (.bipush 20, 2) := by decide +kernel
theorem dX2_init_15 : decode cX2_init 15 = .ok (.newarray .int, 2) := by decide +kernel
theorem dX2_init_17 : decode cX2_init 17 = .ok (.putfield 15, 3) := by decide +kernel
theorem dX2_init_20 : decode cX2_init 20 = .ok (.aload_n 0, 1) := by decide +kernel
theorem dX2_init_21 : decode cX2_init 21 = .ok (.bipush 20, 2) := by decide +kernel
theorem dX2_init_23 : decode cX2_init 23 = .ok (.newarray .int, 2) := by decide +kernel
theorem dX2_init_25 : decode cX2_init 25 = .ok (.putfield 18, 3) := by decide +kernel
theorem dX2_init_28 : decode cX2_init 28 = .ok (.aload_n 0, 1) := by decide +kernel
theorem dX2_init_29 : decode cX2_init 29 = .ok (.bipush 20, 2) := by decide +kernel
theorem dX2_init_31 : decode cX2_init 31 = .ok (.newarray .int, 2) := by decide +kernel
theorem dX2_init_33 : decode cX2_init 33 = .ok (.putfield 21, 3) := by decide +kernel
theorem dX2_init_36 : decode cX2_init 36 = .ok (.aload_n 0, 1) := by decide +kernel
theorem dX2_init_37 : decode cX2_init 37 = .ok (.bipush 20, 2) := by decide +kernel
theorem dX2_init_39 : decode cX2_init 39 = .ok (.newarray .int, 2) := by decide +kernel
theorem dX2_init_41 : decode cX2_init 41 = .ok (.putfield 24, 3) := by decide +kernel
theorem dX2_init_44 : decode cX2_init 44 = .ok (.return_, 1) := by decide +kernel
theorem dX2_copyFrom_0 : decode cX2_copyFrom 0 = .ok (.aload_n 0, 1) := by decide +kernel
theorem dX2_copyFrom_1 : decode cX2_copyFrom 1 = .ok (.aload_n 1, 1) := by decide +kernel
theorem dX2_copyFrom_2 : decode cX2_copyFrom 2 = .ok (.getfield 27, 3) := by decide +kernel
theorem dX2_copyFrom_5 : decode cX2_copyFrom 5 = .ok (.putfield 27, 3) := by decide +kernel
theorem dX2_copyFrom_8 : decode cX2_copyFrom 8 = .ok (.aload_n 1, 1) := by decide +kernel
theorem dX2_copyFrom_9 : decode cX2_copyFrom 9 = .ok (.getfield 9, 3) := by decide +kernel
theorem dX2_copyFrom_12 : decode cX2_copyFrom 12 = .ok (.iconst 0, 1) := by decide +kernel
theorem dX2_copyFrom_13 : decode cX2_copyFrom 13 = .ok (.aload_n 0, 1) := by decide +kernel
theorem dX2_copyFrom_14 : decode cX2_copyFrom 14 = .ok (.getfield 9, 3) := by decide +kernel
theorem dX2_copyFrom_17 : decode cX2_copyFrom 17 = .ok (.iconst 0, 1) := by decide +kernel
theorem dX2_copyFrom_18 : decode cX2_copyFrom 18 = .ok (.bipush 20, 2) := by decide +kernel
theorem dX2_copyFrom_20 : decode cX2_copyFrom 20 = .ok (.invokestatic 31, 3) := by decide +kernel
theorem dX2_copyFrom_23 : decode cX2_copyFrom 23 = .ok (.aload_n 1, 1) := by decide +kernel
theorem dX2_copyFrom_24 : decode cX2_copyFrom 24 = .ok (.getfield 15, 3) := by decide +kernel
theorem dX2_copyFrom_27 : decode cX2_copyFrom 27 = .ok (.iconst 0, 1) := by decide +kernel
theorem dX2_copyFrom_28 : decode cX2_copyFrom 28 = .ok (.aload_n 0, 1) := by decide +kernel
theorem dX2_copyFrom_29 : decode cX2_copyFrom 29 = .ok (.getfield 15, 3) := by decide +kernel
theorem dX2_copyFrom_32 : decode cX2_copyFrom 32 = .ok (.iconst 0, 1) := by decide +kernel
theorem dX2_copyFrom_33 : decode cX2_copyFrom 33 = .ok (.bipush 20, 2) := by decide +kernel
theorem dX2_copyFrom_35 : decode cX2_copyFrom 35 = .ok (.invokestatic 31, 3) := by decide +kernel
theorem dX2_copyFrom_38 : decode cX2_copyFrom 38 = .ok (.aload_n 1, 1) := by decide +kernel
theorem dX2_copyFrom_39 : decode cX2_copyFrom 39 = .ok (.getfield 18, 3) := by decide +kernel
theorem dX2_copyFrom_42 : decode cX2_copyFrom 42 = .ok (.iconst 0, 1) := by decide +kernel
theorem dX2_copyFrom_43 : decode cX2_copyFrom 43 = .ok (.aload_n 0, 1) := by decide +kernel
theorem dX2_copyFrom_44 : decode cX2_copyFrom 44 = .ok (.getfield 18, 3) := by decide +kernel
theorem dX2_copyFrom_47 : decode cX2_copyFrom 47 = .ok (.iconst 0, 1) := by decide +kernel
theorem dX2_copyFrom_48 : decode cX2_copyFrom 48 = .ok (.bipush 20, 2) := by decide +kernel
theorem dX2_copyFrom_50 : decode cX2_copyFrom 50 = .ok (.invokestatic 31, 3) := by decide +kernel
theorem dX2_copyFrom_53 : decode cX2_copyFrom 53 = .ok (.aload_n 1, 1) := by decide +kernel
theorem dX2_copyFrom_54 : decode cX2_copyFrom 54 = .ok (.getfield 21, 3) := by decide +kernel
theorem dX2_copyFrom_57 : decode cX2_copyFrom 57 = .ok (.iconst 0, 1) := by decide +kernel
theorem dX2_copyFrom_58 : decode cX2_copyFrom 58 = .ok (.aload_n 0, 1) := by decide +kernel
theorem dX2_copyFrom_59 : decode cX2_copyFrom 59 = .ok (.getfield 21, 3) := by decide +kernel
theorem dX2_copyFrom_62 : decode cX2_copyFrom 62 = .ok (.iconst 0, 1) := by decide +kernel
theorem dX2_copyFrom_63 : decode cX2_copyFrom 63 = .ok (.bipush 20, 2) := by decide +kernel
theorem dX2_copyFrom_65 : decode cX2_copyFrom 65 = .ok (.invokestatic 31, 3) := by decide +kernel
theorem dX2_copyFrom_68 : decode cX2_copyFrom 68 = .ok (.aload_n 1, 1) := by decide +kernel
theorem dX2_copyFrom_69 : decode cX2_copyFrom 69 = .ok (.getfield 24, 3) := by decide +kernel
theorem dX2_copyFrom_72 : decode cX2_copyFrom 72 = .ok (.iconst 0, 1) := by decide +kernel
theorem dX2_copyFrom_73 : decode cX2_copyFrom 73 = .ok (.aload_n 0, 1) := by decide +kernel
theorem dX2_copyFrom_74 : decode cX2_copyFrom 74 = .ok (.getfield 24, 3) := by decide +kernel
theorem dX2_copyFrom_77 : decode cX2_copyFrom 77 = .ok (.iconst 0, 1) := by decide +kernel
theorem dX2_copyFrom_78 : decode cX2_copyFrom 78 = .ok (.bipush 20, 2) := by decide +kernel
theorem dX2_copyFrom_80 : decode cX2_copyFrom 80 = .ok (.invokestatic 31, 3) := by decide +kernel
theorem dX2_copyFrom_83 : decode cX2_copyFrom 83 = .ok (.return_, 1) := by decide +kernel
theorem dX2_standing_0 : decode cX2_standing 0 = .ok (.aload_n 0, 1) := by decide +kernel
theorem dX2_standing_1 : decode cX2_standing 1 = .ok (.getfield 18, 3) := by decide +kernel
theorem dX2_standing_4 : decode cX2_standing 4 = .ok (.iload_n 1, 1) := by decide +kernel
theorem dX2_standing_5 : decode cX2_standing 5 = .ok (.iaload, 1) := by decide +kernel
theorem dX2_standing_6 : decode cX2_standing 6 = .ok (.iconst 1, 1) := by decide +kernel
theorem dX2_standing_7 : decode cX2_standing 7 = .ok (.if_icmp .ne 5, 3) := by decide +kernel
theorem dX2_standing_10 : decode cX2_standing 10 = .ok (.iconst 2, 1) := by decide +kernel
theorem dX2_standing_11 : decode cX2_standing 11 = .ok (.ireturn, 1) := by decide +kernel
theorem dX2_standing_12 : decode cX2_standing 12 = .ok (.aload_n 0, 1) := by decide +kernel
theorem dX2_standing_13 : decode cX2_standing 13 = .ok (.iload_n 1, 1) := by decide +kernel
theorem dX2_standing_14 : decode cX2_standing 14 = .ok (.invokevirtual 37, 3) := by decide +kernel
theorem dX2_standing_17 : decode cX2_standing 17 = .ok (.iconst (-1), 1) := by decide +kernel
theorem dX2_standing_18 : decode cX2_standing 18 = .ok (.if_icmp .ne 7, 3) := by decide +kernel
theorem dX2_standing_21 : decode cX2_standing 21 = .ok (.iconst 0, 1) := by decide +kernel
theorem dX2_standing_22 : decode cX2_standing 22 = .ok (.goto 4, 3) := by decide +kernel
theorem dX2_standing_25 : decode cX2_standing 25 = .ok (.iconst 1, 1) := by decide +kernel
theorem dX2_standing_26 : decode cX2_standing 26 = .ok (.ireturn, 1) := by decide +kernel
theorem dX2_holders_0 : decode cX2_holders 0 = .ok (.iconst 0, 1) := by decide +kernel
theorem dX2_holders_1 : decode cX2_holders 1 = .ok (.istore_n 1, 1) := by decide +kernel
theorem dX2_holders_2 : decode cX2_holders 2 = .ok (.iconst 0, 1) := by decide +kernel
theorem dX2_holders_3 : decode cX2_holders 3 = .ok (.istore_n 2, 1) := by decide +kernel
theorem dX2_holders_4 : decode cX2_holders 4 = .ok (.iload_n 2, 1) := by decide +kernel
theorem dX2_holders_5 : decode cX2_holders 5 = .ok (.bipush 20, 2) := by decide +kernel
theorem dX2_holders_7 : decode cX2_holders 7 = .ok (.if_icmp .ge 18, 3) := by decide +kernel
theorem dX2_holders_10 : decode cX2_holders 10 = .ok (.iload_n 1, 1) := by decide +kernel
theorem dX2_holders_11 : decode cX2_holders 11 = .ok (.aload_n 0, 1) := by decide +kernel
theorem dX2_holders_12 : decode cX2_holders 12 = .ok (.getfield 18, 3) := by decide +kernel
theorem dX2_holders_15 : decode cX2_holders 15 = .ok (.iload_n 2, 1) := by decide +kernel
theorem dX2_holders_16 : decode cX2_holders 16 = .ok (.iaload, 1) := by decide +kernel
theorem dX2_holders_17 : decode cX2_holders 17 = .ok (.iadd, 1) := by decide +kernel
theorem dX2_holders_18 : decode cX2_holders 18 = .ok (.istore_n 1, 1) := by decide +kernel
theorem dX2_holders_19 : decode cX2_holders 19 = .ok (.iinc 2 1, 3) := by decide +kernel
theorem dX2_holders_22 : decode cX2_holders 22 = .ok (.goto (-18), 3) := by decide +kernel
theorem dX2_holders_25 : decode cX2_holders 25 = .ok (.iload_n 1, 1) := by decide +kernel
theorem dX2_holders_26 : decode cX2_holders 26 = .ok (.ireturn, 1) := by decide +kernel
theorem dX2_enqueue_0 : decode cX2_enqueue 0 = .ok (.aload_n 0, 1) := by decide +kernel
theorem dX2_enqueue_1 : decode cX2_enqueue 1 = .ok (.getfield 27, 3) := by decide +kernel
theorem dX2_enqueue_4 : decode cX2_enqueue 4 = .ok (.bipush 20, 2) := by decide +kernel
theorem dX2_enqueue_6 : decode cX2_enqueue 6 = .ok (.if_icmp .lt 4, 3) := by decide +kernel
theorem dX2_enqueue_9 : decode cX2_enqueue 9 = .ok (.return_, 1) := by decide +kernel
theorem dX2_enqueue_10 : decode cX2_enqueue 10 = .ok (.aload_n 0, 1) := by decide +kernel
theorem dX2_enqueue_11 : decode cX2_enqueue 11 = .ok (.getfield 27, 3) := by decide +kernel
theorem dX2_enqueue_14 : decode cX2_enqueue 14 = .ok (.istore_n 3, 1) := by decide +kernel
theorem dX2_enqueue_15 : decode cX2_enqueue 15 = .ok (.iload_n 3, 1) := by decide +kernel
theorem dX2_enqueue_16 : decode cX2_enqueue 16 = .ok (.ifCond .le 40, 3) := by decide +kernel
theorem dX2_enqueue_19 : decode cX2_enqueue 19 = .ok (.aload_n 0, 1) := by decide +kernel
theorem dX2_enqueue_20 : decode cX2_enqueue 20 = .ok (.getfield 15, 3) := by decide +kernel
theorem dX2_enqueue_23 : decode cX2_enqueue 23 = .ok (.aload_n 0, 1) := by decide +kernel
theorem dX2_enqueue_24 : decode cX2_enqueue 24 = .ok (.getfield 9, 3) := by decide +kernel
theorem dX2_enqueue_27 : decode cX2_enqueue 27 = .ok (.iload_n 3, 1) := by decide +kernel
theorem dX2_enqueue_28 : decode cX2_enqueue 28 = .ok (.iconst 1, 1) := by decide +kernel
theorem dX2_enqueue_29 : decode cX2_enqueue 29 = .ok (.isub, 1) := by decide +kernel
theorem dX2_enqueue_30 : decode cX2_enqueue 30 = .ok (.iaload, 1) := by decide +kernel
theorem dX2_enqueue_31 : decode cX2_enqueue 31 = .ok (.iaload, 1) := by decide +kernel
theorem dX2_enqueue_32 : decode cX2_enqueue 32 = .ok (.iload_n 2, 1) := by decide +kernel
theorem dX2_enqueue_33 : decode cX2_enqueue 33 = .ok (.if_icmp .ge 23, 3) := by decide +kernel
theorem dX2_enqueue_36 : decode cX2_enqueue 36 = .ok (.aload_n 0, 1) := by decide +kernel
theorem dX2_enqueue_37 : decode cX2_enqueue 37 = .ok (.getfield 9, 3) := by decide +kernel
theorem dX2_enqueue_40 : decode cX2_enqueue 40 = .ok (.iload_n 3, 1) := by decide +kernel
theorem dX2_enqueue_41 : decode cX2_enqueue 41 = .ok (.aload_n 0, 1) := by decide +kernel
theorem dX2_enqueue_42 : decode cX2_enqueue 42 = .ok (.getfield 9, 3) := by decide +kernel
theorem dX2_enqueue_45 : decode cX2_enqueue 45 = .ok (.iload_n 3, 1) := by decide +kernel
theorem dX2_enqueue_46 : decode cX2_enqueue 46 = .ok (.iconst 1, 1) := by decide +kernel
theorem dX2_enqueue_47 : decode cX2_enqueue 47 = .ok (.isub, 1) := by decide +kernel
theorem dX2_enqueue_48 : decode cX2_enqueue 48 = .ok (.iaload, 1) := by decide +kernel
theorem dX2_enqueue_49 : decode cX2_enqueue 49 = .ok (.iastore, 1) := by decide +kernel
theorem dX2_enqueue_50 : decode cX2_enqueue 50 = .ok (.iinc 3 (-1), 3) := by decide +kernel
theorem dX2_enqueue_53 : decode cX2_enqueue 53 = .ok (.goto (-38), 3) := by decide +kernel
theorem dX2_enqueue_56 : decode cX2_enqueue 56 = .ok (.aload_n 0, 1) := by decide +kernel
theorem dX2_enqueue_57 : decode cX2_enqueue 57 = .ok (.getfield 9, 3) := by decide +kernel
theorem dX2_enqueue_60 : decode cX2_enqueue 60 = .ok (.iload_n 3, 1) := by decide +kernel
theorem dX2_enqueue_61 : decode cX2_enqueue 61 = .ok (.iload_n 1, 1) := by decide +kernel
theorem dX2_enqueue_62 : decode cX2_enqueue 62 = .ok (.iastore, 1) := by decide +kernel
theorem dX2_enqueue_63 : decode cX2_enqueue 63 = .ok (.aload_n 0, 1) := by decide +kernel
theorem dX2_enqueue_64 : decode cX2_enqueue 64 = .ok (.getfield 15, 3) := by decide +kernel
theorem dX2_enqueue_67 : decode cX2_enqueue 67 = .ok (.iload_n 1, 1) := by decide +kernel
theorem dX2_enqueue_68 : decode cX2_enqueue 68 = .ok (.iload_n 2, 1) := by decide +kernel
theorem dX2_enqueue_69 : decode cX2_enqueue 69 = .ok (.iastore, 1) := by decide +kernel
theorem dX2_enqueue_70 : decode cX2_enqueue 70 = .ok (.aload_n 0, 1) := by decide +kernel
theorem dX2_enqueue_71 : decode cX2_enqueue 71 = .ok (.dup, 1) := by decide +kernel
theorem dX2_enqueue_72 : decode cX2_enqueue 72 = .ok (.getfield 27, 3) := by decide +kernel
theorem dX2_enqueue_75 : decode cX2_enqueue 75 = .ok (.iconst 1, 1) := by decide +kernel
theorem dX2_enqueue_76 : decode cX2_enqueue 76 = .ok (.iadd, 1) := by decide +kernel
theorem dX2_enqueue_77 : decode cX2_enqueue 77 = .ok (.putfield 27, 3) := by decide +kernel
theorem dX2_enqueue_80 : decode cX2_enqueue 80 = .ok (.return_, 1) := by decide +kernel
theorem dX2_grant_0 : decode cX2_grant 0 = .ok (.aload_n 0, 1) := by decide +kernel
theorem dX2_grant_1 : decode cX2_grant 1 = .ok (.iload_n 1, 1) := by decide +kernel
theorem dX2_grant_2 : decode cX2_grant 2 = .ok (.invokevirtual 41, 3) := by decide +kernel
theorem dX2_grant_5 : decode cX2_grant 5 = .ok (.aload_n 0, 1) := by decide +kernel
theorem dX2_grant_6 : decode cX2_grant 6 = .ok (.getfield 18, 3) := by decide +kernel
theorem dX2_grant_9 : decode cX2_grant 9 = .ok (.iload_n 1, 1) := by decide +kernel
theorem dX2_grant_10 : decode cX2_grant 10 = .ok (.iconst 1, 1) := by decide +kernel
theorem dX2_grant_11 : decode cX2_grant 11 = .ok (.iastore, 1) := by decide +kernel
theorem dX2_grant_12 : decode cX2_grant 12 = .ok (.aload_n 0, 1) := by decide +kernel
theorem dX2_grant_13 : decode cX2_grant 13 = .ok (.getfield 21, 3) := by decide +kernel
theorem dX2_grant_16 : decode cX2_grant 16 = .ok (.iload_n 1, 1) := by decide +kernel
theorem dX2_grant_17 : decode cX2_grant 17 = .ok (.iconst 0, 1) := by decide +kernel
theorem dX2_grant_18 : decode cX2_grant 18 = .ok (.iastore, 1) := by decide +kernel
theorem dX2_grant_19 : decode cX2_grant 19 = .ok (.aload_n 0, 1) := by decide +kernel
theorem dX2_grant_20 : decode cX2_grant 20 = .ok (.getfield 24, 3) := by decide +kernel
theorem dX2_grant_23 : decode cX2_grant 23 = .ok (.iload_n 1, 1) := by decide +kernel
theorem dX2_grant_24 : decode cX2_grant 24 = .ok (.iconst 0, 1) := by decide +kernel
theorem dX2_grant_25 : decode cX2_grant 25 = .ok (.iastore, 1) := by decide +kernel
theorem dX2_grant_26 : decode cX2_grant 26 = .ok (.return_, 1) := by decide +kernel
theorem dX2_forget_0 : decode cX2_forget 0 = .ok (.aload_n 0, 1) := by decide +kernel
theorem dX2_forget_1 : decode cX2_forget 1 = .ok (.getfield 18, 3) := by decide +kernel
theorem dX2_forget_4 : decode cX2_forget 4 = .ok (.iload_n 1, 1) := by decide +kernel
theorem dX2_forget_5 : decode cX2_forget 5 = .ok (.iconst 0, 1) := by decide +kernel
theorem dX2_forget_6 : decode cX2_forget 6 = .ok (.iastore, 1) := by decide +kernel
theorem dX2_forget_7 : decode cX2_forget 7 = .ok (.aload_n 0, 1) := by decide +kernel
theorem dX2_forget_8 : decode cX2_forget 8 = .ok (.iload_n 1, 1) := by decide +kernel
theorem dX2_forget_9 : decode cX2_forget 9 = .ok (.invokevirtual 37, 3) := by decide +kernel
theorem dX2_forget_12 : decode cX2_forget 12 = .ok (.istore_n 2, 1) := by decide +kernel
theorem dX2_forget_13 : decode cX2_forget 13 = .ok (.iload_n 2, 1) := by decide +kernel
theorem dX2_forget_14 : decode cX2_forget 14 = .ok (.iconst (-1), 1) := by decide +kernel
theorem dX2_forget_15 : decode cX2_forget 15 = .ok (.if_icmp .ne 4, 3) := by decide +kernel
theorem dX2_forget_18 : decode cX2_forget 18 = .ok (.return_, 1) := by decide +kernel
theorem dX2_forget_19 : decode cX2_forget 19 = .ok (.iload_n 2, 1) := by decide +kernel
theorem dX2_forget_20 : decode cX2_forget 20 = .ok (.iconst 1, 1) := by decide +kernel
theorem dX2_forget_21 : decode cX2_forget 21 = .ok (.iadd, 1) := by decide +kernel
theorem dX2_forget_22 : decode cX2_forget 22 = .ok (.istore_n 3, 1) := by decide +kernel
theorem dX2_forget_23 : decode cX2_forget 23 = .ok (.iload_n 3, 1) := by decide +kernel
theorem dX2_forget_24 : decode cX2_forget 24 = .ok (.aload_n 0, 1) := by decide +kernel
theorem dX2_forget_25 : decode cX2_forget 25 = .ok (.getfield 27, 3) := by decide +kernel
theorem dX2_forget_28 : decode cX2_forget 28 = .ok (.if_icmp .ge 23, 3) := by decide +kernel
theorem dX2_forget_31 : decode cX2_forget 31 = .ok (.aload_n 0, 1) := by decide +kernel
theorem dX2_forget_32 : decode cX2_forget 32 = .ok (.getfield 9, 3) := by decide +kernel
theorem dX2_forget_35 : decode cX2_forget 35 = .ok (.iload_n 3, 1) := by decide +kernel
theorem dX2_forget_36 : decode cX2_forget 36 = .ok (.iconst 1, 1) := by decide +kernel
theorem dX2_forget_37 : decode cX2_forget 37 = .ok (.isub, 1) := by decide +kernel
theorem dX2_forget_38 : decode cX2_forget 38 = .ok (.aload_n 0, 1) := by decide +kernel
theorem dX2_forget_39 : decode cX2_forget 39 = .ok (.getfield 9, 3) := by decide +kernel
theorem dX2_forget_42 : decode cX2_forget 42 = .ok (.iload_n 3, 1) := by decide +kernel
theorem dX2_forget_43 : decode cX2_forget 43 = .ok (.iaload, 1) := by decide +kernel
theorem dX2_forget_44 : decode cX2_forget 44 = .ok (.iastore, 1) := by decide +kernel
theorem dX2_forget_45 : decode cX2_forget 45 = .ok (.iinc 3 1, 3) := by decide +kernel
theorem dX2_forget_48 : decode cX2_forget 48 = .ok (.goto (-25), 3) := by decide +kernel
theorem dX2_forget_51 : decode cX2_forget 51 = .ok (.aload_n 0, 1) := by decide +kernel
theorem dX2_forget_52 : decode cX2_forget 52 = .ok (.dup, 1) := by decide +kernel
theorem dX2_forget_53 : decode cX2_forget 53 = .ok (.getfield 27, 3) := by decide +kernel
theorem dX2_forget_56 : decode cX2_forget 56 = .ok (.iconst 1, 1) := by decide +kernel
theorem dX2_forget_57 : decode cX2_forget 57 = .ok (.isub, 1) := by decide +kernel
theorem dX2_forget_58 : decode cX2_forget 58 = .ok (.putfield 27, 3) := by decide +kernel
theorem dX2_forget_61 : decode cX2_forget 61 = .ok (.return_, 1) := by decide +kernel
theorem dX2_placeInQueue_0 : decode cX2_placeInQueue 0 = .ok (.iconst 0, 1) := by decide +kernel
theorem dX2_placeInQueue_1 : decode cX2_placeInQueue 1 = .ok (.istore_n 2, 1) := by decide +kernel
theorem dX2_placeInQueue_2 : decode cX2_placeInQueue 2 = .ok (.iload_n 2, 1) := by decide +kernel
theorem dX2_placeInQueue_3 : decode cX2_placeInQueue 3 = .ok (.aload_n 0, 1) := by decide +kernel
theorem dX2_placeInQueue_4 : decode cX2_placeInQueue 4 = .ok (.getfield 27, 3) := by decide +kernel
theorem dX2_placeInQueue_7 : decode cX2_placeInQueue 7 = .ok (.if_icmp .ge 21, 3) := by decide +kernel
theorem dX2_placeInQueue_10 : decode cX2_placeInQueue 10 = .ok (.aload_n 0, 1) := by decide +kernel
theorem dX2_placeInQueue_11 : decode cX2_placeInQueue 11 = .ok (.getfield 9, 3) := by decide +kernel
theorem dX2_placeInQueue_14 : decode cX2_placeInQueue 14 = .ok (.iload_n 2, 1) := by decide +kernel
theorem dX2_placeInQueue_15 : decode cX2_placeInQueue 15 = .ok (.iaload, 1) := by decide +kernel
theorem dX2_placeInQueue_16 : decode cX2_placeInQueue 16 = .ok (.iload_n 1, 1) := by decide +kernel
theorem dX2_placeInQueue_17 : decode cX2_placeInQueue 17 = .ok (.if_icmp .ne 5, 3) := by decide +kernel
theorem dX2_placeInQueue_20 : decode cX2_placeInQueue 20 = .ok (.iload_n 2, 1) := by decide +kernel
theorem dX2_placeInQueue_21 : decode cX2_placeInQueue 21 = .ok (.ireturn, 1) := by decide +kernel
theorem dX2_placeInQueue_22 : decode cX2_placeInQueue 22 = .ok (.iinc 2 1, 3) := by decide +kernel
theorem dX2_placeInQueue_25 : decode cX2_placeInQueue 25 = .ok (.goto (-23), 3) := by decide +kernel
theorem dX2_placeInQueue_28 : decode cX2_placeInQueue 28 = .ok (.iconst (-1), 1) := by decide +kernel
theorem dX2_placeInQueue_29 : decode cX2_placeInQueue 29 = .ok (.ireturn, 1) := by decide +kernel
theorem dX3_init_0 : decode cX3_init 0 = .ok (.aload_n 0, 1) := by decide +kernel
theorem dX3_init_1 : decode cX3_init 1 = .ok (.invokespecial 5, 3) := by decide +kernel
theorem dX3_init_4 : decode cX3_init 4 = .ok (.aload_n 0, 1) := by decide +kernel
theorem dX3_init_5 : decode cX3_init 5 = .ok (.bipush 6, 2) := by decide +kernel
theorem dX3_init_7 : decode cX3_init 7 = .ok (.anewarray 11, 3) := by decide +kernel
theorem dX3_init_10 : decode cX3_init 10 = .ok (.putfield 13, 3) := by decide +kernel
theorem dX3_init_13 : decode cX3_init 13 = .ok (.iconst 0, 1) := by decide +kernel
theorem dX3_init_14 : decode cX3_init 14 = .ok (.istore_n 1, 1) := by decide +kernel
theorem dX3_init_15 : decode cX3_init 15 = .ok (.iload_n 1, 1) := by decide +kernel
theorem dX3_init_16 : decode cX3_init 16 = .ok (.bipush 6, 2) := by decide +kernel
theorem dX3_init_18 : decode cX3_init 18 = .ok (.if_icmp .ge 22, 3) := by decide +kernel
theorem dX3_init_21 : decode cX3_init 21 = .ok (.aload_n 0, 1) := by decide +kernel
theorem dX3_init_22 : decode cX3_init 22 = .ok (.getfield 13, 3) := by decide +kernel
theorem dX3_init_25 : decode cX3_init 25 = .ok (.iload_n 1, 1) := by decide +kernel
theorem dX3_init_26 : decode cX3_init 26 = .ok (.new 11, 3) := by decide +kernel
theorem dX3_init_29 : decode cX3_init 29 = .ok (.dup, 1) := by decide +kernel
theorem dX3_init_30 : decode cX3_init 30 = .ok (.invokespecial 17, 3) := by decide +kernel
theorem dX3_init_33 : decode cX3_init 33 = .ok (.aastore, 1) := by decide +kernel
theorem dX3_init_34 : decode cX3_init 34 = .ok (.iinc 1 1, 3) := by decide +kernel
theorem dX3_init_37 : decode cX3_init 37 = .ok (.goto (-22), 3) := by decide +kernel
theorem dX3_init_40 : decode cX3_init 40 = .ok (.return_, 1) := by decide +kernel
theorem dX3_draft_0 : decode cX3_draft 0 = .ok (.aload_n 0, 1) := by decide +kernel
theorem dX3_draft_1 : decode cX3_draft 1 = .ok (.getfield 13, 3) := by decide +kernel
theorem dX3_draft_4 : decode cX3_draft 4 = .ok (.aload_n 0, 1) := by decide +kernel
theorem dX3_draft_5 : decode cX3_draft 5 = .ok (.getfield 18, 3) := by decide +kernel
theorem dX3_draft_8 : decode cX3_draft 8 = .ok (.aaload, 1) := by decide +kernel
theorem dX3_draft_9 : decode cX3_draft 9 = .ok (.aload_n 1, 1) := by decide +kernel
theorem dX3_draft_10 : decode cX3_draft 10 = .ok (.invokevirtual 22, 3) := by decide +kernel
theorem dX3_draft_13 : decode cX3_draft 13 = .ok (.return_, 1) := by decide +kernel
theorem dX3_settle_0 : decode cX3_settle 0 = .ok (.iload_n 1, 1) := by decide +kernel
theorem dX3_settle_1 : decode cX3_settle 1 = .ok (.ifCond .lt 38, 3) := by decide +kernel
theorem dX3_settle_4 : decode cX3_settle 4 = .ok (.aload_n 0, 1) := by decide +kernel
theorem dX3_settle_5 : decode cX3_settle 5 = .ok (.aload_n 0, 1) := by decide +kernel
theorem dX3_settle_6 : decode cX3_settle 6 = .ok (.getfield 18, 3) := by decide +kernel
theorem dX3_settle_9 : decode cX3_settle 9 = .ok (.iconst 1, 1) := by decide +kernel
theorem dX3_settle_10 : decode cX3_settle 10 = .ok (.iadd, 1) := by decide +kernel
theorem dX3_settle_11 : decode cX3_settle 11 = .ok (.bipush 6, 2) := by decide +kernel
theorem dX3_settle_13 : decode cX3_settle 13 = .ok (.irem, 1) := by decide +kernel
theorem dX3_settle_14 : decode cX3_settle 14 = .ok (.putfield 18, 3) := by decide +kernel
theorem dX3_settle_17 : decode cX3_settle 17 = .ok (.aload_n 0, 1) := by decide +kernel
theorem dX3_settle_18 : decode cX3_settle 18 = .ok (.aload_n 0, 1) := by decide +kernel
theorem dX3_settle_19 : decode cX3_settle 19 = .ok (.getfield 26, 3) := by decide +kernel
theorem dX3_settle_22 : decode cX3_settle 22 = .ok (.iconst 5, 1) := by decide +kernel
theorem dX3_settle_23 : decode cX3_settle 23 = .ok (.if_icmp .ge 12, 3) := by decide +kernel
theorem dX3_settle_26 : decode cX3_settle 26 = .ok (.aload_n 0, 1) := by decide +kernel
theorem dX3_settle_27 : decode cX3_settle 27 = .ok (.getfield 26, 3) := by decide +kernel
theorem dX3_settle_30 : decode cX3_settle 30 = .ok (.iconst 1, 1) := by decide +kernel
theorem dX3_settle_31 : decode cX3_settle 31 = .ok (.iadd, 1) := by decide +kernel
theorem dX3_settle_32 : decode cX3_settle 32 = .ok (.goto 4, 3) := by decide +kernel
theorem dX3_settle_35 : decode cX3_settle 35 = .ok (.iconst 5, 1) := by decide +kernel
theorem dX3_settle_36 : decode cX3_settle 36 = .ok (.putfield 26, 3) := by decide +kernel
theorem dX3_settle_39 : decode cX3_settle 39 = .ok (.iload_n 1, 1) := by decide +kernel
theorem dX3_settle_40 : decode cX3_settle 40 = .ok (.ireturn, 1) := by decide +kernel
theorem dX3_restore_0 : decode cX3_restore 0 = .ok (.aload_n 0, 1) := by decide +kernel
theorem dX3_restore_1 : decode cX3_restore 1 = .ok (.getfield 26, 3) := by decide +kernel
theorem dX3_restore_4 : decode cX3_restore 4 = .ok (.ifCond .ne 6, 3) := by decide +kernel
theorem dX3_restore_7 : decode cX3_restore 7 = .ok (.bipush (-4), 2) := by decide +kernel
theorem dX3_restore_9 : decode cX3_restore 9 = .ok (.ireturn, 1) := by decide +kernel
theorem dX3_restore_10 : decode cX3_restore 10 = .ok (.aload_n 0, 1) := by decide +kernel
theorem dX3_restore_11 : decode cX3_restore 11 = .ok (.aload_n 0, 1) := by decide +kernel
theorem dX3_restore_12 : decode cX3_restore 12 = .ok (.getfield 18, 3) := by decide +kernel
theorem dX3_restore_15 : decode cX3_restore 15 = .ok (.bipush 6, 2) := by decide +kernel
theorem dX3_restore_17 : decode cX3_restore 17 = .ok (.iadd, 1) := by decide +kernel
theorem dX3_restore_18 : decode cX3_restore 18 = .ok (.iconst 1, 1) := by decide +kernel
theorem dX3_restore_19 : decode cX3_restore 19 = .ok (.isub, 1) := by decide +kernel
theorem dX3_restore_20 : decode cX3_restore 20 = .ok (.bipush 6, 2) := by decide +kernel
theorem dX3_restore_22 : decode cX3_restore 22 = .ok (.irem, 1) := by decide +kernel
theorem dX3_restore_23 : decode cX3_restore 23 = .ok (.putfield 18, 3) := by decide +kernel
theorem dX3_restore_26 : decode cX3_restore 26 = .ok (.aload_n 1, 1) := by decide +kernel
theorem dX3_restore_27 : decode cX3_restore 27 = .ok (.aload_n 0, 1) := by decide +kernel
theorem dX3_restore_28 : decode cX3_restore 28 = .ok (.getfield 13, 3) := by decide +kernel
theorem dX3_restore_31 : decode cX3_restore 31 = .ok (.aload_n 0, 1) := by decide +kernel
theorem dX3_restore_32 : decode cX3_restore 32 = .ok (.getfield 18, 3) := by decide +kernel
theorem dX3_restore_35 : decode cX3_restore 35 = .ok (.aaload, 1) := by decide +kernel
theorem dX3_restore_36 : decode cX3_restore 36 = .ok (.invokevirtual 22, 3) := by decide +kernel
theorem dX3_restore_39 : decode cX3_restore 39 = .ok (.aload_n 0, 1) := by decide +kernel
theorem dX3_restore_40 : decode cX3_restore 40 = .ok (.dup, 1) := by decide +kernel
theorem dX3_restore_41 : decode cX3_restore 41 = .ok (.getfield 26, 3) := by decide +kernel
theorem dX3_restore_44 : decode cX3_restore 44 = .ok (.iconst 1, 1) := by decide +kernel
theorem dX3_restore_45 : decode cX3_restore 45 = .ok (.isub, 1) := by decide +kernel
theorem dX3_restore_46 : decode cX3_restore 46 = .ok (.putfield 26, 3) := by decide +kernel
theorem dX3_restore_49 : decode cX3_restore 49 = .ok (.aload_n 0, 1) := by decide +kernel
theorem dX3_restore_50 : decode cX3_restore 50 = .ok (.getfield 26, 3) := by decide +kernel
theorem dX3_restore_53 : decode cX3_restore 53 = .ok (.ireturn, 1) := by decide +kernel
theorem dX4_init_0 : decode cX4_init 0 = .ok (.aload_n 0, 1) := by decide +kernel
theorem dX4_init_1 : decode cX4_init 1 = .ok (.invokespecial 3, 3) := by decide +kernel
theorem dX4_init_4 : decode cX4_init 4 = .ok (.aload_n 0, 1) := by decide +kernel
theorem dX4_init_5 : decode cX4_init 5 = .ok (.bipush 20, 2) := by decide +kernel
theorem dX4_init_7 : decode cX4_init 7 = .ok (.newarray .int, 2) := by decide +kernel
theorem dX4_init_9 : decode cX4_init 9 = .ok (.putfield 9, 3) := by decide +kernel
theorem dX4_init_12 : decode cX4_init 12 = .ok (.aload_n 0, 1) := by decide +kernel
theorem dX4_init_13 : decode cX4_init 13 = .ok (.bipush 20, 2) := by decide +kernel
theorem dX4_init_15 : decode cX4_init 15 = .ok (.newarray .float, 2) := by decide +kernel
theorem dX4_init_17 : decode cX4_init 17 = .ok (.putfield 15, 3) := by decide +kernel
theorem dX4_init_20 : decode cX4_init 20 = .ok (.aload_n 0, 1) := by decide +kernel
theorem dX4_init_21 : decode cX4_init 21 = .ok (.new 19, 3) := by decide +kernel
theorem dX4_init_24 : decode cX4_init 24 = .ok (.dup, 1) := by decide +kernel
theorem dX4_init_25 : decode cX4_init 25 = .ok (.invokespecial 21, 3) := by decide +kernel
theorem dX4_init_28 : decode cX4_init 28 = .ok (.putfield 22, 3) := by decide +kernel
theorem dX4_init_31 : decode cX4_init 31 = .ok (.return_, 1) := by decide +kernel
theorem dX4_letHear_0 : decode cX4_letHear 0 = .ok (.iconst 0, 1) := by decide +kernel
theorem dX4_letHear_1 : decode cX4_letHear 1 = .ok (.istore_n 2, 1) := by decide +kernel
theorem dX4_letHear_2 : decode cX4_letHear 2 = .ok (.iload_n 2, 1) := by decide +kernel
theorem dX4_letHear_3 : decode cX4_letHear 3 = .ok (.aload_n 1, 1) := by decide +kernel
theorem dX4_letHear_4 : decode cX4_letHear 4 = .ok (.getfield 26, 3) := by decide +kernel
theorem dX4_letHear_7 : decode cX4_letHear 7 = .ok (.getfield 32, 3) := by decide +kernel
theorem dX4_letHear_10 : decode cX4_letHear 10 = .ok (.if_icmp .ge 57, 3) := by decide +kernel
theorem dX4_letHear_13 : decode cX4_letHear 13 = .ok (.aload_n 0, 1) := by decide +kernel
theorem dX4_letHear_14 : decode cX4_letHear 14 = .ok (.aload_n 1, 1) := by decide +kernel
theorem dX4_letHear_15 : decode cX4_letHear 15 = .ok (.iload_n 2, 1) := by decide +kernel
theorem dX4_letHear_16 : decode cX4_letHear 16 = .ok (.iconst (-1), 1) := by decide +kernel
theorem dX4_letHear_17 : decode cX4_letHear 17 = .ok (.invokevirtual 38, 3) := by decide +kernel
theorem dX4_letHear_20 : decode cX4_letHear 20 = .ok (.iconst 0, 1) := by decide +kernel
theorem dX4_letHear_21 : decode cX4_letHear 21 = .ok (.istore_n 3, 1) := by decide +kernel
theorem dX4_letHear_22 : decode cX4_letHear 22 = .ok (.iload_n 3, 1) := by decide +kernel
theorem dX4_letHear_23 : decode cX4_letHear 23 = .ok (.aload_n 1, 1) := by decide +kernel
theorem dX4_letHear_24 : decode cX4_letHear 24 = .ok (.getfield 42, 3) := by decide +kernel
theorem dX4_letHear_27 : decode cX4_letHear 27 = .ok (.getfield 46, 3) := by decide +kernel
theorem dX4_letHear_30 : decode cX4_letHear 30 = .ok (.if_icmp .ge 31, 3) := by decide +kernel
theorem dX4_letHear_33 : decode cX4_letHear 33 = .ok (.aload_n 1, 1) := by decide +kernel
theorem dX4_letHear_34 : decode cX4_letHear 34 = .ok (.getfield 42, 3) := by decide +kernel
theorem dX4_letHear_37 : decode cX4_letHear 37 = .ok (.getfield 51, 3) := by decide +kernel
theorem dX4_letHear_40 : decode cX4_letHear 40 = .ok (.iload_n 3, 1) := by decide +kernel
theorem dX4_letHear_41 : decode cX4_letHear 41 = .ok (.iaload, 1) := by decide +kernel
theorem dX4_letHear_42 : decode cX4_letHear 42 = .ok (.iload_n 2, 1) := by decide +kernel
theorem dX4_letHear_43 : decode cX4_letHear 43 = .ok (.if_icmp .ne 12, 3) := by decide +kernel
theorem dX4_letHear_46 : decode cX4_letHear 46 = .ok (.aload_n 0, 1) := by decide +kernel
theorem dX4_letHear_47 : decode cX4_letHear 47 = .ok (.aload_n 1, 1) := by decide +kernel
theorem dX4_letHear_48 : decode cX4_letHear 48 = .ok (.getfield 42, 3) := by decide +kernel
theorem dX4_letHear_51 : decode cX4_letHear 51 = .ok (.iload_n 3, 1) := by decide +kernel
theorem dX4_letHear_52 : decode cX4_letHear 52 = .ok (.invokevirtual 54, 3) := by decide +kernel
theorem dX4_letHear_55 : decode cX4_letHear 55 = .ok (.iinc 3 1, 3) := by decide +kernel
theorem dX4_letHear_58 : decode cX4_letHear 58 = .ok (.goto (-36), 3) := by decide +kernel
theorem dX4_letHear_61 : decode cX4_letHear 61 = .ok (.iinc 2 1, 3) := by decide +kernel
theorem dX4_letHear_64 : decode cX4_letHear 64 = .ok (.goto (-62), 3) := by decide +kernel
theorem dX4_letHear_67 : decode cX4_letHear 67 = .ok (.return_, 1) := by decide +kernel
theorem dX4_send_0 : decode cX4_send 0 = .ok (.aload_n 0, 1) := by decide +kernel
theorem dX4_send_1 : decode cX4_send 1 = .ok (.getfield 22, 3) := by decide +kernel
theorem dX4_send_4 : decode cX4_send 4 = .ok (.invokevirtual 58, 3) := by decide +kernel
theorem dX4_send_7 : decode cX4_send 7 = .ok (.iconst 0, 1) := by decide +kernel
theorem dX4_send_8 : decode cX4_send 8 = .ok (.istore_n 2, 1) := by decide +kernel
theorem dX4_send_9 : decode cX4_send 9 = .ok (.iload_n 2, 1) := by decide +kernel
theorem dX4_send_10 : decode cX4_send 10 = .ok (.aload_n 1, 1) := by decide +kernel
theorem dX4_send_11 : decode cX4_send 11 = .ok (.getfield 26, 3) := by decide +kernel
theorem dX4_send_14 : decode cX4_send 14 = .ok (.getfield 32, 3) := by decide +kernel
theorem dX4_send_17 : decode cX4_send 17 = .ok (.if_icmp .ge 74, 3) := by decide +kernel
theorem dX4_send_20 : decode cX4_send 20 = .ok (.iconst 0, 1) := by decide +kernel
theorem dX4_send_21 : decode cX4_send 21 = .ok (.istore_n 3, 1) := by decide +kernel
theorem dX4_send_22 : decode cX4_send 22 = .ok (.iload_n 3, 1) := by decide +kernel
theorem dX4_send_23 : decode cX4_send 23 = .ok (.aload_n 1, 1) := by decide +kernel
theorem dX4_send_24 : decode cX4_send 24 = .ok (.getfield 26, 3) := by decide +kernel
theorem dX4_send_27 : decode cX4_send 27 = .ok (.getfield 32, 3) := by decide +kernel
theorem dX4_send_30 : decode cX4_send 30 = .ok (.if_icmp .ge 55, 3) := by decide +kernel
theorem dX4_send_33 : decode cX4_send 33 = .ok (.aload_n 1, 1) := by decide +kernel
theorem dX4_send_34 : decode cX4_send 34 = .ok (.getfield 26, 3) := by decide +kernel
theorem dX4_send_37 : decode cX4_send 37 = .ok (.iload_n 3, 1) := by decide +kernel
theorem dX4_send_38 : decode cX4_send 38 = .ok (.iload_n 2, 1) := by decide +kernel
theorem dX4_send_39 : decode cX4_send 39 = .ok (.invokevirtual 61, 3) := by decide +kernel
theorem dX4_send_42 : decode cX4_send 42 = .ok (.istore 4, 2) := by decide +kernel
theorem dX4_send_44 : decode cX4_send 44 = .ok (.iload 4, 2) := by decide +kernel
theorem dX4_send_46 : decode cX4_send 46 = .ok (.iconst (-1), 1) := by decide +kernel
theorem dX4_send_47 : decode cX4_send 47 = .ok (.if_icmp .eq 32, 3) := by decide +kernel
theorem dX4_send_50 : decode cX4_send 50 = .ok (.aload_n 0, 1) := by decide +kernel
theorem dX4_send_51 : decode cX4_send 51 = .ok (.aload_n 1, 1) := by decide +kernel
theorem dX4_send_52 : decode cX4_send 52 = .ok (.iload_n 2, 1) := by decide +kernel
theorem dX4_send_53 : decode cX4_send 53 = .ok (.iload_n 3, 1) := by decide +kernel
theorem dX4_send_54 : decode cX4_send 54 = .ok (.invokevirtual 38, 3) := by decide +kernel
theorem dX4_send_57 : decode cX4_send 57 = .ok (.aload_n 0, 1) := by decide +kernel
theorem dX4_send_58 : decode cX4_send 58 = .ok (.iload 4, 2) := by decide +kernel
theorem dX4_send_60 : decode cX4_send 60 = .ok (.aload_n 1, 1) := by decide +kernel
theorem dX4_send_61 : decode cX4_send 61 = .ok (.getfield 26, 3) := by decide +kernel
theorem dX4_send_64 : decode cX4_send 64 = .ok (.iload 4, 2) := by decide +kernel
theorem dX4_send_66 : decode cX4_send 66 = .ok (.invokevirtual 65, 3) := by decide +kernel
theorem dX4_send_69 : decode cX4_send 69 = .ok (.aload_n 1, 1) := by decide +kernel
theorem dX4_send_70 : decode cX4_send 70 = .ok (.getfield 42, 3) := by decide +kernel
theorem dX4_send_73 : decode cX4_send 73 = .ok (.getfield 46, 3) := by decide +kernel
theorem dX4_send_76 : decode cX4_send 76 = .ok (.invokevirtual 69, 3) := by decide +kernel
theorem dX4_send_79 : decode cX4_send 79 = .ok (.iinc 3 1, 3) := by decide +kernel
theorem dX4_send_82 : decode cX4_send 82 = .ok (.goto (-60), 3) := by decide +kernel
theorem dX4_send_85 : decode cX4_send 85 = .ok (.iinc 2 1, 3) := by decide +kernel
theorem dX4_send_88 : decode cX4_send 88 = .ok (.goto (-79), 3) := by decide +kernel
theorem dX4_send_91 : decode cX4_send 91 = .ok (.aload_n 1, 1) := by decide +kernel
theorem dX4_send_92 : decode cX4_send 92 = .ok (.getfield 73, 3) := by decide +kernel
theorem dX4_send_95 : decode cX4_send 95 = .ok (.aload_n 0, 1) := by decide +kernel
theorem dX4_send_96 : decode cX4_send 96 = .ok (.getfield 22, 3) := by decide +kernel
theorem dX4_send_99 : decode cX4_send 99 = .ok (.invokevirtual 76, 3) := by decide +kernel
theorem dX4_send_102 : decode cX4_send 102 = .ok (.return_, 1) := by decide +kernel
theorem dX4_gather_0 : decode cX4_gather 0 = .ok (.iconst 0, 1) := by decide +kernel
theorem dX4_gather_1 : decode cX4_gather 1 = .ok (.istore 4, 2) := by decide +kernel
theorem dX4_gather_3 : decode cX4_gather 3 = .ok (.iload 4, 2) := by decide +kernel
theorem dX4_gather_5 : decode cX4_gather 5 = .ok (.aload_n 1, 1) := by decide +kernel
theorem dX4_gather_6 : decode cX4_gather 6 = .ok (.getfield 42, 3) := by decide +kernel
theorem dX4_gather_9 : decode cX4_gather 9 = .ok (.getfield 46, 3) := by decide +kernel
theorem dX4_gather_12 : decode cX4_gather 12 = .ok (.if_icmp .ge 52, 3) := by decide +kernel
theorem dX4_gather_15 : decode cX4_gather 15 = .ok (.aload_n 0, 1) := by decide +kernel
theorem dX4_gather_16 : decode cX4_gather 16 = .ok (.getfield 9, 3) := by decide +kernel
theorem dX4_gather_19 : decode cX4_gather 19 = .ok (.iload 4, 2) := by decide +kernel
theorem dX4_gather_21 : decode cX4_gather 21 = .ok (.aload_n 1, 1) := by decide +kernel
theorem dX4_gather_22 : decode cX4_gather 22 = .ok (.getfield 42, 3) := by decide +kernel
theorem dX4_gather_25 : decode cX4_gather 25 = .ok (.getfield 80, 3) := by decide +kernel
theorem dX4_gather_28 : decode cX4_gather 28 = .ok (.iload 4, 2) := by decide +kernel
theorem dX4_gather_30 : decode cX4_gather 30 = .ok (.iaload, 1) := by decide +kernel
theorem dX4_gather_31 : decode cX4_gather 31 = .ok (.iload_n 2, 1) := by decide +kernel
theorem dX4_gather_32 : decode cX4_gather 32 = .ok (.if_icmp .ne 7, 3) := by decide +kernel
theorem dX4_gather_35 : decode cX4_gather 35 = .ok (.iconst 0, 1) := by decide +kernel
theorem dX4_gather_36 : decode cX4_gather 36 = .ok (.goto 4, 3) := by decide +kernel
theorem dX4_gather_39 : decode cX4_gather 39 = .ok (.iconst (-1), 1) := by decide +kernel
theorem dX4_gather_40 : decode cX4_gather 40 = .ok (.iastore, 1) := by decide +kernel
theorem dX4_gather_41 : decode cX4_gather 41 = .ok (.aload_n 0, 1) := by decide +kernel
theorem dX4_gather_42 : decode cX4_gather 42 = .ok (.getfield 15, 3) := by decide +kernel
theorem dX4_gather_45 : decode cX4_gather 45 = .ok (.iload 4, 2) := by decide +kernel
theorem dX4_gather_47 : decode cX4_gather 47 = .ok (.aload_n 1, 1) := by decide +kernel
theorem dX4_gather_48 : decode cX4_gather 48 = .ok (.getfield 42, 3) := by decide +kernel
theorem dX4_gather_51 : decode cX4_gather 51 = .ok (.getfield 83, 3) := by decide +kernel
theorem dX4_gather_54 : decode cX4_gather 54 = .ok (.iload 4, 2) := by decide +kernel
theorem dX4_gather_56 : decode cX4_gather 56 = .ok (.faload, 1) := by decide +kernel
theorem dX4_gather_57 : decode cX4_gather 57 = .ok (.fastore, 1) := by decide +kernel
theorem dX4_gather_58 : decode cX4_gather 58 = .ok (.iinc 4 1, 3) := by decide +kernel
theorem dX4_gather_61 : decode cX4_gather 61 = .ok (.goto (-58), 3) := by decide +kernel
theorem dX4_gather_64 : decode cX4_gather 64 = .ok (.iconst 0, 1) := by decide +kernel
theorem dX4_gather_65 : decode cX4_gather 65 = .ok (.istore 4, 2) := by decide +kernel
theorem dX4_gather_67 : decode cX4_gather 67 = .ok (.iload 4, 2) := by decide +kernel
theorem dX4_gather_69 : decode cX4_gather 69 = .ok (.aload_n 1, 1) := by decide +kernel
theorem dX4_gather_70 : decode cX4_gather 70 = .ok (.getfield 26, 3) := by decide +kernel
theorem dX4_gather_73 : decode cX4_gather 73 = .ok (.getfield 32, 3) := by decide +kernel
theorem dX4_gather_76 : decode cX4_gather 76 = .ok (.if_icmp .ge 43, 3) := by decide +kernel
theorem dX4_gather_79 : decode cX4_gather 79 = .ok (.aload_n 1, 1) := by decide +kernel
theorem dX4_gather_80 : decode cX4_gather 80 = .ok (.getfield 26, 3) := by decide +kernel
theorem dX4_gather_83 : decode cX4_gather 83 = .ok (.iload_n 2, 1) := by decide +kernel
theorem dX4_gather_84 : decode cX4_gather 84 = .ok (.iload 4, 2) := by decide +kernel
theorem dX4_gather_86 : decode cX4_gather 86 = .ok (.invokevirtual 61, 3) := by decide +kernel
theorem dX4_gather_89 : decode cX4_gather 89 = .ok (.istore 5, 2) := by decide +kernel
theorem dX4_gather_91 : decode cX4_gather 91 = .ok (.iload 5, 2) := by decide +kernel
theorem dX4_gather_93 : decode cX4_gather 93 = .ok (.iconst (-1), 1) := by decide +kernel
theorem dX4_gather_94 : decode cX4_gather 94 = .ok (.if_icmp .eq 19, 3) := by decide +kernel
theorem dX4_gather_97 : decode cX4_gather 97 = .ok (.iload 4, 2) := by decide +kernel
theorem dX4_gather_99 : decode cX4_gather 99 = .ok (.iload_n 3, 1) := by decide +kernel
theorem dX4_gather_100 : decode cX4_gather 100 = .ok (.if_icmp .eq 13, 3) := by decide +kernel
theorem dX4_gather_103 : decode cX4_gather 103 = .ok (.aload_n 0, 1) := by decide +kernel
theorem dX4_gather_104 : decode cX4_gather 104 = .ok (.aload_n 1, 1) := by decide +kernel
theorem dX4_gather_105 : decode cX4_gather 105 = .ok (.getfield 73, 3) := by decide +kernel
theorem dX4_gather_108 : decode cX4_gather 108 = .ok (.iload 5, 2) := by decide +kernel
theorem dX4_gather_110 : decode cX4_gather 110 = .ok (.invokevirtual 84, 3) := by decide +kernel
theorem dX4_gather_113 : decode cX4_gather 113 = .ok (.iinc 4 1, 3) := by decide +kernel
theorem dX4_gather_116 : decode cX4_gather 116 = .ok (.goto (-49), 3) := by decide +kernel
theorem dX4_gather_119 : decode cX4_gather 119 = .ok (.return_, 1) := by decide +kernel
theorem dX4_gatherWay_0 : decode cX4_gatherWay 0 = .ok (.iconst 0, 1) := by decide +kernel
theorem dX4_gatherWay_1 : decode cX4_gatherWay 1 = .ok (.istore_n 3, 1) := by decide +kernel
theorem dX4_gatherWay_2 : decode cX4_gatherWay 2 = .ok (.iload_n 3, 1) := by decide +kernel
theorem dX4_gatherWay_3 : decode cX4_gatherWay 3 = .ok (.aload_n 1, 1) := by decide +kernel
theorem dX4_gatherWay_4 : decode cX4_gatherWay 4 = .ok (.getfield 88, 3) := by decide +kernel
theorem dX4_gatherWay_7 : decode cX4_gatherWay 7 = .ok (.iload_n 2, 1) := by decide +kernel
theorem dX4_gatherWay_8 : decode cX4_gatherWay 8 = .ok (.iaload, 1) := by decide +kernel
theorem dX4_gatherWay_9 : decode cX4_gatherWay 9 = .ok (.if_icmp .ge 81, 3) := by decide +kernel
theorem dX4_gatherWay_12 : decode cX4_gatherWay 12 = .ok (.iload_n 2, 1) := by decide +kernel
theorem dX4_gatherWay_13 : decode cX4_gatherWay 13 = .ok (.iconst 4, 1) := by decide +kernel
theorem dX4_gatherWay_14 : decode cX4_gatherWay 14 = .ok (.imul, 1) := by decide +kernel
theorem dX4_gatherWay_15 : decode cX4_gatherWay 15 = .ok (.iload_n 3, 1) := by decide +kernel
theorem dX4_gatherWay_16 : decode cX4_gatherWay 16 = .ok (.iadd, 1) := by decide +kernel
theorem dX4_gatherWay_17 : decode cX4_gatherWay 17 = .ok (.istore 4, 2) := by decide +kernel
theorem dX4_gatherWay_19 : decode cX4_gatherWay 19 = .ok (.aload_n 1, 1) := by decide +kernel
theorem dX4_gatherWay_20 : decode cX4_gatherWay 20 = .ok (.getfield 90, 3) := by decide +kernel
theorem dX4_gatherWay_23 : decode cX4_gatherWay 23 = .ok (.iload 4, 2) := by decide +kernel
theorem dX4_gatherWay_25 : decode cX4_gatherWay 25 = .ok (.iaload, 1) := by decide +kernel
theorem dX4_gatherWay_26 : decode cX4_gatherWay 26 = .ok (.istore 5, 2) := by decide +kernel
theorem dX4_gatherWay_28 : decode cX4_gatherWay 28 = .ok (.aload_n 0, 1) := by decide +kernel
theorem dX4_gatherWay_29 : decode cX4_gatherWay 29 = .ok (.getfield 9, 3) := by decide +kernel
theorem dX4_gatherWay_32 : decode cX4_gatherWay 32 = .ok (.iload 5, 2) := by decide +kernel
theorem dX4_gatherWay_34 : decode cX4_gatherWay 34 = .ok (.iaload, 1) := by decide +kernel
theorem dX4_gatherWay_35 : decode cX4_gatherWay 35 = .ok (.iconst (-1), 1) := by decide +kernel
theorem dX4_gatherWay_36 : decode cX4_gatherWay 36 = .ok (.if_icmp .eq 20, 3) := by decide +kernel
theorem dX4_gatherWay_39 : decode cX4_gatherWay 39 = .ok (.aload_n 1, 1) := by decide +kernel
theorem dX4_gatherWay_40 : decode cX4_gatherWay 40 = .ok (.getfield 93, 3) := by decide +kernel
theorem dX4_gatherWay_43 : decode cX4_gatherWay 43 = .ok (.iload 4, 2) := by decide +kernel
theorem dX4_gatherWay_45 : decode cX4_gatherWay 45 = .ok (.iaload, 1) := by decide +kernel
theorem dX4_gatherWay_46 : decode cX4_gatherWay 46 = .ok (.aload_n 0, 1) := by decide +kernel
theorem dX4_gatherWay_47 : decode cX4_gatherWay 47 = .ok (.getfield 9, 3) := by decide +kernel
theorem dX4_gatherWay_50 : decode cX4_gatherWay 50 = .ok (.iload 5, 2) := by decide +kernel
theorem dX4_gatherWay_52 : decode cX4_gatherWay 52 = .ok (.iaload, 1) := by decide +kernel
theorem dX4_gatherWay_53 : decode cX4_gatherWay 53 = .ok (.if_icmp .ge 31, 3) := by decide +kernel
theorem dX4_gatherWay_56 : decode cX4_gatherWay 56 = .ok (.aload_n 0, 1) := by decide +kernel
theorem dX4_gatherWay_57 : decode cX4_gatherWay 57 = .ok (.getfield 9, 3) := by decide +kernel
theorem dX4_gatherWay_60 : decode cX4_gatherWay 60 = .ok (.iload 5, 2) := by decide +kernel
theorem dX4_gatherWay_62 : decode cX4_gatherWay 62 = .ok (.aload_n 1, 1) := by decide +kernel
theorem dX4_gatherWay_63 : decode cX4_gatherWay 63 = .ok (.getfield 93, 3) := by decide +kernel
theorem dX4_gatherWay_66 : decode cX4_gatherWay 66 = .ok (.iload 4, 2) := by decide +kernel
theorem dX4_gatherWay_68 : decode cX4_gatherWay 68 = .ok (.iaload, 1) := by decide +kernel
theorem dX4_gatherWay_69 : decode cX4_gatherWay 69 = .ok (.iastore, 1) := by decide +kernel
theorem dX4_gatherWay_70 : decode cX4_gatherWay 70 = .ok (.aload_n 0, 1) := by decide +kernel
theorem dX4_gatherWay_71 : decode cX4_gatherWay 71 = .ok (.getfield 15, 3) := by decide +kernel
theorem dX4_gatherWay_74 : decode cX4_gatherWay 74 = .ok (.iload 5, 2) := by decide +kernel
theorem dX4_gatherWay_76 : decode cX4_gatherWay 76 = .ok (.aload_n 1, 1) := by decide +kernel
theorem dX4_gatherWay_77 : decode cX4_gatherWay 77 = .ok (.getfield 94, 3) := by decide +kernel
theorem dX4_gatherWay_80 : decode cX4_gatherWay 80 = .ok (.iload 4, 2) := by decide +kernel
theorem dX4_gatherWay_82 : decode cX4_gatherWay 82 = .ok (.faload, 1) := by decide +kernel
theorem dX4_gatherWay_83 : decode cX4_gatherWay 83 = .ok (.fastore, 1) := by decide +kernel
theorem dX4_gatherWay_84 : decode cX4_gatherWay 84 = .ok (.iinc 3 1, 3) := by decide +kernel
theorem dX4_gatherWay_87 : decode cX4_gatherWay 87 = .ok (.goto (-85), 3) := by decide +kernel
theorem dX4_gatherWay_90 : decode cX4_gatherWay 90 = .ok (.return_, 1) := by decide +kernel
theorem dX4_hear_0 : decode cX4_hear 0 = .ok (.fconst 0, 1) := by decide +kernel
theorem dX4_hear_1 : decode cX4_hear 1 = .ok (.fstore_n 3, 1) := by decide +kernel
theorem dX4_hear_2 : decode cX4_hear 2 = .ok (.iconst 0, 1) := by decide +kernel
theorem dX4_hear_3 : decode cX4_hear 3 = .ok (.istore 4, 2) := by decide +kernel
theorem dX4_hear_5 : decode cX4_hear 5 = .ok (.iconst 0, 1) := by decide +kernel
theorem dX4_hear_6 : decode cX4_hear 6 = .ok (.istore 5, 2) := by decide +kernel
theorem dX4_hear_8 : decode cX4_hear 8 = .ok (.iload 5, 2) := by decide +kernel
theorem dX4_hear_10 : decode cX4_hear 10 = .ok (.aload_n 1, 1) := by decide +kernel
theorem dX4_hear_11 : decode cX4_hear 11 = .ok (.getfield 46, 3) := by decide +kernel
theorem dX4_hear_14 : decode cX4_hear 14 = .ok (.if_icmp .ge 45, 3) := by decide +kernel
theorem dX4_hear_17 : decode cX4_hear 17 = .ok (.aload_n 0, 1) := by decide +kernel
theorem dX4_hear_18 : decode cX4_hear 18 = .ok (.getfield 9, 3) := by decide +kernel
theorem dX4_hear_21 : decode cX4_hear 21 = .ok (.iload 5, 2) := by decide +kernel
theorem dX4_hear_23 : decode cX4_hear 23 = .ok (.iaload, 1) := by decide +kernel
theorem dX4_hear_24 : decode cX4_hear 24 = .ok (.iconst (-1), 1) := by decide +kernel
theorem dX4_hear_25 : decode cX4_hear 25 = .ok (.if_icmp .eq 28, 3) := by decide +kernel
theorem dX4_hear_28 : decode cX4_hear 28 = .ok (.iload 5, 2) := by decide +kernel
theorem dX4_hear_30 : decode cX4_hear 30 = .ok (.iload_n 2, 1) := by decide +kernel
theorem dX4_hear_31 : decode cX4_hear 31 = .ok (.if_icmp .eq 22, 3) := by decide +kernel
theorem dX4_hear_34 : decode cX4_hear 34 = .ok (.fload_n 3, 1) := by decide +kernel
theorem dX4_hear_35 : decode cX4_hear 35 = .ok (.aload_n 0, 1) := by decide +kernel
theorem dX4_hear_36 : decode cX4_hear 36 = .ok (.getfield 15, 3) := by decide +kernel
theorem dX4_hear_39 : decode cX4_hear 39 = .ok (.iload 5, 2) := by decide +kernel
theorem dX4_hear_41 : decode cX4_hear 41 = .ok (.faload, 1) := by decide +kernel
theorem dX4_hear_42 : decode cX4_hear 42 = .ok (.fadd, 1) := by decide +kernel
theorem dX4_hear_43 : decode cX4_hear 43 = .ok (.fstore_n 3, 1) := by decide +kernel
theorem dX4_hear_44 : decode cX4_hear 44 = .ok (.iload 4, 2) := by decide +kernel
theorem dX4_hear_46 : decode cX4_hear 46 = .ok (.iconst 1, 1) := by decide +kernel
theorem dX4_hear_47 : decode cX4_hear 47 = .ok (.iload 5, 2) := by decide +kernel
theorem dX4_hear_49 : decode cX4_hear 49 = .ok (.ishl, 1) := by decide +kernel
theorem dX4_hear_50 : decode cX4_hear 50 = .ok (.ior, 1) := by decide +kernel
theorem dX4_hear_51 : decode cX4_hear 51 = .ok (.istore 4, 2) := by decide +kernel
theorem dX4_hear_53 : decode cX4_hear 53 = .ok (.iinc 5 1, 3) := by decide +kernel
theorem dX4_hear_56 : decode cX4_hear 56 = .ok (.goto (-48), 3) := by decide +kernel
theorem dX4_hear_59 : decode cX4_hear 59 = .ok (.aload_n 1, 1) := by decide +kernel
theorem dX4_hear_60 : decode cX4_hear 60 = .ok (.getfield 95, 3) := by decide +kernel
theorem dX4_hear_63 : decode cX4_hear 63 = .ok (.iload_n 2, 1) := by decide +kernel
theorem dX4_hear_64 : decode cX4_hear 64 = .ok (.fload_n 3, 1) := by decide +kernel
theorem dX4_hear_65 : decode cX4_hear 65 = .ok (.fastore, 1) := by decide +kernel
theorem dX4_hear_66 : decode cX4_hear 66 = .ok (.aload_n 1, 1) := by decide +kernel
theorem dX4_hear_67 : decode cX4_hear 67 = .ok (.getfield 98, 3) := by decide +kernel
theorem dX4_hear_70 : decode cX4_hear 70 = .ok (.iload_n 2, 1) := by decide +kernel
theorem dX4_hear_71 : decode cX4_hear 71 = .ok (.iload 4, 2) := by decide +kernel
theorem dX4_hear_73 : decode cX4_hear 73 = .ok (.iastore, 1) := by decide +kernel
theorem dX4_hear_74 : decode cX4_hear 74 = .ok (.return_, 1) := by decide +kernel
theorem dX4_sendLoudest_0 : decode cX4_sendLoudest 0 = .ok (.iconst 0, 1) := by decide +kernel
theorem dX4_sendLoudest_1 : decode cX4_sendLoudest 1 = .ok (.istore 4, 2) := by decide +kernel
theorem dX4_sendLoudest_3 : decode cX4_sendLoudest 3 = .ok (.iload 4, 2) := by decide +kernel
theorem dX4_sendLoudest_5 : decode cX4_sendLoudest 5 = .ok (.iload_n 2, 1) := by decide +kernel
theorem dX4_sendLoudest_6 : decode cX4_sendLoudest 6 = .ok (.if_icmp .ge 107, 3) := by decide +kernel
theorem dX4_sendLoudest_9 : decode cX4_sendLoudest 9 = .ok (.iconst (-1), 1) := by decide +kernel
theorem dX4_sendLoudest_10 : decode cX4_sendLoudest 10 = .ok (.istore 5, 2) := by decide +kernel
theorem dX4_sendLoudest_12 : decode cX4_sendLoudest 12 = .ok (.iconst 0, 1) := by decide +kernel
theorem dX4_sendLoudest_13 : decode cX4_sendLoudest 13 = .ok (.istore 6, 2) := by decide +kernel
theorem dX4_sendLoudest_15 : decode cX4_sendLoudest 15 = .ok (.iload 6, 2) := by decide +kernel
theorem dX4_sendLoudest_17 : decode cX4_sendLoudest 17 = .ok (.iload_n 3, 1) := by decide +kernel
theorem dX4_sendLoudest_18 : decode cX4_sendLoudest 18 = .ok (.if_icmp .ge 48, 3) := by decide +kernel
theorem dX4_sendLoudest_21 : decode cX4_sendLoudest 21 = .ok (.aload_n 0, 1) := by decide +kernel
theorem dX4_sendLoudest_22 : decode cX4_sendLoudest 22 = .ok (.getfield 9, 3) := by decide +kernel
theorem dX4_sendLoudest_25 : decode cX4_sendLoudest 25 = .ok (.iload 6, 2) := by decide +kernel
theorem dX4_sendLoudest_27 : decode cX4_sendLoudest 27 = .ok (.iaload, 1) := by decide +kernel
theorem dX4_sendLoudest_28 : decode cX4_sendLoudest 28 = .ok (.iconst (-1), 1) := by decide +kernel
theorem dX4_sendLoudest_29 : decode cX4_sendLoudest 29 = .ok (.if_icmp .eq 31, 3) := by decide +kernel
theorem dX4_sendLoudest_32 : decode cX4_sendLoudest 32 = .ok (.iload 5, 2) := by decide +kernel
theorem dX4_sendLoudest_34 : decode cX4_sendLoudest 34 = .ok (.iconst (-1), 1) := by decide +kernel
theorem dX4_sendLoudest_35 : decode cX4_sendLoudest 35 = .ok (.if_icmp .eq 21, 3) := by decide +kernel
theorem dX4_sendLoudest_38 : decode cX4_sendLoudest 38 = .ok (.aload_n 0, 1) := by decide +kernel
theorem dX4_sendLoudest_39 : decode cX4_sendLoudest 39 = .ok (.getfield 15, 3) := by decide +kernel
theorem dX4_sendLoudest_42 : decode cX4_sendLoudest 42 = .ok (.iload 6, 2) := by decide +kernel
theorem dX4_sendLoudest_44 : decode cX4_sendLoudest 44 = .ok (.faload, 1) := by decide +kernel
theorem dX4_sendLoudest_45 : decode cX4_sendLoudest 45 = .ok (.aload_n 0, 1) := by decide +kernel
theorem dX4_sendLoudest_46 : decode cX4_sendLoudest 46 = .ok (.getfield 15, 3) := by decide +kernel
theorem dX4_sendLoudest_49 : decode cX4_sendLoudest 49 = .ok (.iload 5, 2) := by decide +kernel
theorem dX4_sendLoudest_51 : decode cX4_sendLoudest 51 = .ok (.faload, 1) := by decide +kernel
theorem dX4_sendLoudest_52 : decode cX4_sendLoudest 52 = .ok (.fcmp .l, 1) := by decide +kernel
theorem dX4_sendLoudest_53 : decode cX4_sendLoudest 53 = .ok (.ifCond .le 7, 3) := by decide +kernel
theorem dX4_sendLoudest_56 : decode cX4_sendLoudest 56 = .ok (.iload 6, 2) := by decide +kernel
theorem dX4_sendLoudest_58 : decode cX4_sendLoudest 58 = .ok (.istore 5, 2) := by decide +kernel
theorem dX4_sendLoudest_60 : decode cX4_sendLoudest 60 = .ok (.iinc 6 1, 3) := by decide +kernel
theorem dX4_sendLoudest_63 : decode cX4_sendLoudest 63 = .ok (.goto (-48), 3) := by decide +kernel
theorem dX4_sendLoudest_66 : decode cX4_sendLoudest 66 = .ok (.iload 5, 2) := by decide +kernel
theorem dX4_sendLoudest_68 : decode cX4_sendLoudest 68 = .ok (.iconst (-1), 1) := by decide +kernel
theorem dX4_sendLoudest_69 : decode cX4_sendLoudest 69 = .ok (.if_icmp .ne 4, 3) := by decide +kernel
theorem dX4_sendLoudest_72 : decode cX4_sendLoudest 72 = .ok (.return_, 1) := by decide +kernel
theorem dX4_sendLoudest_73 : decode cX4_sendLoudest 73 = .ok (.aload_n 0, 1) := by decide +kernel
theorem dX4_sendLoudest_74 : decode cX4_sendLoudest 74 = .ok (.getfield 22, 3) := by decide +kernel
theorem dX4_sendLoudest_77 : decode cX4_sendLoudest 77 = .ok (.iload_n 1, 1) := by decide +kernel
theorem dX4_sendLoudest_78 : decode cX4_sendLoudest 78 = .ok (.iload 5, 2) := by decide +kernel
theorem dX4_sendLoudest_80 : decode cX4_sendLoudest 80 = .ok (.aload_n 0, 1) := by decide +kernel
theorem dX4_sendLoudest_81 : decode cX4_sendLoudest 81 = .ok (.getfield 9, 3) := by decide +kernel
theorem dX4_sendLoudest_84 : decode cX4_sendLoudest 84 = .ok (.iload 5, 2) := by decide +kernel
theorem dX4_sendLoudest_86 : decode cX4_sendLoudest 86 = .ok (.iaload, 1) := by decide +kernel
theorem dX4_sendLoudest_87 : decode cX4_sendLoudest 87 = .ok (.iconst 1, 1) := by decide +kernel
theorem dX4_sendLoudest_88 : decode cX4_sendLoudest 88 = .ok (.iadd, 1) := by decide +kernel
theorem dX4_sendLoudest_89 : decode cX4_sendLoudest 89 = .ok (.aload_n 0, 1) := by decide +kernel
theorem dX4_sendLoudest_90 : decode cX4_sendLoudest 90 = .ok (.getfield 15, 3) := by decide +kernel
theorem dX4_sendLoudest_93 : decode cX4_sendLoudest 93 = .ok (.iload 5, 2) := by decide +kernel
theorem dX4_sendLoudest_95 : decode cX4_sendLoudest 95 = .ok (.faload, 1) := by decide +kernel
theorem dX4_sendLoudest_96 : decode cX4_sendLoudest 96 = .ok (.invokevirtual 101, 3) := by decide +kernel
theorem dX4_sendLoudest_99 : decode cX4_sendLoudest 99 = .ok (.aload_n 0, 1) := by decide +kernel
theorem dX4_sendLoudest_100 : decode cX4_sendLoudest 100 = .ok (.getfield 9, 3) := by decide +kernel
theorem dX4_sendLoudest_103 : decode cX4_sendLoudest 103 = .ok (.iload 5, 2) := by decide +kernel
theorem dX4_sendLoudest_105 : decode cX4_sendLoudest 105 = .ok (.iconst (-1), 1) := by decide +kernel
theorem dX4_sendLoudest_106 : decode cX4_sendLoudest 106 = .ok (.iastore, 1) := by decide +kernel
theorem dX4_sendLoudest_107 : decode cX4_sendLoudest 107 = .ok (.iinc 4 1, 3) := by decide +kernel
theorem dX4_sendLoudest_110 : decode cX4_sendLoudest 110 = .ok (.goto (-107), 3) := by decide +kernel
theorem dX4_sendLoudest_113 : decode cX4_sendLoudest 113 = .ok (.return_, 1) := by decide +kernel
theorem dX5_init_0 : decode cX5_init 0 = .ok (.aload_n 0, 1) := by decide +kernel
theorem dX5_init_1 : decode cX5_init 1 = .ok (.invokespecial 3, 3) := by decide +kernel
theorem dX5_init_4 : decode cX5_init 4 = .ok (.aload_n 0, 1) := by decide +kernel
theorem dX5_init_5 : decode cX5_init 5 = .ok (.bipush 100, 2) := by decide +kernel
theorem dX5_init_7 : decode cX5_init 7 = .ok (.newarray .int, 2) := by decide +kernel
theorem dX5_init_9 : decode cX5_init 9 = .ok (.putfield 11, 3) := by decide +kernel
theorem dX5_init_12 : decode cX5_init 12 = .ok (.aload_n 0, 1) := by decide +kernel
theorem dX5_init_13 : decode cX5_init 13 = .ok (.bipush 100, 2) := by decide +kernel
theorem dX5_init_15 : decode cX5_init 15 = .ok (.newarray .int, 2) := by decide +kernel
theorem dX5_init_17 : decode cX5_init 17 = .ok (.putfield 15, 3) := by decide +kernel
theorem dX5_init_20 : decode cX5_init 20 = .ok (.aload_n 0, 1) := by decide +kernel
theorem dX5_init_21 : decode cX5_init 21 = .ok (.bipush 100, 2) := by decide +kernel
theorem dX5_init_23 : decode cX5_init 23 = .ok (.newarray .int, 2) := by decide +kernel
theorem dX5_init_25 : decode cX5_init 25 = .ok (.putfield 18, 3) := by decide +kernel
theorem dX5_init_28 : decode cX5_init 28 = .ok (.aload_n 0, 1) := by decide +kernel
theorem dX5_init_29 : decode cX5_init 29 = .ok (.bipush 100, 2) := by decide +kernel
theorem dX5_init_31 : decode cX5_init 31 = .ok (.newarray .int, 2) := by decide +kernel
theorem dX5_init_33 : decode cX5_init 33 = .ok (.putfield 21, 3) := by decide +kernel
theorem dX5_init_36 : decode cX5_init 36 = .ok (.return_, 1) := by decide +kernel
theorem dX5_append_0 : decode cX5_append 0 = .ok (.iload_n 1, 1) := by decide +kernel
theorem dX5_append_1 : decode cX5_append 1 = .ok (.iconst 0, 1) := by decide +kernel
theorem dX5_append_2 : decode cX5_append 2 = .ok (.sipush 255, 3) := by decide +kernel
theorem dX5_append_5 : decode cX5_append 5 = .ok (.invokestatic 24, 3) := by decide +kernel
theorem dX5_append_8 : decode cX5_append 8 = .ok (.ifCond .ne 6, 3) := by decide +kernel
theorem dX5_append_11 : decode cX5_append 11 = .ok (.bipush (-3), 2) := by decide +kernel
theorem dX5_append_13 : decode cX5_append 13 = .ok (.ireturn, 1) := by decide +kernel
theorem dX5_append_14 : decode cX5_append 14 = .ok (.aload_n 0, 1) := by decide +kernel
theorem dX5_append_15 : decode cX5_append 15 = .ok (.getfield 28, 3) := by decide +kernel
theorem dX5_append_18 : decode cX5_append 18 = .ok (.bipush 100, 2) := by decide +kernel
theorem dX5_append_20 : decode cX5_append 20 = .ok (.if_icmp .lt 6, 3) := by decide +kernel
theorem dX5_append_23 : decode cX5_append 23 = .ok (.bipush (-5), 2) := by decide +kernel
theorem dX5_append_25 : decode cX5_append 25 = .ok (.ireturn, 1) := by decide +kernel
theorem dX5_append_26 : decode cX5_append 26 = .ok (.aload_n 0, 1) := by decide +kernel
theorem dX5_append_27 : decode cX5_append 27 = .ok (.getfield 11, 3) := by decide +kernel
theorem dX5_append_30 : decode cX5_append 30 = .ok (.aload_n 0, 1) := by decide +kernel
theorem dX5_append_31 : decode cX5_append 31 = .ok (.getfield 28, 3) := by decide +kernel
theorem dX5_append_34 : decode cX5_append 34 = .ok (.iload_n 1, 1) := by decide +kernel
theorem dX5_append_35 : decode cX5_append 35 = .ok (.iastore, 1) := by decide +kernel
theorem dX5_append_36 : decode cX5_append 36 = .ok (.aload_n 0, 1) := by decide +kernel
theorem dX5_append_37 : decode cX5_append 37 = .ok (.dup, 1) := by decide +kernel
theorem dX5_append_38 : decode cX5_append 38 = .ok (.getfield 28, 3) := by decide +kernel
theorem dX5_append_41 : decode cX5_append 41 = .ok (.iconst 1, 1) := by decide +kernel
theorem dX5_append_42 : decode cX5_append 42 = .ok (.iadd, 1) := by decide +kernel
theorem dX5_append_43 : decode cX5_append 43 = .ok (.putfield 28, 3) := by decide +kernel
theorem dX5_append_46 : decode cX5_append 46 = .ok (.aload_n 0, 1) := by decide +kernel
theorem dX5_append_47 : decode cX5_append 47 = .ok (.getfield 28, 3) := by decide +kernel
theorem dX5_append_50 : decode cX5_append 50 = .ok (.ireturn, 1) := by decide +kernel
theorem dX5_empty_0 : decode cX5_empty 0 = .ok (.aload_n 0, 1) := by decide +kernel
theorem dX5_empty_1 : decode cX5_empty 1 = .ok (.getfield 28, 3) := by decide +kernel
theorem dX5_empty_4 : decode cX5_empty 4 = .ok (.istore_n 1, 1) := by decide +kernel
theorem dX5_empty_5 : decode cX5_empty 5 = .ok (.aload_n 0, 1) := by decide +kernel
theorem dX5_empty_6 : decode cX5_empty 6 = .ok (.iconst 0, 1) := by decide +kernel
theorem dX5_empty_7 : decode cX5_empty 7 = .ok (.putfield 28, 3) := by decide +kernel
theorem dX5_empty_10 : decode cX5_empty 10 = .ok (.iload_n 1, 1) := by decide +kernel
theorem dX5_empty_11 : decode cX5_empty 11 = .ok (.ireturn, 1) := by decide +kernel
theorem dX5_scan_0 : decode cX5_scan 0 = .ok (.aload_n 0, 1) := by decide +kernel
theorem dX5_scan_1 : decode cX5_scan 1 = .ok (.iconst 0, 1) := by decide +kernel
theorem dX5_scan_2 : decode cX5_scan 2 = .ok (.putfield 32, 3) := by decide +kernel
theorem dX5_scan_5 : decode cX5_scan 5 = .ok (.aload_n 0, 1) := by decide +kernel
theorem dX5_scan_6 : decode cX5_scan 6 = .ok (.iconst (-1), 1) := by decide +kernel
theorem dX5_scan_7 : decode cX5_scan 7 = .ok (.putfield 35, 3) := by decide +kernel
theorem dX5_scan_10 : decode cX5_scan 10 = .ok (.aload_n 0, 1) := by decide +kernel
theorem dX5_scan_11 : decode cX5_scan 11 = .ok (.iconst 0, 1) := by decide +kernel
theorem dX5_scan_12 : decode cX5_scan 12 = .ok (.putfield 38, 3) := by decide +kernel
theorem dX5_scan_15 : decode cX5_scan 15 = .ok (.iconst 1, 1) := by decide +kernel
theorem dX5_scan_16 : decode cX5_scan 16 = .ok (.istore_n 1, 1) := by decide +kernel
theorem dX5_scan_17 : decode cX5_scan 17 = .ok (.iconst 0, 1) := by decide +kernel
theorem dX5_scan_18 : decode cX5_scan 18 = .ok (.istore_n 2, 1) := by decide +kernel
theorem dX5_scan_19 : decode cX5_scan 19 = .ok (.iload_n 2, 1) := by decide +kernel
theorem dX5_scan_20 : decode cX5_scan 20 = .ok (.bipush 100, 2) := by decide +kernel
theorem dX5_scan_22 : decode cX5_scan 22 = .ok (.if_icmp .ge 39, 3) := by decide +kernel
theorem dX5_scan_25 : decode cX5_scan 25 = .ok (.iload_n 1, 1) := by decide +kernel
theorem dX5_scan_26 : decode cX5_scan 26 = .ok (.ifCond .eq 35, 3) := by decide +kernel
theorem dX5_scan_29 : decode cX5_scan 29 = .ok (.aload_n 0, 1) := by decide +kernel
theorem dX5_scan_30 : decode cX5_scan 30 = .ok (.iload_n 2, 1) := by decide +kernel
theorem dX5_scan_31 : decode cX5_scan 31 = .ok (.invokevirtual 41, 3) := by decide +kernel
theorem dX5_scan_34 : decode cX5_scan 34 = .ok (.aload_n 0, 1) := by decide +kernel
theorem dX5_scan_35 : decode cX5_scan 35 = .ok (.getfield 35, 3) := by decide +kernel
theorem dX5_scan_38 : decode cX5_scan 38 = .ok (.iconst (-1), 1) := by decide +kernel
theorem dX5_scan_39 : decode cX5_scan 39 = .ok (.if_icmp .ne 14, 3) := by decide +kernel
theorem dX5_scan_42 : decode cX5_scan 42 = .ok (.aload_n 0, 1) := by decide +kernel
theorem dX5_scan_43 : decode cX5_scan 43 = .ok (.invokevirtual 45, 3) := by decide +kernel
theorem dX5_scan_46 : decode cX5_scan 46 = .ok (.ifCond .eq 7, 3) := by decide +kernel
theorem dX5_scan_49 : decode cX5_scan 49 = .ok (.iconst 1, 1) := by decide +kernel
theorem dX5_scan_50 : decode cX5_scan 50 = .ok (.goto 4, 3) := by decide +kernel
theorem dX5_scan_53 : decode cX5_scan 53 = .ok (.iconst 0, 1) := by decide +kernel
theorem dX5_scan_54 : decode cX5_scan 54 = .ok (.istore_n 1, 1) := by decide +kernel
theorem dX5_scan_55 : decode cX5_scan 55 = .ok (.iinc 2 1, 3) := by decide +kernel
theorem dX5_scan_58 : decode cX5_scan 58 = .ok (.goto (-39), 3) := by decide +kernel
theorem dX5_scan_61 : decode cX5_scan 61 = .ok (.aload_n 0, 1) := by decide +kernel
theorem dX5_scan_62 : decode cX5_scan 62 = .ok (.getfield 35, 3) := by decide +kernel
theorem dX5_scan_65 : decode cX5_scan 65 = .ok (.ireturn, 1) := by decide +kernel
theorem dX5_readOrder_0 : decode cX5_readOrder 0 = .ok (.aload_n 0, 1) := by decide +kernel
theorem dX5_readOrder_1 : decode cX5_readOrder 1 = .ok (.invokevirtual 49, 3) := by decide +kernel
theorem dX5_readOrder_4 : decode cX5_readOrder 4 = .ok (.aload_n 0, 1) := by decide +kernel
theorem dX5_readOrder_5 : decode cX5_readOrder 5 = .ok (.getfield 32, 3) := by decide +kernel
theorem dX5_readOrder_8 : decode cX5_readOrder 8 = .ok (.aload_n 0, 1) := by decide +kernel
theorem dX5_readOrder_9 : decode cX5_readOrder 9 = .ok (.getfield 28, 3) := by decide +kernel
theorem dX5_readOrder_12 : decode cX5_readOrder 12 = .ok (.if_icmp .ge 18, 3) := by decide +kernel
theorem dX5_readOrder_15 : decode cX5_readOrder 15 = .ok (.aload_n 0, 1) := by decide +kernel
theorem dX5_readOrder_16 : decode cX5_readOrder 16 = .ok (.getfield 11, 3) := by decide +kernel
theorem dX5_readOrder_19 : decode cX5_readOrder 19 = .ok (.aload_n 0, 1) := by decide +kernel
theorem dX5_readOrder_20 : decode cX5_readOrder 20 = .ok (.getfield 32, 3) := by decide +kernel
theorem dX5_readOrder_23 : decode cX5_readOrder 23 = .ok (.iaload, 1) := by decide +kernel
theorem dX5_readOrder_24 : decode cX5_readOrder 24 = .ok (.invokestatic 52, 3) := by decide +kernel
theorem dX5_readOrder_27 : decode cX5_readOrder 27 = .ok (.goto 4, 3) := by decide +kernel
theorem dX5_readOrder_30 : decode cX5_readOrder 30 = .ok (.iconst 0, 1) := by decide +kernel
theorem dX5_readOrder_31 : decode cX5_readOrder 31 = .ok (.istore_n 2, 1) := by decide +kernel
theorem dX5_readOrder_32 : decode cX5_readOrder 32 = .ok (.iload_n 2, 1) := by decide +kernel
theorem dX5_readOrder_33 : decode cX5_readOrder 33 = .ok (.ifCond .ne 12, 3) := by decide +kernel
theorem dX5_readOrder_36 : decode cX5_readOrder 36 = .ok (.aload_n 0, 1) := by decide +kernel
theorem dX5_readOrder_37 : decode cX5_readOrder 37 = .ok (.aload_n 0, 1) := by decide +kernel
theorem dX5_readOrder_38 : decode cX5_readOrder 38 = .ok (.getfield 32, 3) := by decide +kernel
theorem dX5_readOrder_41 : decode cX5_readOrder 41 = .ok (.putfield 35, 3) := by decide +kernel
theorem dX5_readOrder_44 : decode cX5_readOrder 44 = .ok (.return_, 1) := by decide +kernel
theorem dX5_readOrder_45 : decode cX5_readOrder 45 = .ok (.aload_n 0, 1) := by decide +kernel
theorem dX5_readOrder_46 : decode cX5_readOrder 46 = .ok (.getfield 15, 3) := by decide +kernel
theorem dX5_readOrder_49 : decode cX5_readOrder 49 = .ok (.iload_n 1, 1) := by decide +kernel
theorem dX5_readOrder_50 : decode cX5_readOrder 50 = .ok (.aload_n 0, 1) := by decide +kernel
theorem dX5_readOrder_51 : decode cX5_readOrder 51 = .ok (.getfield 11, 3) := by decide +kernel
theorem dX5_readOrder_54 : decode cX5_readOrder 54 = .ok (.aload_n 0, 1) := by decide +kernel
theorem dX5_readOrder_55 : decode cX5_readOrder 55 = .ok (.getfield 32, 3) := by decide +kernel
theorem dX5_readOrder_58 : decode cX5_readOrder 58 = .ok (.iaload, 1) := by decide +kernel
theorem dX5_readOrder_59 : decode cX5_readOrder 59 = .ok (.iastore, 1) := by decide +kernel
theorem dX5_readOrder_60 : decode cX5_readOrder 60 = .ok (.aload_n 0, 1) := by decide +kernel
theorem dX5_readOrder_61 : decode cX5_readOrder 61 = .ok (.dup, 1) := by decide +kernel
theorem dX5_readOrder_62 : decode cX5_readOrder 62 = .ok (.getfield 32, 3) := by decide +kernel
theorem dX5_readOrder_65 : decode cX5_readOrder 65 = .ok (.iconst 1, 1) := by decide +kernel
theorem dX5_readOrder_66 : decode cX5_readOrder 66 = .ok (.iadd, 1) := by decide +kernel
theorem dX5_readOrder_67 : decode cX5_readOrder 67 = .ok (.putfield 32, 3) := by decide +kernel
theorem dX5_readOrder_70 : decode cX5_readOrder 70 = .ok (.aload_n 0, 1) := by decide +kernel
theorem dX5_readOrder_71 : decode cX5_readOrder 71 = .ok (.getfield 18, 3) := by decide +kernel
theorem dX5_readOrder_74 : decode cX5_readOrder 74 = .ok (.iload_n 1, 1) := by decide +kernel
theorem dX5_readOrder_75 : decode cX5_readOrder 75 = .ok (.aload_n 0, 1) := by decide +kernel
theorem dX5_readOrder_76 : decode cX5_readOrder 76 = .ok (.invokevirtual 56, 3) := by decide +kernel
theorem dX5_readOrder_79 : decode cX5_readOrder 79 = .ok (.iastore, 1) := by decide +kernel
theorem dX5_readOrder_80 : decode cX5_readOrder 80 = .ok (.aload_n 0, 1) := by decide +kernel
theorem dX5_readOrder_81 : decode cX5_readOrder 81 = .ok (.getfield 21, 3) := by decide +kernel
theorem dX5_readOrder_84 : decode cX5_readOrder 84 = .ok (.iload_n 1, 1) := by decide +kernel
theorem dX5_readOrder_85 : decode cX5_readOrder 85 = .ok (.iload_n 2, 1) := by decide +kernel
theorem dX5_readOrder_86 : decode cX5_readOrder 86 = .ok (.iconst 2, 1) := by decide +kernel
theorem dX5_readOrder_87 : decode cX5_readOrder 87 = .ok (.if_icmp .ne 18, 3) := by decide +kernel
theorem dX5_readOrder_90 : decode cX5_readOrder 90 = .ok (.aload_n 0, 1) := by decide +kernel
theorem dX5_readOrder_91 : decode cX5_readOrder 91 = .ok (.getfield 35, 3) := by decide +kernel
theorem dX5_readOrder_94 : decode cX5_readOrder 94 = .ok (.iconst (-1), 1) := by decide +kernel
theorem dX5_readOrder_95 : decode cX5_readOrder 95 = .ok (.if_icmp .ne 10, 3) := by decide +kernel
theorem dX5_readOrder_98 : decode cX5_readOrder 98 = .ok (.aload_n 0, 1) := by decide +kernel
theorem dX5_readOrder_99 : decode cX5_readOrder 99 = .ok (.invokevirtual 56, 3) := by decide +kernel
theorem dX5_readOrder_102 : decode cX5_readOrder 102 = .ok (.goto 4, 3) := by decide +kernel
theorem dX5_readOrder_105 : decode cX5_readOrder 105 = .ok (.iconst (-1), 1) := by decide +kernel
theorem dX5_readOrder_106 : decode cX5_readOrder 106 = .ok (.iastore, 1) := by decide +kernel
theorem dX5_readOrder_107 : decode cX5_readOrder 107 = .ok (.aload_n 0, 1) := by decide +kernel
theorem dX5_readOrder_108 : decode cX5_readOrder 108 = .ok (.iload_n 1, 1) := by decide +kernel
theorem dX5_readOrder_109 : decode cX5_readOrder 109 = .ok (.iconst 1, 1) := by decide +kernel
theorem dX5_readOrder_110 : decode cX5_readOrder 110 = .ok (.iadd, 1) := by decide +kernel
theorem dX5_readOrder_111 : decode cX5_readOrder 111 = .ok (.putfield 38, 3) := by decide +kernel
theorem dX5_readOrder_114 : decode cX5_readOrder 114 = .ok (.return_, 1) := by decide +kernel
theorem dX5_readSemicolon_0 : decode cX5_readSemicolon 0 = .ok (.aload_n 0, 1) := by decide +kernel
theorem dX5_readSemicolon_1 : decode cX5_readSemicolon 1 = .ok (.invokevirtual 49, 3) := by decide +kernel
theorem dX5_readSemicolon_4 : decode cX5_readSemicolon 4 = .ok (.aload_n 0, 1) := by decide +kernel
theorem dX5_readSemicolon_5 : decode cX5_readSemicolon 5 = .ok (.getfield 32, 3) := by decide +kernel
theorem dX5_readSemicolon_8 : decode cX5_readSemicolon 8 = .ok (.aload_n 0, 1) := by decide +kernel
theorem dX5_readSemicolon_9 : decode cX5_readSemicolon 9 = .ok (.getfield 28, 3) := by decide +kernel
theorem dX5_readSemicolon_12 : decode cX5_readSemicolon 12 = .ok (.if_icmp .ne 5, 3) := by decide +kernel
theorem dX5_readSemicolon_15 : decode cX5_readSemicolon 15 = .ok (.iconst 0, 1) := by decide +kernel
theorem dX5_readSemicolon_16 : decode cX5_readSemicolon 16 = .ok (.ireturn, 1) := by decide +kernel
theorem dX5_readSemicolon_17 : decode cX5_readSemicolon 17 = .ok (.aload_n 0, 1) := by decide +kernel
theorem dX5_readSemicolon_18 : decode cX5_readSemicolon 18 = .ok (.getfield 11, 3) := by decide +kernel
theorem dX5_readSemicolon_21 : decode cX5_readSemicolon 21 = .ok (.aload_n 0, 1) := by decide +kernel
theorem dX5_readSemicolon_22 : decode cX5_readSemicolon 22 = .ok (.getfield 32, 3) := by decide +kernel
theorem dX5_readSemicolon_25 : decode cX5_readSemicolon 25 = .ok (.iaload, 1) := by decide +kernel
theorem dX5_readSemicolon_26 : decode cX5_readSemicolon 26 = .ok (.bipush 59, 2) := by decide +kernel
theorem dX5_readSemicolon_28 : decode cX5_readSemicolon 28 = .ok (.if_icmp .eq 13, 3) := by decide +kernel
theorem dX5_readSemicolon_31 : decode cX5_readSemicolon 31 = .ok (.aload_n 0, 1) := by decide +kernel
theorem dX5_readSemicolon_32 : decode cX5_readSemicolon 32 = .ok (.aload_n 0, 1) := by decide +kernel
theorem dX5_readSemicolon_33 : decode cX5_readSemicolon 33 = .ok (.getfield 32, 3) := by decide +kernel
theorem dX5_readSemicolon_36 : decode cX5_readSemicolon 36 = .ok (.putfield 35, 3) := by decide +kernel
theorem dX5_readSemicolon_39 : decode cX5_readSemicolon 39 = .ok (.iconst 0, 1) := by decide +kernel
theorem dX5_readSemicolon_40 : decode cX5_readSemicolon 40 = .ok (.ireturn, 1) := by decide +kernel
theorem dX5_readSemicolon_41 : decode cX5_readSemicolon 41 = .ok (.aload_n 0, 1) := by decide +kernel
theorem dX5_readSemicolon_42 : decode cX5_readSemicolon 42 = .ok (.dup, 1) := by decide +kernel
theorem dX5_readSemicolon_43 : decode cX5_readSemicolon 43 = .ok (.getfield 32, 3) := by decide +kernel
theorem dX5_readSemicolon_46 : decode cX5_readSemicolon 46 = .ok (.iconst 1, 1) := by decide +kernel
theorem dX5_readSemicolon_47 : decode cX5_readSemicolon 47 = .ok (.iadd, 1) := by decide +kernel
theorem dX5_readSemicolon_48 : decode cX5_readSemicolon 48 = .ok (.putfield 32, 3) := by decide +kernel
theorem dX5_readSemicolon_51 : decode cX5_readSemicolon 51 = .ok (.iconst 1, 1) := by decide +kernel
theorem dX5_readSemicolon_52 : decode cX5_readSemicolon 52 = .ok (.ireturn, 1) := by decide +kernel
theorem dX5_readNumber_0 : decode cX5_readNumber 0 = .ok (.aload_n 0, 1) := by decide +kernel
theorem dX5_readNumber_1 : decode cX5_readNumber 1 = .ok (.invokevirtual 49, 3) := by decide +kernel
theorem dX5_readNumber_4 : decode cX5_readNumber 4 = .ok (.aload_n 0, 1) := by decide +kernel
theorem dX5_readNumber_5 : decode cX5_readNumber 5 = .ok (.getfield 32, 3) := by decide +kernel
theorem dX5_readNumber_8 : decode cX5_readNumber 8 = .ok (.istore_n 1, 1) := by decide +kernel
theorem dX5_readNumber_9 : decode cX5_readNumber 9 = .ok (.iconst 0, 1) := by decide +kernel
theorem dX5_readNumber_10 : decode cX5_readNumber 10 = .ok (.istore_n 2, 1) := by decide +kernel
theorem dX5_readNumber_11 : decode cX5_readNumber 11 = .ok (.aload_n 0, 1) := by decide +kernel
theorem dX5_readNumber_12 : decode cX5_readNumber 12 = .ok (.getfield 32, 3) := by decide +kernel
theorem dX5_readNumber_15 : decode cX5_readNumber 15 = .ok (.aload_n 0, 1) := by decide +kernel
theorem dX5_readNumber_16 : decode cX5_readNumber 16 = .ok (.getfield 28, 3) := by decide +kernel
theorem dX5_readNumber_19 : decode cX5_readNumber 19 = .ok (.if_icmp .ge 56, 3) := by decide +kernel
theorem dX5_readNumber_22 : decode cX5_readNumber 22 = .ok (.aload_n 0, 1) := by decide +kernel
theorem dX5_readNumber_23 : decode cX5_readNumber 23 = .ok (.getfield 11, 3) := by decide +kernel
theorem dX5_readNumber_26 : decode cX5_readNumber 26 = .ok (.aload_n 0, 1) := by decide +kernel
theorem dX5_readNumber_27 : decode cX5_readNumber 27 = .ok (.getfield 32, 3) := by decide +kernel
theorem dX5_readNumber_30 : decode cX5_readNumber 30 = .ok (.iaload, 1) := by decide +kernel
theorem dX5_readNumber_31 : decode cX5_readNumber 31 = .ok (.bipush 48, 2) := by decide +kernel
theorem dX5_readNumber_33 : decode cX5_readNumber 33 = .ok (.bipush 57, 2) := by decide +kernel
theorem dX5_readNumber_35 : decode cX5_readNumber 35 = .ok (.invokestatic 24, 3) := by decide +kernel
theorem dX5_readNumber_38 : decode cX5_readNumber 38 = .ok (.ifCond .eq 37, 3) := by decide +kernel
theorem dX5_readNumber_41 : decode cX5_readNumber 41 = .ok (.iload_n 2, 1) := by decide +kernel
theorem dX5_readNumber_42 : decode cX5_readNumber 42 = .ok (.bipush 10, 2) := by decide +kernel
theorem dX5_readNumber_44 : decode cX5_readNumber 44 = .ok (.irem, 1) := by decide +kernel
theorem dX5_readNumber_45 : decode cX5_readNumber 45 = .ok (.bipush 10, 2) := by decide +kernel
theorem dX5_readNumber_47 : decode cX5_readNumber 47 = .ok (.imul, 1) := by decide +kernel
theorem dX5_readNumber_48 : decode cX5_readNumber 48 = .ok (.aload_n 0, 1) := by decide +kernel
theorem dX5_readNumber_49 : decode cX5_readNumber 49 = .ok (.getfield 11, 3) := by decide +kernel
theorem dX5_readNumber_52 : decode cX5_readNumber 52 = .ok (.aload_n 0, 1) := by decide +kernel
theorem dX5_readNumber_53 : decode cX5_readNumber 53 = .ok (.getfield 32, 3) := by decide +kernel
theorem dX5_readNumber_56 : decode cX5_readNumber 56 = .ok (.iaload, 1) := by decide +kernel
theorem dX5_readNumber_57 : decode cX5_readNumber 57 = .ok (.iadd, 1) := by decide +kernel
theorem dX5_readNumber_58 : decode cX5_readNumber 58 = .ok (.bipush 48, 2) := by decide +kernel
theorem dX5_readNumber_60 : decode cX5_readNumber 60 = .ok (.isub, 1) := by decide +kernel
theorem dX5_readNumber_61 : decode cX5_readNumber 61 = .ok (.istore_n 2, 1) := by decide +kernel
theorem dX5_readNumber_62 : decode cX5_readNumber 62 = .ok (.aload_n 0, 1) := by decide +kernel
theorem dX5_readNumber_63 : decode cX5_readNumber 63 = .ok (.dup, 1) := by decide +kernel
theorem dX5_readNumber_64 : decode cX5_readNumber 64 = .ok (.getfield 32, 3) := by decide +kernel
theorem dX5_readNumber_67 : decode cX5_readNumber 67 = .ok (.iconst 1, 1) := by decide +kernel
theorem dX5_readNumber_68 : decode cX5_readNumber 68 = .ok (.iadd, 1) := by decide +kernel
theorem dX5_readNumber_69 : decode cX5_readNumber 69 = .ok (.putfield 32, 3) := by decide +kernel
theorem dX5_readNumber_72 : decode cX5_readNumber 72 = .ok (.goto (-61), 3) := by decide +kernel
theorem dX5_readNumber_75 : decode cX5_readNumber 75 = .ok (.aload_n 0, 1) := by decide +kernel
theorem dX5_readNumber_76 : decode cX5_readNumber 76 = .ok (.getfield 32, 3) := by decide +kernel
theorem dX5_readNumber_79 : decode cX5_readNumber 79 = .ok (.iload_n 1, 1) := by decide +kernel
theorem dX5_readNumber_80 : decode cX5_readNumber 80 = .ok (.isub, 1) := by decide +kernel
theorem dX5_readNumber_81 : decode cX5_readNumber 81 = .ok (.iconst 1, 1) := by decide +kernel
theorem dX5_readNumber_82 : decode cX5_readNumber 82 = .ok (.iconst 2, 1) := by decide +kernel
theorem dX5_readNumber_83 : decode cX5_readNumber 83 = .ok (.invokestatic 24, 3) := by decide +kernel
theorem dX5_readNumber_86 : decode cX5_readNumber 86 = .ok (.ifCond .ne 8, 3) := by decide +kernel
theorem dX5_readNumber_89 : decode cX5_readNumber 89 = .ok (.aload_n 0, 1) := by decide +kernel
theorem dX5_readNumber_90 : decode cX5_readNumber 90 = .ok (.iload_n 1, 1) := by decide +kernel
theorem dX5_readNumber_91 : decode cX5_readNumber 91 = .ok (.putfield 35, 3) := by decide +kernel
theorem dX5_readNumber_94 : decode cX5_readNumber 94 = .ok (.iload_n 2, 1) := by decide +kernel
theorem dX5_readNumber_95 : decode cX5_readNumber 95 = .ok (.ireturn, 1) := by decide +kernel
theorem dX5_skipBlanks_0 : decode cX5_skipBlanks 0 = .ok (.aload_n 0, 1) := by decide +kernel
theorem dX5_skipBlanks_1 : decode cX5_skipBlanks 1 = .ok (.getfield 32, 3) := by decide +kernel
theorem dX5_skipBlanks_4 : decode cX5_skipBlanks 4 = .ok (.aload_n 0, 1) := by decide +kernel
theorem dX5_skipBlanks_5 : decode cX5_skipBlanks 5 = .ok (.getfield 28, 3) := by decide +kernel
theorem dX5_skipBlanks_8 : decode cX5_skipBlanks 8 = .ok (.if_icmp .ge 30, 3) := by decide +kernel
theorem dX5_skipBlanks_11 : decode cX5_skipBlanks 11 = .ok (.aload_n 0, 1) := by decide +kernel
theorem dX5_skipBlanks_12 : decode cX5_skipBlanks 12 = .ok (.getfield 11, 3) := by decide +kernel
theorem dX5_skipBlanks_15 : decode cX5_skipBlanks 15 = .ok (.aload_n 0, 1) := by decide +kernel
theorem dX5_skipBlanks_16 : decode cX5_skipBlanks 16 = .ok (.getfield 32, 3) := by decide +kernel
theorem dX5_skipBlanks_19 : decode cX5_skipBlanks 19 = .ok (.iaload, 1) := by decide +kernel
theorem dX5_skipBlanks_20 : decode cX5_skipBlanks 20 = .ok (.bipush 32, 2) := by decide +kernel
theorem dX5_skipBlanks_22 : decode cX5_skipBlanks 22 = .ok (.if_icmp .ne 16, 3) := by decide +kernel
theorem dX5_skipBlanks_25 : decode cX5_skipBlanks 25 = .ok (.aload_n 0, 1) := by decide +kernel
theorem dX5_skipBlanks_26 : decode cX5_skipBlanks 26 = .ok (.dup, 1) := by decide +kernel
theorem dX5_skipBlanks_27 : decode cX5_skipBlanks 27 = .ok (.getfield 32, 3) := by decide +kernel
theorem dX5_skipBlanks_30 : decode cX5_skipBlanks 30 = .ok (.iconst 1, 1) := by decide +kernel
theorem dX5_skipBlanks_31 : decode cX5_skipBlanks 31 = .ok (.iadd, 1) := by decide +kernel
theorem dX5_skipBlanks_32 : decode cX5_skipBlanks 32 = .ok (.putfield 32, 3) := by decide +kernel
theorem dX5_skipBlanks_35 : decode cX5_skipBlanks 35 = .ok (.goto (-35), 3) := by decide +kernel
theorem dX5_skipBlanks_38 : decode cX5_skipBlanks 38 = .ok (.return_, 1) := by decide +kernel
theorem dX5_numbersAfter_0 : decode cX5_numbersAfter 0 = .ok (.iload_n 0, 1) := by decide +kernel
theorem dX5_numbersAfter_1 : decode cX5_numbersAfter 1 = .ok (.tableswitch 83 70 85 #[81, 83, 83, 83, 83, 83, 79, 79, 83, 83, 83, 83, 79, 83, 81, 81], 79) := by decide +kernel
theorem dX5_numbersAfter_80 : decode cX5_numbersAfter 80 = .ok (.iconst 2, 1) := by decide +kernel
theorem dX5_numbersAfter_81 : decode cX5_numbersAfter 81 = .ok (.ireturn, 1) := by decide +kernel
theorem dX5_numbersAfter_82 : decode cX5_numbersAfter 82 = .ok (.iconst 1, 1) := by decide +kernel
theorem dX5_numbersAfter_83 : decode cX5_numbersAfter 83 = .ok (.ireturn, 1) := by decide +kernel
theorem dX5_numbersAfter_84 : decode cX5_numbersAfter 84 = .ok (.iconst 0, 1) := by decide +kernel
theorem dX5_numbersAfter_85 : decode cX5_numbersAfter 85 = .ok (.ireturn, 1) := by decide +kernel
theorem dX6_init_0 : decode cX6_init 0 = .ok (.aload_n 0, 1) := by decide +kernel
theorem dX6_init_1 : decode cX6_init 1 = .ok (.invokespecial 3, 3) := by decide +kernel
theorem dX6_init_4 : decode cX6_init 4 = .ok (.aload_n 0, 1) := by decide +kernel
theorem dX6_init_5 : decode cX6_init 5 = .ok (.bipush 20, 2) := by decide +kernel
theorem dX6_init_7 : decode cX6_init 7 = .ok (.newarray .int, 2) := by decide +kernel
theorem dX6_init_9 : decode cX6_init 9 = .ok (.putfield 9, 3) := by decide +kernel
theorem dX6_init_12 : decode cX6_init 12 = .ok (.aload_n 0, 1) := by decide +kernel
theorem dX6_init_13 : decode cX6_init 13 = .ok (.bipush 20, 2) := by decide +kernel
theorem dX6_init_15 : decode cX6_init 15 = .ok (.newarray .int, 2) := by decide +kernel
theorem dX6_init_17 : decode cX6_init 17 = .ok (.putfield 15, 3) := by decide +kernel
theorem dX6_init_20 : decode cX6_init 20 = .ok (.aload_n 0, 1) := by decide +kernel
theorem dX6_init_21 : decode cX6_init 21 = .ok (.bipush 20, 2) := by decide +kernel
theorem dX6_init_23 : decode cX6_init 23 = .ok (.newarray .int, 2) := by decide +kernel
theorem dX6_init_25 : decode cX6_init 25 = .ok (.putfield 18, 3) := by decide +kernel
theorem dX6_init_28 : decode cX6_init 28 = .ok (.aload_n 0, 1) := by decide +kernel
theorem dX6_init_29 : decode cX6_init 29 = .ok (.bipush 20, 2) := by decide +kernel
theorem dX6_init_31 : decode cX6_init 31 = .ok (.newarray .int, 2) := by decide +kernel
theorem dX6_init_33 : decode cX6_init 33 = .ok (.putfield 21, 3) := by decide +kernel
theorem dX6_init_36 : decode cX6_init 36 = .ok (.aload_n 0, 1) := by decide +kernel
theorem dX6_init_37 : decode cX6_init 37 = .ok (.bipush 20, 2) := by decide +kernel
theorem dX6_init_39 : decode cX6_init 39 = .ok (.newarray .float, 2) := by decide +kernel
theorem dX6_init_41 : decode cX6_init 41 = .ok (.putfield 24, 3) := by decide +kernel
theorem dX6_init_44 : decode cX6_init 44 = .ok (.aload_n 0, 1) := by decide +kernel
theorem dX6_init_45 : decode cX6_init 45 = .ok (.bipush 20, 2) := by decide +kernel
theorem dX6_init_47 : decode cX6_init 47 = .ok (.newarray .int, 2) := by decide +kernel
theorem dX6_init_49 : decode cX6_init 49 = .ok (.putfield 28, 3) := by decide +kernel
theorem dX6_init_52 : decode cX6_init 52 = .ok (.aload_n 0, 1) := by decide +kernel
theorem dX6_init_53 : decode cX6_init 53 = .ok (.bipush 20, 2) := by decide +kernel
theorem dX6_init_55 : decode cX6_init 55 = .ok (.newarray .int, 2) := by decide +kernel
theorem dX6_init_57 : decode cX6_init 57 = .ok (.putfield 31, 3) := by decide +kernel
theorem dX6_init_60 : decode cX6_init 60 = .ok (.aload_n 0, 1) := by decide +kernel
theorem dX6_init_61 : decode cX6_init 61 = .ok (.bipush 20, 2) := by decide +kernel
theorem dX6_init_63 : decode cX6_init 63 = .ok (.newarray .int, 2) := by decide +kernel
theorem dX6_init_65 : decode cX6_init 65 = .ok (.putfield 34, 3) := by decide +kernel
theorem dX6_init_68 : decode cX6_init 68 = .ok (.aload_n 0, 1) := by decide +kernel
theorem dX6_init_69 : decode cX6_init 69 = .ok (.bipush 20, 2) := by decide +kernel
theorem dX6_init_71 : decode cX6_init 71 = .ok (.newarray .int, 2) := by decide +kernel
theorem dX6_init_73 : decode cX6_init 73 = .ok (.putfield 37, 3) := by decide +kernel
theorem dX6_init_76 : decode cX6_init 76 = .ok (.aload_n 0, 1) := by decide +kernel
theorem dX6_init_77 : decode cX6_init 77 = .ok (.bipush 20, 2) := by decide +kernel
theorem dX6_init_79 : decode cX6_init 79 = .ok (.newarray .float, 2) := by decide +kernel
theorem dX6_init_81 : decode cX6_init 81 = .ok (.putfield 40, 3) := by decide +kernel
theorem dX6_init_84 : decode cX6_init 84 = .ok (.iconst 0, 1) := by decide +kernel
theorem dX6_init_85 : decode cX6_init 85 = .ok (.istore_n 1, 1) := by decide +kernel
theorem dX6_init_86 : decode cX6_init 86 = .ok (.iload_n 1, 1) := by decide +kernel
theorem dX6_init_87 : decode cX6_init 87 = .ok (.bipush 20, 2) := by decide +kernel
theorem dX6_init_89 : decode cX6_init 89 = .ok (.if_icmp .ge 16, 3) := by decide +kernel
theorem dX6_init_92 : decode cX6_init 92 = .ok (.aload_n 0, 1) := by decide +kernel
theorem dX6_init_93 : decode cX6_init 93 = .ok (.getfield 34, 3) := by decide +kernel
theorem dX6_init_96 : decode cX6_init 96 = .ok (.iload_n 1, 1) := by decide +kernel
theorem dX6_init_97 : decode cX6_init 97 = .ok (.iconst (-1), 1) := by decide +kernel
theorem dX6_init_98 : decode cX6_init 98 = .ok (.iastore, 1) := by decide +kernel
theorem dX6_init_99 : decode cX6_init 99 = .ok (.iinc 1 1, 3) := by decide +kernel
theorem dX6_init_102 : decode cX6_init 102 = .ok (.goto (-16), 3) := by decide +kernel
theorem dX6_init_105 : decode cX6_init 105 = .ok (.return_, 1) := by decide +kernel
theorem dX6_copyFrom_0 : decode cX6_copyFrom 0 = .ok (.aload_n 0, 1) := by decide +kernel
theorem dX6_copyFrom_1 : decode cX6_copyFrom 1 = .ok (.aload_n 1, 1) := by decide +kernel
theorem dX6_copyFrom_2 : decode cX6_copyFrom 2 = .ok (.getfield 43, 3) := by decide +kernel
theorem dX6_copyFrom_5 : decode cX6_copyFrom 5 = .ok (.putfield 43, 3) := by decide +kernel
theorem dX6_copyFrom_8 : decode cX6_copyFrom 8 = .ok (.aload_n 0, 1) := by decide +kernel
theorem dX6_copyFrom_9 : decode cX6_copyFrom 9 = .ok (.aload_n 1, 1) := by decide +kernel
theorem dX6_copyFrom_10 : decode cX6_copyFrom 10 = .ok (.getfield 47, 3) := by decide +kernel
theorem dX6_copyFrom_13 : decode cX6_copyFrom 13 = .ok (.putfield 47, 3) := by decide +kernel
theorem dX6_copyFrom_16 : decode cX6_copyFrom 16 = .ok (.aload_n 1, 1) := by decide +kernel
theorem dX6_copyFrom_17 : decode cX6_copyFrom 17 = .ok (.getfield 9, 3) := by decide +kernel
theorem dX6_copyFrom_20 : decode cX6_copyFrom 20 = .ok (.iconst 0, 1) := by decide +kernel
theorem dX6_copyFrom_21 : decode cX6_copyFrom 21 = .ok (.aload_n 0, 1) := by decide +kernel
theorem dX6_copyFrom_22 : decode cX6_copyFrom 22 = .ok (.getfield 9, 3) := by decide +kernel
theorem dX6_copyFrom_25 : decode cX6_copyFrom 25 = .ok (.iconst 0, 1) := by decide +kernel
theorem dX6_copyFrom_26 : decode cX6_copyFrom 26 = .ok (.bipush 20, 2) := by decide +kernel
theorem dX6_copyFrom_28 : decode cX6_copyFrom 28 = .ok (.invokestatic 50, 3) := by decide +kernel
theorem dX6_copyFrom_31 : decode cX6_copyFrom 31 = .ok (.aload_n 1, 1) := by decide +kernel
theorem dX6_copyFrom_32 : decode cX6_copyFrom 32 = .ok (.getfield 15, 3) := by decide +kernel
theorem dX6_copyFrom_35 : decode cX6_copyFrom 35 = .ok (.iconst 0, 1) := by decide +kernel
theorem dX6_copyFrom_36 : decode cX6_copyFrom 36 = .ok (.aload_n 0, 1) := by decide +kernel
theorem dX6_copyFrom_37 : decode cX6_copyFrom 37 = .ok (.getfield 15, 3) := by decide +kernel
theorem dX6_copyFrom_40 : decode cX6_copyFrom 40 = .ok (.iconst 0, 1) := by decide +kernel
theorem dX6_copyFrom_41 : decode cX6_copyFrom 41 = .ok (.bipush 20, 2) := by decide +kernel
theorem dX6_copyFrom_43 : decode cX6_copyFrom 43 = .ok (.invokestatic 50, 3) := by decide +kernel
theorem dX6_copyFrom_46 : decode cX6_copyFrom 46 = .ok (.aload_n 1, 1) := by decide +kernel
theorem dX6_copyFrom_47 : decode cX6_copyFrom 47 = .ok (.getfield 18, 3) := by decide +kernel
theorem dX6_copyFrom_50 : decode cX6_copyFrom 50 = .ok (.iconst 0, 1) := by decide +kernel
theorem dX6_copyFrom_51 : decode cX6_copyFrom 51 = .ok (.aload_n 0, 1) := by decide +kernel
theorem dX6_copyFrom_52 : decode cX6_copyFrom 52 = .ok (.getfield 18, 3) := by decide +kernel
theorem dX6_copyFrom_55 : decode cX6_copyFrom 55 = .ok (.iconst 0, 1) := by decide +kernel
theorem dX6_copyFrom_56 : decode cX6_copyFrom 56 = .ok (.bipush 20, 2) := by decide +kernel
theorem dX6_copyFrom_58 : decode cX6_copyFrom 58 = .ok (.invokestatic 50, 3) := by decide +kernel
theorem dX6_copyFrom_61 : decode cX6_copyFrom 61 = .ok (.aload_n 1, 1) := by decide +kernel
theorem dX6_copyFrom_62 : decode cX6_copyFrom 62 = .ok (.getfield 21, 3) := by decide +kernel
theorem dX6_copyFrom_65 : decode cX6_copyFrom 65 = .ok (.iconst 0, 1) := by decide +kernel
theorem dX6_copyFrom_66 : decode cX6_copyFrom 66 = .ok (.aload_n 0, 1) := by decide +kernel
theorem dX6_copyFrom_67 : decode cX6_copyFrom 67 = .ok (.getfield 21, 3) := by decide +kernel
theorem dX6_copyFrom_70 : decode cX6_copyFrom 70 = .ok (.iconst 0, 1) := by decide +kernel
theorem dX6_copyFrom_71 : decode cX6_copyFrom 71 = .ok (.bipush 20, 2) := by decide +kernel
theorem dX6_copyFrom_73 : decode cX6_copyFrom 73 = .ok (.invokestatic 50, 3) := by decide +kernel
theorem dX6_copyFrom_76 : decode cX6_copyFrom 76 = .ok (.aload_n 1, 1) := by decide +kernel
theorem dX6_copyFrom_77 : decode cX6_copyFrom 77 = .ok (.getfield 24, 3) := by decide +kernel
theorem dX6_copyFrom_80 : decode cX6_copyFrom 80 = .ok (.iconst 0, 1) := by decide +kernel
theorem dX6_copyFrom_81 : decode cX6_copyFrom 81 = .ok (.aload_n 0, 1) := by decide +kernel
theorem dX6_copyFrom_82 : decode cX6_copyFrom 82 = .ok (.getfield 24, 3) := by decide +kernel
theorem dX6_copyFrom_85 : decode cX6_copyFrom 85 = .ok (.iconst 0, 1) := by decide +kernel
theorem dX6_copyFrom_86 : decode cX6_copyFrom 86 = .ok (.bipush 20, 2) := by decide +kernel
theorem dX6_copyFrom_88 : decode cX6_copyFrom 88 = .ok (.invokestatic 50, 3) := by decide +kernel
theorem dX6_copyFrom_91 : decode cX6_copyFrom 91 = .ok (.aload_n 1, 1) := by decide +kernel
theorem dX6_copyFrom_92 : decode cX6_copyFrom 92 = .ok (.getfield 28, 3) := by decide +kernel
theorem dX6_copyFrom_95 : decode cX6_copyFrom 95 = .ok (.iconst 0, 1) := by decide +kernel
theorem dX6_copyFrom_96 : decode cX6_copyFrom 96 = .ok (.aload_n 0, 1) := by decide +kernel
theorem dX6_copyFrom_97 : decode cX6_copyFrom 97 = .ok (.getfield 28, 3) := by decide +kernel
theorem dX6_copyFrom_100 : decode cX6_copyFrom 100 = .ok (.iconst 0, 1) := by decide +kernel
theorem dX6_copyFrom_101 : decode cX6_copyFrom 101 = .ok (.bipush 20, 2) := by decide +kernel
theorem dX6_copyFrom_103 : decode cX6_copyFrom 103 = .ok (.invokestatic 50, 3) := by decide +kernel
theorem dX6_copyFrom_106 : decode cX6_copyFrom 106 = .ok (.aload_n 1, 1) := by decide +kernel
theorem dX6_copyFrom_107 : decode cX6_copyFrom 107 = .ok (.getfield 31, 3) := by decide +kernel
theorem dX6_copyFrom_110 : decode cX6_copyFrom 110 = .ok (.iconst 0, 1) := by decide +kernel
theorem dX6_copyFrom_111 : decode cX6_copyFrom 111 = .ok (.aload_n 0, 1) := by decide +kernel
theorem dX6_copyFrom_112 : decode cX6_copyFrom 112 = .ok (.getfield 31, 3) := by decide +kernel
theorem dX6_copyFrom_115 : decode cX6_copyFrom 115 = .ok (.iconst 0, 1) := by decide +kernel
theorem dX6_copyFrom_116 : decode cX6_copyFrom 116 = .ok (.bipush 20, 2) := by decide +kernel
theorem dX6_copyFrom_118 : decode cX6_copyFrom 118 = .ok (.invokestatic 50, 3) := by decide +kernel
theorem dX6_copyFrom_121 : decode cX6_copyFrom 121 = .ok (.aload_n 1, 1) := by decide +kernel
theorem dX6_copyFrom_122 : decode cX6_copyFrom 122 = .ok (.getfield 34, 3) := by decide +kernel
theorem dX6_copyFrom_125 : decode cX6_copyFrom 125 = .ok (.iconst 0, 1) := by decide +kernel
theorem dX6_copyFrom_126 : decode cX6_copyFrom 126 = .ok (.aload_n 0, 1) := by decide +kernel
theorem dX6_copyFrom_127 : decode cX6_copyFrom 127 = .ok (.getfield 34, 3) := by decide +kernel
theorem dX6_copyFrom_130 : decode cX6_copyFrom 130 = .ok (.iconst 0, 1) := by decide +kernel
theorem dX6_copyFrom_131 : decode cX6_copyFrom 131 = .ok (.bipush 20, 2) := by decide +kernel
theorem dX6_copyFrom_133 : decode cX6_copyFrom 133 = .ok (.invokestatic 50, 3) := by decide +kernel
theorem dX6_copyFrom_136 : decode cX6_copyFrom 136 = .ok (.aload_n 1, 1) := by decide +kernel
theorem dX6_copyFrom_137 : decode cX6_copyFrom 137 = .ok (.getfield 37, 3) := by decide +kernel
theorem dX6_copyFrom_140 : decode cX6_copyFrom 140 = .ok (.iconst 0, 1) := by decide +kernel
theorem dX6_copyFrom_141 : decode cX6_copyFrom 141 = .ok (.aload_n 0, 1) := by decide +kernel
theorem dX6_copyFrom_142 : decode cX6_copyFrom 142 = .ok (.getfield 37, 3) := by decide +kernel
theorem dX6_copyFrom_145 : decode cX6_copyFrom 145 = .ok (.iconst 0, 1) := by decide +kernel
theorem dX6_copyFrom_146 : decode cX6_copyFrom 146 = .ok (.bipush 20, 2) := by decide +kernel
theorem dX6_copyFrom_148 : decode cX6_copyFrom 148 = .ok (.invokestatic 50, 3) := by decide +kernel
theorem dX6_copyFrom_151 : decode cX6_copyFrom 151 = .ok (.aload_n 1, 1) := by decide +kernel
theorem dX6_copyFrom_152 : decode cX6_copyFrom 152 = .ok (.getfield 40, 3) := by decide +kernel
theorem dX6_copyFrom_155 : decode cX6_copyFrom 155 = .ok (.iconst 0, 1) := by decide +kernel
theorem dX6_copyFrom_156 : decode cX6_copyFrom 156 = .ok (.aload_n 0, 1) := by decide +kernel
theorem dX6_copyFrom_157 : decode cX6_copyFrom 157 = .ok (.getfield 40, 3) := by decide +kernel
theorem dX6_copyFrom_160 : decode cX6_copyFrom 160 = .ok (.iconst 0, 1) := by decide +kernel
theorem dX6_copyFrom_161 : decode cX6_copyFrom 161 = .ok (.bipush 20, 2) := by decide +kernel
theorem dX6_copyFrom_163 : decode cX6_copyFrom 163 = .ok (.invokestatic 50, 3) := by decide +kernel
theorem dX6_copyFrom_166 : decode cX6_copyFrom 166 = .ok (.return_, 1) := by decide +kernel
theorem dX6_isPresent_0 : decode cX6_isPresent 0 = .ok (.iload_n 1, 1) := by decide +kernel
theorem dX6_isPresent_1 : decode cX6_isPresent 1 = .ok (.ifCond .lt 25, 3) := by decide +kernel
theorem dX6_isPresent_4 : decode cX6_isPresent 4 = .ok (.iload_n 1, 1) := by decide +kernel
theorem dX6_isPresent_5 : decode cX6_isPresent 5 = .ok (.aload_n 0, 1) := by decide +kernel
theorem dX6_isPresent_6 : decode cX6_isPresent 6 = .ok (.getfield 43, 3) := by decide +kernel
theorem dX6_isPresent_9 : decode cX6_isPresent 9 = .ok (.if_icmp .ge 17, 3) := by decide +kernel
theorem dX6_isPresent_12 : decode cX6_isPresent 12 = .ok (.aload_n 0, 1) := by decide +kernel
theorem dX6_isPresent_13 : decode cX6_isPresent 13 = .ok (.getfield 9, 3) := by decide +kernel
theorem dX6_isPresent_16 : decode cX6_isPresent 16 = .ok (.iload_n 1, 1) := by decide +kernel
theorem dX6_isPresent_17 : decode cX6_isPresent 17 = .ok (.iaload, 1) := by decide +kernel
theorem dX6_isPresent_18 : decode cX6_isPresent 18 = .ok (.iconst (-1), 1) := by decide +kernel
theorem dX6_isPresent_19 : decode cX6_isPresent 19 = .ok (.if_icmp .eq 7, 3) := by decide +kernel
theorem dX6_isPresent_22 : decode cX6_isPresent 22 = .ok (.iconst 1, 1) := by decide +kernel
theorem dX6_isPresent_23 : decode cX6_isPresent 23 = .ok (.goto 4, 3) := by decide +kernel
theorem dX6_isPresent_26 : decode cX6_isPresent 26 = .ok (.iconst 0, 1) := by decide +kernel
theorem dX6_isPresent_27 : decode cX6_isPresent 27 = .ok (.ireturn, 1) := by decide +kernel
theorem dX6_othersAt_0 : decode cX6_othersAt 0 = .ok (.iconst 0, 1) := by decide +kernel
theorem dX6_othersAt_1 : decode cX6_othersAt 1 = .ok (.istore_n 3, 1) := by decide +kernel
theorem dX6_othersAt_2 : decode cX6_othersAt 2 = .ok (.iconst 0, 1) := by decide +kernel
theorem dX6_othersAt_3 : decode cX6_othersAt 3 = .ok (.istore 4, 2) := by decide +kernel
theorem dX6_othersAt_5 : decode cX6_othersAt 5 = .ok (.iload 4, 2) := by decide +kernel
theorem dX6_othersAt_7 : decode cX6_othersAt 7 = .ok (.aload_n 0, 1) := by decide +kernel
theorem dX6_othersAt_8 : decode cX6_othersAt 8 = .ok (.getfield 43, 3) := by decide +kernel
theorem dX6_othersAt_11 : decode cX6_othersAt 11 = .ok (.if_icmp .ge 29, 3) := by decide +kernel
theorem dX6_othersAt_14 : decode cX6_othersAt 14 = .ok (.aload_n 0, 1) := by decide +kernel
theorem dX6_othersAt_15 : decode cX6_othersAt 15 = .ok (.getfield 9, 3) := by decide +kernel
theorem dX6_othersAt_18 : decode cX6_othersAt 18 = .ok (.iload 4, 2) := by decide +kernel
theorem dX6_othersAt_20 : decode cX6_othersAt 20 = .ok (.iaload, 1) := by decide +kernel
theorem dX6_othersAt_21 : decode cX6_othersAt 21 = .ok (.iload_n 1, 1) := by decide +kernel
theorem dX6_othersAt_22 : decode cX6_othersAt 22 = .ok (.if_icmp .ne 12, 3) := by decide +kernel
theorem dX6_othersAt_25 : decode cX6_othersAt 25 = .ok (.iload 4, 2) := by decide +kernel
theorem dX6_othersAt_27 : decode cX6_othersAt 27 = .ok (.iload_n 2, 1) := by decide +kernel
theorem dX6_othersAt_28 : decode cX6_othersAt 28 = .ok (.if_icmp .eq 6, 3) := by decide +kernel
theorem dX6_othersAt_31 : decode cX6_othersAt 31 = .ok (.iinc 3 1, 3) := by decide +kernel
theorem dX6_othersAt_34 : decode cX6_othersAt 34 = .ok (.iinc 4 1, 3) := by decide +kernel
theorem dX6_othersAt_37 : decode cX6_othersAt 37 = .ok (.goto (-32), 3) := by decide +kernel
theorem dX6_othersAt_40 : decode cX6_othersAt 40 = .ok (.iload_n 3, 1) := by decide +kernel
theorem dX6_othersAt_41 : decode cX6_othersAt 41 = .ok (.ireturn, 1) := by decide +kernel
theorem dX6_speakers_0 : decode cX6_speakers 0 = .ok (.iconst 0, 1) := by decide +kernel
theorem dX6_speakers_1 : decode cX6_speakers 1 = .ok (.istore_n 1, 1) := by decide +kernel
theorem dX6_speakers_2 : decode cX6_speakers 2 = .ok (.iconst 0, 1) := by decide +kernel
theorem dX6_speakers_3 : decode cX6_speakers 3 = .ok (.istore_n 2, 1) := by decide +kernel
theorem dX6_speakers_4 : decode cX6_speakers 4 = .ok (.iload_n 2, 1) := by decide +kernel
theorem dX6_speakers_5 : decode cX6_speakers 5 = .ok (.aload_n 0, 1) := by decide +kernel
theorem dX6_speakers_6 : decode cX6_speakers 6 = .ok (.getfield 43, 3) := by decide +kernel
theorem dX6_speakers_9 : decode cX6_speakers 9 = .ok (.if_icmp .ge 22, 3) := by decide +kernel
theorem dX6_speakers_12 : decode cX6_speakers 12 = .ok (.aload_n 0, 1) := by decide +kernel
theorem dX6_speakers_13 : decode cX6_speakers 13 = .ok (.getfield 34, 3) := by decide +kernel
theorem dX6_speakers_16 : decode cX6_speakers 16 = .ok (.iload_n 2, 1) := by decide +kernel
theorem dX6_speakers_17 : decode cX6_speakers 17 = .ok (.iaload, 1) := by decide +kernel
theorem dX6_speakers_18 : decode cX6_speakers 18 = .ok (.iconst (-1), 1) := by decide +kernel
theorem dX6_speakers_19 : decode cX6_speakers 19 = .ok (.if_icmp .eq 6, 3) := by decide +kernel
theorem dX6_speakers_22 : decode cX6_speakers 22 = .ok (.iinc 1 1, 3) := by decide +kernel
theorem dX6_speakers_25 : decode cX6_speakers 25 = .ok (.iinc 2 1, 3) := by decide +kernel
theorem dX6_speakers_28 : decode cX6_speakers 28 = .ok (.goto (-24), 3) := by decide +kernel
theorem dX6_speakers_31 : decode cX6_speakers 31 = .ok (.iload_n 1, 1) := by decide +kernel
theorem dX6_speakers_32 : decode cX6_speakers 32 = .ok (.ireturn, 1) := by decide +kernel
theorem dX6_add_0 : decode cX6_add 0 = .ok (.aload_n 0, 1) := by decide +kernel
theorem dX6_add_1 : decode cX6_add 1 = .ok (.getfield 43, 3) := by decide +kernel
theorem dX6_add_4 : decode cX6_add 4 = .ok (.istore_n 3, 1) := by decide +kernel
theorem dX6_add_5 : decode cX6_add 5 = .ok (.aload_n 0, 1) := by decide +kernel
theorem dX6_add_6 : decode cX6_add 6 = .ok (.getfield 9, 3) := by decide +kernel
theorem dX6_add_9 : decode cX6_add 9 = .ok (.iload_n 3, 1) := by decide +kernel
theorem dX6_add_10 : decode cX6_add 10 = .ok (.iload_n 1, 1) := by decide +kernel
theorem dX6_add_11 : decode cX6_add 11 = .ok (.iastore, 1) := by decide +kernel
theorem dX6_add_12 : decode cX6_add 12 = .ok (.aload_n 0, 1) := by decide +kernel
theorem dX6_add_13 : decode cX6_add 13 = .ok (.getfield 15, 3) := by decide +kernel
theorem dX6_add_16 : decode cX6_add 16 = .ok (.iload_n 3, 1) := by decide +kernel
theorem dX6_add_17 : decode cX6_add 17 = .ok (.iload_n 2, 1) := by decide +kernel
theorem dX6_add_18 : decode cX6_add 18 = .ok (.iastore, 1) := by decide +kernel
theorem dX6_add_19 : decode cX6_add 19 = .ok (.aload_n 0, 1) := by decide +kernel
theorem dX6_add_20 : decode cX6_add 20 = .ok (.dup, 1) := by decide +kernel
theorem dX6_add_21 : decode cX6_add 21 = .ok (.getfield 43, 3) := by decide +kernel
theorem dX6_add_24 : decode cX6_add 24 = .ok (.iconst 1, 1) := by decide +kernel
theorem dX6_add_25 : decode cX6_add 25 = .ok (.iadd, 1) := by decide +kernel
theorem dX6_add_26 : decode cX6_add 26 = .ok (.putfield 43, 3) := by decide +kernel
theorem dX6_add_29 : decode cX6_add 29 = .ok (.aload_n 0, 1) := by decide +kernel
theorem dX6_add_30 : decode cX6_add 30 = .ok (.dup, 1) := by decide +kernel
theorem dX6_add_31 : decode cX6_add 31 = .ok (.getfield 47, 3) := by decide +kernel
theorem dX6_add_34 : decode cX6_add 34 = .ok (.iconst 1, 1) := by decide +kernel
theorem dX6_add_35 : decode cX6_add 35 = .ok (.iadd, 1) := by decide +kernel
theorem dX6_add_36 : decode cX6_add 36 = .ok (.putfield 47, 3) := by decide +kernel
theorem dX6_add_39 : decode cX6_add 39 = .ok (.iload_n 3, 1) := by decide +kernel
theorem dX6_add_40 : decode cX6_add 40 = .ok (.ireturn, 1) := by decide +kernel
theorem dX6_updateLoudness_0 : decode cX6_updateLoudness 0 = .ok (.iconst 0, 1) := by decide +kernel
theorem dX6_updateLoudness_1 : decode cX6_updateLoudness 1 = .ok (.istore_n 2, 1) := by decide +kernel
theorem dX6_updateLoudness_2 : decode cX6_updateLoudness 2 = .ok (.iload_n 2, 1) := by decide +kernel
theorem dX6_updateLoudness_3 : decode cX6_updateLoudness 3 = .ok (.aload_n 0, 1) := by decide +kernel
theorem dX6_updateLoudness_4 : decode cX6_updateLoudness 4 = .ok (.getfield 43, 3) := by decide +kernel
theorem dX6_updateLoudness_7 : decode cX6_updateLoudness 7 = .ok (.if_icmp .ge 98, 3) := by decide +kernel
theorem dX6_updateLoudness_10 : decode cX6_updateLoudness 10 = .ok (.aload_n 0, 1) := by decide +kernel
theorem dX6_updateLoudness_11 : decode cX6_updateLoudness 11 = .ok (.getfield 9, 3) := by decide +kernel
theorem dX6_updateLoudness_14 : decode cX6_updateLoudness 14 = .ok (.iload_n 2, 1) := by decide +kernel
theorem dX6_updateLoudness_15 : decode cX6_updateLoudness 15 = .ok (.iaload, 1) := by decide +kernel
theorem dX6_updateLoudness_16 : decode cX6_updateLoudness 16 = .ok (.iconst (-1), 1) := by decide +kernel
theorem dX6_updateLoudness_17 : decode cX6_updateLoudness 17 = .ok (.if_icmp .eq 82, 3) := by decide +kernel
theorem dX6_updateLoudness_20 : decode cX6_updateLoudness 20 = .ok (.aload_n 0, 1) := by decide +kernel
theorem dX6_updateLoudness_21 : decode cX6_updateLoudness 21 = .ok (.iload_n 2, 1) := by decide +kernel
theorem dX6_updateLoudness_22 : decode cX6_updateLoudness 22 = .ok (.invokevirtual 56, 3) := by decide +kernel
theorem dX6_updateLoudness_25 : decode cX6_updateLoudness 25 = .ok (.fstore_n 3, 1) := by decide +kernel
theorem dX6_updateLoudness_26 : decode cX6_updateLoudness 26 = .ok (.fload_n 3, 1) := by decide +kernel
theorem dX6_updateLoudness_27 : decode cX6_updateLoudness 27 = .ok (.aload_n 0, 1) := by decide +kernel
theorem dX6_updateLoudness_28 : decode cX6_updateLoudness 28 = .ok (.getfield 24, 3) := by decide +kernel
theorem dX6_updateLoudness_31 : decode cX6_updateLoudness 31 = .ok (.iload_n 2, 1) := by decide +kernel
theorem dX6_updateLoudness_32 : decode cX6_updateLoudness 32 = .ok (.faload, 1) := by decide +kernel
theorem dX6_updateLoudness_33 : decode cX6_updateLoudness 33 = .ok (.fcmp .l, 1) := by decide +kernel
theorem dX6_updateLoudness_34 : decode cX6_updateLoudness 34 = .ok (.ifCond .le 8, 3) := by decide +kernel
theorem dX6_updateLoudness_37 : decode cX6_updateLoudness 37 = .ok (.ldc 60, 2) := by decide +kernel
theorem dX6_updateLoudness_39 : decode cX6_updateLoudness 39 = .ok (.goto 5, 3) := by decide +kernel
theorem dX6_updateLoudness_42 : decode cX6_updateLoudness 42 = .ok (.ldc 61, 2) := by decide +kernel
theorem dX6_updateLoudness_44 : decode cX6_updateLoudness 44 = .ok (.fstore 4, 2) := by decide +kernel
theorem dX6_updateLoudness_46 : decode cX6_updateLoudness 46 = .ok (.aload_n 0, 1) := by decide +kernel
theorem dX6_updateLoudness_47 : decode cX6_updateLoudness 47 = .ok (.getfield 24, 3) := by decide +kernel
theorem dX6_updateLoudness_50 : decode cX6_updateLoudness 50 = .ok (.iload_n 2, 1) := by decide +kernel
theorem dX6_updateLoudness_51 : decode cX6_updateLoudness 51 = .ok (.aload_n 0, 1) := by decide +kernel
theorem dX6_updateLoudness_52 : decode cX6_updateLoudness 52 = .ok (.getfield 24, 3) := by decide +kernel
theorem dX6_updateLoudness_55 : decode cX6_updateLoudness 55 = .ok (.iload_n 2, 1) := by decide +kernel
theorem dX6_updateLoudness_56 : decode cX6_updateLoudness 56 = .ok (.faload, 1) := by decide +kernel
theorem dX6_updateLoudness_57 : decode cX6_updateLoudness 57 = .ok (.fload_n 3, 1) := by decide +kernel
theorem dX6_updateLoudness_58 : decode cX6_updateLoudness 58 = .ok (.aload_n 0, 1) := by decide +kernel
theorem dX6_updateLoudness_59 : decode cX6_updateLoudness 59 = .ok (.getfield 24, 3) := by decide +kernel
theorem dX6_updateLoudness_62 : decode cX6_updateLoudness 62 = .ok (.iload_n 2, 1) := by decide +kernel
theorem dX6_updateLoudness_63 : decode cX6_updateLoudness 63 = .ok (.faload, 1) := by decide +kernel
theorem dX6_updateLoudness_64 : decode cX6_updateLoudness 64 = .ok (.fsub, 1) := by decide +kernel
theorem dX6_updateLoudness_65 : decode cX6_updateLoudness 65 = .ok (.fload 4, 2) := by decide +kernel
theorem dX6_updateLoudness_67 : decode cX6_updateLoudness 67 = .ok (.fmul, 1) := by decide +kernel
theorem dX6_updateLoudness_68 : decode cX6_updateLoudness 68 = .ok (.fadd, 1) := by decide +kernel
theorem dX6_updateLoudness_69 : decode cX6_updateLoudness 69 = .ok (.fastore, 1) := by decide +kernel
theorem dX6_updateLoudness_70 : decode cX6_updateLoudness 70 = .ok (.aload_n 0, 1) := by decide +kernel
theorem dX6_updateLoudness_71 : decode cX6_updateLoudness 71 = .ok (.getfield 28, 3) := by decide +kernel
theorem dX6_updateLoudness_74 : decode cX6_updateLoudness 74 = .ok (.iload_n 2, 1) := by decide +kernel
theorem dX6_updateLoudness_75 : decode cX6_updateLoudness 75 = .ok (.aload_n 0, 1) := by decide +kernel
theorem dX6_updateLoudness_76 : decode cX6_updateLoudness 76 = .ok (.getfield 24, 3) := by decide +kernel
theorem dX6_updateLoudness_79 : decode cX6_updateLoudness 79 = .ok (.iload_n 2, 1) := by decide +kernel
theorem dX6_updateLoudness_80 : decode cX6_updateLoudness 80 = .ok (.faload, 1) := by decide +kernel
theorem dX6_updateLoudness_81 : decode cX6_updateLoudness 81 = .ok (.fload_n 1, 1) := by decide +kernel
theorem dX6_updateLoudness_82 : decode cX6_updateLoudness 82 = .ok (.fcmp .g, 1) := by decide +kernel
theorem dX6_updateLoudness_83 : decode cX6_updateLoudness 83 = .ok (.ifCond .ge 14, 3) := by decide +kernel
theorem dX6_updateLoudness_86 : decode cX6_updateLoudness 86 = .ok (.aload_n 0, 1) := by decide +kernel
theorem dX6_updateLoudness_87 : decode cX6_updateLoudness 87 = .ok (.getfield 28, 3) := by decide +kernel
theorem dX6_updateLoudness_90 : decode cX6_updateLoudness 90 = .ok (.iload_n 2, 1) := by decide +kernel
theorem dX6_updateLoudness_91 : decode cX6_updateLoudness 91 = .ok (.iaload, 1) := by decide +kernel
theorem dX6_updateLoudness_92 : decode cX6_updateLoudness 92 = .ok (.iconst 1, 1) := by decide +kernel
theorem dX6_updateLoudness_93 : decode cX6_updateLoudness 93 = .ok (.iadd, 1) := by decide +kernel
theorem dX6_updateLoudness_94 : decode cX6_updateLoudness 94 = .ok (.goto 4, 3) := by decide +kernel
theorem dX6_updateLoudness_97 : decode cX6_updateLoudness 97 = .ok (.iconst 0, 1) := by decide +kernel
theorem dX6_updateLoudness_98 : decode cX6_updateLoudness 98 = .ok (.iastore, 1) := by decide +kernel
theorem dX6_updateLoudness_99 : decode cX6_updateLoudness 99 = .ok (.iinc 2 1, 3) := by decide +kernel
theorem dX6_updateLoudness_102 : decode cX6_updateLoudness 102 = .ok (.goto (-100), 3) := by decide +kernel
theorem dX6_updateLoudness_105 : decode cX6_updateLoudness 105 = .ok (.return_, 1) := by decide +kernel
theorem dX6_powerOf_0 : decode cX6_powerOf 0 = .ok (.aload_n 0, 1) := by decide +kernel
theorem dX6_powerOf_1 : decode cX6_powerOf 1 = .ok (.getfield 21, 3) := by decide +kernel
theorem dX6_powerOf_4 : decode cX6_powerOf 4 = .ok (.iload_n 1, 1) := by decide +kernel
theorem dX6_powerOf_5 : decode cX6_powerOf 5 = .ok (.iaload, 1) := by decide +kernel
theorem dX6_powerOf_6 : decode cX6_powerOf 6 = .ok (.iconst 1, 1) := by decide +kernel
theorem dX6_powerOf_7 : decode cX6_powerOf 7 = .ok (.if_icmp .eq 12, 3) := by decide +kernel
theorem dX6_powerOf_10 : decode cX6_powerOf 10 = .ok (.aload_n 0, 1) := by decide +kernel
theorem dX6_powerOf_11 : decode cX6_powerOf 11 = .ok (.getfield 18, 3) := by decide +kernel
theorem dX6_powerOf_14 : decode cX6_powerOf 14 = .ok (.iload_n 1, 1) := by decide +kernel
theorem dX6_powerOf_15 : decode cX6_powerOf 15 = .ok (.iaload, 1) := by decide +kernel
theorem dX6_powerOf_16 : decode cX6_powerOf 16 = .ok (.ifCond .ne 7, 3) := by decide +kernel
theorem dX6_powerOf_19 : decode cX6_powerOf 19 = .ok (.fconst 0, 1) := by decide +kernel
theorem dX6_powerOf_20 : decode cX6_powerOf 20 = .ok (.goto 12, 3) := by decide +kernel
theorem dX6_powerOf_23 : decode cX6_powerOf 23 = .ok (.aload_n 0, 1) := by decide +kernel
theorem dX6_powerOf_24 : decode cX6_powerOf 24 = .ok (.getfield 18, 3) := by decide +kernel
theorem dX6_powerOf_27 : decode cX6_powerOf 27 = .ok (.iload_n 1, 1) := by decide +kernel
theorem dX6_powerOf_28 : decode cX6_powerOf 28 = .ok (.iaload, 1) := by decide +kernel
theorem dX6_powerOf_29 : decode cX6_powerOf 29 = .ok (.invokestatic 62, 3) := by decide +kernel
theorem dX6_powerOf_32 : decode cX6_powerOf 32 = .ok (.freturn, 1) := by decide +kernel
theorem dX7_selectAll_0 : decode cX7_selectAll 0 = .ok (.iconst 0, 1) := by decide +kernel
theorem dX7_selectAll_1 : decode cX7_selectAll 1 = .ok (.istore_n 1, 1) := by decide +kernel
theorem dX7_selectAll_2 : decode cX7_selectAll 2 = .ok (.iload_n 1, 1) := by decide +kernel
theorem dX7_selectAll_3 : decode cX7_selectAll 3 = .ok (.aload_n 0, 1) := by decide +kernel
theorem dX7_selectAll_4 : decode cX7_selectAll 4 = .ok (.getfield 9, 3) := by decide +kernel
theorem dX7_selectAll_7 : decode cX7_selectAll 7 = .ok (.getfield 15, 3) := by decide +kernel
theorem dX7_selectAll_10 : decode cX7_selectAll 10 = .ok (.if_icmp .ge 34, 3) := by decide +kernel
theorem dX7_selectAll_13 : decode cX7_selectAll 13 = .ok (.aload_n 0, 1) := by decide +kernel
theorem dX7_selectAll_14 : decode cX7_selectAll 14 = .ok (.iload_n 1, 1) := by decide +kernel
theorem dX7_selectAll_15 : decode cX7_selectAll 15 = .ok (.invokestatic 21, 3) := by decide +kernel
theorem dX7_selectAll_18 : decode cX7_selectAll 18 = .ok (.aload_n 0, 1) := by decide +kernel
theorem dX7_selectAll_19 : decode cX7_selectAll 19 = .ok (.iload_n 1, 1) := by decide +kernel
theorem dX7_selectAll_20 : decode cX7_selectAll 20 = .ok (.invokestatic 27, 3) := by decide +kernel
theorem dX7_selectAll_23 : decode cX7_selectAll 23 = .ok (.aload_n 0, 1) := by decide +kernel
theorem dX7_selectAll_24 : decode cX7_selectAll 24 = .ok (.iload_n 1, 1) := by decide +kernel
theorem dX7_selectAll_25 : decode cX7_selectAll 25 = .ok (.invokestatic 30, 3) := by decide +kernel
theorem dX7_selectAll_28 : decode cX7_selectAll 28 = .ok (.aload_n 0, 1) := by decide +kernel
theorem dX7_selectAll_29 : decode cX7_selectAll 29 = .ok (.iload_n 1, 1) := by decide +kernel
theorem dX7_selectAll_30 : decode cX7_selectAll 30 = .ok (.invokestatic 33, 3) := by decide +kernel
theorem dX7_selectAll_33 : decode cX7_selectAll 33 = .ok (.aload_n 0, 1) := by decide +kernel
theorem dX7_selectAll_34 : decode cX7_selectAll 34 = .ok (.iload_n 1, 1) := by decide +kernel
theorem dX7_selectAll_35 : decode cX7_selectAll 35 = .ok (.invokestatic 36, 3) := by decide +kernel
theorem dX7_selectAll_38 : decode cX7_selectAll 38 = .ok (.iinc 1 1, 3) := by decide +kernel
theorem dX7_selectAll_41 : decode cX7_selectAll 41 = .ok (.goto (-39), 3) := by decide +kernel
theorem dX7_selectAll_44 : decode cX7_selectAll 44 = .ok (.return_, 1) := by decide +kernel
theorem dX7_dropUnfit_0 : decode cX7_dropUnfit 0 = .ok (.iconst 0, 1) := by decide +kernel
theorem dX7_dropUnfit_1 : decode cX7_dropUnfit 1 = .ok (.istore_n 2, 1) := by decide +kernel
theorem dX7_dropUnfit_2 : decode cX7_dropUnfit 2 = .ok (.iload_n 2, 1) := by decide +kernel
theorem dX7_dropUnfit_3 : decode cX7_dropUnfit 3 = .ok (.aload_n 0, 1) := by decide +kernel
theorem dX7_dropUnfit_4 : decode cX7_dropUnfit 4 = .ok (.getfield 39, 3) := by decide +kernel
theorem dX7_dropUnfit_7 : decode cX7_dropUnfit 7 = .ok (.getfield 43, 3) := by decide +kernel
theorem dX7_dropUnfit_10 : decode cX7_dropUnfit 10 = .ok (.if_icmp .ge 65, 3) := by decide +kernel
theorem dX7_dropUnfit_13 : decode cX7_dropUnfit 13 = .ok (.aload_n 0, 1) := by decide +kernel
theorem dX7_dropUnfit_14 : decode cX7_dropUnfit 14 = .ok (.iload_n 1, 1) := by decide +kernel
theorem dX7_dropUnfit_15 : decode cX7_dropUnfit 15 = .ok (.iload_n 2, 1) := by decide +kernel
theorem dX7_dropUnfit_16 : decode cX7_dropUnfit 16 = .ok (.invokestatic 48, 3) := by decide +kernel
theorem dX7_dropUnfit_19 : decode cX7_dropUnfit 19 = .ok (.ifCond .eq 22, 3) := by decide +kernel
theorem dX7_dropUnfit_22 : decode cX7_dropUnfit 22 = .ok (.aload_n 0, 1) := by decide +kernel
theorem dX7_dropUnfit_23 : decode cX7_dropUnfit 23 = .ok (.getfield 39, 3) := by decide +kernel
theorem dX7_dropUnfit_26 : decode cX7_dropUnfit 26 = .ok (.getfield 52, 3) := by decide +kernel
theorem dX7_dropUnfit_29 : decode cX7_dropUnfit 29 = .ok (.iload_n 2, 1) := by decide +kernel
theorem dX7_dropUnfit_30 : decode cX7_dropUnfit 30 = .ok (.iaload, 1) := by decide +kernel
theorem dX7_dropUnfit_31 : decode cX7_dropUnfit 31 = .ok (.aload_n 0, 1) := by decide +kernel
theorem dX7_dropUnfit_32 : decode cX7_dropUnfit 32 = .ok (.getfield 56, 3) := by decide +kernel
theorem dX7_dropUnfit_35 : decode cX7_dropUnfit 35 = .ok (.getfield 60, 3) := by decide +kernel
theorem dX7_dropUnfit_38 : decode cX7_dropUnfit 38 = .ok (.if_icmp .le 7, 3) := by decide +kernel
theorem dX7_dropUnfit_41 : decode cX7_dropUnfit 41 = .ok (.iconst 1, 1) := by decide +kernel
theorem dX7_dropUnfit_42 : decode cX7_dropUnfit 42 = .ok (.goto 4, 3) := by decide +kernel
theorem dX7_dropUnfit_45 : decode cX7_dropUnfit 45 = .ok (.iconst 0, 1) := by decide +kernel
theorem dX7_dropUnfit_46 : decode cX7_dropUnfit 46 = .ok (.istore_n 3, 1) := by decide +kernel
theorem dX7_dropUnfit_47 : decode cX7_dropUnfit 47 = .ok (.aload_n 0, 1) := by decide +kernel
theorem dX7_dropUnfit_48 : decode cX7_dropUnfit 48 = .ok (.getfield 39, 3) := by decide +kernel
theorem dX7_dropUnfit_51 : decode cX7_dropUnfit 51 = .ok (.getfield 65, 3) := by decide +kernel
theorem dX7_dropUnfit_54 : decode cX7_dropUnfit 54 = .ok (.iload_n 2, 1) := by decide +kernel
theorem dX7_dropUnfit_55 : decode cX7_dropUnfit 55 = .ok (.iaload, 1) := by decide +kernel
theorem dX7_dropUnfit_56 : decode cX7_dropUnfit 56 = .ok (.iload_n 1, 1) := by decide +kernel
theorem dX7_dropUnfit_57 : decode cX7_dropUnfit 57 = .ok (.if_icmp .ne 12, 3) := by decide +kernel
theorem dX7_dropUnfit_60 : decode cX7_dropUnfit 60 = .ok (.iload_n 3, 1) := by decide +kernel
theorem dX7_dropUnfit_61 : decode cX7_dropUnfit 61 = .ok (.ifCond .eq 8, 3) := by decide +kernel
theorem dX7_dropUnfit_64 : decode cX7_dropUnfit 64 = .ok (.aload_n 0, 1) := by decide +kernel
theorem dX7_dropUnfit_65 : decode cX7_dropUnfit 65 = .ok (.iload_n 2, 1) := by decide +kernel
theorem dX7_dropUnfit_66 : decode cX7_dropUnfit 66 = .ok (.invokestatic 68, 3) := by decide +kernel
theorem dX7_dropUnfit_69 : decode cX7_dropUnfit 69 = .ok (.iinc 2 1, 3) := by decide +kernel
theorem dX7_dropUnfit_72 : decode cX7_dropUnfit 72 = .ok (.goto (-70), 3) := by decide +kernel
theorem dX7_dropUnfit_75 : decode cX7_dropUnfit 75 = .ok (.return_, 1) := by decide +kernel
theorem dX7_dropSurplus_0 : decode cX7_dropSurplus 0 = .ok (.aload_n 0, 1) := by decide +kernel
theorem dX7_dropSurplus_1 : decode cX7_dropSurplus 1 = .ok (.iload_n 1, 1) := by decide +kernel
theorem dX7_dropSurplus_2 : decode cX7_dropSurplus 2 = .ok (.invokestatic 71, 3) := by decide +kernel
theorem dX7_dropSurplus_5 : decode cX7_dropSurplus 5 = .ok (.istore_n 2, 1) := by decide +kernel
theorem dX7_dropSurplus_6 : decode cX7_dropSurplus 6 = .ok (.iload_n 2, 1) := by decide +kernel
theorem dX7_dropSurplus_7 : decode cX7_dropSurplus 7 = .ok (.aload_n 0, 1) := by decide +kernel
theorem dX7_dropSurplus_8 : decode cX7_dropSurplus 8 = .ok (.getfield 56, 3) := by decide +kernel
theorem dX7_dropSurplus_11 : decode cX7_dropSurplus 11 = .ok (.getfield 75, 3) := by decide +kernel
theorem dX7_dropSurplus_14 : decode cX7_dropSurplus 14 = .ok (.if_icmp .le 26, 3) := by decide +kernel
theorem dX7_dropSurplus_17 : decode cX7_dropSurplus 17 = .ok (.aload_n 0, 1) := by decide +kernel
theorem dX7_dropSurplus_18 : decode cX7_dropSurplus 18 = .ok (.iload_n 1, 1) := by decide +kernel
theorem dX7_dropSurplus_19 : decode cX7_dropSurplus 19 = .ok (.invokestatic 78, 3) := by decide +kernel
theorem dX7_dropSurplus_22 : decode cX7_dropSurplus 22 = .ok (.istore_n 3, 1) := by decide +kernel
theorem dX7_dropSurplus_23 : decode cX7_dropSurplus 23 = .ok (.iload_n 3, 1) := by decide +kernel
theorem dX7_dropSurplus_24 : decode cX7_dropSurplus 24 = .ok (.iconst (-1), 1) := by decide +kernel
theorem dX7_dropSurplus_25 : decode cX7_dropSurplus 25 = .ok (.if_icmp .ne 4, 3) := by decide +kernel
theorem dX7_dropSurplus_28 : decode cX7_dropSurplus 28 = .ok (.return_, 1) := by decide +kernel
theorem dX7_dropSurplus_29 : decode cX7_dropSurplus 29 = .ok (.aload_n 0, 1) := by decide +kernel
theorem dX7_dropSurplus_30 : decode cX7_dropSurplus 30 = .ok (.iload_n 3, 1) := by decide +kernel
theorem dX7_dropSurplus_31 : decode cX7_dropSurplus 31 = .ok (.invokestatic 68, 3) := by decide +kernel
theorem dX7_dropSurplus_34 : decode cX7_dropSurplus 34 = .ok (.iinc 2 (-1), 3) := by decide +kernel
theorem dX7_dropSurplus_37 : decode cX7_dropSurplus 37 = .ok (.goto (-31), 3) := by decide +kernel
theorem dX7_dropSurplus_40 : decode cX7_dropSurplus 40 = .ok (.return_, 1) := by decide +kernel
theorem dX7_fillPlaces_0 : decode cX7_fillPlaces 0 = .ok (.aload_n 0, 1) := by decide +kernel
theorem dX7_fillPlaces_1 : decode cX7_fillPlaces 1 = .ok (.iload_n 1, 1) := by decide +kernel
theorem dX7_fillPlaces_2 : decode cX7_fillPlaces 2 = .ok (.invokestatic 71, 3) := by decide +kernel
theorem dX7_fillPlaces_5 : decode cX7_fillPlaces 5 = .ok (.istore_n 2, 1) := by decide +kernel
theorem dX7_fillPlaces_6 : decode cX7_fillPlaces 6 = .ok (.iload_n 2, 1) := by decide +kernel
theorem dX7_fillPlaces_7 : decode cX7_fillPlaces 7 = .ok (.aload_n 0, 1) := by decide +kernel
theorem dX7_fillPlaces_8 : decode cX7_fillPlaces 8 = .ok (.getfield 56, 3) := by decide +kernel
theorem dX7_fillPlaces_11 : decode cX7_fillPlaces 11 = .ok (.getfield 75, 3) := by decide +kernel
theorem dX7_fillPlaces_14 : decode cX7_fillPlaces 14 = .ok (.if_icmp .ge 27, 3) := by decide +kernel
theorem dX7_fillPlaces_17 : decode cX7_fillPlaces 17 = .ok (.aload_n 0, 1) := by decide +kernel
theorem dX7_fillPlaces_18 : decode cX7_fillPlaces 18 = .ok (.iload_n 1, 1) := by decide +kernel
theorem dX7_fillPlaces_19 : decode cX7_fillPlaces 19 = .ok (.invokestatic 81, 3) := by decide +kernel
theorem dX7_fillPlaces_22 : decode cX7_fillPlaces 22 = .ok (.istore_n 3, 1) := by decide +kernel
theorem dX7_fillPlaces_23 : decode cX7_fillPlaces 23 = .ok (.iload_n 3, 1) := by decide +kernel
theorem dX7_fillPlaces_24 : decode cX7_fillPlaces 24 = .ok (.iconst (-1), 1) := by decide +kernel
theorem dX7_fillPlaces_25 : decode cX7_fillPlaces 25 = .ok (.if_icmp .ne 4, 3) := by decide +kernel
theorem dX7_fillPlaces_28 : decode cX7_fillPlaces 28 = .ok (.return_, 1) := by decide +kernel
theorem dX7_fillPlaces_29 : decode cX7_fillPlaces 29 = .ok (.aload_n 0, 1) := by decide +kernel
theorem dX7_fillPlaces_30 : decode cX7_fillPlaces 30 = .ok (.iload_n 1, 1) := by decide +kernel
theorem dX7_fillPlaces_31 : decode cX7_fillPlaces 31 = .ok (.iload_n 3, 1) := by decide +kernel
theorem dX7_fillPlaces_32 : decode cX7_fillPlaces 32 = .ok (.invokestatic 84, 3) := by decide +kernel
theorem dX7_fillPlaces_35 : decode cX7_fillPlaces 35 = .ok (.iinc 2 1, 3) := by decide +kernel
theorem dX7_fillPlaces_38 : decode cX7_fillPlaces 38 = .ok (.goto (-32), 3) := by decide +kernel
theorem dX7_fillPlaces_41 : decode cX7_fillPlaces 41 = .ok (.return_, 1) := by decide +kernel
theorem dX7_replaceOne_0 : decode cX7_replaceOne 0 = .ok (.aload_n 0, 1) := by decide +kernel
theorem dX7_replaceOne_1 : decode cX7_replaceOne 1 = .ok (.iload_n 1, 1) := by decide +kernel
theorem dX7_replaceOne_2 : decode cX7_replaceOne 2 = .ok (.invokestatic 81, 3) := by decide +kernel
theorem dX7_replaceOne_5 : decode cX7_replaceOne 5 = .ok (.istore_n 2, 1) := by decide +kernel
theorem dX7_replaceOne_6 : decode cX7_replaceOne 6 = .ok (.aload_n 0, 1) := by decide +kernel
theorem dX7_replaceOne_7 : decode cX7_replaceOne 7 = .ok (.iload_n 1, 1) := by decide +kernel
theorem dX7_replaceOne_8 : decode cX7_replaceOne 8 = .ok (.invokestatic 78, 3) := by decide +kernel
theorem dX7_replaceOne_11 : decode cX7_replaceOne 11 = .ok (.istore_n 3, 1) := by decide +kernel
theorem dX7_replaceOne_12 : decode cX7_replaceOne 12 = .ok (.iload_n 2, 1) := by decide +kernel
theorem dX7_replaceOne_13 : decode cX7_replaceOne 13 = .ok (.iconst (-1), 1) := by decide +kernel
theorem dX7_replaceOne_14 : decode cX7_replaceOne 14 = .ok (.if_icmp .eq 8, 3) := by decide +kernel
theorem dX7_replaceOne_17 : decode cX7_replaceOne 17 = .ok (.iload_n 3, 1) := by decide +kernel
theorem dX7_replaceOne_18 : decode cX7_replaceOne 18 = .ok (.iconst (-1), 1) := by decide +kernel
theorem dX7_replaceOne_19 : decode cX7_replaceOne 19 = .ok (.if_icmp .ne 4, 3) := by decide +kernel
theorem dX7_replaceOne_22 : decode cX7_replaceOne 22 = .ok (.return_, 1) := by decide +kernel
theorem dX7_replaceOne_23 : decode cX7_replaceOne 23 = .ok (.aload_n 0, 1) := by decide +kernel
theorem dX7_replaceOne_24 : decode cX7_replaceOne 24 = .ok (.getfield 39, 3) := by decide +kernel
theorem dX7_replaceOne_27 : decode cX7_replaceOne 27 = .ok (.getfield 88, 3) := by decide +kernel
theorem dX7_replaceOne_30 : decode cX7_replaceOne 30 = .ok (.iload_n 3, 1) := by decide +kernel
theorem dX7_replaceOne_31 : decode cX7_replaceOne 31 = .ok (.faload, 1) := by decide +kernel
theorem dX7_replaceOne_32 : decode cX7_replaceOne 32 = .ok (.aload_n 0, 1) := by decide +kernel
theorem dX7_replaceOne_33 : decode cX7_replaceOne 33 = .ok (.getfield 56, 3) := by decide +kernel
theorem dX7_replaceOne_36 : decode cX7_replaceOne 36 = .ok (.getfield 92, 3) := by decide +kernel
theorem dX7_replaceOne_39 : decode cX7_replaceOne 39 = .ok (.i2f, 1) := by decide +kernel
theorem dX7_replaceOne_40 : decode cX7_replaceOne 40 = .ok (.fmul, 1) := by decide +kernel
theorem dX7_replaceOne_41 : decode cX7_replaceOne 41 = .ok (.ldc 95, 2) := by decide +kernel
theorem dX7_replaceOne_43 : decode cX7_replaceOne 43 = .ok (.fdiv, 1) := by decide +kernel
theorem dX7_replaceOne_44 : decode cX7_replaceOne 44 = .ok (.fstore 4, 2) := by decide +kernel
theorem dX7_replaceOne_46 : decode cX7_replaceOne 46 = .ok (.aload_n 0, 1) := by decide +kernel
theorem dX7_replaceOne_47 : decode cX7_replaceOne 47 = .ok (.getfield 39, 3) := by decide +kernel
theorem dX7_replaceOne_50 : decode cX7_replaceOne 50 = .ok (.getfield 88, 3) := by decide +kernel
theorem dX7_replaceOne_53 : decode cX7_replaceOne 53 = .ok (.iload_n 2, 1) := by decide +kernel
theorem dX7_replaceOne_54 : decode cX7_replaceOne 54 = .ok (.faload, 1) := by decide +kernel
theorem dX7_replaceOne_55 : decode cX7_replaceOne 55 = .ok (.fload 4, 2) := by decide +kernel
theorem dX7_replaceOne_57 : decode cX7_replaceOne 57 = .ok (.fcmp .l, 1) := by decide +kernel
theorem dX7_replaceOne_58 : decode cX7_replaceOne 58 = .ok (.ifCond .le 14, 3) := by decide +kernel
theorem dX7_replaceOne_61 : decode cX7_replaceOne 61 = .ok (.aload_n 0, 1) := by decide +kernel
theorem dX7_replaceOne_62 : decode cX7_replaceOne 62 = .ok (.iload_n 3, 1) := by decide +kernel
theorem dX7_replaceOne_63 : decode cX7_replaceOne 63 = .ok (.invokestatic 68, 3) := by decide +kernel
theorem dX7_replaceOne_66 : decode cX7_replaceOne 66 = .ok (.aload_n 0, 1) := by decide +kernel
theorem dX7_replaceOne_67 : decode cX7_replaceOne 67 = .ok (.iload_n 1, 1) := by decide +kernel
theorem dX7_replaceOne_68 : decode cX7_replaceOne 68 = .ok (.iload_n 2, 1) := by decide +kernel
theorem dX7_replaceOne_69 : decode cX7_replaceOne 69 = .ok (.invokestatic 84, 3) := by decide +kernel
theorem dX7_replaceOne_72 : decode cX7_replaceOne 72 = .ok (.return_, 1) := by decide +kernel
theorem dX7_countTalk_0 : decode cX7_countTalk 0 = .ok (.iconst 0, 1) := by decide +kernel
theorem dX7_countTalk_1 : decode cX7_countTalk 1 = .ok (.istore_n 2, 1) := by decide +kernel
theorem dX7_countTalk_2 : decode cX7_countTalk 2 = .ok (.iload_n 2, 1) := by decide +kernel
theorem dX7_countTalk_3 : decode cX7_countTalk 3 = .ok (.aload_n 0, 1) := by decide +kernel
theorem dX7_countTalk_4 : decode cX7_countTalk 4 = .ok (.getfield 39, 3) := by decide +kernel
theorem dX7_countTalk_7 : decode cX7_countTalk 7 = .ok (.getfield 43, 3) := by decide +kernel
theorem dX7_countTalk_10 : decode cX7_countTalk 10 = .ok (.if_icmp .ge 35, 3) := by decide +kernel
theorem dX7_countTalk_13 : decode cX7_countTalk 13 = .ok (.aload_n 0, 1) := by decide +kernel
theorem dX7_countTalk_14 : decode cX7_countTalk 14 = .ok (.getfield 39, 3) := by decide +kernel
theorem dX7_countTalk_17 : decode cX7_countTalk 17 = .ok (.getfield 65, 3) := by decide +kernel
theorem dX7_countTalk_20 : decode cX7_countTalk 20 = .ok (.iload_n 2, 1) := by decide +kernel
theorem dX7_countTalk_21 : decode cX7_countTalk 21 = .ok (.iaload, 1) := by decide +kernel
theorem dX7_countTalk_22 : decode cX7_countTalk 22 = .ok (.iload_n 1, 1) := by decide +kernel
theorem dX7_countTalk_23 : decode cX7_countTalk 23 = .ok (.if_icmp .ne 16, 3) := by decide +kernel
theorem dX7_countTalk_26 : decode cX7_countTalk 26 = .ok (.aload_n 0, 1) := by decide +kernel
theorem dX7_countTalk_27 : decode cX7_countTalk 27 = .ok (.getfield 39, 3) := by decide +kernel
theorem dX7_countTalk_30 : decode cX7_countTalk 30 = .ok (.getfield 96, 3) := by decide +kernel
theorem dX7_countTalk_33 : decode cX7_countTalk 33 = .ok (.iload_n 2, 1) := by decide +kernel
theorem dX7_countTalk_34 : decode cX7_countTalk 34 = .ok (.dup2, 1) := by decide +kernel
theorem dX7_countTalk_35 : decode cX7_countTalk 35 = .ok (.iaload, 1) := by decide +kernel
theorem dX7_countTalk_36 : decode cX7_countTalk 36 = .ok (.iconst 1, 1) := by decide +kernel
theorem dX7_countTalk_37 : decode cX7_countTalk 37 = .ok (.iadd, 1) := by decide +kernel
theorem dX7_countTalk_38 : decode cX7_countTalk 38 = .ok (.iastore, 1) := by decide +kernel
theorem dX7_countTalk_39 : decode cX7_countTalk 39 = .ok (.iinc 2 1, 3) := by decide +kernel
theorem dX7_countTalk_42 : decode cX7_countTalk 42 = .ok (.goto (-40), 3) := by decide +kernel
theorem dX7_countTalk_45 : decode cX7_countTalk 45 = .ok (.return_, 1) := by decide +kernel
theorem dX7_maySpeak_0 : decode cX7_maySpeak 0 = .ok (.aload_n 0, 1) := by decide +kernel
theorem dX7_maySpeak_1 : decode cX7_maySpeak 1 = .ok (.getfield 39, 3) := by decide +kernel
theorem dX7_maySpeak_4 : decode cX7_maySpeak 4 = .ok (.getfield 99, 3) := by decide +kernel
theorem dX7_maySpeak_7 : decode cX7_maySpeak 7 = .ok (.iload_n 2, 1) := by decide +kernel
theorem dX7_maySpeak_8 : decode cX7_maySpeak 8 = .ok (.iaload, 1) := by decide +kernel
theorem dX7_maySpeak_9 : decode cX7_maySpeak 9 = .ok (.iload_n 1, 1) := by decide +kernel
theorem dX7_maySpeak_10 : decode cX7_maySpeak 10 = .ok (.if_icmp .ne 42, 3) := by decide +kernel
theorem dX7_maySpeak_13 : decode cX7_maySpeak 13 = .ok (.aload_n 0, 1) := by decide +kernel
theorem dX7_maySpeak_14 : decode cX7_maySpeak 14 = .ok (.getfield 39, 3) := by decide +kernel
theorem dX7_maySpeak_17 : decode cX7_maySpeak 17 = .ok (.getfield 102, 3) := by decide +kernel
theorem dX7_maySpeak_20 : decode cX7_maySpeak 20 = .ok (.iload_n 2, 1) := by decide +kernel
theorem dX7_maySpeak_21 : decode cX7_maySpeak 21 = .ok (.iaload, 1) := by decide +kernel
theorem dX7_maySpeak_22 : decode cX7_maySpeak 22 = .ok (.ifCond .ne 30, 3) := by decide +kernel
theorem dX7_maySpeak_25 : decode cX7_maySpeak 25 = .ok (.aload_n 0, 1) := by decide +kernel
theorem dX7_maySpeak_26 : decode cX7_maySpeak 26 = .ok (.getfield 56, 3) := by decide +kernel
theorem dX7_maySpeak_29 : decode cX7_maySpeak 29 = .ok (.getfield 105, 3) := by decide +kernel
theorem dX7_maySpeak_32 : decode cX7_maySpeak 32 = .ok (.ifCond .eq 16, 3) := by decide +kernel
theorem dX7_maySpeak_35 : decode cX7_maySpeak 35 = .ok (.aload_n 0, 1) := by decide +kernel
theorem dX7_maySpeak_36 : decode cX7_maySpeak 36 = .ok (.getfield 109, 3) := by decide +kernel
theorem dX7_maySpeak_39 : decode cX7_maySpeak 39 = .ok (.getfield 113, 3) := by decide +kernel
theorem dX7_maySpeak_42 : decode cX7_maySpeak 42 = .ok (.iload_n 2, 1) := by decide +kernel
theorem dX7_maySpeak_43 : decode cX7_maySpeak 43 = .ok (.iaload, 1) := by decide +kernel
theorem dX7_maySpeak_44 : decode cX7_maySpeak 44 = .ok (.iconst 1, 1) := by decide +kernel
theorem dX7_maySpeak_45 : decode cX7_maySpeak 45 = .ok (.if_icmp .ne 7, 3) := by decide +kernel
theorem dX7_maySpeak_48 : decode cX7_maySpeak 48 = .ok (.iconst 1, 1) := by decide +kernel
theorem dX7_maySpeak_49 : decode cX7_maySpeak 49 = .ok (.goto 4, 3) := by decide +kernel
theorem dX7_maySpeak_52 : decode cX7_maySpeak 52 = .ok (.iconst 0, 1) := by decide +kernel
theorem dX7_maySpeak_53 : decode cX7_maySpeak 53 = .ok (.ireturn, 1) := by decide +kernel
theorem dX7_speakersOf_0 : decode cX7_speakersOf 0 = .ok (.iconst 0, 1) := by decide +kernel
theorem dX7_speakersOf_1 : decode cX7_speakersOf 1 = .ok (.istore_n 2, 1) := by decide +kernel
theorem dX7_speakersOf_2 : decode cX7_speakersOf 2 = .ok (.iconst 0, 1) := by decide +kernel
theorem dX7_speakersOf_3 : decode cX7_speakersOf 3 = .ok (.istore_n 3, 1) := by decide +kernel
theorem dX7_speakersOf_4 : decode cX7_speakersOf 4 = .ok (.iload_n 3, 1) := by decide +kernel
theorem dX7_speakersOf_5 : decode cX7_speakersOf 5 = .ok (.aload_n 0, 1) := by decide +kernel
theorem dX7_speakersOf_6 : decode cX7_speakersOf 6 = .ok (.getfield 39, 3) := by decide +kernel
theorem dX7_speakersOf_9 : decode cX7_speakersOf 9 = .ok (.getfield 43, 3) := by decide +kernel
theorem dX7_speakersOf_12 : decode cX7_speakersOf 12 = .ok (.if_icmp .ge 25, 3) := by decide +kernel
theorem dX7_speakersOf_15 : decode cX7_speakersOf 15 = .ok (.aload_n 0, 1) := by decide +kernel
theorem dX7_speakersOf_16 : decode cX7_speakersOf 16 = .ok (.getfield 39, 3) := by decide +kernel
theorem dX7_speakersOf_19 : decode cX7_speakersOf 19 = .ok (.getfield 65, 3) := by decide +kernel
theorem dX7_speakersOf_22 : decode cX7_speakersOf 22 = .ok (.iload_n 3, 1) := by decide +kernel
theorem dX7_speakersOf_23 : decode cX7_speakersOf 23 = .ok (.iaload, 1) := by decide +kernel
theorem dX7_speakersOf_24 : decode cX7_speakersOf 24 = .ok (.iload_n 1, 1) := by decide +kernel
theorem dX7_speakersOf_25 : decode cX7_speakersOf 25 = .ok (.if_icmp .ne 6, 3) := by decide +kernel
theorem dX7_speakersOf_28 : decode cX7_speakersOf 28 = .ok (.iinc 2 1, 3) := by decide +kernel
theorem dX7_speakersOf_31 : decode cX7_speakersOf 31 = .ok (.iinc 3 1, 3) := by decide +kernel
theorem dX7_speakersOf_34 : decode cX7_speakersOf 34 = .ok (.goto (-30), 3) := by decide +kernel
theorem dX7_speakersOf_37 : decode cX7_speakersOf 37 = .ok (.iload_n 2, 1) := by decide +kernel
theorem dX7_speakersOf_38 : decode cX7_speakersOf 38 = .ok (.ireturn, 1) := by decide +kernel
theorem dX7_quietestSpeaker_0 : decode cX7_quietestSpeaker 0 = .ok (.aload_n 0, 1) := by decide +kernel
theorem dX7_quietestSpeaker_1 : decode cX7_quietestSpeaker 1 = .ok (.getfield 39, 3) := by decide +kernel
theorem dX7_quietestSpeaker_4 : decode cX7_quietestSpeaker 4 = .ok (.getfield 88, 3) := by decide +kernel
theorem dX7_quietestSpeaker_7 : decode cX7_quietestSpeaker 7 = .ok (.astore_n 2, 1) := by decide +kernel
theorem dX7_quietestSpeaker_8 : decode cX7_quietestSpeaker 8 = .ok (.iconst (-1), 1) := by decide +kernel
theorem dX7_quietestSpeaker_9 : decode cX7_quietestSpeaker 9 = .ok (.istore_n 3, 1) := by decide +kernel
theorem dX7_quietestSpeaker_10 : decode cX7_quietestSpeaker 10 = .ok (.iconst 0, 1) := by decide +kernel
theorem dX7_quietestSpeaker_11 : decode cX7_quietestSpeaker 11 = .ok (.istore 4, 2) := by decide +kernel
theorem dX7_quietestSpeaker_13 : decode cX7_quietestSpeaker 13 = .ok (.iload 4, 2) := by decide +kernel
theorem dX7_quietestSpeaker_15 : decode cX7_quietestSpeaker 15 = .ok (.aload_n 0, 1) := by decide +kernel
theorem dX7_quietestSpeaker_16 : decode cX7_quietestSpeaker 16 = .ok (.getfield 39, 3) := by decide +kernel
theorem dX7_quietestSpeaker_19 : decode cX7_quietestSpeaker 19 = .ok (.getfield 43, 3) := by decide +kernel
theorem dX7_quietestSpeaker_22 : decode cX7_quietestSpeaker 22 = .ok (.if_icmp .ge 42, 3) := by decide +kernel
theorem dX7_quietestSpeaker_25 : decode cX7_quietestSpeaker 25 = .ok (.aload_n 0, 1) := by decide +kernel
theorem dX7_quietestSpeaker_26 : decode cX7_quietestSpeaker 26 = .ok (.getfield 39, 3) := by decide +kernel
theorem dX7_quietestSpeaker_29 : decode cX7_quietestSpeaker 29 = .ok (.getfield 65, 3) := by decide +kernel
theorem dX7_quietestSpeaker_32 : decode cX7_quietestSpeaker 32 = .ok (.iload 4, 2) := by decide +kernel
theorem dX7_quietestSpeaker_34 : decode cX7_quietestSpeaker 34 = .ok (.iaload, 1) := by decide +kernel
theorem dX7_quietestSpeaker_35 : decode cX7_quietestSpeaker 35 = .ok (.iload_n 1, 1) := by decide +kernel
theorem dX7_quietestSpeaker_36 : decode cX7_quietestSpeaker 36 = .ok (.if_icmp .ne 22, 3) := by decide +kernel
theorem dX7_quietestSpeaker_39 : decode cX7_quietestSpeaker 39 = .ok (.iload_n 3, 1) := by decide +kernel
theorem dX7_quietestSpeaker_40 : decode cX7_quietestSpeaker 40 = .ok (.iconst (-1), 1) := by decide +kernel
theorem dX7_quietestSpeaker_41 : decode cX7_quietestSpeaker 41 = .ok (.if_icmp .eq 14, 3) := by decide +kernel
theorem dX7_quietestSpeaker_44 : decode cX7_quietestSpeaker 44 = .ok (.aload_n 2, 1) := by decide +kernel
theorem dX7_quietestSpeaker_45 : decode cX7_quietestSpeaker 45 = .ok (.iload 4, 2) := by decide +kernel
theorem dX7_quietestSpeaker_47 : decode cX7_quietestSpeaker 47 = .ok (.faload, 1) := by decide +kernel
theorem dX7_quietestSpeaker_48 : decode cX7_quietestSpeaker 48 = .ok (.aload_n 2, 1) := by decide +kernel
theorem dX7_quietestSpeaker_49 : decode cX7_quietestSpeaker 49 = .ok (.iload_n 3, 1) := by decide +kernel
theorem dX7_quietestSpeaker_50 : decode cX7_quietestSpeaker 50 = .ok (.faload, 1) := by decide +kernel
theorem dX7_quietestSpeaker_51 : decode cX7_quietestSpeaker 51 = .ok (.fcmp .g, 1) := by decide +kernel
theorem dX7_quietestSpeaker_52 : decode cX7_quietestSpeaker 52 = .ok (.ifCond .gt 6, 3) := by decide +kernel
theorem dX7_quietestSpeaker_55 : decode cX7_quietestSpeaker 55 = .ok (.iload 4, 2) := by decide +kernel
theorem dX7_quietestSpeaker_57 : decode cX7_quietestSpeaker 57 = .ok (.istore_n 3, 1) := by decide +kernel
theorem dX7_quietestSpeaker_58 : decode cX7_quietestSpeaker 58 = .ok (.iinc 4 1, 3) := by decide +kernel
theorem dX7_quietestSpeaker_61 : decode cX7_quietestSpeaker 61 = .ok (.goto (-48), 3) := by decide +kernel
theorem dX7_quietestSpeaker_64 : decode cX7_quietestSpeaker 64 = .ok (.iload_n 3, 1) := by decide +kernel
theorem dX7_quietestSpeaker_65 : decode cX7_quietestSpeaker 65 = .ok (.ireturn, 1) := by decide +kernel
theorem dX7_loudestCandidate_0 : decode cX7_loudestCandidate 0 = .ok (.aload_n 0, 1) := by decide +kernel
theorem dX7_loudestCandidate_1 : decode cX7_loudestCandidate 1 = .ok (.getfield 39, 3) := by decide +kernel
theorem dX7_loudestCandidate_4 : decode cX7_loudestCandidate 4 = .ok (.getfield 88, 3) := by decide +kernel
theorem dX7_loudestCandidate_7 : decode cX7_loudestCandidate 7 = .ok (.astore_n 2, 1) := by decide +kernel
theorem dX7_loudestCandidate_8 : decode cX7_loudestCandidate 8 = .ok (.iconst (-1), 1) := by decide +kernel
theorem dX7_loudestCandidate_9 : decode cX7_loudestCandidate 9 = .ok (.istore_n 3, 1) := by decide +kernel
theorem dX7_loudestCandidate_10 : decode cX7_loudestCandidate 10 = .ok (.iconst 0, 1) := by decide +kernel
theorem dX7_loudestCandidate_11 : decode cX7_loudestCandidate 11 = .ok (.istore 4, 2) := by decide +kernel
theorem dX7_loudestCandidate_13 : decode cX7_loudestCandidate 13 = .ok (.iload 4, 2) := by decide +kernel
theorem dX7_loudestCandidate_15 : decode cX7_loudestCandidate 15 = .ok (.aload_n 0, 1) := by decide +kernel
theorem dX7_loudestCandidate_16 : decode cX7_loudestCandidate 16 = .ok (.getfield 39, 3) := by decide +kernel
theorem dX7_loudestCandidate_19 : decode cX7_loudestCandidate 19 = .ok (.getfield 43, 3) := by decide +kernel
theorem dX7_loudestCandidate_22 : decode cX7_loudestCandidate 22 = .ok (.if_icmp .ge 79, 3) := by decide +kernel
theorem dX7_loudestCandidate_25 : decode cX7_loudestCandidate 25 = .ok (.aload_n 0, 1) := by decide +kernel
theorem dX7_loudestCandidate_26 : decode cX7_loudestCandidate 26 = .ok (.getfield 39, 3) := by decide +kernel
theorem dX7_loudestCandidate_29 : decode cX7_loudestCandidate 29 = .ok (.getfield 65, 3) := by decide +kernel
theorem dX7_loudestCandidate_32 : decode cX7_loudestCandidate 32 = .ok (.iload 4, 2) := by decide +kernel
theorem dX7_loudestCandidate_34 : decode cX7_loudestCandidate 34 = .ok (.iaload, 1) := by decide +kernel
theorem dX7_loudestCandidate_35 : decode cX7_loudestCandidate 35 = .ok (.iconst (-1), 1) := by decide +kernel
theorem dX7_loudestCandidate_36 : decode cX7_loudestCandidate 36 = .ok (.if_icmp .ne 32, 3) := by decide +kernel
theorem dX7_loudestCandidate_39 : decode cX7_loudestCandidate 39 = .ok (.aload_n 2, 1) := by decide +kernel
theorem dX7_loudestCandidate_40 : decode cX7_loudestCandidate 40 = .ok (.iload 4, 2) := by decide +kernel
theorem dX7_loudestCandidate_42 : decode cX7_loudestCandidate 42 = .ok (.faload, 1) := by decide +kernel
theorem dX7_loudestCandidate_43 : decode cX7_loudestCandidate 43 = .ok (.aload_n 0, 1) := by decide +kernel
theorem dX7_loudestCandidate_44 : decode cX7_loudestCandidate 44 = .ok (.getfield 56, 3) := by decide +kernel
theorem dX7_loudestCandidate_47 : decode cX7_loudestCandidate 47 = .ok (.getfield 118, 3) := by decide +kernel
theorem dX7_loudestCandidate_50 : decode cX7_loudestCandidate 50 = .ok (.fcmp .l, 1) := by decide +kernel
theorem dX7_loudestCandidate_51 : decode cX7_loudestCandidate 51 = .ok (.ifCond .lt 17, 3) := by decide +kernel
theorem dX7_loudestCandidate_54 : decode cX7_loudestCandidate 54 = .ok (.aload_n 0, 1) := by decide +kernel
theorem dX7_loudestCandidate_55 : decode cX7_loudestCandidate 55 = .ok (.iload_n 1, 1) := by decide +kernel
theorem dX7_loudestCandidate_56 : decode cX7_loudestCandidate 56 = .ok (.iload 4, 2) := by decide +kernel
theorem dX7_loudestCandidate_58 : decode cX7_loudestCandidate 58 = .ok (.invokestatic 48, 3) := by decide +kernel
theorem dX7_loudestCandidate_61 : decode cX7_loudestCandidate 61 = .ok (.ifCond .eq 7, 3) := by decide +kernel
theorem dX7_loudestCandidate_64 : decode cX7_loudestCandidate 64 = .ok (.iconst 1, 1) := by decide +kernel
theorem dX7_loudestCandidate_65 : decode cX7_loudestCandidate 65 = .ok (.goto 4, 3) := by decide +kernel
theorem dX7_loudestCandidate_68 : decode cX7_loudestCandidate 68 = .ok (.iconst 0, 1) := by decide +kernel
theorem dX7_loudestCandidate_69 : decode cX7_loudestCandidate 69 = .ok (.istore 5, 2) := by decide +kernel
theorem dX7_loudestCandidate_71 : decode cX7_loudestCandidate 71 = .ok (.iload 5, 2) := by decide +kernel
theorem dX7_loudestCandidate_73 : decode cX7_loudestCandidate 73 = .ok (.ifCond .eq 22, 3) := by decide +kernel
theorem dX7_loudestCandidate_76 : decode cX7_loudestCandidate 76 = .ok (.iload_n 3, 1) := by decide +kernel
theorem dX7_loudestCandidate_77 : decode cX7_loudestCandidate 77 = .ok (.iconst (-1), 1) := by decide +kernel
theorem dX7_loudestCandidate_78 : decode cX7_loudestCandidate 78 = .ok (.if_icmp .eq 14, 3) := by decide +kernel
theorem dX7_loudestCandidate_81 : decode cX7_loudestCandidate 81 = .ok (.aload_n 2, 1) := by decide +kernel
theorem dX7_loudestCandidate_82 : decode cX7_loudestCandidate 82 = .ok (.iload 4, 2) := by decide +kernel
theorem dX7_loudestCandidate_84 : decode cX7_loudestCandidate 84 = .ok (.faload, 1) := by decide +kernel
theorem dX7_loudestCandidate_85 : decode cX7_loudestCandidate 85 = .ok (.aload_n 2, 1) := by decide +kernel
theorem dX7_loudestCandidate_86 : decode cX7_loudestCandidate 86 = .ok (.iload_n 3, 1) := by decide +kernel
theorem dX7_loudestCandidate_87 : decode cX7_loudestCandidate 87 = .ok (.faload, 1) := by decide +kernel
theorem dX7_loudestCandidate_88 : decode cX7_loudestCandidate 88 = .ok (.fcmp .l, 1) := by decide +kernel
theorem dX7_loudestCandidate_89 : decode cX7_loudestCandidate 89 = .ok (.ifCond .le 6, 3) := by decide +kernel
theorem dX7_loudestCandidate_92 : decode cX7_loudestCandidate 92 = .ok (.iload 4, 2) := by decide +kernel
theorem dX7_loudestCandidate_94 : decode cX7_loudestCandidate 94 = .ok (.istore_n 3, 1) := by decide +kernel
theorem dX7_loudestCandidate_95 : decode cX7_loudestCandidate 95 = .ok (.iinc 4 1, 3) := by decide +kernel
theorem dX7_loudestCandidate_98 : decode cX7_loudestCandidate 98 = .ok (.goto (-85), 3) := by decide +kernel
theorem dX7_loudestCandidate_101 : decode cX7_loudestCandidate 101 = .ok (.iload_n 3, 1) := by decide +kernel
theorem dX7_loudestCandidate_102 : decode cX7_loudestCandidate 102 = .ok (.ireturn, 1) := by decide +kernel
theorem dX7_drop_0 : decode cX7_drop 0 = .ok (.aload_n 0, 1) := by decide +kernel
theorem dX7_drop_1 : decode cX7_drop 1 = .ok (.getfield 39, 3) := by decide +kernel
theorem dX7_drop_4 : decode cX7_drop 4 = .ok (.getfield 65, 3) := by decide +kernel
theorem dX7_drop_7 : decode cX7_drop 7 = .ok (.iload_n 1, 1) := by decide +kernel
theorem dX7_drop_8 : decode cX7_drop 8 = .ok (.iconst (-1), 1) := by decide +kernel
theorem dX7_drop_9 : decode cX7_drop 9 = .ok (.iastore, 1) := by decide +kernel
theorem dX7_drop_10 : decode cX7_drop 10 = .ok (.aload_n 0, 1) := by decide +kernel
theorem dX7_drop_11 : decode cX7_drop 11 = .ok (.getfield 122, 3) := by decide +kernel
theorem dX7_drop_14 : decode cX7_drop 14 = .ok (.iconst 5, 1) := by decide +kernel
theorem dX7_drop_15 : decode cX7_drop 15 = .ok (.iload_n 1, 1) := by decide +kernel
theorem dX7_drop_16 : decode cX7_drop 16 = .ok (.aload_n 0, 1) := by decide +kernel
theorem dX7_drop_17 : decode cX7_drop 17 = .ok (.getfield 126, 3) := by decide +kernel
theorem dX7_drop_20 : decode cX7_drop 20 = .ok (.invokevirtual 129, 3) := by decide +kernel
theorem dX7_drop_23 : decode cX7_drop 23 = .ok (.return_, 1) := by decide +kernel
theorem dX7_choose_0 : decode cX7_choose 0 = .ok (.aload_n 0, 1) := by decide +kernel
theorem dX7_choose_1 : decode cX7_choose 1 = .ok (.getfield 39, 3) := by decide +kernel
theorem dX7_choose_4 : decode cX7_choose 4 = .ok (.getfield 65, 3) := by decide +kernel
theorem dX7_choose_7 : decode cX7_choose 7 = .ok (.iload_n 2, 1) := by decide +kernel
theorem dX7_choose_8 : decode cX7_choose 8 = .ok (.iload_n 1, 1) := by decide +kernel
theorem dX7_choose_9 : decode cX7_choose 9 = .ok (.iastore, 1) := by decide +kernel
theorem dX7_choose_10 : decode cX7_choose 10 = .ok (.aload_n 0, 1) := by decide +kernel
theorem dX7_choose_11 : decode cX7_choose 11 = .ok (.getfield 122, 3) := by decide +kernel
theorem dX7_choose_14 : decode cX7_choose 14 = .ok (.iconst 1, 1) := by decide +kernel
theorem dX7_choose_15 : decode cX7_choose 15 = .ok (.iload_n 2, 1) := by decide +kernel
theorem dX7_choose_16 : decode cX7_choose 16 = .ok (.aload_n 0, 1) := by decide +kernel
theorem dX7_choose_17 : decode cX7_choose 17 = .ok (.getfield 126, 3) := by decide +kernel
theorem dX7_choose_20 : decode cX7_choose 20 = .ok (.invokevirtual 129, 3) := by decide +kernel
theorem dX7_choose_23 : decode cX7_choose 23 = .ok (.return_, 1) := by decide +kernel
theorem dX8_init_0 : decode cX8_init 0 = .ok (.aload_n 0, 1) := by decide +kernel
theorem dX8_init_1 : decode cX8_init 1 = .ok (.invokespecial 3, 3) := by decide +kernel
theorem dX8_init_4 : decode cX8_init 4 = .ok (.aload_n 0, 1) := by decide +kernel
theorem dX8_init_5 : decode cX8_init 5 = .ok (.iconst 2, 1) := by decide +kernel
theorem dX8_init_6 : decode cX8_init 6 = .ok (.putfield 9, 3) := by decide +kernel
theorem dX8_init_9 : decode cX8_init 9 = .ok (.aload_n 0, 1) := by decide +kernel
theorem dX8_init_10 : decode cX8_init 10 = .ok (.bipush 10, 2) := by decide +kernel
theorem dX8_init_12 : decode cX8_init 12 = .ok (.invokestatic 15, 3) := by decide +kernel
theorem dX8_init_15 : decode cX8_init 15 = .ok (.putfield 19, 3) := by decide +kernel
theorem dX8_init_18 : decode cX8_init 18 = .ok (.aload_n 0, 1) := by decide +kernel
theorem dX8_init_19 : decode cX8_init 19 = .ok (.bipush 6, 2) := by decide +kernel
theorem dX8_init_21 : decode cX8_init 21 = .ok (.putfield 23, 3) := by decide +kernel
theorem dX8_init_24 : decode cX8_init 24 = .ok (.aload_n 0, 1) := by decide +kernel
theorem dX8_init_25 : decode cX8_init 25 = .ok (.iconst 3, 1) := by decide +kernel
theorem dX8_init_26 : decode cX8_init 26 = .ok (.putfield 26, 3) := by decide +kernel
theorem dX8_init_29 : decode cX8_init 29 = .ok (.aload_n 0, 1) := by decide +kernel
theorem dX8_init_30 : decode cX8_init 30 = .ok (.iconst 0, 1) := by decide +kernel
theorem dX8_init_31 : decode cX8_init 31 = .ok (.putfield 29, 3) := by decide +kernel
theorem dX8_init_34 : decode cX8_init 34 = .ok (.aload_n 0, 1) := by decide +kernel
theorem dX8_init_35 : decode cX8_init 35 = .ok (.iconst 1, 1) := by decide +kernel
theorem dX8_init_36 : decode cX8_init 36 = .ok (.putfield 33, 3) := by decide +kernel
theorem dX8_init_39 : decode cX8_init 39 = .ok (.aload_n 0, 1) := by decide +kernel
theorem dX8_init_40 : decode cX8_init 40 = .ok (.bipush 10, 2) := by decide +kernel
theorem dX8_init_42 : decode cX8_init 42 = .ok (.putfield 36, 3) := by decide +kernel
theorem dX8_init_45 : decode cX8_init 45 = .ok (.aload_n 0, 1) := by decide +kernel
theorem dX8_init_46 : decode cX8_init 46 = .ok (.iconst 0, 1) := by decide +kernel
theorem dX8_init_47 : decode cX8_init 47 = .ok (.putfield 39, 3) := by decide +kernel
theorem dX8_init_50 : decode cX8_init 50 = .ok (.return_, 1) := by decide +kernel
theorem dX8_copyFrom_0 : decode cX8_copyFrom 0 = .ok (.aload_n 0, 1) := by decide +kernel
theorem dX8_copyFrom_1 : decode cX8_copyFrom 1 = .ok (.aload_n 1, 1) := by decide +kernel
theorem dX8_copyFrom_2 : decode cX8_copyFrom 2 = .ok (.getfield 9, 3) := by decide +kernel
theorem dX8_copyFrom_5 : decode cX8_copyFrom 5 = .ok (.putfield 9, 3) := by decide +kernel
theorem dX8_copyFrom_8 : decode cX8_copyFrom 8 = .ok (.aload_n 0, 1) := by decide +kernel
theorem dX8_copyFrom_9 : decode cX8_copyFrom 9 = .ok (.aload_n 1, 1) := by decide +kernel
theorem dX8_copyFrom_10 : decode cX8_copyFrom 10 = .ok (.getfield 19, 3) := by decide +kernel
theorem dX8_copyFrom_13 : decode cX8_copyFrom 13 = .ok (.putfield 19, 3) := by decide +kernel
theorem dX8_copyFrom_16 : decode cX8_copyFrom 16 = .ok (.aload_n 0, 1) := by decide +kernel
theorem dX8_copyFrom_17 : decode cX8_copyFrom 17 = .ok (.aload_n 1, 1) := by decide +kernel
theorem dX8_copyFrom_18 : decode cX8_copyFrom 18 = .ok (.getfield 23, 3) := by decide +kernel
theorem dX8_copyFrom_21 : decode cX8_copyFrom 21 = .ok (.putfield 23, 3) := by decide +kernel
theorem dX8_copyFrom_24 : decode cX8_copyFrom 24 = .ok (.aload_n 0, 1) := by decide +kernel
theorem dX8_copyFrom_25 : decode cX8_copyFrom 25 = .ok (.aload_n 1, 1) := by decide +kernel
theorem dX8_copyFrom_26 : decode cX8_copyFrom 26 = .ok (.getfield 26, 3) := by decide +kernel
theorem dX8_copyFrom_29 : decode cX8_copyFrom 29 = .ok (.putfield 26, 3) := by decide +kernel
theorem dX8_copyFrom_32 : decode cX8_copyFrom 32 = .ok (.aload_n 0, 1) := by decide +kernel
theorem dX8_copyFrom_33 : decode cX8_copyFrom 33 = .ok (.aload_n 1, 1) := by decide +kernel
theorem dX8_copyFrom_34 : decode cX8_copyFrom 34 = .ok (.getfield 29, 3) := by decide +kernel
theorem dX8_copyFrom_37 : decode cX8_copyFrom 37 = .ok (.putfield 29, 3) := by decide +kernel
theorem dX8_copyFrom_40 : decode cX8_copyFrom 40 = .ok (.aload_n 0, 1) := by decide +kernel
theorem dX8_copyFrom_41 : decode cX8_copyFrom 41 = .ok (.aload_n 1, 1) := by decide +kernel
theorem dX8_copyFrom_42 : decode cX8_copyFrom 42 = .ok (.getfield 33, 3) := by decide +kernel
theorem dX8_copyFrom_45 : decode cX8_copyFrom 45 = .ok (.putfield 33, 3) := by decide +kernel
theorem dX8_copyFrom_48 : decode cX8_copyFrom 48 = .ok (.aload_n 0, 1) := by decide +kernel
theorem dX8_copyFrom_49 : decode cX8_copyFrom 49 = .ok (.aload_n 1, 1) := by decide +kernel
theorem dX8_copyFrom_50 : decode cX8_copyFrom 50 = .ok (.getfield 36, 3) := by decide +kernel
theorem dX8_copyFrom_53 : decode cX8_copyFrom 53 = .ok (.putfield 36, 3) := by decide +kernel
theorem dX8_copyFrom_56 : decode cX8_copyFrom 56 = .ok (.aload_n 0, 1) := by decide +kernel
theorem dX8_copyFrom_57 : decode cX8_copyFrom 57 = .ok (.aload_n 1, 1) := by decide +kernel
theorem dX8_copyFrom_58 : decode cX8_copyFrom 58 = .ok (.getfield 39, 3) := by decide +kernel
theorem dX8_copyFrom_61 : decode cX8_copyFrom 61 = .ok (.putfield 39, 3) := by decide +kernel
theorem dX8_copyFrom_64 : decode cX8_copyFrom 64 = .ok (.return_, 1) := by decide +kernel
theorem dX8_changeSelection_0 : decode cX8_changeSelection 0 = .ok (.iload_n 1, 1) := by decide +kernel
theorem dX8_changeSelection_1 : decode cX8_changeSelection 1 = .ok (.iconst 1, 1) := by decide +kernel
theorem dX8_changeSelection_2 : decode cX8_changeSelection 2 = .ok (.iconst 4, 1) := by decide +kernel
theorem dX8_changeSelection_3 : decode cX8_changeSelection 3 = .ok (.invokestatic 42, 3) := by decide +kernel
theorem dX8_changeSelection_6 : decode cX8_changeSelection 6 = .ok (.ifCond .eq 34, 3) := by decide +kernel
theorem dX8_changeSelection_9 : decode cX8_changeSelection 9 = .ok (.iload_n 2, 1) := by decide +kernel
theorem dX8_changeSelection_10 : decode cX8_changeSelection 10 = .ok (.iconst 1, 1) := by decide +kernel
theorem dX8_changeSelection_11 : decode cX8_changeSelection 11 = .ok (.bipush 60, 2) := by decide +kernel
theorem dX8_changeSelection_13 : decode cX8_changeSelection 13 = .ok (.invokestatic 42, 3) := by decide +kernel
theorem dX8_changeSelection_16 : decode cX8_changeSelection 16 = .ok (.ifCond .eq 24, 3) := by decide +kernel
theorem dX8_changeSelection_19 : decode cX8_changeSelection 19 = .ok (.iload_n 3, 1) := by decide +kernel
theorem dX8_changeSelection_20 : decode cX8_changeSelection 20 = .ok (.iconst 4, 1) := by decide +kernel
theorem dX8_changeSelection_21 : decode cX8_changeSelection 21 = .ok (.bipush 16, 2) := by decide +kernel
theorem dX8_changeSelection_23 : decode cX8_changeSelection 23 = .ok (.invokestatic 42, 3) := by decide +kernel
theorem dX8_changeSelection_26 : decode cX8_changeSelection 26 = .ok (.ifCond .eq 14, 3) := by decide +kernel
theorem dX8_changeSelection_29 : decode cX8_changeSelection 29 = .ok (.iload 4, 2) := by decide +kernel
theorem dX8_changeSelection_31 : decode cX8_changeSelection 31 = .ok (.iconst 0, 1) := by decide +kernel
theorem dX8_changeSelection_32 : decode cX8_changeSelection 32 = .ok (.bipush 20, 2) := by decide +kernel
theorem dX8_changeSelection_34 : decode cX8_changeSelection 34 = .ok (.invokestatic 42, 3) := by decide +kernel
theorem dX8_changeSelection_37 : decode cX8_changeSelection 37 = .ok (.ifCond .ne 6, 3) := by decide +kernel
theorem dX8_changeSelection_40 : decode cX8_changeSelection 40 = .ok (.bipush (-3), 2) := by decide +kernel
theorem dX8_changeSelection_42 : decode cX8_changeSelection 42 = .ok (.ireturn, 1) := by decide +kernel
theorem dX8_changeSelection_43 : decode cX8_changeSelection 43 = .ok (.aload_n 0, 1) := by decide +kernel
theorem dX8_changeSelection_44 : decode cX8_changeSelection 44 = .ok (.getfield 9, 3) := by decide +kernel
theorem dX8_changeSelection_47 : decode cX8_changeSelection 47 = .ok (.istore 5, 2) := by decide +kernel
theorem dX8_changeSelection_49 : decode cX8_changeSelection 49 = .ok (.aload_n 0, 1) := by decide +kernel
theorem dX8_changeSelection_50 : decode cX8_changeSelection 50 = .ok (.iload_n 1, 1) := by decide +kernel
theorem dX8_changeSelection_51 : decode cX8_changeSelection 51 = .ok (.putfield 9, 3) := by decide +kernel
theorem dX8_changeSelection_54 : decode cX8_changeSelection 54 = .ok (.aload_n 0, 1) := by decide +kernel
theorem dX8_changeSelection_55 : decode cX8_changeSelection 55 = .ok (.iload_n 2, 1) := by decide +kernel
theorem dX8_changeSelection_56 : decode cX8_changeSelection 56 = .ok (.invokestatic 15, 3) := by decide +kernel
theorem dX8_changeSelection_59 : decode cX8_changeSelection 59 = .ok (.putfield 19, 3) := by decide +kernel
theorem dX8_changeSelection_62 : decode cX8_changeSelection 62 = .ok (.aload_n 0, 1) := by decide +kernel
theorem dX8_changeSelection_63 : decode cX8_changeSelection 63 = .ok (.iload_n 3, 1) := by decide +kernel
theorem dX8_changeSelection_64 : decode cX8_changeSelection 64 = .ok (.putfield 23, 3) := by decide +kernel
theorem dX8_changeSelection_67 : decode cX8_changeSelection 67 = .ok (.aload_n 0, 1) := by decide +kernel
theorem dX8_changeSelection_68 : decode cX8_changeSelection 68 = .ok (.iload 4, 2) := by decide +kernel
theorem dX8_changeSelection_70 : decode cX8_changeSelection 70 = .ok (.putfield 26, 3) := by decide +kernel
theorem dX8_changeSelection_73 : decode cX8_changeSelection 73 = .ok (.iload 5, 2) := by decide +kernel
theorem dX8_changeSelection_75 : decode cX8_changeSelection 75 = .ok (.ireturn, 1) := by decide +kernel
theorem dX8_changeFloor_0 : decode cX8_changeFloor 0 = .ok (.iload_n 2, 1) := by decide +kernel
theorem dX8_changeFloor_1 : decode cX8_changeFloor 1 = .ok (.iconst 1, 1) := by decide +kernel
theorem dX8_changeFloor_2 : decode cX8_changeFloor 2 = .ok (.iconst 4, 1) := by decide +kernel
theorem dX8_changeFloor_3 : decode cX8_changeFloor 3 = .ok (.invokestatic 42, 3) := by decide +kernel
theorem dX8_changeFloor_6 : decode cX8_changeFloor 6 = .ok (.ifCond .eq 24, 3) := by decide +kernel
theorem dX8_changeFloor_9 : decode cX8_changeFloor 9 = .ok (.iload_n 3, 1) := by decide +kernel
theorem dX8_changeFloor_10 : decode cX8_changeFloor 10 = .ok (.iconst 1, 1) := by decide +kernel
theorem dX8_changeFloor_11 : decode cX8_changeFloor 11 = .ok (.bipush 50, 2) := by decide +kernel
theorem dX8_changeFloor_13 : decode cX8_changeFloor 13 = .ok (.invokestatic 42, 3) := by decide +kernel
theorem dX8_changeFloor_16 : decode cX8_changeFloor 16 = .ok (.ifCond .eq 14, 3) := by decide +kernel
theorem dX8_changeFloor_19 : decode cX8_changeFloor 19 = .ok (.iload 4, 2) := by decide +kernel
theorem dX8_changeFloor_21 : decode cX8_changeFloor 21 = .ok (.iconst 0, 1) := by decide +kernel
theorem dX8_changeFloor_22 : decode cX8_changeFloor 22 = .ok (.bipush 100, 2) := by decide +kernel
theorem dX8_changeFloor_24 : decode cX8_changeFloor 24 = .ok (.invokestatic 42, 3) := by decide +kernel
theorem dX8_changeFloor_27 : decode cX8_changeFloor 27 = .ok (.ifCond .ne 6, 3) := by decide +kernel
theorem dX8_changeFloor_30 : decode cX8_changeFloor 30 = .ok (.bipush (-3), 2) := by decide +kernel
theorem dX8_changeFloor_32 : decode cX8_changeFloor 32 = .ok (.ireturn, 1) := by decide +kernel
theorem dX8_changeFloor_33 : decode cX8_changeFloor 33 = .ok (.aload_n 0, 1) := by decide +kernel
theorem dX8_changeFloor_34 : decode cX8_changeFloor 34 = .ok (.getfield 29, 3) := by decide +kernel
theorem dX8_changeFloor_37 : decode cX8_changeFloor 37 = .ok (.ifCond .eq 7, 3) := by decide +kernel
theorem dX8_changeFloor_40 : decode cX8_changeFloor 40 = .ok (.iconst 1, 1) := by decide +kernel
theorem dX8_changeFloor_41 : decode cX8_changeFloor 41 = .ok (.goto 4, 3) := by decide +kernel
theorem dX8_changeFloor_44 : decode cX8_changeFloor 44 = .ok (.iconst 0, 1) := by decide +kernel
theorem dX8_changeFloor_45 : decode cX8_changeFloor 45 = .ok (.istore 5, 2) := by decide +kernel
theorem dX8_changeFloor_47 : decode cX8_changeFloor 47 = .ok (.aload_n 0, 1) := by decide +kernel
theorem dX8_changeFloor_48 : decode cX8_changeFloor 48 = .ok (.iload_n 1, 1) := by decide +kernel
theorem dX8_changeFloor_49 : decode cX8_changeFloor 49 = .ok (.putfield 29, 3) := by decide +kernel
theorem dX8_changeFloor_52 : decode cX8_changeFloor 52 = .ok (.aload_n 0, 1) := by decide +kernel
theorem dX8_changeFloor_53 : decode cX8_changeFloor 53 = .ok (.iload_n 2, 1) := by decide +kernel
theorem dX8_changeFloor_54 : decode cX8_changeFloor 54 = .ok (.putfield 33, 3) := by decide +kernel
theorem dX8_changeFloor_57 : decode cX8_changeFloor 57 = .ok (.aload_n 0, 1) := by decide +kernel
theorem dX8_changeFloor_58 : decode cX8_changeFloor 58 = .ok (.iload_n 3, 1) := by decide +kernel
theorem dX8_changeFloor_59 : decode cX8_changeFloor 59 = .ok (.putfield 36, 3) := by decide +kernel
theorem dX8_changeFloor_62 : decode cX8_changeFloor 62 = .ok (.aload_n 0, 1) := by decide +kernel
theorem dX8_changeFloor_63 : decode cX8_changeFloor 63 = .ok (.iload 4, 2) := by decide +kernel
theorem dX8_changeFloor_65 : decode cX8_changeFloor 65 = .ok (.putfield 39, 3) := by decide +kernel
theorem dX8_changeFloor_68 : decode cX8_changeFloor 68 = .ok (.iload 5, 2) := by decide +kernel
theorem dX8_changeFloor_70 : decode cX8_changeFloor 70 = .ok (.ireturn, 1) := by decide +kernel
theorem dX9_init_0 : decode cX9_init 0 = .ok (.aload_n 0, 1) := by decide +kernel
theorem dX9_init_1 : decode cX9_init 1 = .ok (.invokespecial 3, 3) := by decide +kernel
theorem dX9_init_4 : decode cX9_init 4 = .ok (.aload_n 0, 1) := by decide +kernel
theorem dX9_init_5 : decode cX9_init 5 = .ok (.bipush 16, 2) := by decide +kernel
theorem dX9_init_7 : decode cX9_init 7 = .ok (.newarray .int, 2) := by decide +kernel
theorem dX9_init_9 : decode cX9_init 9 = .ok (.putfield 11, 3) := by decide +kernel
theorem dX9_init_12 : decode cX9_init 12 = .ok (.aload_n 0, 1) := by decide +kernel
theorem dX9_init_13 : decode cX9_init 13 = .ok (.bipush 64, 2) := by decide +kernel
theorem dX9_init_15 : decode cX9_init 15 = .ok (.newarray .int, 2) := by decide +kernel
theorem dX9_init_17 : decode cX9_init 17 = .ok (.putfield 17, 3) := by decide +kernel
theorem dX9_init_20 : decode cX9_init 20 = .ok (.aload_n 0, 1) := by decide +kernel
theorem dX9_init_21 : decode cX9_init 21 = .ok (.bipush 64, 2) := by decide +kernel
theorem dX9_init_23 : decode cX9_init 23 = .ok (.newarray .int, 2) := by decide +kernel
theorem dX9_init_25 : decode cX9_init 25 = .ok (.putfield 20, 3) := by decide +kernel
theorem dX9_init_28 : decode cX9_init 28 = .ok (.aload_n 0, 1) := by decide +kernel
theorem dX9_init_29 : decode cX9_init 29 = .ok (.bipush 64, 2) := by decide +kernel
theorem dX9_init_31 : decode cX9_init 31 = .ok (.newarray .float, 2) := by decide +kernel
theorem dX9_init_33 : decode cX9_init 33 = .ok (.putfield 23, 3) := by decide +kernel
theorem dX9_init_36 : decode cX9_init 36 = .ok (.return_, 1) := by decide +kernel
theorem dX9_copyFrom_0 : decode cX9_copyFrom 0 = .ok (.aload_n 1, 1) := by decide +kernel
theorem dX9_copyFrom_1 : decode cX9_copyFrom 1 = .ok (.getfield 11, 3) := by decide +kernel
theorem dX9_copyFrom_4 : decode cX9_copyFrom 4 = .ok (.iconst 0, 1) := by decide +kernel
theorem dX9_copyFrom_5 : decode cX9_copyFrom 5 = .ok (.aload_n 0, 1) := by decide +kernel
theorem dX9_copyFrom_6 : decode cX9_copyFrom 6 = .ok (.getfield 11, 3) := by decide +kernel
theorem dX9_copyFrom_9 : decode cX9_copyFrom 9 = .ok (.iconst 0, 1) := by decide +kernel
theorem dX9_copyFrom_10 : decode cX9_copyFrom 10 = .ok (.bipush 16, 2) := by decide +kernel
theorem dX9_copyFrom_12 : decode cX9_copyFrom 12 = .ok (.invokestatic 27, 3) := by decide +kernel
theorem dX9_copyFrom_15 : decode cX9_copyFrom 15 = .ok (.aload_n 1, 1) := by decide +kernel
theorem dX9_copyFrom_16 : decode cX9_copyFrom 16 = .ok (.getfield 17, 3) := by decide +kernel
theorem dX9_copyFrom_19 : decode cX9_copyFrom 19 = .ok (.iconst 0, 1) := by decide +kernel
theorem dX9_copyFrom_20 : decode cX9_copyFrom 20 = .ok (.aload_n 0, 1) := by decide +kernel
theorem dX9_copyFrom_21 : decode cX9_copyFrom 21 = .ok (.getfield 17, 3) := by decide +kernel
theorem dX9_copyFrom_24 : decode cX9_copyFrom 24 = .ok (.iconst 0, 1) := by decide +kernel
theorem dX9_copyFrom_25 : decode cX9_copyFrom 25 = .ok (.bipush 64, 2) := by decide +kernel
theorem dX9_copyFrom_27 : decode cX9_copyFrom 27 = .ok (.invokestatic 27, 3) := by decide +kernel
theorem dX9_copyFrom_30 : decode cX9_copyFrom 30 = .ok (.aload_n 1, 1) := by decide +kernel
theorem dX9_copyFrom_31 : decode cX9_copyFrom 31 = .ok (.getfield 20, 3) := by decide +kernel
theorem dX9_copyFrom_34 : decode cX9_copyFrom 34 = .ok (.iconst 0, 1) := by decide +kernel
theorem dX9_copyFrom_35 : decode cX9_copyFrom 35 = .ok (.aload_n 0, 1) := by decide +kernel
theorem dX9_copyFrom_36 : decode cX9_copyFrom 36 = .ok (.getfield 20, 3) := by decide +kernel
theorem dX9_copyFrom_39 : decode cX9_copyFrom 39 = .ok (.iconst 0, 1) := by decide +kernel
theorem dX9_copyFrom_40 : decode cX9_copyFrom 40 = .ok (.bipush 64, 2) := by decide +kernel
theorem dX9_copyFrom_42 : decode cX9_copyFrom 42 = .ok (.invokestatic 27, 3) := by decide +kernel
theorem dX9_copyFrom_45 : decode cX9_copyFrom 45 = .ok (.aload_n 1, 1) := by decide +kernel
theorem dX9_copyFrom_46 : decode cX9_copyFrom 46 = .ok (.getfield 23, 3) := by decide +kernel
theorem dX9_copyFrom_49 : decode cX9_copyFrom 49 = .ok (.iconst 0, 1) := by decide +kernel
theorem dX9_copyFrom_50 : decode cX9_copyFrom 50 = .ok (.aload_n 0, 1) := by decide +kernel
theorem dX9_copyFrom_51 : decode cX9_copyFrom 51 = .ok (.getfield 23, 3) := by decide +kernel
theorem dX9_copyFrom_54 : decode cX9_copyFrom 54 = .ok (.iconst 0, 1) := by decide +kernel
theorem dX9_copyFrom_55 : decode cX9_copyFrom 55 = .ok (.bipush 64, 2) := by decide +kernel
theorem dX9_copyFrom_57 : decode cX9_copyFrom 57 = .ok (.invokestatic 27, 3) := by decide +kernel
theorem dX9_copyFrom_60 : decode cX9_copyFrom 60 = .ok (.return_, 1) := by decide +kernel
theorem dX9_clear_0 : decode cX9_clear 0 = .ok (.iconst 0, 1) := by decide +kernel
theorem dX9_clear_1 : decode cX9_clear 1 = .ok (.istore_n 1, 1) := by decide +kernel
theorem dX9_clear_2 : decode cX9_clear 2 = .ok (.iload_n 1, 1) := by decide +kernel
theorem dX9_clear_3 : decode cX9_clear 3 = .ok (.bipush 16, 2) := by decide +kernel
theorem dX9_clear_5 : decode cX9_clear 5 = .ok (.if_icmp .ge 16, 3) := by decide +kernel
theorem dX9_clear_8 : decode cX9_clear 8 = .ok (.aload_n 0, 1) := by decide +kernel
theorem dX9_clear_9 : decode cX9_clear 9 = .ok (.getfield 11, 3) := by decide +kernel
theorem dX9_clear_12 : decode cX9_clear 12 = .ok (.iload_n 1, 1) := by decide +kernel
theorem dX9_clear_13 : decode cX9_clear 13 = .ok (.iconst 0, 1) := by decide +kernel
theorem dX9_clear_14 : decode cX9_clear 14 = .ok (.iastore, 1) := by decide +kernel
theorem dX9_clear_15 : decode cX9_clear 15 = .ok (.iinc 1 1, 3) := by decide +kernel
theorem dX9_clear_18 : decode cX9_clear 18 = .ok (.goto (-16), 3) := by decide +kernel
theorem dX9_clear_21 : decode cX9_clear 21 = .ok (.return_, 1) := by decide +kernel
theorem dX9_add_0 : decode cX9_add 0 = .ok (.aload_n 0, 1) := by decide +kernel
theorem dX9_add_1 : decode cX9_add 1 = .ok (.getfield 11, 3) := by decide +kernel
theorem dX9_add_4 : decode cX9_add 4 = .ok (.iload_n 1, 1) := by decide +kernel
theorem dX9_add_5 : decode cX9_add 5 = .ok (.iaload, 1) := by decide +kernel
theorem dX9_add_6 : decode cX9_add 6 = .ok (.iconst 4, 1) := by decide +kernel
theorem dX9_add_7 : decode cX9_add 7 = .ok (.if_icmp .lt 4, 3) := by decide +kernel
theorem dX9_add_10 : decode cX9_add 10 = .ok (.return_, 1) := by decide +kernel
theorem dX9_add_11 : decode cX9_add 11 = .ok (.iload_n 1, 1) := by decide +kernel
theorem dX9_add_12 : decode cX9_add 12 = .ok (.iconst 4, 1) := by decide +kernel
theorem dX9_add_13 : decode cX9_add 13 = .ok (.imul, 1) := by decide +kernel
theorem dX9_add_14 : decode cX9_add 14 = .ok (.aload_n 0, 1) := by decide +kernel
theorem dX9_add_15 : decode cX9_add 15 = .ok (.getfield 11, 3) := by decide +kernel
theorem dX9_add_18 : decode cX9_add 18 = .ok (.iload_n 1, 1) := by decide +kernel
theorem dX9_add_19 : decode cX9_add 19 = .ok (.iaload, 1) := by decide +kernel
theorem dX9_add_20 : decode cX9_add 20 = .ok (.iadd, 1) := by decide +kernel
theorem dX9_add_21 : decode cX9_add 21 = .ok (.istore 5, 2) := by decide +kernel
theorem dX9_add_23 : decode cX9_add 23 = .ok (.aload_n 0, 1) := by decide +kernel
theorem dX9_add_24 : decode cX9_add 24 = .ok (.getfield 17, 3) := by decide +kernel
theorem dX9_add_27 : decode cX9_add 27 = .ok (.iload 5, 2) := by decide +kernel
theorem dX9_add_29 : decode cX9_add 29 = .ok (.iload_n 2, 1) := by decide +kernel
theorem dX9_add_30 : decode cX9_add 30 = .ok (.iastore, 1) := by decide +kernel
theorem dX9_add_31 : decode cX9_add 31 = .ok (.aload_n 0, 1) := by decide +kernel
theorem dX9_add_32 : decode cX9_add 32 = .ok (.getfield 20, 3) := by decide +kernel
theorem dX9_add_35 : decode cX9_add 35 = .ok (.iload 5, 2) := by decide +kernel
theorem dX9_add_37 : decode cX9_add 37 = .ok (.iload_n 3, 1) := by decide +kernel
theorem dX9_add_38 : decode cX9_add 38 = .ok (.iastore, 1) := by decide +kernel
theorem dX9_add_39 : decode cX9_add 39 = .ok (.aload_n 0, 1) := by decide +kernel
theorem dX9_add_40 : decode cX9_add 40 = .ok (.getfield 23, 3) := by decide +kernel
theorem dX9_add_43 : decode cX9_add 43 = .ok (.iload 5, 2) := by decide +kernel
theorem dX9_add_45 : decode cX9_add 45 = .ok (.fload 4, 2) := by decide +kernel
theorem dX9_add_47 : decode cX9_add 47 = .ok (.fastore, 1) := by decide +kernel
theorem dX9_add_48 : decode cX9_add 48 = .ok (.aload_n 0, 1) := by decide +kernel
theorem dX9_add_49 : decode cX9_add 49 = .ok (.getfield 11, 3) := by decide +kernel
theorem dX9_add_52 : decode cX9_add 52 = .ok (.iload_n 1, 1) := by decide +kernel
theorem dX9_add_53 : decode cX9_add 53 = .ok (.dup2, 1) := by decide +kernel
theorem dX9_add_54 : decode cX9_add 54 = .ok (.iaload, 1) := by decide +kernel
theorem dX9_add_55 : decode cX9_add 55 = .ok (.iconst 1, 1) := by decide +kernel
theorem dX9_add_56 : decode cX9_add 56 = .ok (.iadd, 1) := by decide +kernel
theorem dX9_add_57 : decode cX9_add 57 = .ok (.iastore, 1) := by decide +kernel
theorem dX9_add_58 : decode cX9_add 58 = .ok (.return_, 1) := by decide +kernel
theorem dX10_init_0 : decode cX10_init 0 = .ok (.aload_n 0, 1) := by decide +kernel
theorem dX10_init_1 : decode cX10_init 1 = .ok (.invokespecial 3, 3) := by decide +kernel
theorem dX10_init_4 : decode cX10_init 4 = .ok (.aload_n 0, 1) := by decide +kernel
theorem dX10_init_5 : decode cX10_init 5 = .ok (.iconst 1, 1) := by decide +kernel
theorem dX10_init_6 : decode cX10_init 6 = .ok (.putfield 9, 3) := by decide +kernel
theorem dX10_init_9 : decode cX10_init 9 = .ok (.aload_n 0, 1) := by decide +kernel
theorem dX10_init_10 : decode cX10_init 10 = .ok (.bipush 8, 2) := by decide +kernel
theorem dX10_init_12 : decode cX10_init 12 = .ok (.newarray .int, 2) := by decide +kernel
theorem dX10_init_14 : decode cX10_init 14 = .ok (.putfield 15, 3) := by decide +kernel
theorem dX10_init_17 : decode cX10_init 17 = .ok (.aload_n 0, 1) := by decide +kernel
theorem dX10_init_18 : decode cX10_init 18 = .ok (.bipush 8, 2) := by decide +kernel
theorem dX10_init_20 : decode cX10_init 20 = .ok (.newarray .int, 2) := by decide +kernel
theorem dX10_init_22 : decode cX10_init 22 = .ok (.putfield 19, 3) := by decide +kernel
theorem dX10_init_25 : decode cX10_init 25 = .ok (.aload_n 0, 1) := by decide +kernel
theorem dX10_init_26 : decode cX10_init 26 = .ok (.bipush 8, 2) := by decide +kernel
theorem dX10_init_28 : decode cX10_init 28 = .ok (.newarray .int, 2) := by decide +kernel
theorem dX10_init_30 : decode cX10_init 30 = .ok (.putfield 22, 3) := by decide +kernel
theorem dX10_init_33 : decode cX10_init 33 = .ok (.aload_n 0, 1) := by decide +kernel
theorem dX10_init_34 : decode cX10_init 34 = .ok (.getfield 15, 3) := by decide +kernel
theorem dX10_init_37 : decode cX10_init 37 = .ok (.iconst 0, 1) := by decide +kernel
theorem dX10_init_38 : decode cX10_init 38 = .ok (.iconst (-1), 1) := by decide +kernel
theorem dX10_init_39 : decode cX10_init 39 = .ok (.iastore, 1) := by decide +kernel
theorem dX10_init_40 : decode cX10_init 40 = .ok (.return_, 1) := by decide +kernel
theorem dX10_copyFrom_0 : decode cX10_copyFrom 0 = .ok (.aload_n 0, 1) := by decide +kernel
theorem dX10_copyFrom_1 : decode cX10_copyFrom 1 = .ok (.aload_n 1, 1) := by decide +kernel
theorem dX10_copyFrom_2 : decode cX10_copyFrom 2 = .ok (.getfield 9, 3) := by decide +kernel
theorem dX10_copyFrom_5 : decode cX10_copyFrom 5 = .ok (.putfield 9, 3) := by decide +kernel
theorem dX10_copyFrom_8 : decode cX10_copyFrom 8 = .ok (.aload_n 1, 1) := by decide +kernel
theorem dX10_copyFrom_9 : decode cX10_copyFrom 9 = .ok (.getfield 15, 3) := by decide +kernel
theorem dX10_copyFrom_12 : decode cX10_copyFrom 12 = .ok (.iconst 0, 1) := by decide +kernel
theorem dX10_copyFrom_13 : decode cX10_copyFrom 13 = .ok (.aload_n 0, 1) := by decide +kernel
theorem dX10_copyFrom_14 : decode cX10_copyFrom 14 = .ok (.getfield 15, 3) := by decide +kernel
theorem dX10_copyFrom_17 : decode cX10_copyFrom 17 = .ok (.iconst 0, 1) := by decide +kernel
theorem dX10_copyFrom_18 : decode cX10_copyFrom 18 = .ok (.bipush 8, 2) := by decide +kernel
theorem dX10_copyFrom_20 : decode cX10_copyFrom 20 = .ok (.invokestatic 25, 3) := by decide +kernel
theorem dX10_copyFrom_23 : decode cX10_copyFrom 23 = .ok (.aload_n 1, 1) := by decide +kernel
theorem dX10_copyFrom_24 : decode cX10_copyFrom 24 = .ok (.getfield 19, 3) := by decide +kernel
theorem dX10_copyFrom_27 : decode cX10_copyFrom 27 = .ok (.iconst 0, 1) := by decide +kernel
theorem dX10_copyFrom_28 : decode cX10_copyFrom 28 = .ok (.aload_n 0, 1) := by decide +kernel
theorem dX10_copyFrom_29 : decode cX10_copyFrom 29 = .ok (.getfield 19, 3) := by decide +kernel
theorem dX10_copyFrom_32 : decode cX10_copyFrom 32 = .ok (.iconst 0, 1) := by decide +kernel
theorem dX10_copyFrom_33 : decode cX10_copyFrom 33 = .ok (.bipush 8, 2) := by decide +kernel
theorem dX10_copyFrom_35 : decode cX10_copyFrom 35 = .ok (.invokestatic 25, 3) := by decide +kernel
theorem dX10_copyFrom_38 : decode cX10_copyFrom 38 = .ok (.aload_n 1, 1) := by decide +kernel
theorem dX10_copyFrom_39 : decode cX10_copyFrom 39 = .ok (.getfield 22, 3) := by decide +kernel
theorem dX10_copyFrom_42 : decode cX10_copyFrom 42 = .ok (.iconst 0, 1) := by decide +kernel
theorem dX10_copyFrom_43 : decode cX10_copyFrom 43 = .ok (.aload_n 0, 1) := by decide +kernel
theorem dX10_copyFrom_44 : decode cX10_copyFrom 44 = .ok (.getfield 22, 3) := by decide +kernel
theorem dX10_copyFrom_47 : decode cX10_copyFrom 47 = .ok (.iconst 0, 1) := by decide +kernel
theorem dX10_copyFrom_48 : decode cX10_copyFrom 48 = .ok (.bipush 8, 2) := by decide +kernel
theorem dX10_copyFrom_50 : decode cX10_copyFrom 50 = .ok (.invokestatic 25, 3) := by decide +kernel
theorem dX10_copyFrom_53 : decode cX10_copyFrom 53 = .ok (.return_, 1) := by decide +kernel
theorem dX10_has_0 : decode cX10_has 0 = .ok (.iload_n 1, 1) := by decide +kernel
theorem dX10_has_1 : decode cX10_has 1 = .ok (.ifCond .lt 15, 3) := by decide +kernel
theorem dX10_has_4 : decode cX10_has 4 = .ok (.iload_n 1, 1) := by decide +kernel
theorem dX10_has_5 : decode cX10_has 5 = .ok (.aload_n 0, 1) := by decide +kernel
