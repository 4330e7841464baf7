theorem dX12_sends_164 : decode cX12_sends 164 = .ok (.aload_n 0, 1) := by decide +kernel
theorem dX12_sends_165 : decode cX12_sends 165 = .ok (.getfield 25, 3) := by decide +kernel
theorem dX12_sends_168 : decode cX12_sends 168 = .ok (.iload 6, 2) := by decide +kernel
theorem dX12_sends_170 : decode cX12_sends 170 = .ok (.faload, 1) := by decide +kernel
theorem dX12_sends_171 : decode cX12_sends 171 = .ok (.fastore, 1) := by decide +kernel
theorem dX12_sends_172 : decode cX12_sends 172 = .ok (.aload_n 0, 1) := by decide +kernel
theorem dX12_sends_173 : decode cX12_sends 173 = .ok (.getfield 22, 3) := by decide +kernel
theorem dX12_sends_176 : decode cX12_sends 176 = .ok (.iload 6, 2) := by decide +kernel
theorem dX12_sends_178 : decode cX12_sends 178 = .ok (.iconst (-1), 1) := by decide +kernel
theorem dX12_sends_179 : decode cX12_sends 179 = .ok (.iastore, 1) := by decide +kernel
theorem dX12_sends_180 : decode cX12_sends 180 = .ok (.iinc 5 1, 3) := by decide +kernel
theorem dX12_sends_183 : decode cX12_sends 183 = .ok (.goto (-156), 3) := by decide +kernel
theorem dX12_sends_186 : decode cX12_sends 186 = .ok (.aload_n 0, 1) := by decide +kernel
theorem dX12_sends_187 : decode cX12_sends 187 = .ok (.getfield 28, 3) := by decide +kernel
theorem dX12_sends_190 : decode cX12_sends 190 = .ok (.bipush 9, 2) := by decide +kernel
theorem dX12_sends_192 : decode cX12_sends 192 = .ok (.iload 4, 2) := by decide +kernel
theorem dX12_sends_194 : decode cX12_sends 194 = .ok (.imul, 1) := by decide +kernel
theorem dX12_sends_195 : decode cX12_sends 195 = .ok (.iload 5, 2) := by decide +kernel
theorem dX12_sends_197 : decode cX12_sends 197 = .ok (.iastore, 1) := by decide +kernel
theorem dX12_sends_198 : decode cX12_sends 198 = .ok (.return_, 1) := by decide +kernel
theorem dX12_sendsAll_0 : decode cX12_sendsAll 0 = .ok (.iconst 0, 1) := by decide +kernel
theorem dX12_sendsAll_1 : decode cX12_sendsAll 1 = .ok (.istore_n 1, 1) := by decide +kernel
theorem dX12_sendsAll_2 : decode cX12_sendsAll 2 = .ok (.iload_n 1, 1) := by decide +kernel
theorem dX12_sendsAll_3 : decode cX12_sendsAll 3 = .ok (.sipush 576, 3) := by decide +kernel
theorem dX12_sendsAll_6 : decode cX12_sendsAll 6 = .ok (.if_icmp .ge 16, 3) := by decide +kernel
theorem dX12_sendsAll_9 : decode cX12_sendsAll 9 = .ok (.aload_n 0, 1) := by decide +kernel
theorem dX12_sendsAll_10 : decode cX12_sendsAll 10 = .ok (.getfield 28, 3) := by decide +kernel
theorem dX12_sendsAll_13 : decode cX12_sendsAll 13 = .ok (.iload_n 1, 1) := by decide +kernel
theorem dX12_sendsAll_14 : decode cX12_sendsAll 14 = .ok (.iconst 0, 1) := by decide +kernel
theorem dX12_sendsAll_15 : decode cX12_sendsAll 15 = .ok (.iastore, 1) := by decide +kernel
theorem dX12_sendsAll_16 : decode cX12_sendsAll 16 = .ok (.iinc 1 1, 3) := by decide +kernel
theorem dX12_sendsAll_19 : decode cX12_sendsAll 19 = .ok (.goto (-17), 3) := by decide +kernel
theorem dX12_sendsAll_22 : decode cX12_sendsAll 22 = .ok (.iconst 0, 1) := by decide +kernel
theorem dX12_sendsAll_23 : decode cX12_sendsAll 23 = .ok (.istore_n 1, 1) := by decide +kernel
theorem dX12_sendsAll_24 : decode cX12_sendsAll 24 = .ok (.iload_n 1, 1) := by decide +kernel
theorem dX12_sendsAll_25 : decode cX12_sendsAll 25 = .ok (.aload_n 0, 1) := by decide +kernel
theorem dX12_sendsAll_26 : decode cX12_sendsAll 26 = .ok (.getfield 7, 3) := by decide +kernel
theorem dX12_sendsAll_29 : decode cX12_sendsAll 29 = .ok (.bipush 11, 2) := by decide +kernel
theorem dX12_sendsAll_31 : decode cX12_sendsAll 31 = .ok (.iaload, 1) := by decide +kernel
theorem dX12_sendsAll_32 : decode cX12_sendsAll 32 = .ok (.if_icmp .ge 43, 3) := by decide +kernel
theorem dX12_sendsAll_35 : decode cX12_sendsAll 35 = .ok (.iconst 0, 1) := by decide +kernel
theorem dX12_sendsAll_36 : decode cX12_sendsAll 36 = .ok (.istore_n 2, 1) := by decide +kernel
theorem dX12_sendsAll_37 : decode cX12_sendsAll 37 = .ok (.iload_n 2, 1) := by decide +kernel
theorem dX12_sendsAll_38 : decode cX12_sendsAll 38 = .ok (.aload_n 0, 1) := by decide +kernel
theorem dX12_sendsAll_39 : decode cX12_sendsAll 39 = .ok (.getfield 7, 3) := by decide +kernel
theorem dX12_sendsAll_42 : decode cX12_sendsAll 42 = .ok (.bipush 11, 2) := by decide +kernel
theorem dX12_sendsAll_44 : decode cX12_sendsAll 44 = .ok (.iaload, 1) := by decide +kernel
theorem dX12_sendsAll_45 : decode cX12_sendsAll 45 = .ok (.if_icmp .ge 24, 3) := by decide +kernel
theorem dX12_sendsAll_48 : decode cX12_sendsAll 48 = .ok (.aload_n 0, 1) := by decide +kernel
theorem dX12_sendsAll_49 : decode cX12_sendsAll 49 = .ok (.iload_n 1, 1) := by decide +kernel
theorem dX12_sendsAll_50 : decode cX12_sendsAll 50 = .ok (.iload_n 2, 1) := by decide +kernel
theorem dX12_sendsAll_51 : decode cX12_sendsAll 51 = .ok (.invokevirtual 126, 3) := by decide +kernel
theorem dX12_sendsAll_54 : decode cX12_sendsAll 54 = .ok (.ifCond .eq 9, 3) := by decide +kernel
theorem dX12_sendsAll_57 : decode cX12_sendsAll 57 = .ok (.aload_n 0, 1) := by decide +kernel
theorem dX12_sendsAll_58 : decode cX12_sendsAll 58 = .ok (.iload_n 1, 1) := by decide +kernel
theorem dX12_sendsAll_59 : decode cX12_sendsAll 59 = .ok (.iload_n 2, 1) := by decide +kernel
theorem dX12_sendsAll_60 : decode cX12_sendsAll 60 = .ok (.invokevirtual 129, 3) := by decide +kernel
theorem dX12_sendsAll_63 : decode cX12_sendsAll 63 = .ok (.iinc 2 1, 3) := by decide +kernel
theorem dX12_sendsAll_66 : decode cX12_sendsAll 66 = .ok (.goto (-29), 3) := by decide +kernel
theorem dX12_sendsAll_69 : decode cX12_sendsAll 69 = .ok (.iinc 1 1, 3) := by decide +kernel
theorem dX12_sendsAll_72 : decode cX12_sendsAll 72 = .ok (.goto (-48), 3) := by decide +kernel
theorem dX12_sendsAll_75 : decode cX12_sendsAll 75 = .ok (.iconst 0, 1) := by decide +kernel
theorem dX12_sendsAll_76 : decode cX12_sendsAll 76 = .ok (.istore_n 1, 1) := by decide +kernel
theorem dX12_sendsAll_77 : decode cX12_sendsAll 77 = .ok (.iload_n 1, 1) := by decide +kernel
theorem dX12_sendsAll_78 : decode cX12_sendsAll 78 = .ok (.sipush 576, 3) := by decide +kernel
theorem dX12_sendsAll_81 : decode cX12_sendsAll 81 = .ok (.if_icmp .ge 25, 3) := by decide +kernel
theorem dX12_sendsAll_84 : decode cX12_sendsAll 84 = .ok (.aload_n 0, 1) := by decide +kernel
theorem dX12_sendsAll_85 : decode cX12_sendsAll 85 = .ok (.getfield 7, 3) := by decide +kernel
theorem dX12_sendsAll_88 : decode cX12_sendsAll 88 = .ok (.sipush 395, 3) := by decide +kernel
theorem dX12_sendsAll_91 : decode cX12_sendsAll 91 = .ok (.iload_n 1, 1) := by decide +kernel
theorem dX12_sendsAll_92 : decode cX12_sendsAll 92 = .ok (.iadd, 1) := by decide +kernel
theorem dX12_sendsAll_93 : decode cX12_sendsAll 93 = .ok (.aload_n 0, 1) := by decide +kernel
theorem dX12_sendsAll_94 : decode cX12_sendsAll 94 = .ok (.getfield 28, 3) := by decide +kernel
theorem dX12_sendsAll_97 : decode cX12_sendsAll 97 = .ok (.iload_n 1, 1) := by decide +kernel
theorem dX12_sendsAll_98 : decode cX12_sendsAll 98 = .ok (.iaload, 1) := by decide +kernel
theorem dX12_sendsAll_99 : decode cX12_sendsAll 99 = .ok (.iastore, 1) := by decide +kernel
theorem dX12_sendsAll_100 : decode cX12_sendsAll 100 = .ok (.iinc 1 1, 3) := by decide +kernel
theorem dX12_sendsAll_103 : decode cX12_sendsAll 103 = .ok (.goto (-26), 3) := by decide +kernel
theorem dX12_sendsAll_106 : decode cX12_sendsAll 106 = .ok (.iconst 0, 1) := by decide +kernel
theorem dX12_sendsAll_107 : decode cX12_sendsAll 107 = .ok (.istore_n 1, 1) := by decide +kernel
theorem dX12_sendsAll_108 : decode cX12_sendsAll 108 = .ok (.iload_n 1, 1) := by decide +kernel
theorem dX12_sendsAll_109 : decode cX12_sendsAll 109 = .ok (.sipush 256, 3) := by decide +kernel
theorem dX12_sendsAll_112 : decode cX12_sendsAll 112 = .ok (.if_icmp .ge 24, 3) := by decide +kernel
theorem dX12_sendsAll_115 : decode cX12_sendsAll 115 = .ok (.aload_n 0, 1) := by decide +kernel
theorem dX12_sendsAll_116 : decode cX12_sendsAll 116 = .ok (.getfield 13, 3) := by decide +kernel
theorem dX12_sendsAll_119 : decode cX12_sendsAll 119 = .ok (.bipush 40, 2) := by decide +kernel
theorem dX12_sendsAll_121 : decode cX12_sendsAll 121 = .ok (.iload_n 1, 1) := by decide +kernel
theorem dX12_sendsAll_122 : decode cX12_sendsAll 122 = .ok (.iadd, 1) := by decide +kernel
theorem dX12_sendsAll_123 : decode cX12_sendsAll 123 = .ok (.aload_n 0, 1) := by decide +kernel
theorem dX12_sendsAll_124 : decode cX12_sendsAll 124 = .ok (.getfield 31, 3) := by decide +kernel
theorem dX12_sendsAll_127 : decode cX12_sendsAll 127 = .ok (.iload_n 1, 1) := by decide +kernel
theorem dX12_sendsAll_128 : decode cX12_sendsAll 128 = .ok (.faload, 1) := by decide +kernel
theorem dX12_sendsAll_129 : decode cX12_sendsAll 129 = .ok (.fastore, 1) := by decide +kernel
theorem dX12_sendsAll_130 : decode cX12_sendsAll 130 = .ok (.iinc 1 1, 3) := by decide +kernel
theorem dX12_sendsAll_133 : decode cX12_sendsAll 133 = .ok (.goto (-25), 3) := by decide +kernel
theorem dX12_sendsAll_136 : decode cX12_sendsAll 136 = .ok (.return_, 1) := by decide +kernel
theorem dX12_ticks_0 : decode cX12_ticks 0 = .ok (.aload_n 0, 1) := by decide +kernel
theorem dX12_ticks_1 : decode cX12_ticks 1 = .ok (.aload_n 0, 1) := by decide +kernel
theorem dX12_ticks_2 : decode cX12_ticks 2 = .ok (.getfield 7, 3) := by decide +kernel
theorem dX12_ticks_5 : decode cX12_ticks 5 = .ok (.iconst 1, 1) := by decide +kernel
theorem dX12_ticks_6 : decode cX12_ticks 6 = .ok (.iaload, 1) := by decide +kernel
theorem dX12_ticks_7 : decode cX12_ticks 7 = .ok (.invokevirtual 60, 3) := by decide +kernel
theorem dX12_ticks_10 : decode cX12_ticks 10 = .ok (.fstore_n 1, 1) := by decide +kernel
theorem dX12_ticks_11 : decode cX12_ticks 11 = .ok (.aload_n 0, 1) := by decide +kernel
theorem dX12_ticks_12 : decode cX12_ticks 12 = .ok (.getfield 7, 3) := by decide +kernel
theorem dX12_ticks_15 : decode cX12_ticks 15 = .ok (.bipush 9, 2) := by decide +kernel
theorem dX12_ticks_17 : decode cX12_ticks 17 = .ok (.dup2, 1) := by decide +kernel
theorem dX12_ticks_18 : decode cX12_ticks 18 = .ok (.iaload, 1) := by decide +kernel
theorem dX12_ticks_19 : decode cX12_ticks 19 = .ok (.iconst 1, 1) := by decide +kernel
theorem dX12_ticks_20 : decode cX12_ticks 20 = .ok (.iadd, 1) := by decide +kernel
theorem dX12_ticks_21 : decode cX12_ticks 21 = .ok (.iastore, 1) := by decide +kernel
theorem dX12_ticks_22 : decode cX12_ticks 22 = .ok (.aload_n 0, 1) := by decide +kernel
theorem dX12_ticks_23 : decode cX12_ticks 23 = .ok (.fload_n 1, 1) := by decide +kernel
theorem dX12_ticks_24 : decode cX12_ticks 24 = .ok (.invokevirtual 132, 3) := by decide +kernel
theorem dX12_ticks_27 : decode cX12_ticks 27 = .ok (.aload_n 0, 1) := by decide +kernel
theorem dX12_ticks_28 : decode cX12_ticks 28 = .ok (.getfield 7, 3) := by decide +kernel
theorem dX12_ticks_31 : decode cX12_ticks 31 = .ok (.iconst 4, 1) := by decide +kernel
theorem dX12_ticks_32 : decode cX12_ticks 32 = .ok (.iaload, 1) := by decide +kernel
theorem dX12_ticks_33 : decode cX12_ticks 33 = .ok (.iconst 1, 1) := by decide +kernel
theorem dX12_ticks_34 : decode cX12_ticks 34 = .ok (.if_icmp .ne 8, 3) := by decide +kernel
theorem dX12_ticks_37 : decode cX12_ticks 37 = .ok (.aload_n 0, 1) := by decide +kernel
theorem dX12_ticks_38 : decode cX12_ticks 38 = .ok (.fload_n 1, 1) := by decide +kernel
theorem dX12_ticks_39 : decode cX12_ticks 39 = .ok (.invokevirtual 136, 3) := by decide +kernel
theorem dX12_ticks_42 : decode cX12_ticks 42 = .ok (.iconst 0, 1) := by decide +kernel
theorem dX12_ticks_43 : decode cX12_ticks 43 = .ok (.istore_n 2, 1) := by decide +kernel
theorem dX12_ticks_44 : decode cX12_ticks 44 = .ok (.iload_n 2, 1) := by decide +kernel
theorem dX12_ticks_45 : decode cX12_ticks 45 = .ok (.aload_n 0, 1) := by decide +kernel
theorem dX12_ticks_46 : decode cX12_ticks 46 = .ok (.getfield 7, 3) := by decide +kernel
theorem dX12_ticks_49 : decode cX12_ticks 49 = .ok (.bipush 11, 2) := by decide +kernel
theorem dX12_ticks_51 : decode cX12_ticks 51 = .ok (.iaload, 1) := by decide +kernel
theorem dX12_ticks_52 : decode cX12_ticks 52 = .ok (.if_icmp .ge 15, 3) := by decide +kernel
theorem dX12_ticks_55 : decode cX12_ticks 55 = .ok (.aload_n 0, 1) := by decide +kernel
theorem dX12_ticks_56 : decode cX12_ticks 56 = .ok (.iload_n 2, 1) := by decide +kernel
theorem dX12_ticks_57 : decode cX12_ticks 57 = .ok (.fload_n 1, 1) := by decide +kernel
theorem dX12_ticks_58 : decode cX12_ticks 58 = .ok (.invokevirtual 139, 3) := by decide +kernel
theorem dX12_ticks_61 : decode cX12_ticks 61 = .ok (.iinc 2 1, 3) := by decide +kernel
theorem dX12_ticks_64 : decode cX12_ticks 64 = .ok (.goto (-20), 3) := by decide +kernel
theorem dX12_ticks_67 : decode cX12_ticks 67 = .ok (.aload_n 0, 1) := by decide +kernel
theorem dX12_ticks_68 : decode cX12_ticks 68 = .ok (.invokevirtual 143, 3) := by decide +kernel
theorem dX12_ticks_71 : decode cX12_ticks 71 = .ok (.aload_n 0, 1) := by decide +kernel
theorem dX12_ticks_72 : decode cX12_ticks 72 = .ok (.invokevirtual 146, 3) := by decide +kernel
theorem dX12_ticks_75 : decode cX12_ticks 75 = .ok (.return_, 1) := by decide +kernel
theorem dX12_addBridge_0 : decode cX12_addBridge 0 = .ok (.aload_n 0, 1) := by decide +kernel
theorem dX12_addBridge_1 : decode cX12_addBridge 1 = .ok (.iload_n 1, 1) := by decide +kernel
theorem dX12_addBridge_2 : decode cX12_addBridge 2 = .ok (.invokevirtual 149, 3) := by decide +kernel
theorem dX12_addBridge_5 : decode cX12_addBridge 5 = .ok (.ifCond .ne 6, 3) := by decide +kernel
theorem dX12_addBridge_8 : decode cX12_addBridge 8 = .ok (.bipush (-2), 2) := by decide +kernel
theorem dX12_addBridge_10 : decode cX12_addBridge 10 = .ok (.ireturn, 1) := by decide +kernel
theorem dX12_addBridge_11 : decode cX12_addBridge 11 = .ok (.iload_n 2, 1) := by decide +kernel
theorem dX12_addBridge_12 : decode cX12_addBridge 12 = .ok (.iconst 1, 1) := by decide +kernel
theorem dX12_addBridge_13 : decode cX12_addBridge 13 = .ok (.iconst 4, 1) := by decide +kernel
theorem dX12_addBridge_14 : decode cX12_addBridge 14 = .ok (.invokestatic 49, 3) := by decide +kernel
theorem dX12_addBridge_17 : decode cX12_addBridge 17 = .ok (.ifCond .ne 6, 3) := by decide +kernel
theorem dX12_addBridge_20 : decode cX12_addBridge 20 = .ok (.bipush (-3), 2) := by decide +kernel
theorem dX12_addBridge_22 : decode cX12_addBridge 22 = .ok (.ireturn, 1) := by decide +kernel
theorem dX12_addBridge_23 : decode cX12_addBridge 23 = .ok (.aload_n 0, 1) := by decide +kernel
theorem dX12_addBridge_24 : decode cX12_addBridge 24 = .ok (.getfield 7, 3) := by decide +kernel
theorem dX12_addBridge_27 : decode cX12_addBridge 27 = .ok (.bipush 11, 2) := by decide +kernel
theorem dX12_addBridge_29 : decode cX12_addBridge 29 = .ok (.iaload, 1) := by decide +kernel
theorem dX12_addBridge_30 : decode cX12_addBridge 30 = .ok (.bipush 8, 2) := by decide +kernel
theorem dX12_addBridge_32 : decode cX12_addBridge 32 = .ok (.if_icmp .ne 6, 3) := by decide +kernel
theorem dX12_addBridge_35 : decode cX12_addBridge 35 = .ok (.bipush (-5), 2) := by decide +kernel
theorem dX12_addBridge_37 : decode cX12_addBridge 37 = .ok (.ireturn, 1) := by decide +kernel
theorem dX12_addBridge_38 : decode cX12_addBridge 38 = .ok (.aload_n 0, 1) := by decide +kernel
theorem dX12_addBridge_39 : decode cX12_addBridge 39 = .ok (.invokevirtual 152, 3) := by decide +kernel
theorem dX12_addBridge_42 : decode cX12_addBridge 42 = .ok (.aload_n 0, 1) := by decide +kernel
theorem dX12_addBridge_43 : decode cX12_addBridge 43 = .ok (.getfield 7, 3) := by decide +kernel
theorem dX12_addBridge_46 : decode cX12_addBridge 46 = .ok (.bipush 11, 2) := by decide +kernel
theorem dX12_addBridge_48 : decode cX12_addBridge 48 = .ok (.iaload, 1) := by decide +kernel
theorem dX12_addBridge_49 : decode cX12_addBridge 49 = .ok (.istore 4, 2) := by decide +kernel
theorem dX12_addBridge_51 : decode cX12_addBridge 51 = .ok (.aload_n 0, 1) := by decide +kernel
theorem dX12_addBridge_52 : decode cX12_addBridge 52 = .ok (.iload 4, 2) := by decide +kernel
theorem dX12_addBridge_54 : decode cX12_addBridge 54 = .ok (.iconst 0, 1) := by decide +kernel
theorem dX12_addBridge_55 : decode cX12_addBridge 55 = .ok (.iload_n 1, 1) := by decide +kernel
theorem dX12_addBridge_56 : decode cX12_addBridge 56 = .ok (.invokevirtual 89, 3) := by decide +kernel
theorem dX12_addBridge_59 : decode cX12_addBridge 59 = .ok (.aload_n 0, 1) := by decide +kernel
theorem dX12_addBridge_60 : decode cX12_addBridge 60 = .ok (.iload 4, 2) := by decide +kernel
theorem dX12_addBridge_62 : decode cX12_addBridge 62 = .ok (.iconst 1, 1) := by decide +kernel
theorem dX12_addBridge_63 : decode cX12_addBridge 63 = .ok (.iload_n 2, 1) := by decide +kernel
theorem dX12_addBridge_64 : decode cX12_addBridge 64 = .ok (.invokevirtual 89, 3) := by decide +kernel
theorem dX12_addBridge_67 : decode cX12_addBridge 67 = .ok (.aload_n 0, 1) := by decide +kernel
theorem dX12_addBridge_68 : decode cX12_addBridge 68 = .ok (.iload 4, 2) := by decide +kernel
theorem dX12_addBridge_70 : decode cX12_addBridge 70 = .ok (.iconst 2, 1) := by decide +kernel
theorem dX12_addBridge_71 : decode cX12_addBridge 71 = .ok (.iload_n 3, 1) := by decide +kernel
theorem dX12_addBridge_72 : decode cX12_addBridge 72 = .ok (.ifCond .eq 7, 3) := by decide +kernel
theorem dX12_addBridge_75 : decode cX12_addBridge 75 = .ok (.iconst 1, 1) := by decide +kernel
theorem dX12_addBridge_76 : decode cX12_addBridge 76 = .ok (.goto 4, 3) := by decide +kernel
theorem dX12_addBridge_79 : decode cX12_addBridge 79 = .ok (.iconst 0, 1) := by decide +kernel
theorem dX12_addBridge_80 : decode cX12_addBridge 80 = .ok (.invokevirtual 89, 3) := by decide +kernel
theorem dX12_addBridge_83 : decode cX12_addBridge 83 = .ok (.aload_n 0, 1) := by decide +kernel
theorem dX12_addBridge_84 : decode cX12_addBridge 84 = .ok (.getfield 7, 3) := by decide +kernel
theorem dX12_addBridge_87 : decode cX12_addBridge 87 = .ok (.bipush 11, 2) := by decide +kernel
theorem dX12_addBridge_89 : decode cX12_addBridge 89 = .ok (.dup2, 1) := by decide +kernel
theorem dX12_addBridge_90 : decode cX12_addBridge 90 = .ok (.iaload, 1) := by decide +kernel
theorem dX12_addBridge_91 : decode cX12_addBridge 91 = .ok (.iconst 1, 1) := by decide +kernel
theorem dX12_addBridge_92 : decode cX12_addBridge 92 = .ok (.iadd, 1) := by decide +kernel
theorem dX12_addBridge_93 : decode cX12_addBridge 93 = .ok (.iastore, 1) := by decide +kernel
theorem dX12_addBridge_94 : decode cX12_addBridge 94 = .ok (.iload 4, 2) := by decide +kernel
theorem dX12_addBridge_96 : decode cX12_addBridge 96 = .ok (.ireturn, 1) := by decide +kernel
theorem dX12_join_0 : decode cX12_join 0 = .ok (.aload_n 0, 1) := by decide +kernel
theorem dX12_join_1 : decode cX12_join 1 = .ok (.iload_n 1, 1) := by decide +kernel
theorem dX12_join_2 : decode cX12_join 2 = .ok (.invokevirtual 149, 3) := by decide +kernel
theorem dX12_join_5 : decode cX12_join 5 = .ok (.ifCond .ne 6, 3) := by decide +kernel
theorem dX12_join_8 : decode cX12_join 8 = .ok (.bipush (-2), 2) := by decide +kernel
theorem dX12_join_10 : decode cX12_join 10 = .ok (.ireturn, 1) := by decide +kernel
theorem dX12_join_11 : decode cX12_join 11 = .ok (.iload_n 2, 1) := by decide +kernel
theorem dX12_join_12 : decode cX12_join 12 = .ok (.iconst 0, 1) := by decide +kernel
theorem dX12_join_13 : decode cX12_join 13 = .ok (.iconst 1, 1) := by decide +kernel
theorem dX12_join_14 : decode cX12_join 14 = .ok (.invokestatic 49, 3) := by decide +kernel
theorem dX12_join_17 : decode cX12_join 17 = .ok (.ifCond .ne 6, 3) := by decide +kernel
theorem dX12_join_20 : decode cX12_join 20 = .ok (.bipush (-3), 2) := by decide +kernel
theorem dX12_join_22 : decode cX12_join 22 = .ok (.ireturn, 1) := by decide +kernel
theorem dX12_join_23 : decode cX12_join 23 = .ok (.aload_n 0, 1) := by decide +kernel
theorem dX12_join_24 : decode cX12_join 24 = .ok (.getfield 7, 3) := by decide +kernel
theorem dX12_join_27 : decode cX12_join 27 = .ok (.bipush 12, 2) := by decide +kernel
theorem dX12_join_29 : decode cX12_join 29 = .ok (.iaload, 1) := by decide +kernel
theorem dX12_join_30 : decode cX12_join 30 = .ok (.bipush 20, 2) := by decide +kernel
theorem dX12_join_32 : decode cX12_join 32 = .ok (.if_icmp .eq 14, 3) := by decide +kernel
theorem dX12_join_35 : decode cX12_join 35 = .ok (.aload_n 0, 1) := by decide +kernel
theorem dX12_join_36 : decode cX12_join 36 = .ok (.iconst 2, 1) := by decide +kernel
theorem dX12_join_37 : decode cX12_join 37 = .ok (.iload_n 1, 1) := by decide +kernel
theorem dX12_join_38 : decode cX12_join 38 = .ok (.invokevirtual 82, 3) := by decide +kernel
theorem dX12_join_41 : decode cX12_join 41 = .ok (.bipush 6, 2) := by decide +kernel
theorem dX12_join_43 : decode cX12_join 43 = .ok (.if_icmp .ne 6, 3) := by decide +kernel
theorem dX12_join_46 : decode cX12_join 46 = .ok (.bipush (-5), 2) := by decide +kernel
theorem dX12_join_48 : decode cX12_join 48 = .ok (.ireturn, 1) := by decide +kernel
theorem dX12_join_49 : decode cX12_join 49 = .ok (.iload_n 2, 1) := by decide +kernel
theorem dX12_join_50 : decode cX12_join 50 = .ok (.iconst 1, 1) := by decide +kernel
theorem dX12_join_51 : decode cX12_join 51 = .ok (.if_icmp .ne 16, 3) := by decide +kernel
theorem dX12_join_54 : decode cX12_join 54 = .ok (.aload_n 0, 1) := by decide +kernel
theorem dX12_join_55 : decode cX12_join 55 = .ok (.iload_n 1, 1) := by decide +kernel
theorem dX12_join_56 : decode cX12_join 56 = .ok (.iconst 2, 1) := by decide +kernel
theorem dX12_join_57 : decode cX12_join 57 = .ok (.invokevirtual 57, 3) := by decide +kernel
theorem dX12_join_60 : decode cX12_join 60 = .ok (.iconst 1, 1) := by decide +kernel
theorem dX12_join_61 : decode cX12_join 61 = .ok (.if_icmp .ne 6, 3) := by decide +kernel
theorem dX12_join_64 : decode cX12_join 64 = .ok (.bipush (-6), 2) := by decide +kernel
theorem dX12_join_66 : decode cX12_join 66 = .ok (.ireturn, 1) := by decide +kernel
theorem dX12_join_67 : decode cX12_join 67 = .ok (.aload_n 0, 1) := by decide +kernel
theorem dX12_join_68 : decode cX12_join 68 = .ok (.invokevirtual 152, 3) := by decide +kernel
theorem dX12_join_71 : decode cX12_join 71 = .ok (.aload_n 0, 1) := by decide +kernel
theorem dX12_join_72 : decode cX12_join 72 = .ok (.getfield 7, 3) := by decide +kernel
theorem dX12_join_75 : decode cX12_join 75 = .ok (.bipush 12, 2) := by decide +kernel
theorem dX12_join_77 : decode cX12_join 77 = .ok (.iaload, 1) := by decide +kernel
theorem dX12_join_78 : decode cX12_join 78 = .ok (.istore_n 3, 1) := by decide +kernel
theorem dX12_join_79 : decode cX12_join 79 = .ok (.aload_n 0, 1) := by decide +kernel
theorem dX12_join_80 : decode cX12_join 80 = .ok (.iload_n 3, 1) := by decide +kernel
theorem dX12_join_81 : decode cX12_join 81 = .ok (.iconst 0, 1) := by decide +kernel
theorem dX12_join_82 : decode cX12_join 82 = .ok (.iconst 1, 1) := by decide +kernel
theorem dX12_join_83 : decode cX12_join 83 = .ok (.invokevirtual 66, 3) := by decide +kernel
theorem dX12_join_86 : decode cX12_join 86 = .ok (.aload_n 0, 1) := by decide +kernel
theorem dX12_join_87 : decode cX12_join 87 = .ok (.iload_n 3, 1) := by decide +kernel
theorem dX12_join_88 : decode cX12_join 88 = .ok (.iconst 1, 1) := by decide +kernel
theorem dX12_join_89 : decode cX12_join 89 = .ok (.iload_n 2, 1) := by decide +kernel
theorem dX12_join_90 : decode cX12_join 90 = .ok (.invokevirtual 66, 3) := by decide +kernel
theorem dX12_join_93 : decode cX12_join 93 = .ok (.aload_n 0, 1) := by decide +kernel
theorem dX12_join_94 : decode cX12_join 94 = .ok (.iload_n 3, 1) := by decide +kernel
theorem dX12_join_95 : decode cX12_join 95 = .ok (.iconst 2, 1) := by decide +kernel
theorem dX12_join_96 : decode cX12_join 96 = .ok (.iload_n 1, 1) := by decide +kernel
theorem dX12_join_97 : decode cX12_join 97 = .ok (.invokevirtual 66, 3) := by decide +kernel
theorem dX12_join_100 : decode cX12_join 100 = .ok (.aload_n 0, 1) := by decide +kernel
theorem dX12_join_101 : decode cX12_join 101 = .ok (.iload_n 3, 1) := by decide +kernel
theorem dX12_join_102 : decode cX12_join 102 = .ok (.bipush 10, 2) := by decide +kernel
theorem dX12_join_104 : decode cX12_join 104 = .ok (.iconst (-1), 1) := by decide +kernel
theorem dX12_join_105 : decode cX12_join 105 = .ok (.invokevirtual 66, 3) := by decide +kernel
theorem dX12_join_108 : decode cX12_join 108 = .ok (.aload_n 0, 1) := by decide +kernel
theorem dX12_join_109 : decode cX12_join 109 = .ok (.getfield 7, 3) := by decide +kernel
theorem dX12_join_112 : decode cX12_join 112 = .ok (.bipush 12, 2) := by decide +kernel
theorem dX12_join_114 : decode cX12_join 114 = .ok (.dup2, 1) := by decide +kernel
theorem dX12_join_115 : decode cX12_join 115 = .ok (.iaload, 1) := by decide +kernel
theorem dX12_join_116 : decode cX12_join 116 = .ok (.iconst 1, 1) := by decide +kernel
theorem dX12_join_117 : decode cX12_join 117 = .ok (.iadd, 1) := by decide +kernel
theorem dX12_join_118 : decode cX12_join 118 = .ok (.iastore, 1) := by decide +kernel
theorem dX12_join_119 : decode cX12_join 119 = .ok (.iload_n 3, 1) := by decide +kernel
theorem dX12_join_120 : decode cX12_join 120 = .ok (.ireturn, 1) := by decide +kernel
theorem dX12_present_0 : decode cX12_present 0 = .ok (.aload_n 0, 1) := by decide +kernel
theorem dX12_present_1 : decode cX12_present 1 = .ok (.iconst 0, 1) := by decide +kernel
theorem dX12_present_2 : decode cX12_present 2 = .ok (.iconst 1, 1) := by decide +kernel
theorem dX12_present_3 : decode cX12_present 3 = .ok (.invokevirtual 82, 3) := by decide +kernel
theorem dX12_present_6 : decode cX12_present 6 = .ok (.ireturn, 1) := by decide +kernel
theorem dX12_leave_0 : decode cX12_leave 0 = .ok (.aload_n 0, 1) := by decide +kernel
theorem dX12_leave_1 : decode cX12_leave 1 = .ok (.iload_n 1, 1) := by decide +kernel
theorem dX12_leave_2 : decode cX12_leave 2 = .ok (.invokevirtual 155, 3) := by decide +kernel
theorem dX12_leave_5 : decode cX12_leave 5 = .ok (.ifCond .ne 6, 3) := by decide +kernel
theorem dX12_leave_8 : decode cX12_leave 8 = .ok (.bipush (-2), 2) := by decide +kernel
theorem dX12_leave_10 : decode cX12_leave 10 = .ok (.ireturn, 1) := by decide +kernel
theorem dX12_leave_11 : decode cX12_leave 11 = .ok (.aload_n 0, 1) := by decide +kernel
theorem dX12_leave_12 : decode cX12_leave 12 = .ok (.invokevirtual 152, 3) := by decide +kernel
theorem dX12_leave_15 : decode cX12_leave 15 = .ok (.aload_n 0, 1) := by decide +kernel
theorem dX12_leave_16 : decode cX12_leave 16 = .ok (.iload_n 1, 1) := by decide +kernel
theorem dX12_leave_17 : decode cX12_leave 17 = .ok (.iconst 0, 1) := by decide +kernel
theorem dX12_leave_18 : decode cX12_leave 18 = .ok (.iconst 0, 1) := by decide +kernel
theorem dX12_leave_19 : decode cX12_leave 19 = .ok (.invokevirtual 66, 3) := by decide +kernel
theorem dX12_leave_22 : decode cX12_leave 22 = .ok (.aload_n 0, 1) := by decide +kernel
theorem dX12_leave_23 : decode cX12_leave 23 = .ok (.invokevirtual 158, 3) := by decide +kernel
theorem dX12_leave_26 : decode cX12_leave 26 = .ok (.ireturn, 1) := by decide +kernel
theorem dX12_move_0 : decode cX12_move 0 = .ok (.aload_n 0, 1) := by decide +kernel
theorem dX12_move_1 : decode cX12_move 1 = .ok (.iload_n 1, 1) := by decide +kernel
theorem dX12_move_2 : decode cX12_move 2 = .ok (.invokevirtual 155, 3) := by decide +kernel
theorem dX12_move_5 : decode cX12_move 5 = .ok (.ifCond .eq 11, 3) := by decide +kernel
theorem dX12_move_8 : decode cX12_move 8 = .ok (.aload_n 0, 1) := by decide +kernel
theorem dX12_move_9 : decode cX12_move 9 = .ok (.iload_n 2, 1) := by decide +kernel
theorem dX12_move_10 : decode cX12_move 10 = .ok (.invokevirtual 149, 3) := by decide +kernel
theorem dX12_move_13 : decode cX12_move 13 = .ok (.ifCond .ne 6, 3) := by decide +kernel
theorem dX12_move_16 : decode cX12_move 16 = .ok (.bipush (-2), 2) := by decide +kernel
theorem dX12_move_18 : decode cX12_move 18 = .ok (.ireturn, 1) := by decide +kernel
theorem dX12_move_19 : decode cX12_move 19 = .ok (.aload_n 0, 1) := by decide +kernel
theorem dX12_move_20 : decode cX12_move 20 = .ok (.iload_n 1, 1) := by decide +kernel
theorem dX12_move_21 : decode cX12_move 21 = .ok (.iconst 2, 1) := by decide +kernel
theorem dX12_move_22 : decode cX12_move 22 = .ok (.invokevirtual 53, 3) := by decide +kernel
theorem dX12_move_25 : decode cX12_move 25 = .ok (.istore_n 3, 1) := by decide +kernel
theorem dX12_move_26 : decode cX12_move 26 = .ok (.aload_n 0, 1) := by decide +kernel
theorem dX12_move_27 : decode cX12_move 27 = .ok (.iconst 2, 1) := by decide +kernel
theorem dX12_move_28 : decode cX12_move 28 = .ok (.iload_n 2, 1) := by decide +kernel
theorem dX12_move_29 : decode cX12_move 29 = .ok (.invokevirtual 82, 3) := by decide +kernel
theorem dX12_move_32 : decode cX12_move 32 = .ok (.iload_n 3, 1) := by decide +kernel
theorem dX12_move_33 : decode cX12_move 33 = .ok (.iload_n 2, 1) := by decide +kernel
theorem dX12_move_34 : decode cX12_move 34 = .ok (.if_icmp .ne 7, 3) := by decide +kernel
theorem dX12_move_37 : decode cX12_move 37 = .ok (.iconst 1, 1) := by decide +kernel
theorem dX12_move_38 : decode cX12_move 38 = .ok (.goto 4, 3) := by decide +kernel
theorem dX12_move_41 : decode cX12_move 41 = .ok (.iconst 0, 1) := by decide +kernel
theorem dX12_move_42 : decode cX12_move 42 = .ok (.isub, 1) := by decide +kernel
theorem dX12_move_43 : decode cX12_move 43 = .ok (.bipush 6, 2) := by decide +kernel
theorem dX12_move_45 : decode cX12_move 45 = .ok (.if_icmp .lt 6, 3) := by decide +kernel
theorem dX12_move_48 : decode cX12_move 48 = .ok (.bipush (-5), 2) := by decide +kernel
theorem dX12_move_50 : decode cX12_move 50 = .ok (.ireturn, 1) := by decide +kernel
theorem dX12_move_51 : decode cX12_move 51 = .ok (.aload_n 0, 1) := by decide +kernel
theorem dX12_move_52 : decode cX12_move 52 = .ok (.iload_n 1, 1) := by decide +kernel
theorem dX12_move_53 : decode cX12_move 53 = .ok (.iconst 1, 1) := by decide +kernel
theorem dX12_move_54 : decode cX12_move 54 = .ok (.invokevirtual 53, 3) := by decide +kernel
theorem dX12_move_57 : decode cX12_move 57 = .ok (.iconst 1, 1) := by decide +kernel
theorem dX12_move_58 : decode cX12_move 58 = .ok (.if_icmp .ne 16, 3) := by decide +kernel
theorem dX12_move_61 : decode cX12_move 61 = .ok (.aload_n 0, 1) := by decide +kernel
theorem dX12_move_62 : decode cX12_move 62 = .ok (.iload_n 2, 1) := by decide +kernel
theorem dX12_move_63 : decode cX12_move 63 = .ok (.iconst 2, 1) := by decide +kernel
theorem dX12_move_64 : decode cX12_move 64 = .ok (.invokevirtual 57, 3) := by decide +kernel
theorem dX12_move_67 : decode cX12_move 67 = .ok (.iconst 1, 1) := by decide +kernel
theorem dX12_move_68 : decode cX12_move 68 = .ok (.if_icmp .ne 6, 3) := by decide +kernel
theorem dX12_move_71 : decode cX12_move 71 = .ok (.bipush (-6), 2) := by decide +kernel
theorem dX12_move_73 : decode cX12_move 73 = .ok (.ireturn, 1) := by decide +kernel
theorem dX12_move_74 : decode cX12_move 74 = .ok (.aload_n 0, 1) := by decide +kernel
theorem dX12_move_75 : decode cX12_move 75 = .ok (.invokevirtual 152, 3) := by decide +kernel
theorem dX12_move_78 : decode cX12_move 78 = .ok (.aload_n 0, 1) := by decide +kernel
theorem dX12_move_79 : decode cX12_move 79 = .ok (.iload_n 1, 1) := by decide +kernel
theorem dX12_move_80 : decode cX12_move 80 = .ok (.iconst 2, 1) := by decide +kernel
theorem dX12_move_81 : decode cX12_move 81 = .ok (.iload_n 2, 1) := by decide +kernel
theorem dX12_move_82 : decode cX12_move 82 = .ok (.invokevirtual 66, 3) := by decide +kernel
theorem dX12_move_85 : decode cX12_move 85 = .ok (.iload_n 3, 1) := by decide +kernel
theorem dX12_move_86 : decode cX12_move 86 = .ok (.ireturn, 1) := by decide +kernel
theorem dX12_setLevel_0 : decode cX12_setLevel 0 = .ok (.aload_n 0, 1) := by decide +kernel
theorem dX12_setLevel_1 : decode cX12_setLevel 1 = .ok (.iload_n 1, 1) := by decide +kernel
theorem dX12_setLevel_2 : decode cX12_setLevel 2 = .ok (.invokevirtual 155, 3) := by decide +kernel
theorem dX12_setLevel_5 : decode cX12_setLevel 5 = .ok (.ifCond .ne 6, 3) := by decide +kernel
theorem dX12_setLevel_8 : decode cX12_setLevel 8 = .ok (.bipush (-2), 2) := by decide +kernel
theorem dX12_setLevel_10 : decode cX12_setLevel 10 = .ok (.ireturn, 1) := by decide +kernel
theorem dX12_setLevel_11 : decode cX12_setLevel 11 = .ok (.iload_n 2, 1) := by decide +kernel
theorem dX12_setLevel_12 : decode cX12_setLevel 12 = .ok (.iconst 0, 1) := by decide +kernel
theorem dX12_setLevel_13 : decode cX12_setLevel 13 = .ok (.bipush 60, 2) := by decide +kernel
theorem dX12_setLevel_15 : decode cX12_setLevel 15 = .ok (.invokestatic 49, 3) := by decide +kernel
theorem dX12_setLevel_18 : decode cX12_setLevel 18 = .ok (.ifCond .ne 6, 3) := by decide +kernel
theorem dX12_setLevel_21 : decode cX12_setLevel 21 = .ok (.bipush (-3), 2) := by decide +kernel
theorem dX12_setLevel_23 : decode cX12_setLevel 23 = .ok (.ireturn, 1) := by decide +kernel
theorem dX12_setLevel_24 : decode cX12_setLevel 24 = .ok (.aload_n 0, 1) := by decide +kernel
theorem dX12_setLevel_25 : decode cX12_setLevel 25 = .ok (.invokevirtual 152, 3) := by decide +kernel
theorem dX12_setLevel_28 : decode cX12_setLevel 28 = .ok (.aload_n 0, 1) := by decide +kernel
theorem dX12_setLevel_29 : decode cX12_setLevel 29 = .ok (.iload_n 1, 1) := by decide +kernel
theorem dX12_setLevel_30 : decode cX12_setLevel 30 = .ok (.iconst 3, 1) := by decide +kernel
theorem dX12_setLevel_31 : decode cX12_setLevel 31 = .ok (.invokevirtual 53, 3) := by decide +kernel
theorem dX12_setLevel_34 : decode cX12_setLevel 34 = .ok (.istore_n 3, 1) := by decide +kernel
theorem dX12_setLevel_35 : decode cX12_setLevel 35 = .ok (.aload_n 0, 1) := by decide +kernel
theorem dX12_setLevel_36 : decode cX12_setLevel 36 = .ok (.iload_n 1, 1) := by decide +kernel
theorem dX12_setLevel_37 : decode cX12_setLevel 37 = .ok (.iconst 3, 1) := by decide +kernel
theorem dX12_setLevel_38 : decode cX12_setLevel 38 = .ok (.iload_n 2, 1) := by decide +kernel
theorem dX12_setLevel_39 : decode cX12_setLevel 39 = .ok (.invokevirtual 66, 3) := by decide +kernel
theorem dX12_setLevel_42 : decode cX12_setLevel 42 = .ok (.iload_n 3, 1) := by decide +kernel
theorem dX12_setLevel_43 : decode cX12_setLevel 43 = .ok (.ireturn, 1) := by decide +kernel
theorem dX12_setMuted_0 : decode cX12_setMuted 0 = .ok (.aload_n 0, 1) := by decide +kernel
theorem dX12_setMuted_1 : decode cX12_setMuted 1 = .ok (.iload_n 1, 1) := by decide +kernel
theorem dX12_setMuted_2 : decode cX12_setMuted 2 = .ok (.invokevirtual 155, 3) := by decide +kernel
theorem dX12_setMuted_5 : decode cX12_setMuted 5 = .ok (.ifCond .ne 6, 3) := by decide +kernel
theorem dX12_setMuted_8 : decode cX12_setMuted 8 = .ok (.bipush (-2), 2) := by decide +kernel
theorem dX12_setMuted_10 : decode cX12_setMuted 10 = .ok (.ireturn, 1) := by decide +kernel
theorem dX12_setMuted_11 : decode cX12_setMuted 11 = .ok (.aload_n 0, 1) := by decide +kernel
theorem dX12_setMuted_12 : decode cX12_setMuted 12 = .ok (.invokevirtual 152, 3) := by decide +kernel
theorem dX12_setMuted_15 : decode cX12_setMuted 15 = .ok (.aload_n 0, 1) := by decide +kernel
theorem dX12_setMuted_16 : decode cX12_setMuted 16 = .ok (.iload_n 1, 1) := by decide +kernel
theorem dX12_setMuted_17 : decode cX12_setMuted 17 = .ok (.iconst 4, 1) := by decide +kernel
theorem dX12_setMuted_18 : decode cX12_setMuted 18 = .ok (.invokevirtual 53, 3) := by decide +kernel
theorem dX12_setMuted_21 : decode cX12_setMuted 21 = .ok (.istore_n 3, 1) := by decide +kernel
theorem dX12_setMuted_22 : decode cX12_setMuted 22 = .ok (.aload_n 0, 1) := by decide +kernel
theorem dX12_setMuted_23 : decode cX12_setMuted 23 = .ok (.iload_n 1, 1) := by decide +kernel
theorem dX12_setMuted_24 : decode cX12_setMuted 24 = .ok (.iconst 4, 1) := by decide +kernel
theorem dX12_setMuted_25 : decode cX12_setMuted 25 = .ok (.iload_n 2, 1) := by decide +kernel
theorem dX12_setMuted_26 : decode cX12_setMuted 26 = .ok (.ifCond .eq 7, 3) := by decide +kernel
theorem dX12_setMuted_29 : decode cX12_setMuted 29 = .ok (.iconst 1, 1) := by decide +kernel
theorem dX12_setMuted_30 : decode cX12_setMuted 30 = .ok (.goto 4, 3) := by decide +kernel
theorem dX12_setMuted_33 : decode cX12_setMuted 33 = .ok (.iconst 0, 1) := by decide +kernel
theorem dX12_setMuted_34 : decode cX12_setMuted 34 = .ok (.invokevirtual 66, 3) := by decide +kernel
theorem dX12_setMuted_37 : decode cX12_setMuted 37 = .ok (.iload_n 3, 1) := by decide +kernel
theorem dX12_setMuted_38 : decode cX12_setMuted 38 = .ok (.ireturn, 1) := by decide +kernel
theorem dX12_setSelection_0 : decode cX12_setSelection 0 = .ok (.iload_n 1, 1) := by decide +kernel
theorem dX12_setSelection_1 : decode cX12_setSelection 1 = .ok (.iconst 1, 1) := by decide +kernel
theorem dX12_setSelection_2 : decode cX12_setSelection 2 = .ok (.iconst 4, 1) := by decide +kernel
theorem dX12_setSelection_3 : decode cX12_setSelection 3 = .ok (.invokestatic 49, 3) := by decide +kernel
theorem dX12_setSelection_6 : decode cX12_setSelection 6 = .ok (.ifCond .eq 34, 3) := by decide +kernel
theorem dX12_setSelection_9 : decode cX12_setSelection 9 = .ok (.iload_n 2, 1) := by decide +kernel
theorem dX12_setSelection_10 : decode cX12_setSelection 10 = .ok (.iconst 1, 1) := by decide +kernel
theorem dX12_setSelection_11 : decode cX12_setSelection 11 = .ok (.bipush 60, 2) := by decide +kernel
theorem dX12_setSelection_13 : decode cX12_setSelection 13 = .ok (.invokestatic 49, 3) := by decide +kernel
theorem dX12_setSelection_16 : decode cX12_setSelection 16 = .ok (.ifCond .eq 24, 3) := by decide +kernel
theorem dX12_setSelection_19 : decode cX12_setSelection 19 = .ok (.iload_n 3, 1) := by decide +kernel
theorem dX12_setSelection_20 : decode cX12_setSelection 20 = .ok (.iconst 4, 1) := by decide +kernel
theorem dX12_setSelection_21 : decode cX12_setSelection 21 = .ok (.bipush 16, 2) := by decide +kernel
theorem dX12_setSelection_23 : decode cX12_setSelection 23 = .ok (.invokestatic 49, 3) := by decide +kernel
theorem dX12_setSelection_26 : decode cX12_setSelection 26 = .ok (.ifCond .eq 14, 3) := by decide +kernel
theorem dX12_setSelection_29 : decode cX12_setSelection 29 = .ok (.iload 4, 2) := by decide +kernel
theorem dX12_setSelection_31 : decode cX12_setSelection 31 = .ok (.iconst 0, 1) := by decide +kernel
theorem dX12_setSelection_32 : decode cX12_setSelection 32 = .ok (.bipush 20, 2) := by decide +kernel
theorem dX12_setSelection_34 : decode cX12_setSelection 34 = .ok (.invokestatic 49, 3) := by decide +kernel
theorem dX12_setSelection_37 : decode cX12_setSelection 37 = .ok (.ifCond .ne 6, 3) := by decide +kernel
theorem dX12_setSelection_40 : decode cX12_setSelection 40 = .ok (.bipush (-3), 2) := by decide +kernel
theorem dX12_setSelection_42 : decode cX12_setSelection 42 = .ok (.ireturn, 1) := by decide +kernel
theorem dX12_setSelection_43 : decode cX12_setSelection 43 = .ok (.aload_n 0, 1) := by decide +kernel
theorem dX12_setSelection_44 : decode cX12_setSelection 44 = .ok (.invokevirtual 152, 3) := by decide +kernel
theorem dX12_setSelection_47 : decode cX12_setSelection 47 = .ok (.aload_n 0, 1) := by decide +kernel
theorem dX12_setSelection_48 : decode cX12_setSelection 48 = .ok (.getfield 7, 3) := by decide +kernel
theorem dX12_setSelection_51 : decode cX12_setSelection 51 = .ok (.iconst 0, 1) := by decide +kernel
theorem dX12_setSelection_52 : decode cX12_setSelection 52 = .ok (.iaload, 1) := by decide +kernel
theorem dX12_setSelection_53 : decode cX12_setSelection 53 = .ok (.istore 5, 2) := by decide +kernel
theorem dX12_setSelection_55 : decode cX12_setSelection 55 = .ok (.aload_n 0, 1) := by decide +kernel
theorem dX12_setSelection_56 : decode cX12_setSelection 56 = .ok (.getfield 7, 3) := by decide +kernel
theorem dX12_setSelection_59 : decode cX12_setSelection 59 = .ok (.iconst 0, 1) := by decide +kernel
theorem dX12_setSelection_60 : decode cX12_setSelection 60 = .ok (.iload_n 1, 1) := by decide +kernel
theorem dX12_setSelection_61 : decode cX12_setSelection 61 = .ok (.iastore, 1) := by decide +kernel
theorem dX12_setSelection_62 : decode cX12_setSelection 62 = .ok (.aload_n 0, 1) := by decide +kernel
theorem dX12_setSelection_63 : decode cX12_setSelection 63 = .ok (.getfield 7, 3) := by decide +kernel
theorem dX12_setSelection_66 : decode cX12_setSelection 66 = .ok (.iconst 1, 1) := by decide +kernel
theorem dX12_setSelection_67 : decode cX12_setSelection 67 = .ok (.iload_n 2, 1) := by decide +kernel
theorem dX12_setSelection_68 : decode cX12_setSelection 68 = .ok (.iastore, 1) := by decide +kernel
theorem dX12_setSelection_69 : decode cX12_setSelection 69 = .ok (.aload_n 0, 1) := by decide +kernel
theorem dX12_setSelection_70 : decode cX12_setSelection 70 = .ok (.getfield 7, 3) := by decide +kernel
theorem dX12_setSelection_73 : decode cX12_setSelection 73 = .ok (.iconst 2, 1) := by decide +kernel
theorem dX12_setSelection_74 : decode cX12_setSelection 74 = .ok (.iload_n 3, 1) := by decide +kernel
theorem dX12_setSelection_75 : decode cX12_setSelection 75 = .ok (.iastore, 1) := by decide +kernel
theorem dX12_setSelection_76 : decode cX12_setSelection 76 = .ok (.aload_n 0, 1) := by decide +kernel
theorem dX12_setSelection_77 : decode cX12_setSelection 77 = .ok (.getfield 7, 3) := by decide +kernel
theorem dX12_setSelection_80 : decode cX12_setSelection 80 = .ok (.iconst 3, 1) := by decide +kernel
theorem dX12_setSelection_81 : decode cX12_setSelection 81 = .ok (.iload 4, 2) := by decide +kernel
theorem dX12_setSelection_83 : decode cX12_setSelection 83 = .ok (.iastore, 1) := by decide +kernel
theorem dX12_setSelection_84 : decode cX12_setSelection 84 = .ok (.iload 5, 2) := by decide +kernel
theorem dX12_setSelection_86 : decode cX12_setSelection 86 = .ok (.ireturn, 1) := by decide +kernel
theorem dX12_setFloor_0 : decode cX12_setFloor 0 = .ok (.iload_n 2, 1) := by decide +kernel
theorem dX12_setFloor_1 : decode cX12_setFloor 1 = .ok (.iconst 1, 1) := by decide +kernel
theorem dX12_setFloor_2 : decode cX12_setFloor 2 = .ok (.iconst 4, 1) := by decide +kernel
theorem dX12_setFloor_3 : decode cX12_setFloor 3 = .ok (.invokestatic 49, 3) := by decide +kernel
theorem dX12_setFloor_6 : decode cX12_setFloor 6 = .ok (.ifCond .eq 24, 3) := by decide +kernel
theorem dX12_setFloor_9 : decode cX12_setFloor 9 = .ok (.iload_n 3, 1) := by decide +kernel
theorem dX12_setFloor_10 : decode cX12_setFloor 10 = .ok (.iconst 1, 1) := by decide +kernel
theorem dX12_setFloor_11 : decode cX12_setFloor 11 = .ok (.bipush 50, 2) := by decide +kernel
theorem dX12_setFloor_13 : decode cX12_setFloor 13 = .ok (.invokestatic 49, 3) := by decide +kernel
theorem dX12_setFloor_16 : decode cX12_setFloor 16 = .ok (.ifCond .eq 14, 3) := by decide +kernel
theorem dX12_setFloor_19 : decode cX12_setFloor 19 = .ok (.iload 4, 2) := by decide +kernel
theorem dX12_setFloor_21 : decode cX12_setFloor 21 = .ok (.iconst 0, 1) := by decide +kernel
theorem dX12_setFloor_22 : decode cX12_setFloor 22 = .ok (.bipush 100, 2) := by decide +kernel
theorem dX12_setFloor_24 : decode cX12_setFloor 24 = .ok (.invokestatic 49, 3) := by decide +kernel
theorem dX12_setFloor_27 : decode cX12_setFloor 27 = .ok (.ifCond .ne 6, 3) := by decide +kernel
theorem dX12_setFloor_30 : decode cX12_setFloor 30 = .ok (.bipush (-3), 2) := by decide +kernel
theorem dX12_setFloor_32 : decode cX12_setFloor 32 = .ok (.ireturn, 1) := by decide +kernel
theorem dX12_setFloor_33 : decode cX12_setFloor 33 = .ok (.aload_n 0, 1) := by decide +kernel
theorem dX12_setFloor_34 : decode cX12_setFloor 34 = .ok (.invokevirtual 152, 3) := by decide +kernel
theorem dX12_setFloor_37 : decode cX12_setFloor 37 = .ok (.aload_n 0, 1) := by decide +kernel
theorem dX12_setFloor_38 : decode cX12_setFloor 38 = .ok (.getfield 7, 3) := by decide +kernel
theorem dX12_setFloor_41 : decode cX12_setFloor 41 = .ok (.iconst 4, 1) := by decide +kernel
theorem dX12_setFloor_42 : decode cX12_setFloor 42 = .ok (.iaload, 1) := by decide +kernel
theorem dX12_setFloor_43 : decode cX12_setFloor 43 = .ok (.istore 5, 2) := by decide +kernel
theorem dX12_setFloor_45 : decode cX12_setFloor 45 = .ok (.aload_n 0, 1) := by decide +kernel
theorem dX12_setFloor_46 : decode cX12_setFloor 46 = .ok (.getfield 7, 3) := by decide +kernel
theorem dX12_setFloor_49 : decode cX12_setFloor 49 = .ok (.iconst 4, 1) := by decide +kernel
theorem dX12_setFloor_50 : decode cX12_setFloor 50 = .ok (.iload_n 1, 1) := by decide +kernel
theorem dX12_setFloor_51 : decode cX12_setFloor 51 = .ok (.ifCond .eq 7, 3) := by decide +kernel
theorem dX12_setFloor_54 : decode cX12_setFloor 54 = .ok (.iconst 1, 1) := by decide +kernel
theorem dX12_setFloor_55 : decode cX12_setFloor 55 = .ok (.goto 4, 3) := by decide +kernel
theorem dX12_setFloor_58 : decode cX12_setFloor 58 = .ok (.iconst 0, 1) := by decide +kernel
theorem dX12_setFloor_59 : decode cX12_setFloor 59 = .ok (.iastore, 1) := by decide +kernel
theorem dX12_setFloor_60 : decode cX12_setFloor 60 = .ok (.aload_n 0, 1) := by decide +kernel
theorem dX12_setFloor_61 : decode cX12_setFloor 61 = .ok (.getfield 7, 3) := by decide +kernel
theorem dX12_setFloor_64 : decode cX12_setFloor 64 = .ok (.iconst 5, 1) := by decide +kernel
theorem dX12_setFloor_65 : decode cX12_setFloor 65 = .ok (.iload_n 2, 1) := by decide +kernel
theorem dX12_setFloor_66 : decode cX12_setFloor 66 = .ok (.iastore, 1) := by decide +kernel
theorem dX12_setFloor_67 : decode cX12_setFloor 67 = .ok (.aload_n 0, 1) := by decide +kernel
theorem dX12_setFloor_68 : decode cX12_setFloor 68 = .ok (.getfield 7, 3) := by decide +kernel
theorem dX12_setFloor_71 : decode cX12_setFloor 71 = .ok (.bipush 6, 2) := by decide +kernel
theorem dX12_setFloor_73 : decode cX12_setFloor 73 = .ok (.iload_n 3, 1) := by decide +kernel
theorem dX12_setFloor_74 : decode cX12_setFloor 74 = .ok (.iastore, 1) := by decide +kernel
theorem dX12_setFloor_75 : decode cX12_setFloor 75 = .ok (.aload_n 0, 1) := by decide +kernel
theorem dX12_setFloor_76 : decode cX12_setFloor 76 = .ok (.getfield 7, 3) := by decide +kernel
theorem dX12_setFloor_79 : decode cX12_setFloor 79 = .ok (.bipush 7, 2) := by decide +kernel
theorem dX12_setFloor_81 : decode cX12_setFloor 81 = .ok (.iload 4, 2) := by decide +kernel
theorem dX12_setFloor_83 : decode cX12_setFloor 83 = .ok (.iastore, 1) := by decide +kernel
theorem dX12_setFloor_84 : decode cX12_setFloor 84 = .ok (.iload 5, 2) := by decide +kernel
theorem dX12_setFloor_86 : decode cX12_setFloor 86 = .ok (.ireturn, 1) := by decide +kernel
theorem dX12_request_0 : decode cX12_request 0 = .ok (.aload_n 0, 1) := by decide +kernel
theorem dX12_request_1 : decode cX12_request 1 = .ok (.iload_n 1, 1) := by decide +kernel
theorem dX12_request_2 : decode cX12_request 2 = .ok (.invokevirtual 155, 3) := by decide +kernel
theorem dX12_request_5 : decode cX12_request 5 = .ok (.ifCond .ne 6, 3) := by decide +kernel
theorem dX12_request_8 : decode cX12_request 8 = .ok (.bipush (-2), 2) := by decide +kernel
theorem dX12_request_10 : decode cX12_request 10 = .ok (.ireturn, 1) := by decide +kernel
theorem dX12_request_11 : decode cX12_request 11 = .ok (.iload_n 2, 1) := by decide +kernel
theorem dX12_request_12 : decode cX12_request 12 = .ok (.iconst 0, 1) := by decide +kernel
theorem dX12_request_13 : decode cX12_request 13 = .ok (.bipush 9, 2) := by decide +kernel
theorem dX12_request_15 : decode cX12_request 15 = .ok (.invokestatic 49, 3) := by decide +kernel
theorem dX12_request_18 : decode cX12_request 18 = .ok (.ifCond .ne 6, 3) := by decide +kernel
theorem dX12_request_21 : decode cX12_request 21 = .ok (.bipush (-3), 2) := by decide +kernel
theorem dX12_request_23 : decode cX12_request 23 = .ok (.ireturn, 1) := by decide +kernel
theorem dX12_request_24 : decode cX12_request 24 = .ok (.aload_n 0, 1) := by decide +kernel
theorem dX12_request_25 : decode cX12_request 25 = .ok (.iload_n 1, 1) := by decide +kernel
theorem dX12_request_26 : decode cX12_request 26 = .ok (.bipush 7, 2) := by decide +kernel
theorem dX12_request_28 : decode cX12_request 28 = .ok (.invokevirtual 53, 3) := by decide +kernel
theorem dX12_request_31 : decode cX12_request 31 = .ok (.iconst 1, 1) := by decide +kernel
theorem dX12_request_32 : decode cX12_request 32 = .ok (.if_icmp .eq 14, 3) := by decide +kernel
theorem dX12_request_35 : decode cX12_request 35 = .ok (.aload_n 0, 1) := by decide +kernel
theorem dX12_request_36 : decode cX12_request 36 = .ok (.iload_n 1, 1) := by decide +kernel
theorem dX12_request_37 : decode cX12_request 37 = .ok (.bipush 10, 2) := by decide +kernel
theorem dX12_request_39 : decode cX12_request 39 = .ok (.invokevirtual 53, 3) := by decide +kernel
theorem dX12_request_42 : decode cX12_request 42 = .ok (.iconst (-1), 1) := by decide +kernel
theorem dX12_request_43 : decode cX12_request 43 = .ok (.if_icmp .eq 6, 3) := by decide +kernel
theorem dX12_request_46 : decode cX12_request 46 = .ok (.bipush (-4), 2) := by decide +kernel
theorem dX12_request_48 : decode cX12_request 48 = .ok (.ireturn, 1) := by decide +kernel
theorem dX12_request_49 : decode cX12_request 49 = .ok (.aload_n 0, 1) := by decide +kernel
theorem dX12_request_50 : decode cX12_request 50 = .ok (.invokevirtual 152, 3) := by decide +kernel
theorem dX12_request_53 : decode cX12_request 53 = .ok (.aload_n 0, 1) := by decide +kernel
theorem dX12_request_54 : decode cX12_request 54 = .ok (.iload_n 1, 1) := by decide +kernel
theorem dX12_request_55 : decode cX12_request 55 = .ok (.bipush 10, 2) := by decide +kernel
theorem dX12_request_57 : decode cX12_request 57 = .ok (.iload_n 2, 1) := by decide +kernel
theorem dX12_request_58 : decode cX12_request 58 = .ok (.invokevirtual 66, 3) := by decide +kernel
theorem dX12_request_61 : decode cX12_request 61 = .ok (.aload_n 0, 1) := by decide +kernel
theorem dX12_request_62 : decode cX12_request 62 = .ok (.iload_n 1, 1) := by decide +kernel
theorem dX12_request_63 : decode cX12_request 63 = .ok (.bipush 11, 2) := by decide +kernel
theorem dX12_request_65 : decode cX12_request 65 = .ok (.aload_n 0, 1) := by decide +kernel
theorem dX12_request_66 : decode cX12_request 66 = .ok (.getfield 7, 3) := by decide +kernel
theorem dX12_request_69 : decode cX12_request 69 = .ok (.bipush 8, 2) := by decide +kernel
theorem dX12_request_71 : decode cX12_request 71 = .ok (.iaload, 1) := by decide +kernel
theorem dX12_request_72 : decode cX12_request 72 = .ok (.invokevirtual 66, 3) := by decide +kernel
theorem dX12_request_75 : decode cX12_request 75 = .ok (.aload_n 0, 1) := by decide +kernel
theorem dX12_request_76 : decode cX12_request 76 = .ok (.getfield 7, 3) := by decide +kernel
theorem dX12_request_79 : decode cX12_request 79 = .ok (.bipush 8, 2) := by decide +kernel
theorem dX12_request_81 : decode cX12_request 81 = .ok (.dup2, 1) := by decide +kernel
theorem dX12_request_82 : decode cX12_request 82 = .ok (.iaload, 1) := by decide +kernel
theorem dX12_request_83 : decode cX12_request 83 = .ok (.iconst 1, 1) := by decide +kernel
theorem dX12_request_84 : decode cX12_request 84 = .ok (.iadd, 1) := by decide +kernel
theorem dX12_request_85 : decode cX12_request 85 = .ok (.iastore, 1) := by decide +kernel
theorem dX12_request_86 : decode cX12_request 86 = .ok (.aload_n 0, 1) := by decide +kernel
theorem dX12_request_87 : decode cX12_request 87 = .ok (.invokevirtual 74, 3) := by decide +kernel
theorem dX12_request_90 : decode cX12_request 90 = .ok (.ireturn, 1) := by decide +kernel
theorem dX12_giveUp_0 : decode cX12_giveUp 0 = .ok (.aload_n 0, 1) := by decide +kernel
theorem dX12_giveUp_1 : decode cX12_giveUp 1 = .ok (.iload_n 1, 1) := by decide +kernel
theorem dX12_giveUp_2 : decode cX12_giveUp 2 = .ok (.invokevirtual 155, 3) := by decide +kernel
theorem dX12_giveUp_5 : decode cX12_giveUp 5 = .ok (.ifCond .ne 6, 3) := by decide +kernel
theorem dX12_giveUp_8 : decode cX12_giveUp 8 = .ok (.bipush (-2), 2) := by decide +kernel
theorem dX12_giveUp_10 : decode cX12_giveUp 10 = .ok (.ireturn, 1) := by decide +kernel
theorem dX12_giveUp_11 : decode cX12_giveUp 11 = .ok (.aload_n 0, 1) := by decide +kernel
theorem dX12_giveUp_12 : decode cX12_giveUp 12 = .ok (.iload_n 1, 1) := by decide +kernel
theorem dX12_giveUp_13 : decode cX12_giveUp 13 = .ok (.bipush 7, 2) := by decide +kernel
theorem dX12_giveUp_15 : decode cX12_giveUp 15 = .ok (.invokevirtual 53, 3) := by decide +kernel
theorem dX12_giveUp_18 : decode cX12_giveUp 18 = .ok (.istore_n 2, 1) := by decide +kernel
theorem dX12_giveUp_19 : decode cX12_giveUp 19 = .ok (.iload_n 2, 1) := by decide +kernel
theorem dX12_giveUp_20 : decode cX12_giveUp 20 = .ok (.ifCond .ne 17, 3) := by decide +kernel
theorem dX12_giveUp_23 : decode cX12_giveUp 23 = .ok (.aload_n 0, 1) := by decide +kernel
theorem dX12_giveUp_24 : decode cX12_giveUp 24 = .ok (.iload_n 1, 1) := by decide +kernel
theorem dX12_giveUp_25 : decode cX12_giveUp 25 = .ok (.bipush 10, 2) := by decide +kernel
theorem dX12_giveUp_27 : decode cX12_giveUp 27 = .ok (.invokevirtual 53, 3) := by decide +kernel
theorem dX12_giveUp_30 : decode cX12_giveUp 30 = .ok (.iconst (-1), 1) := by decide +kernel
theorem dX12_giveUp_31 : decode cX12_giveUp 31 = .ok (.if_icmp .ne 6, 3) := by decide +kernel
theorem dX12_giveUp_34 : decode cX12_giveUp 34 = .ok (.bipush (-4), 2) := by decide +kernel
theorem dX12_giveUp_36 : decode cX12_giveUp 36 = .ok (.ireturn, 1) := by decide +kernel
theorem dX12_giveUp_37 : decode cX12_giveUp 37 = .ok (.aload_n 0, 1) := by decide +kernel
theorem dX12_giveUp_38 : decode cX12_giveUp 38 = .ok (.invokevirtual 152, 3) := by decide +kernel
theorem dX12_giveUp_41 : decode cX12_giveUp 41 = .ok (.aload_n 0, 1) := by decide +kernel
theorem dX12_giveUp_42 : decode cX12_giveUp 42 = .ok (.iload_n 1, 1) := by decide +kernel
theorem dX12_giveUp_43 : decode cX12_giveUp 43 = .ok (.bipush 7, 2) := by decide +kernel
theorem dX12_giveUp_45 : decode cX12_giveUp 45 = .ok (.iconst 0, 1) := by decide +kernel
theorem dX12_giveUp_46 : decode cX12_giveUp 46 = .ok (.invokevirtual 66, 3) := by decide +kernel
theorem dX12_giveUp_49 : decode cX12_giveUp 49 = .ok (.aload_n 0, 1) := by decide +kernel
theorem dX12_giveUp_50 : decode cX12_giveUp 50 = .ok (.iload_n 1, 1) := by decide +kernel
theorem dX12_giveUp_51 : decode cX12_giveUp 51 = .ok (.bipush 10, 2) := by decide +kernel
theorem dX12_giveUp_53 : decode cX12_giveUp 53 = .ok (.iconst (-1), 1) := by decide +kernel
theorem dX12_giveUp_54 : decode cX12_giveUp 54 = .ok (.invokevirtual 66, 3) := by decide +kernel
theorem dX12_giveUp_57 : decode cX12_giveUp 57 = .ok (.iload_n 2, 1) := by decide +kernel
theorem dX12_giveUp_58 : decode cX12_giveUp 58 = .ok (.ireturn, 1) := by decide +kernel
theorem dX12_tick_0 : decode cX12_tick 0 = .ok (.iload_n 1, 1) := by decide +kernel
theorem dX12_tick_1 : decode cX12_tick 1 = .ok (.iconst 1, 1) := by decide +kernel
theorem dX12_tick_2 : decode cX12_tick 2 = .ok (.bipush 99, 2) := by decide +kernel
theorem dX12_tick_4 : decode cX12_tick 4 = .ok (.invokestatic 49, 3) := by decide +kernel
theorem dX12_tick_7 : decode cX12_tick 7 = .ok (.ifCond .ne 6, 3) := by decide +kernel
theorem dX12_tick_10 : decode cX12_tick 10 = .ok (.bipush (-3), 2) := by decide +kernel
theorem dX12_tick_12 : decode cX12_tick 12 = .ok (.ireturn, 1) := by decide +kernel
theorem dX12_tick_13 : decode cX12_tick 13 = .ok (.aload_n 0, 1) := by decide +kernel
theorem dX12_tick_14 : decode cX12_tick 14 = .ok (.invokevirtual 152, 3) := by decide +kernel
theorem dX12_tick_17 : decode cX12_tick 17 = .ok (.iconst 0, 1) := by decide +kernel
theorem dX12_tick_18 : decode cX12_tick 18 = .ok (.istore_n 2, 1) := by decide +kernel
theorem dX12_tick_19 : decode cX12_tick 19 = .ok (.iload_n 2, 1) := by decide +kernel
theorem dX12_tick_20 : decode cX12_tick 20 = .ok (.iload_n 1, 1) := by decide +kernel
theorem dX12_tick_21 : decode cX12_tick 21 = .ok (.if_icmp .ge 13, 3) := by decide +kernel
theorem dX12_tick_24 : decode cX12_tick 24 = .ok (.aload_n 0, 1) := by decide +kernel
theorem dX12_tick_25 : decode cX12_tick 25 = .ok (.invokevirtual 161, 3) := by decide +kernel
theorem dX12_tick_28 : decode cX12_tick 28 = .ok (.iinc 2 1, 3) := by decide +kernel
theorem dX12_tick_31 : decode cX12_tick 31 = .ok (.goto (-12), 3) := by decide +kernel
theorem dX12_tick_34 : decode cX12_tick 34 = .ok (.iconst 0, 1) := by decide +kernel
theorem dX12_tick_35 : decode cX12_tick 35 = .ok (.istore_n 2, 1) := by decide +kernel
theorem dX12_tick_36 : decode cX12_tick 36 = .ok (.iconst 0, 1) := by decide +kernel
theorem dX12_tick_37 : decode cX12_tick 37 = .ok (.istore_n 3, 1) := by decide +kernel
theorem dX12_tick_38 : decode cX12_tick 38 = .ok (.iload_n 3, 1) := by decide +kernel
theorem dX12_tick_39 : decode cX12_tick 39 = .ok (.aload_n 0, 1) := by decide +kernel
theorem dX12_tick_40 : decode cX12_tick 40 = .ok (.getfield 7, 3) := by decide +kernel
theorem dX12_tick_43 : decode cX12_tick 43 = .ok (.bipush 11, 2) := by decide +kernel
theorem dX12_tick_45 : decode cX12_tick 45 = .ok (.iaload, 1) := by decide +kernel
theorem dX12_tick_46 : decode cX12_tick 46 = .ok (.if_icmp .ge 17, 3) := by decide +kernel
theorem dX12_tick_49 : decode cX12_tick 49 = .ok (.iload_n 2, 1) := by decide +kernel
theorem dX12_tick_50 : decode cX12_tick 50 = .ok (.aload_n 0, 1) := by decide +kernel
theorem dX12_tick_51 : decode cX12_tick 51 = .ok (.iload_n 3, 1) := by decide +kernel
theorem dX12_tick_52 : decode cX12_tick 52 = .ok (.invokevirtual 102, 3) := by decide +kernel
theorem dX12_tick_55 : decode cX12_tick 55 = .ok (.iadd, 1) := by decide +kernel
theorem dX12_tick_56 : decode cX12_tick 56 = .ok (.istore_n 2, 1) := by decide +kernel
theorem dX12_tick_57 : decode cX12_tick 57 = .ok (.iinc 3 1, 3) := by decide +kernel
theorem dX12_tick_60 : decode cX12_tick 60 = .ok (.goto (-22), 3) := by decide +kernel
theorem dX12_tick_63 : decode cX12_tick 63 = .ok (.iload_n 2, 1) := by decide +kernel
theorem dX12_tick_64 : decode cX12_tick 64 = .ok (.ireturn, 1) := by decide +kernel
theorem dX12_undo_0 : decode cX12_undo 0 = .ok (.aload_n 0, 1) := by decide +kernel
theorem dX12_undo_1 : decode cX12_undo 1 = .ok (.getfield 41, 3) := by decide +kernel
theorem dX12_undo_4 : decode cX12_undo 4 = .ok (.ifCond .ne 6, 3) := by decide +kernel
theorem dX12_undo_7 : decode cX12_undo 7 = .ok (.bipush (-4), 2) := by decide +kernel
theorem dX12_undo_9 : decode cX12_undo 9 = .ok (.ireturn, 1) := by decide +kernel
theorem dX12_undo_10 : decode cX12_undo 10 = .ok (.aload_n 0, 1) := by decide +kernel
theorem dX12_undo_11 : decode cX12_undo 11 = .ok (.sipush 971, 3) := by decide +kernel
theorem dX12_undo_14 : decode cX12_undo 14 = .ok (.aload_n 0, 1) := by decide +kernel
theorem dX12_undo_15 : decode cX12_undo 15 = .ok (.getfield 41, 3) := by decide +kernel
theorem dX12_undo_18 : decode cX12_undo 18 = .ok (.imul, 1) := by decide +kernel
theorem dX12_undo_19 : decode cX12_undo 19 = .ok (.iconst 0, 1) := by decide +kernel
theorem dX12_undo_20 : decode cX12_undo 20 = .ok (.sipush 296, 3) := by decide +kernel
theorem dX12_undo_23 : decode cX12_undo 23 = .ok (.aload_n 0, 1) := by decide +kernel
theorem dX12_undo_24 : decode cX12_undo 24 = .ok (.getfield 41, 3) := by decide +kernel
theorem dX12_undo_27 : decode cX12_undo 27 = .ok (.imul, 1) := by decide +kernel
theorem dX12_undo_28 : decode cX12_undo 28 = .ok (.iconst 0, 1) := by decide +kernel
theorem dX12_undo_29 : decode cX12_undo 29 = .ok (.invokevirtual 45, 3) := by decide +kernel
theorem dX12_undo_32 : decode cX12_undo 32 = .ok (.aload_n 0, 1) := by decide +kernel
theorem dX12_undo_33 : decode cX12_undo 33 = .ok (.dup, 1) := by decide +kernel
theorem dX12_undo_34 : decode cX12_undo 34 = .ok (.getfield 41, 3) := by decide +kernel
theorem dX12_undo_37 : decode cX12_undo 37 = .ok (.iconst 1, 1) := by decide +kernel
theorem dX12_undo_38 : decode cX12_undo 38 = .ok (.isub, 1) := by decide +kernel
theorem dX12_undo_39 : decode cX12_undo 39 = .ok (.putfield 41, 3) := by decide +kernel
theorem dX12_undo_42 : decode cX12_undo 42 = .ok (.aload_n 0, 1) := by decide +kernel
theorem dX12_undo_43 : decode cX12_undo 43 = .ok (.getfield 41, 3) := by decide +kernel
theorem dX12_undo_46 : decode cX12_undo 46 = .ok (.ireturn, 1) := by decide +kernel
theorem dX12_type_0 : decode cX12_type 0 = .ok (.iload_n 1, 1) := by decide +kernel
theorem dX12_type_1 : decode cX12_type 1 = .ok (.iconst 0, 1) := by decide +kernel
theorem dX12_type_2 : decode cX12_type 2 = .ok (.sipush 255, 3) := by decide +kernel
theorem dX12_type_5 : decode cX12_type 5 = .ok (.invokestatic 49, 3) := by decide +kernel
theorem dX12_type_8 : decode cX12_type 8 = .ok (.ifCond .ne 6, 3) := by decide +kernel
theorem dX12_type_11 : decode cX12_type 11 = .ok (.bipush (-3), 2) := by decide +kernel
theorem dX12_type_13 : decode cX12_type 13 = .ok (.ireturn, 1) := by decide +kernel
theorem dX12_type_14 : decode cX12_type 14 = .ok (.aload_n 0, 1) := by decide +kernel
theorem dX12_type_15 : decode cX12_type 15 = .ok (.getfield 164, 3) := by decide +kernel
theorem dX12_type_18 : decode cX12_type 18 = .ok (.bipush 100, 2) := by decide +kernel
theorem dX12_type_20 : decode cX12_type 20 = .ok (.if_icmp .ne 6, 3) := by decide +kernel
theorem dX12_type_23 : decode cX12_type 23 = .ok (.bipush (-5), 2) := by decide +kernel
theorem dX12_type_25 : decode cX12_type 25 = .ok (.ireturn, 1) := by decide +kernel
theorem dX12_type_26 : decode cX12_type 26 = .ok (.aload_n 0, 1) := by decide +kernel
theorem dX12_type_27 : decode cX12_type 27 = .ok (.getfield 34, 3) := by decide +kernel
theorem dX12_type_30 : decode cX12_type 30 = .ok (.aload_n 0, 1) := by decide +kernel
theorem dX12_type_31 : decode cX12_type 31 = .ok (.getfield 164, 3) := by decide +kernel
theorem dX12_type_34 : decode cX12_type 34 = .ok (.iload_n 1, 1) := by decide +kernel
theorem dX12_type_35 : decode cX12_type 35 = .ok (.iastore, 1) := by decide +kernel
theorem dX12_type_36 : decode cX12_type 36 = .ok (.aload_n 0, 1) := by decide +kernel
theorem dX12_type_37 : decode cX12_type 37 = .ok (.dup, 1) := by decide +kernel
theorem dX12_type_38 : decode cX12_type 38 = .ok (.getfield 164, 3) := by decide +kernel
theorem dX12_type_41 : decode cX12_type 41 = .ok (.iconst 1, 1) := by decide +kernel
theorem dX12_type_42 : decode cX12_type 42 = .ok (.iadd, 1) := by decide +kernel
theorem dX12_type_43 : decode cX12_type 43 = .ok (.putfield 164, 3) := by decide +kernel
theorem dX12_type_46 : decode cX12_type 46 = .ok (.aload_n 0, 1) := by decide +kernel
theorem dX12_type_47 : decode cX12_type 47 = .ok (.getfield 164, 3) := by decide +kernel
theorem dX12_type_50 : decode cX12_type 50 = .ok (.ireturn, 1) := by decide +kernel
theorem dX12_clearText_0 : decode cX12_clearText 0 = .ok (.aload_n 0, 1) := by decide +kernel
theorem dX12_clearText_1 : decode cX12_clearText 1 = .ok (.getfield 164, 3) := by decide +kernel
theorem dX12_clearText_4 : decode cX12_clearText 4 = .ok (.istore_n 1, 1) := by decide +kernel
theorem dX12_clearText_5 : decode cX12_clearText 5 = .ok (.aload_n 0, 1) := by decide +kernel
theorem dX12_clearText_6 : decode cX12_clearText 6 = .ok (.iconst 0, 1) := by decide +kernel
theorem dX12_clearText_7 : decode cX12_clearText 7 = .ok (.putfield 164, 3) := by decide +kernel
theorem dX12_clearText_10 : decode cX12_clearText 10 = .ok (.iload_n 1, 1) := by decide +kernel
theorem dX12_clearText_11 : decode cX12_clearText 11 = .ok (.ireturn, 1) := by decide +kernel
theorem dX12_here_0 : decode cX12_here 0 = .ok (.aload_n 0, 1) := by decide +kernel
theorem dX12_here_1 : decode cX12_here 1 = .ok (.getfield 167, 3) := by decide +kernel
theorem dX12_here_4 : decode cX12_here 4 = .ok (.aload_n 0, 1) := by decide +kernel
theorem dX12_here_5 : decode cX12_here 5 = .ok (.getfield 164, 3) := by decide +kernel
theorem dX12_here_8 : decode cX12_here 8 = .ok (.if_icmp .ge 30, 3) := by decide +kernel
theorem dX12_here_11 : decode cX12_here 11 = .ok (.aload_n 0, 1) := by decide +kernel
theorem dX12_here_12 : decode cX12_here 12 = .ok (.getfield 34, 3) := by decide +kernel
theorem dX12_here_15 : decode cX12_here 15 = .ok (.aload_n 0, 1) := by decide +kernel
theorem dX12_here_16 : decode cX12_here 16 = .ok (.getfield 167, 3) := by decide +kernel
theorem dX12_here_19 : decode cX12_here 19 = .ok (.iaload, 1) := by decide +kernel
theorem dX12_here_20 : decode cX12_here 20 = .ok (.bipush 32, 2) := by decide +kernel
theorem dX12_here_22 : decode cX12_here 22 = .ok (.if_icmp .ne 16, 3) := by decide +kernel
theorem dX12_here_25 : decode cX12_here 25 = .ok (.aload_n 0, 1) := by decide +kernel
theorem dX12_here_26 : decode cX12_here 26 = .ok (.dup, 1) := by decide +kernel
theorem dX12_here_27 : decode cX12_here 27 = .ok (.getfield 167, 3) := by decide +kernel
theorem dX12_here_30 : decode cX12_here 30 = .ok (.iconst 1, 1) := by decide +kernel
theorem dX12_here_31 : decode cX12_here 31 = .ok (.iadd, 1) := by decide +kernel
theorem dX12_here_32 : decode cX12_here 32 = .ok (.putfield 167, 3) := by decide +kernel
theorem dX12_here_35 : decode cX12_here 35 = .ok (.goto (-35), 3) := by decide +kernel
theorem dX12_here_38 : decode cX12_here 38 = .ok (.aload_n 0, 1) := by decide +kernel
theorem dX12_here_39 : decode cX12_here 39 = .ok (.getfield 167, 3) := by decide +kernel
theorem dX12_here_42 : decode cX12_here 42 = .ok (.aload_n 0, 1) := by decide +kernel
theorem dX12_here_43 : decode cX12_here 43 = .ok (.getfield 164, 3) := by decide +kernel
theorem dX12_here_46 : decode cX12_here 46 = .ok (.if_icmp .ge 15, 3) := by decide +kernel
theorem dX12_here_49 : decode cX12_here 49 = .ok (.aload_n 0, 1) := by decide +kernel
theorem dX12_here_50 : decode cX12_here 50 = .ok (.getfield 34, 3) := by decide +kernel
theorem dX12_here_53 : decode cX12_here 53 = .ok (.aload_n 0, 1) := by decide +kernel
theorem dX12_here_54 : decode cX12_here 54 = .ok (.getfield 167, 3) := by decide +kernel
theorem dX12_here_57 : decode cX12_here 57 = .ok (.iaload, 1) := by decide +kernel
theorem dX12_here_58 : decode cX12_here 58 = .ok (.goto 4, 3) := by decide +kernel
theorem dX12_here_61 : decode cX12_here 61 = .ok (.iconst (-1), 1) := by decide +kernel
theorem dX12_here_62 : decode cX12_here 62 = .ok (.ireturn, 1) := by decide +kernel
theorem dX12_number_0 : decode cX12_number 0 = .ok (.aload_n 0, 1) := by decide +kernel
theorem dX12_number_1 : decode cX12_number 1 = .ok (.aload_n 0, 1) := by decide +kernel
theorem dX12_number_2 : decode cX12_number 2 = .ok (.getfield 170, 3) := by decide +kernel
theorem dX12_number_5 : decode cX12_number 5 = .ok (.ifCond .eq 21, 3) := by decide +kernel
theorem dX12_number_8 : decode cX12_number 8 = .ok (.aload_n 0, 1) := by decide +kernel
theorem dX12_number_9 : decode cX12_number 9 = .ok (.invokevirtual 173, 3) := by decide +kernel
theorem dX12_number_12 : decode cX12_number 12 = .ok (.bipush 48, 2) := by decide +kernel
theorem dX12_number_14 : decode cX12_number 14 = .ok (.bipush 57, 2) := by decide +kernel
theorem dX12_number_16 : decode cX12_number 16 = .ok (.invokestatic 49, 3) := by decide +kernel
theorem dX12_number_19 : decode cX12_number 19 = .ok (.ifCond .eq 7, 3) := by decide +kernel
theorem dX12_number_22 : decode cX12_number 22 = .ok (.iconst 1, 1) := by decide +kernel
theorem dX12_number_23 : decode cX12_number 23 = .ok (.goto 4, 3) := by decide +kernel
theorem dX12_number_26 : decode cX12_number 26 = .ok (.iconst 0, 1) := by decide +kernel
theorem dX12_number_27 : decode cX12_number 27 = .ok (.putfield 170, 3) := by decide +kernel
theorem dX12_number_30 : decode cX12_number 30 = .ok (.aload_n 0, 1) := by decide +kernel
theorem dX12_number_31 : decode cX12_number 31 = .ok (.getfield 167, 3) := by decide +kernel
theorem dX12_number_34 : decode cX12_number 34 = .ok (.istore_n 1, 1) := by decide +kernel
theorem dX12_number_35 : decode cX12_number 35 = .ok (.iconst 0, 1) := by decide +kernel
theorem dX12_number_36 : decode cX12_number 36 = .ok (.istore_n 2, 1) := by decide +kernel
theorem dX12_number_37 : decode cX12_number 37 = .ok (.aload_n 0, 1) := by decide +kernel
theorem dX12_number_38 : decode cX12_number 38 = .ok (.getfield 170, 3) := by decide +kernel
theorem dX12_number_41 : decode cX12_number 41 = .ok (.ifCond .eq 62, 3) := by decide +kernel
theorem dX12_number_44 : decode cX12_number 44 = .ok (.iload_n 1, 1) := by decide +kernel
theorem dX12_number_45 : decode cX12_number 45 = .ok (.aload_n 0, 1) := by decide +kernel
theorem dX12_number_46 : decode cX12_number 46 = .ok (.getfield 164, 3) := by decide +kernel
theorem dX12_number_49 : decode cX12_number 49 = .ok (.if_icmp .ge 54, 3) := by decide +kernel
theorem dX12_number_52 : decode cX12_number 52 = .ok (.aload_n 0, 1) := by decide +kernel
theorem dX12_number_53 : decode cX12_number 53 = .ok (.getfield 34, 3) := by decide +kernel
theorem dX12_number_56 : decode cX12_number 56 = .ok (.iload_n 1, 1) := by decide +kernel
theorem dX12_number_57 : decode cX12_number 57 = .ok (.iaload, 1) := by decide +kernel
theorem dX12_number_58 : decode cX12_number 58 = .ok (.bipush 48, 2) := by decide +kernel
theorem dX12_number_60 : decode cX12_number 60 = .ok (.bipush 57, 2) := by decide +kernel
theorem dX12_number_62 : decode cX12_number 62 = .ok (.invokestatic 49, 3) := by decide +kernel
theorem dX12_number_65 : decode cX12_number 65 = .ok (.ifCond .eq 38, 3) := by decide +kernel
theorem dX12_number_68 : decode cX12_number 68 = .ok (.iload_n 1, 1) := by decide +kernel
theorem dX12_number_69 : decode cX12_number 69 = .ok (.aload_n 0, 1) := by decide +kernel
theorem dX12_number_70 : decode cX12_number 70 = .ok (.getfield 167, 3) := by decide +kernel
theorem dX12_number_73 : decode cX12_number 73 = .ok (.isub, 1) := by decide +kernel
theorem dX12_number_74 : decode cX12_number 74 = .ok (.iconst 3, 1) := by decide +kernel
theorem dX12_number_75 : decode cX12_number 75 = .ok (.if_icmp .ge 20, 3) := by decide +kernel
theorem dX12_number_78 : decode cX12_number 78 = .ok (.bipush 10, 2) := by decide +kernel
theorem dX12_number_80 : decode cX12_number 80 = .ok (.iload_n 2, 1) := by decide +kernel
theorem dX12_number_81 : decode cX12_number 81 = .ok (.imul, 1) := by decide +kernel
theorem dX12_number_82 : decode cX12_number 82 = .ok (.aload_n 0, 1) := by decide +kernel
theorem dX12_number_83 : decode cX12_number 83 = .ok (.getfield 34, 3) := by decide +kernel
theorem dX12_number_86 : decode cX12_number 86 = .ok (.iload_n 1, 1) := by decide +kernel
theorem dX12_number_87 : decode cX12_number 87 = .ok (.iaload, 1) := by decide +kernel
theorem dX12_number_88 : decode cX12_number 88 = .ok (.iadd, 1) := by decide +kernel
theorem dX12_number_89 : decode cX12_number 89 = .ok (.bipush 48, 2) := by decide +kernel
theorem dX12_number_91 : decode cX12_number 91 = .ok (.isub, 1) := by decide +kernel
theorem dX12_number_92 : decode cX12_number 92 = .ok (.goto 4, 3) := by decide +kernel
theorem dX12_number_95 : decode cX12_number 95 = .ok (.iload_n 2, 1) := by decide +kernel
theorem dX12_number_96 : decode cX12_number 96 = .ok (.istore_n 2, 1) := by decide +kernel
theorem dX12_number_97 : decode cX12_number 97 = .ok (.iinc 1 1, 3) := by decide +kernel
theorem dX12_number_100 : decode cX12_number 100 = .ok (.goto (-63), 3) := by decide +kernel
theorem dX12_number_103 : decode cX12_number 103 = .ok (.aload_n 0, 1) := by decide +kernel
theorem dX12_number_104 : decode cX12_number 104 = .ok (.aload_n 0, 1) := by decide +kernel
theorem dX12_number_105 : decode cX12_number 105 = .ok (.getfield 170, 3) := by decide +kernel
theorem dX12_number_108 : decode cX12_number 108 = .ok (.ifCond .eq 17, 3) := by decide +kernel
theorem dX12_number_111 : decode cX12_number 111 = .ok (.iload_n 1, 1) := by decide +kernel
theorem dX12_number_112 : decode cX12_number 112 = .ok (.aload_n 0, 1) := by decide +kernel
theorem dX12_number_113 : decode cX12_number 113 = .ok (.getfield 167, 3) := by decide +kernel
theorem dX12_number_116 : decode cX12_number 116 = .ok (.isub, 1) := by decide +kernel
theorem dX12_number_117 : decode cX12_number 117 = .ok (.iconst 3, 1) := by decide +kernel
theorem dX12_number_118 : decode cX12_number 118 = .ok (.if_icmp .ge 7, 3) := by decide +kernel
theorem dX12_number_121 : decode cX12_number 121 = .ok (.iconst 1, 1) := by decide +kernel
theorem dX12_number_122 : decode cX12_number 122 = .ok (.goto 4, 3) := by decide +kernel
theorem dX12_number_125 : decode cX12_number 125 = .ok (.iconst 0, 1) := by decide +kernel
theorem dX12_number_126 : decode cX12_number 126 = .ok (.putfield 170, 3) := by decide +kernel
theorem dX12_number_129 : decode cX12_number 129 = .ok (.aload_n 0, 1) := by decide +kernel
theorem dX12_number_130 : decode cX12_number 130 = .ok (.aload_n 0, 1) := by decide +kernel
theorem dX12_number_131 : decode cX12_number 131 = .ok (.getfield 170, 3) := by decide +kernel
theorem dX12_number_134 : decode cX12_number 134 = .ok (.ifCond .eq 7, 3) := by decide +kernel
theorem dX12_number_137 : decode cX12_number 137 = .ok (.iload_n 1, 1) := by decide +kernel
theorem dX12_number_138 : decode cX12_number 138 = .ok (.goto 7, 3) := by decide +kernel
theorem dX12_number_141 : decode cX12_number 141 = .ok (.aload_n 0, 1) := by decide +kernel
theorem dX12_number_142 : decode cX12_number 142 = .ok (.getfield 167, 3) := by decide +kernel
theorem dX12_number_145 : decode cX12_number 145 = .ok (.putfield 167, 3) := by decide +kernel
theorem dX12_number_148 : decode cX12_number 148 = .ok (.iload_n 2, 1) := by decide +kernel
theorem dX12_number_149 : decode cX12_number 149 = .ok (.ireturn, 1) := by decide +kernel
theorem dX12_order_0 : decode cX12_order 0 = .ok (.aload_n 0, 1) := by decide +kernel
theorem dX12_order_1 : decode cX12_order 1 = .ok (.invokevirtual 173, 3) := by decide +kernel
theorem dX12_order_4 : decode cX12_order 4 = .ok (.istore_n 2, 1) := by decide +kernel
theorem dX12_order_5 : decode cX12_order 5 = .ok (.iload_n 2, 1) := by decide +kernel
theorem dX12_order_6 : decode cX12_order 6 = .ok (.bipush 76, 2) := by decide +kernel
theorem dX12_order_8 : decode cX12_order 8 = .ok (.if_icmp .eq 15, 3) := by decide +kernel
theorem dX12_order_11 : decode cX12_order 11 = .ok (.iload_n 2, 1) := by decide +kernel
theorem dX12_order_12 : decode cX12_order 12 = .ok (.bipush 77, 2) := by decide +kernel
theorem dX12_order_14 : decode cX12_order 14 = .ok (.if_icmp .eq 9, 3) := by decide +kernel
theorem dX12_order_17 : decode cX12_order 17 = .ok (.iload_n 2, 1) := by decide +kernel
theorem dX12_order_18 : decode cX12_order 18 = .ok (.bipush 82, 2) := by decide +kernel
theorem dX12_order_20 : decode cX12_order 20 = .ok (.if_icmp .ne 7, 3) := by decide +kernel
theorem dX12_order_23 : decode cX12_order 23 = .ok (.iconst 1, 1) := by decide +kernel
theorem dX12_order_24 : decode cX12_order 24 = .ok (.goto 4, 3) := by decide +kernel
theorem dX12_order_27 : decode cX12_order 27 = .ok (.iconst 0, 1) := by decide +kernel
theorem dX12_order_28 : decode cX12_order 28 = .ok (.istore_n 3, 1) := by decide +kernel
theorem dX12_order_29 : decode cX12_order 29 = .ok (.aload_n 0, 1) := by decide +kernel
theorem dX12_order_30 : decode cX12_order 30 = .ok (.iload_n 3, 1) := by decide +kernel
theorem dX12_order_31 : decode cX12_order 31 = .ok (.ifCond .ne 21, 3) := by decide +kernel
theorem dX12_order_34 : decode cX12_order 34 = .ok (.iload_n 2, 1) := by decide +kernel
theorem dX12_order_35 : decode cX12_order 35 = .ok (.bipush 84, 2) := by decide +kernel
theorem dX12_order_37 : decode cX12_order 37 = .ok (.if_icmp .eq 15, 3) := by decide +kernel
theorem dX12_order_40 : decode cX12_order 40 = .ok (.iload_n 2, 1) := by decide +kernel
theorem dX12_order_41 : decode cX12_order 41 = .ok (.bipush 70, 2) := by decide +kernel
theorem dX12_order_43 : decode cX12_order 43 = .ok (.if_icmp .eq 9, 3) := by decide +kernel
theorem dX12_order_46 : decode cX12_order 46 = .ok (.iload_n 2, 1) := by decide +kernel
theorem dX12_order_47 : decode cX12_order 47 = .ok (.bipush 85, 2) := by decide +kernel
theorem dX12_order_49 : decode cX12_order 49 = .ok (.if_icmp .ne 7, 3) := by decide +kernel
theorem dX12_order_52 : decode cX12_order 52 = .ok (.iconst 1, 1) := by decide +kernel
theorem dX12_order_53 : decode cX12_order 53 = .ok (.goto 4, 3) := by decide +kernel
theorem dX12_order_56 : decode cX12_order 56 = .ok (.iconst 0, 1) := by decide +kernel
theorem dX12_order_57 : decode cX12_order 57 = .ok (.putfield 170, 3) := by decide +kernel
theorem dX12_order_60 : decode cX12_order 60 = .ok (.aload_n 0, 1) := by decide +kernel
theorem dX12_order_61 : decode cX12_order 61 = .ok (.dup, 1) := by decide +kernel
theorem dX12_order_62 : decode cX12_order 62 = .ok (.getfield 167, 3) := by decide +kernel
theorem dX12_order_65 : decode cX12_order 65 = .ok (.aload_n 0, 1) := by decide +kernel
theorem dX12_order_66 : decode cX12_order 66 = .ok (.getfield 170, 3) := by decide +kernel
theorem dX12_order_69 : decode cX12_order 69 = .ok (.ifCond .eq 7, 3) := by decide +kernel
theorem dX12_order_72 : decode cX12_order 72 = .ok (.iconst 1, 1) := by decide +kernel
theorem dX12_order_73 : decode cX12_order 73 = .ok (.goto 4, 3) := by decide +kernel
theorem dX12_order_76 : decode cX12_order 76 = .ok (.iconst 0, 1) := by decide +kernel
theorem dX12_order_77 : decode cX12_order 77 = .ok (.iadd, 1) := by decide +kernel
theorem dX12_order_78 : decode cX12_order 78 = .ok (.putfield 167, 3) := by decide +kernel
theorem dX12_order_81 : decode cX12_order 81 = .ok (.aload_n 0, 1) := by decide +kernel
theorem dX12_order_82 : decode cX12_order 82 = .ok (.invokevirtual 176, 3) := by decide +kernel
theorem dX12_order_85 : decode cX12_order 85 = .ok (.istore 4, 2) := by decide +kernel
theorem dX12_order_87 : decode cX12_order 87 = .ok (.iload_n 3, 1) := by decide +kernel
theorem dX12_order_88 : decode cX12_order 88 = .ok (.ifCond .eq 17, 3) := by decide +kernel
theorem dX12_order_91 : decode cX12_order 91 = .ok (.aload_n 0, 1) := by decide +kernel
theorem dX12_order_92 : decode cX12_order 92 = .ok (.getfield 170, 3) := by decide +kernel
theorem dX12_order_95 : decode cX12_order 95 = .ok (.ifCond .eq 10, 3) := by decide +kernel
theorem dX12_order_98 : decode cX12_order 98 = .ok (.aload_n 0, 1) := by decide +kernel
theorem dX12_order_99 : decode cX12_order 99 = .ok (.invokevirtual 176, 3) := by decide +kernel
theorem dX12_order_102 : decode cX12_order 102 = .ok (.goto 4, 3) := by decide +kernel
theorem dX12_order_105 : decode cX12_order 105 = .ok (.iconst 0, 1) := by decide +kernel
theorem dX12_order_106 : decode cX12_order 106 = .ok (.istore 5, 2) := by decide +kernel
theorem dX12_order_108 : decode cX12_order 108 = .ok (.aload_n 0, 1) := by decide +kernel
theorem dX12_order_109 : decode cX12_order 109 = .ok (.getfield 170, 3) := by decide +kernel
theorem dX12_order_112 : decode cX12_order 112 = .ok (.ifCond .eq 7, 3) := by decide +kernel
theorem dX12_order_115 : decode cX12_order 115 = .ok (.iload_n 1, 1) := by decide +kernel
theorem dX12_order_116 : decode cX12_order 116 = .ok (.ifCond .ne 5, 3) := by decide +kernel
theorem dX12_order_119 : decode cX12_order 119 = .ok (.iconst 0, 1) := by decide +kernel
theorem dX12_order_120 : decode cX12_order 120 = .ok (.ireturn, 1) := by decide +kernel
theorem dX12_order_121 : decode cX12_order 121 = .ok (.iload_n 2, 1) := by decide +kernel
theorem dX12_order_122 : decode cX12_order 122 = .ok (.tableswitch 115 70 84 #[108, 115, 115, 115, 115, 115, 74, 83, 115, 115, 115, 115, 92, 115, 101], 74) := by decide +kernel
theorem dX12_order_196 : decode cX12_order 196 = .ok (.aload_n 0, 1) := by decide +kernel
theorem dX12_order_197 : decode cX12_order 197 = .ok (.iload 4, 2) := by decide +kernel
theorem dX12_order_199 : decode cX12_order 199 = .ok (.iload 5, 2) := by decide +kernel
theorem dX12_order_201 : decode cX12_order 201 = .ok (.invokevirtual 179, 3) := by decide +kernel
theorem dX12_order_204 : decode cX12_order 204 = .ok (.ireturn, 1) := by decide +kernel
theorem dX12_order_205 : decode cX12_order 205 = .ok (.aload_n 0, 1) := by decide +kernel
theorem dX12_order_206 : decode cX12_order 206 = .ok (.iload 4, 2) := by decide +kernel
theorem dX12_order_208 : decode cX12_order 208 = .ok (.iload 5, 2) := by decide +kernel
theorem dX12_order_210 : decode cX12_order 210 = .ok (.invokevirtual 182, 3) := by decide +kernel
theorem dX12_order_213 : decode cX12_order 213 = .ok (.ireturn, 1) := by decide +kernel
theorem dX12_order_214 : decode cX12_order 214 = .ok (.aload_n 0, 1) := by decide +kernel
theorem dX12_order_215 : decode cX12_order 215 = .ok (.iload 4, 2) := by decide +kernel
theorem dX12_order_217 : decode cX12_order 217 = .ok (.iload 5, 2) := by decide +kernel
theorem dX12_order_219 : decode cX12_order 219 = .ok (.invokevirtual 185, 3) := by decide +kernel
theorem dX12_order_222 : decode cX12_order 222 = .ok (.ireturn, 1) := by decide +kernel
theorem dX12_order_223 : decode cX12_order 223 = .ok (.aload_n 0, 1) := by decide +kernel
theorem dX12_order_224 : decode cX12_order 224 = .ok (.iload 4, 2) := by decide +kernel
theorem dX12_order_226 : decode cX12_order 226 = .ok (.invokevirtual 188, 3) := by decide +kernel
theorem dX12_order_229 : decode cX12_order 229 = .ok (.ireturn, 1) := by decide +kernel
theorem dX12_order_230 : decode cX12_order 230 = .ok (.aload_n 0, 1) := by decide +kernel
theorem dX12_order_231 : decode cX12_order 231 = .ok (.iload 4, 2) := by decide +kernel
theorem dX12_order_233 : decode cX12_order 233 = .ok (.invokevirtual 191, 3) := by decide +kernel
theorem dX12_order_236 : decode cX12_order 236 = .ok (.ireturn, 1) := by decide +kernel
theorem dX12_order_237 : decode cX12_order 237 = .ok (.aload_n 0, 1) := by decide +kernel
theorem dX12_order_238 : decode cX12_order 238 = .ok (.iload 4, 2) := by decide +kernel
theorem dX12_order_240 : decode cX12_order 240 = .ok (.aload_n 0, 1) := by decide +kernel
theorem dX12_order_241 : decode cX12_order 241 = .ok (.iload 4, 2) := by decide +kernel
theorem dX12_order_243 : decode cX12_order 243 = .ok (.invokevirtual 155, 3) := by decide +kernel
theorem dX12_order_246 : decode cX12_order 246 = .ok (.ifCond .eq 13, 3) := by decide +kernel
theorem dX12_order_249 : decode cX12_order 249 = .ok (.aload_n 0, 1) := by decide +kernel
theorem dX12_order_250 : decode cX12_order 250 = .ok (.iload 4, 2) := by decide +kernel
theorem dX12_order_252 : decode cX12_order 252 = .ok (.iconst 4, 1) := by decide +kernel
theorem dX12_order_253 : decode cX12_order 253 = .ok (.invokevirtual 53, 3) := by decide +kernel
theorem dX12_order_256 : decode cX12_order 256 = .ok (.ifCond .ne 7, 3) := by decide +kernel
theorem dX12_order_259 : decode cX12_order 259 = .ok (.iconst 1, 1) := by decide +kernel
theorem dX12_order_260 : decode cX12_order 260 = .ok (.goto 4, 3) := by decide +kernel
theorem dX12_order_263 : decode cX12_order 263 = .ok (.iconst 0, 1) := by decide +kernel
theorem dX12_order_264 : decode cX12_order 264 = .ok (.invokevirtual 194, 3) := by decide +kernel
theorem dX12_order_267 : decode cX12_order 267 = .ok (.ireturn, 1) := by decide +kernel
theorem dX12_orders_0 : decode cX12_orders 0 = .ok (.aload_n 0, 1) := by decide +kernel
theorem dX12_orders_1 : decode cX12_orders 1 = .ok (.iconst 0, 1) := by decide +kernel
theorem dX12_orders_2 : decode cX12_orders 2 = .ok (.putfield 167, 3) := by decide +kernel
theorem dX12_orders_5 : decode cX12_orders 5 = .ok (.aload_n 0, 1) := by decide +kernel
theorem dX12_orders_6 : decode cX12_orders 6 = .ok (.iconst 1, 1) := by decide +kernel
theorem dX12_orders_7 : decode cX12_orders 7 = .ok (.putfield 170, 3) := by decide +kernel
theorem dX12_orders_10 : decode cX12_orders 10 = .ok (.iconst 0, 1) := by decide +kernel
theorem dX12_orders_11 : decode cX12_orders 11 = .ok (.istore_n 2, 1) := by decide +kernel
theorem dX12_orders_12 : decode cX12_orders 12 = .ok (.iconst 1, 1) := by decide +kernel
theorem dX12_orders_13 : decode cX12_orders 13 = .ok (.istore_n 3, 1) := by decide +kernel
theorem dX12_orders_14 : decode cX12_orders 14 = .ok (.iload_n 3, 1) := by decide +kernel
theorem dX12_orders_15 : decode cX12_orders 15 = .ok (.ifCond .eq 144, 3) := by decide +kernel
theorem dX12_orders_18 : decode cX12_orders 18 = .ok (.aload_n 0, 1) := by decide +kernel
theorem dX12_orders_19 : decode cX12_orders 19 = .ok (.iload_n 1, 1) := by decide +kernel
theorem dX12_orders_20 : decode cX12_orders 20 = .ok (.invokevirtual 198, 3) := by decide +kernel
theorem dX12_orders_23 : decode cX12_orders 23 = .ok (.istore 4, 2) := by decide +kernel
theorem dX12_orders_25 : decode cX12_orders 25 = .ok (.aload_n 0, 1) := by decide +kernel
theorem dX12_orders_26 : decode cX12_orders 26 = .ok (.getfield 170, 3) := by decide +kernel
theorem dX12_orders_29 : decode cX12_orders 29 = .ok (.ifCond .eq 12, 3) := by decide +kernel
theorem dX12_orders_32 : decode cX12_orders 32 = .ok (.iload 4, 2) := by decide +kernel
theorem dX12_orders_34 : decode cX12_orders 34 = .ok (.ifCond .lt 7, 3) := by decide +kernel
theorem dX12_orders_37 : decode cX12_orders 37 = .ok (.iconst 1, 1) := by decide +kernel
theorem dX12_orders_38 : decode cX12_orders 38 = .ok (.goto 4, 3) := by decide +kernel
theorem dX12_orders_41 : decode cX12_orders 41 = .ok (.iconst 0, 1) := by decide +kernel
theorem dX12_orders_42 : decode cX12_orders 42 = .ok (.istore 5, 2) := by decide +kernel
theorem dX12_orders_44 : decode cX12_orders 44 = .ok (.iload_n 2, 1) := by decide +kernel
theorem dX12_orders_45 : decode cX12_orders 45 = .ok (.iload 5, 2) := by decide +kernel
theorem dX12_orders_47 : decode cX12_orders 47 = .ok (.ifCond .eq 7, 3) := by decide +kernel
theorem dX12_orders_50 : decode cX12_orders 50 = .ok (.iconst 1, 1) := by decide +kernel
theorem dX12_orders_51 : decode cX12_orders 51 = .ok (.goto 4, 3) := by decide +kernel
theorem dX12_orders_54 : decode cX12_orders 54 = .ok (.iconst 0, 1) := by decide +kernel
theorem dX12_orders_55 : decode cX12_orders 55 = .ok (.iadd, 1) := by decide +kernel
theorem dX12_orders_56 : decode cX12_orders 56 = .ok (.istore_n 2, 1) := by decide +kernel
theorem dX12_orders_57 : decode cX12_orders 57 = .ok (.aload_n 0, 1) := by decide +kernel
theorem dX12_orders_58 : decode cX12_orders 58 = .ok (.getfield 170, 3) := by decide +kernel
theorem dX12_orders_61 : decode cX12_orders 61 = .ok (.ifCond .eq 10, 3) := by decide +kernel
theorem dX12_orders_64 : decode cX12_orders 64 = .ok (.aload_n 0, 1) := by decide +kernel
theorem dX12_orders_65 : decode cX12_orders 65 = .ok (.invokevirtual 173, 3) := by decide +kernel
theorem dX12_orders_68 : decode cX12_orders 68 = .ok (.goto 4, 3) := by decide +kernel
theorem dX12_orders_71 : decode cX12_orders 71 = .ok (.iconst (-1), 1) := by decide +kernel
theorem dX12_orders_72 : decode cX12_orders 72 = .ok (.istore 6, 2) := by decide +kernel
theorem dX12_orders_74 : decode cX12_orders 74 = .ok (.aload_n 0, 1) := by decide +kernel
theorem dX12_orders_75 : decode cX12_orders 75 = .ok (.aload_n 0, 1) := by decide +kernel
theorem dX12_orders_76 : decode cX12_orders 76 = .ok (.getfield 170, 3) := by decide +kernel
theorem dX12_orders_79 : decode cX12_orders 79 = .ok (.ifCond .eq 20, 3) := by decide +kernel
theorem dX12_orders_82 : decode cX12_orders 82 = .ok (.iload 6, 2) := by decide +kernel
theorem dX12_orders_84 : decode cX12_orders 84 = .ok (.bipush 59, 2) := by decide +kernel
theorem dX12_orders_86 : decode cX12_orders 86 = .ok (.if_icmp .eq 9, 3) := by decide +kernel
theorem dX12_orders_89 : decode cX12_orders 89 = .ok (.iload 6, 2) := by decide +kernel
theorem dX12_orders_91 : decode cX12_orders 91 = .ok (.iconst (-1), 1) := by decide +kernel
theorem dX12_orders_92 : decode cX12_orders 92 = .ok (.if_icmp .ne 7, 3) := by decide +kernel
theorem dX12_orders_95 : decode cX12_orders 95 = .ok (.iconst 1, 1) := by decide +kernel
theorem dX12_orders_96 : decode cX12_orders 96 = .ok (.goto 4, 3) := by decide +kernel
theorem dX12_orders_99 : decode cX12_orders 99 = .ok (.iconst 0, 1) := by decide +kernel
theorem dX12_orders_100 : decode cX12_orders 100 = .ok (.putfield 170, 3) := by decide +kernel
theorem dX12_orders_103 : decode cX12_orders 103 = .ok (.aload_n 0, 1) := by decide +kernel
theorem dX12_orders_104 : decode cX12_orders 104 = .ok (.dup, 1) := by decide +kernel
theorem dX12_orders_105 : decode cX12_orders 105 = .ok (.getfield 167, 3) := by decide +kernel
theorem dX12_orders_108 : decode cX12_orders 108 = .ok (.aload_n 0, 1) := by decide +kernel
theorem dX12_orders_109 : decode cX12_orders 109 = .ok (.getfield 170, 3) := by decide +kernel
theorem dX12_orders_112 : decode cX12_orders 112 = .ok (.ifCond .eq 14, 3) := by decide +kernel
theorem dX12_orders_115 : decode cX12_orders 115 = .ok (.iload 6, 2) := by decide +kernel
theorem dX12_orders_117 : decode cX12_orders 117 = .ok (.bipush 59, 2) := by decide +kernel
theorem dX12_orders_119 : decode cX12_orders 119 = .ok (.if_icmp .ne 7, 3) := by decide +kernel
theorem dX12_orders_122 : decode cX12_orders 122 = .ok (.iconst 1, 1) := by decide +kernel
theorem dX12_orders_123 : decode cX12_orders 123 = .ok (.goto 4, 3) := by decide +kernel
theorem dX12_orders_126 : decode cX12_orders 126 = .ok (.iconst 0, 1) := by decide +kernel
theorem dX12_orders_127 : decode cX12_orders 127 = .ok (.iadd, 1) := by decide +kernel
theorem dX12_orders_128 : decode cX12_orders 128 = .ok (.putfield 167, 3) := by decide +kernel
theorem dX12_orders_131 : decode cX12_orders 131 = .ok (.iload 5, 2) := by decide +kernel
theorem dX12_orders_133 : decode cX12_orders 133 = .ok (.ifCond .eq 21, 3) := by decide +kernel
theorem dX12_orders_136 : decode cX12_orders 136 = .ok (.aload_n 0, 1) := by decide +kernel
theorem dX12_orders_137 : decode cX12_orders 137 = .ok (.getfield 170, 3) := by decide +kernel
theorem dX12_orders_140 : decode cX12_orders 140 = .ok (.ifCond .eq 14, 3) := by decide +kernel
theorem dX12_orders_143 : decode cX12_orders 143 = .ok (.iload 6, 2) := by decide +kernel
theorem dX12_orders_145 : decode cX12_orders 145 = .ok (.bipush 59, 2) := by decide +kernel
theorem dX12_orders_147 : decode cX12_orders 147 = .ok (.if_icmp .ne 7, 3) := by decide +kernel
theorem dX12_orders_150 : decode cX12_orders 150 = .ok (.iconst 1, 1) := by decide +kernel
theorem dX12_orders_151 : decode cX12_orders 151 = .ok (.goto 4, 3) := by decide +kernel
theorem dX12_orders_154 : decode cX12_orders 154 = .ok (.iconst 0, 1) := by decide +kernel
theorem dX12_orders_155 : decode cX12_orders 155 = .ok (.istore_n 3, 1) := by decide +kernel
theorem dX12_orders_156 : decode cX12_orders 156 = .ok (.goto (-142), 3) := by decide +kernel
theorem dX12_orders_159 : decode cX12_orders 159 = .ok (.iload_n 2, 1) := by decide +kernel
theorem dX12_orders_160 : decode cX12_orders 160 = .ok (.ireturn, 1) := by decide +kernel
theorem dX12_textFault_0 : decode cX12_textFault 0 = .ok (.aload_n 0, 1) := by decide +kernel
theorem dX12_textFault_1 : decode cX12_textFault 1 = .ok (.iconst 0, 1) := by decide +kernel
theorem dX12_textFault_2 : decode cX12_textFault 2 = .ok (.invokevirtual 202, 3) := by decide +kernel
theorem dX12_textFault_5 : decode cX12_textFault 5 = .ok (.istore_n 1, 1) := by decide +kernel
theorem dX12_textFault_6 : decode cX12_textFault 6 = .ok (.aload_n 0, 1) := by decide +kernel
theorem dX12_textFault_7 : decode cX12_textFault 7 = .ok (.getfield 170, 3) := by decide +kernel
theorem dX12_textFault_10 : decode cX12_textFault 10 = .ok (.ifCond .eq 7, 3) := by decide +kernel
theorem dX12_textFault_13 : decode cX12_textFault 13 = .ok (.iconst (-1), 1) := by decide +kernel
theorem dX12_textFault_14 : decode cX12_textFault 14 = .ok (.goto 7, 3) := by decide +kernel
theorem dX12_textFault_17 : decode cX12_textFault 17 = .ok (.aload_n 0, 1) := by decide +kernel
theorem dX12_textFault_18 : decode cX12_textFault 18 = .ok (.getfield 167, 3) := by decide +kernel
theorem dX12_textFault_21 : decode cX12_textFault 21 = .ok (.ireturn, 1) := by decide +kernel
theorem dX12_run_0 : decode cX12_run 0 = .ok (.aload_n 0, 1) := by decide +kernel
theorem dX12_run_1 : decode cX12_run 1 = .ok (.iconst 0, 1) := by decide +kernel
theorem dX12_run_2 : decode cX12_run 2 = .ok (.invokevirtual 202, 3) := by decide +kernel
theorem dX12_run_5 : decode cX12_run 5 = .ok (.istore_n 1, 1) := by decide +kernel
theorem dX12_run_6 : decode cX12_run 6 = .ok (.aload_n 0, 1) := by decide +kernel
theorem dX12_run_7 : decode cX12_run 7 = .ok (.getfield 170, 3) := by decide +kernel
theorem dX12_run_10 : decode cX12_run 10 = .ok (.ifCond .ne 6, 3) := by decide +kernel
theorem dX12_run_13 : decode cX12_run 13 = .ok (.bipush (-4), 2) := by decide +kernel
theorem dX12_run_15 : decode cX12_run 15 = .ok (.ireturn, 1) := by decide +kernel
theorem dX12_run_16 : decode cX12_run 16 = .ok (.aload_n 0, 1) := by decide +kernel
theorem dX12_run_17 : decode cX12_run 17 = .ok (.invokevirtual 152, 3) := by decide +kernel
theorem dX12_run_20 : decode cX12_run 20 = .ok (.aload_n 0, 1) := by decide +kernel
theorem dX12_run_21 : decode cX12_run 21 = .ok (.iconst 1, 1) := by decide +kernel
theorem dX12_run_22 : decode cX12_run 22 = .ok (.putfield 37, 3) := by decide +kernel
theorem dX12_run_25 : decode cX12_run 25 = .ok (.aload_n 0, 1) := by decide +kernel
theorem dX12_run_26 : decode cX12_run 26 = .ok (.iconst 1, 1) := by decide +kernel
theorem dX12_run_27 : decode cX12_run 27 = .ok (.invokevirtual 202, 3) := by decide +kernel
theorem dX12_run_30 : decode cX12_run 30 = .ok (.istore_n 1, 1) := by decide +kernel
theorem dX12_run_31 : decode cX12_run 31 = .ok (.aload_n 0, 1) := by decide +kernel
theorem dX12_run_32 : decode cX12_run 32 = .ok (.iconst 0, 1) := by decide +kernel
theorem dX12_run_33 : decode cX12_run 33 = .ok (.putfield 37, 3) := by decide +kernel
theorem dX12_run_36 : decode cX12_run 36 = .ok (.iload_n 1, 1) := by decide +kernel
theorem dX12_run_37 : decode cX12_run 37 = .ok (.ireturn, 1) := by decide +kernel
theorem dX12_count_0 : decode cX12_count 0 = .ok (.iload_n 1, 1) := by decide +kernel
theorem dX12_count_1 : decode cX12_count 1 = .ok (.tableswitch 93 0 6 #[43, 51, 59, 64, 72, 77, 85], 43) := by decide +kernel
theorem dX12_count_44 : decode cX12_count 44 = .ok (.aload_n 0, 1) := by decide +kernel
theorem dX12_count_45 : decode cX12_count 45 = .ok (.getfield 7, 3) := by decide +kernel
theorem dX12_count_48 : decode cX12_count 48 = .ok (.bipush 11, 2) := by decide +kernel
theorem dX12_count_50 : decode cX12_count 50 = .ok (.iaload, 1) := by decide +kernel
theorem dX12_count_51 : decode cX12_count 51 = .ok (.ireturn, 1) := by decide +kernel
theorem dX12_count_52 : decode cX12_count 52 = .ok (.aload_n 0, 1) := by decide +kernel
theorem dX12_count_53 : decode cX12_count 53 = .ok (.getfield 7, 3) := by decide +kernel
theorem dX12_count_56 : decode cX12_count 56 = .ok (.bipush 12, 2) := by decide +kernel
theorem dX12_count_58 : decode cX12_count 58 = .ok (.iaload, 1) := by decide +kernel
theorem dX12_count_59 : decode cX12_count 59 = .ok (.ireturn, 1) := by decide +kernel
theorem dX12_count_60 : decode cX12_count 60 = .ok (.aload_n 0, 1) := by decide +kernel
theorem dX12_count_61 : decode cX12_count 61 = .ok (.invokevirtual 158, 3) := by decide +kernel
theorem dX12_count_64 : decode cX12_count 64 = .ok (.ireturn, 1) := by decide +kernel
theorem dX12_count_65 : decode cX12_count 65 = .ok (.aload_n 0, 1) := by decide +kernel
theorem dX12_count_66 : decode cX12_count 66 = .ok (.getfield 7, 3) := by decide +kernel
theorem dX12_count_69 : decode cX12_count 69 = .ok (.bipush 9, 2) := by decide +kernel
theorem dX12_count_71 : decode cX12_count 71 = .ok (.iaload, 1) := by decide +kernel
theorem dX12_count_72 : decode cX12_count 72 = .ok (.ireturn, 1) := by decide +kernel
theorem dX12_count_73 : decode cX12_count 73 = .ok (.aload_n 0, 1) := by decide +kernel
theorem dX12_count_74 : decode cX12_count 74 = .ok (.invokevirtual 74, 3) := by decide +kernel
theorem dX12_count_77 : decode cX12_count 77 = .ok (.ireturn, 1) := by decide +kernel
theorem dX12_count_78 : decode cX12_count 78 = .ok (.aload_n 0, 1) := by decide +kernel
theorem dX12_count_79 : decode cX12_count 79 = .ok (.bipush 7, 2) := by decide +kernel
theorem dX12_count_81 : decode cX12_count 81 = .ok (.iconst 1, 1) := by decide +kernel
theorem dX12_count_82 : decode cX12_count 82 = .ok (.invokevirtual 82, 3) := by decide +kernel
theorem dX12_count_85 : decode cX12_count 85 = .ok (.ireturn, 1) := by decide +kernel
theorem dX12_count_86 : decode cX12_count 86 = .ok (.aload_n 0, 1) := by decide +kernel
theorem dX12_count_87 : decode cX12_count 87 = .ok (.getfield 7, 3) := by decide +kernel
theorem dX12_count_90 : decode cX12_count 90 = .ok (.bipush 10, 2) := by decide +kernel
theorem dX12_count_92 : decode cX12_count 92 = .ok (.iaload, 1) := by decide +kernel
theorem dX12_count_93 : decode cX12_count 93 = .ok (.ireturn, 1) := by decide +kernel
theorem dX12_count_94 : decode cX12_count 94 = .ok (.bipush (-3), 2) := by decide +kernel
theorem dX12_count_96 : decode cX12_count 96 = .ok (.ireturn, 1) := by decide +kernel
theorem dX12_bits_0 : decode cX12_bits 0 = .ok (.iconst 0, 1) := by decide +kernel
theorem dX12_bits_1 : decode cX12_bits 1 = .ok (.istore_n 1, 1) := by decide +kernel
theorem dX12_bits_2 : decode cX12_bits 2 = .ok (.iconst 0, 1) := by decide +kernel
theorem dX12_bits_3 : decode cX12_bits 3 = .ok (.istore_n 2, 1) := by decide +kernel
theorem dX12_bits_4 : decode cX12_bits 4 = .ok (.iload_n 2, 1) := by decide +kernel
theorem dX12_bits_5 : decode cX12_bits 5 = .ok (.bipush 20, 2) := by decide +kernel
theorem dX12_bits_7 : decode cX12_bits 7 = .ok (.if_icmp .ge 17, 3) := by decide +kernel
theorem dX12_bits_10 : decode cX12_bits 10 = .ok (.iload_n 1, 1) := by decide +kernel
theorem dX12_bits_11 : decode cX12_bits 11 = .ok (.iload_n 0, 1) := by decide +kernel
theorem dX12_bits_12 : decode cX12_bits 12 = .ok (.iload_n 2, 1) := by decide +kernel
theorem dX12_bits_13 : decode cX12_bits 13 = .ok (.ishr, 1) := by decide +kernel
theorem dX12_bits_14 : decode cX12_bits 14 = .ok (.iconst 1, 1) := by decide +kernel
theorem dX12_bits_15 : decode cX12_bits 15 = .ok (.iand, 1) := by decide +kernel
theorem dX12_bits_16 : decode cX12_bits 16 = .ok (.iadd, 1) := by decide +kernel
theorem dX12_bits_17 : decode cX12_bits 17 = .ok (.istore_n 1, 1) := by decide +kernel
theorem dX12_bits_18 : decode cX12_bits 18 = .ok (.iinc 2 1, 3) := by decide +kernel
theorem dX12_bits_21 : decode cX12_bits 21 = .ok (.goto (-17), 3) := by decide +kernel
theorem dX12_bits_24 : decode cX12_bits 24 = .ok (.iload_n 1, 1) := by decide +kernel
theorem dX12_bits_25 : decode cX12_bits 25 = .ok (.ireturn, 1) := by decide +kernel
theorem dX12_propertyOf_0 : decode cX12_propertyOf 0 = .ok (.iload_n 2, 1) := by decide +kernel
theorem dX12_propertyOf_1 : decode cX12_propertyOf 1 = .ok (.tableswitch 136 0 7 #[47, 54, 61, 68, 75, 89, 97, 104], 47) := by decide +kernel
theorem dX12_propertyOf_48 : decode cX12_propertyOf 48 = .ok (.aload_n 0, 1) := by decide +kernel
theorem dX12_propertyOf_49 : decode cX12_propertyOf 49 = .ok (.iload_n 1, 1) := by decide +kernel
theorem dX12_propertyOf_50 : decode cX12_propertyOf 50 = .ok (.iconst 2, 1) := by decide +kernel
theorem dX12_propertyOf_51 : decode cX12_propertyOf 51 = .ok (.invokevirtual 53, 3) := by decide +kernel
theorem dX12_propertyOf_54 : decode cX12_propertyOf 54 = .ok (.ireturn, 1) := by decide +kernel
theorem dX12_propertyOf_55 : decode cX12_propertyOf 55 = .ok (.aload_n 0, 1) := by decide +kernel
theorem dX12_propertyOf_56 : decode cX12_propertyOf 56 = .ok (.iload_n 1, 1) := by decide +kernel
theorem dX12_propertyOf_57 : decode cX12_propertyOf 57 = .ok (.iconst 1, 1) := by decide +kernel
theorem dX12_propertyOf_58 : decode cX12_propertyOf 58 = .ok (.invokevirtual 53, 3) := by decide +kernel
theorem dX12_propertyOf_61 : decode cX12_propertyOf 61 = .ok (.ireturn, 1) := by decide +kernel
theorem dX12_propertyOf_62 : decode cX12_propertyOf 62 = .ok (.aload_n 0, 1) := by decide +kernel
theorem dX12_propertyOf_63 : decode cX12_propertyOf 63 = .ok (.iload_n 1, 1) := by decide +kernel
theorem dX12_propertyOf_64 : decode cX12_propertyOf 64 = .ok (.iconst 3, 1) := by decide +kernel
theorem dX12_propertyOf_65 : decode cX12_propertyOf 65 = .ok (.invokevirtual 53, 3) := by decide +kernel
theorem dX12_propertyOf_68 : decode cX12_propertyOf 68 = .ok (.ireturn, 1) := by decide +kernel
theorem dX12_propertyOf_69 : decode cX12_propertyOf 69 = .ok (.aload_n 0, 1) := by decide +kernel
theorem dX12_propertyOf_70 : decode cX12_propertyOf 70 = .ok (.iload_n 1, 1) := by decide +kernel
theorem dX12_propertyOf_71 : decode cX12_propertyOf 71 = .ok (.iconst 4, 1) := by decide +kernel
theorem dX12_propertyOf_72 : decode cX12_propertyOf 72 = .ok (.invokevirtual 53, 3) := by decide +kernel
theorem dX12_propertyOf_75 : decode cX12_propertyOf 75 = .ok (.ireturn, 1) := by decide +kernel
theorem dX12_propertyOf_76 : decode cX12_propertyOf 76 = .ok (.aload_n 0, 1) := by decide +kernel
theorem dX12_propertyOf_77 : decode cX12_propertyOf 77 = .ok (.iload_n 1, 1) := by decide +kernel
theorem dX12_propertyOf_78 : decode cX12_propertyOf 78 = .ok (.invokevirtual 95, 3) := by decide +kernel
theorem dX12_propertyOf_81 : decode cX12_propertyOf 81 = .ok (.ifCond .eq 7, 3) := by decide +kernel
theorem dX12_propertyOf_84 : decode cX12_propertyOf 84 = .ok (.iconst 1, 1) := by decide +kernel
theorem dX12_propertyOf_85 : decode cX12_propertyOf 85 = .ok (.goto 4, 3) := by decide +kernel
theorem dX12_propertyOf_88 : decode cX12_propertyOf 88 = .ok (.iconst 0, 1) := by decide +kernel
theorem dX12_propertyOf_89 : decode cX12_propertyOf 89 = .ok (.ireturn, 1) := by decide +kernel
theorem dX12_propertyOf_90 : decode cX12_propertyOf 90 = .ok (.aload_n 0, 1) := by decide +kernel
theorem dX12_propertyOf_91 : decode cX12_propertyOf 91 = .ok (.iload_n 1, 1) := by decide +kernel
theorem dX12_propertyOf_92 : decode cX12_propertyOf 92 = .ok (.bipush 6, 2) := by decide +kernel
theorem dX12_propertyOf_94 : decode cX12_propertyOf 94 = .ok (.invokevirtual 53, 3) := by decide +kernel
theorem dX12_propertyOf_97 : decode cX12_propertyOf 97 = .ok (.ireturn, 1) := by decide +kernel
theorem dX12_propertyOf_98 : decode cX12_propertyOf 98 = .ok (.aload_n 0, 1) := by decide +kernel
theorem dX12_propertyOf_99 : decode cX12_propertyOf 99 = .ok (.iload_n 1, 1) := by decide +kernel
theorem dX12_propertyOf_100 : decode cX12_propertyOf 100 = .ok (.iconst 5, 1) := by decide +kernel
theorem dX12_propertyOf_101 : decode cX12_propertyOf 101 = .ok (.invokevirtual 53, 3) := by decide +kernel
theorem dX12_propertyOf_104 : decode cX12_propertyOf 104 = .ok (.ireturn, 1) := by decide +kernel
theorem dX12_propertyOf_105 : decode cX12_propertyOf 105 = .ok (.aload_n 0, 1) := by decide +kernel
theorem dX12_propertyOf_106 : decode cX12_propertyOf 106 = .ok (.iload_n 1, 1) := by decide +kernel
theorem dX12_propertyOf_107 : decode cX12_propertyOf 107 = .ok (.bipush 7, 2) := by decide +kernel
theorem dX12_propertyOf_109 : decode cX12_propertyOf 109 = .ok (.invokevirtual 53, 3) := by decide +kernel
theorem dX12_propertyOf_112 : decode cX12_propertyOf 112 = .ok (.iconst 1, 1) := by decide +kernel
theorem dX12_propertyOf_113 : decode cX12_propertyOf 113 = .ok (.if_icmp .ne 7, 3) := by decide +kernel
theorem dX12_propertyOf_116 : decode cX12_propertyOf 116 = .ok (.iconst 2, 1) := by decide +kernel
theorem dX12_propertyOf_117 : decode cX12_propertyOf 117 = .ok (.goto 19, 3) := by decide +kernel
theorem dX12_propertyOf_120 : decode cX12_propertyOf 120 = .ok (.aload_n 0, 1) := by decide +kernel
theorem dX12_propertyOf_121 : decode cX12_propertyOf 121 = .ok (.iload_n 1, 1) := by decide +kernel
theorem dX12_propertyOf_122 : decode cX12_propertyOf 122 = .ok (.bipush 10, 2) := by decide +kernel
theorem dX12_propertyOf_124 : decode cX12_propertyOf 124 = .ok (.invokevirtual 53, 3) := by decide +kernel
theorem dX12_propertyOf_127 : decode cX12_propertyOf 127 = .ok (.iconst (-1), 1) := by decide +kernel
theorem dX12_propertyOf_128 : decode cX12_propertyOf 128 = .ok (.if_icmp .eq 7, 3) := by decide +kernel
theorem dX12_propertyOf_131 : decode cX12_propertyOf 131 = .ok (.iconst 1, 1) := by decide +kernel
theorem dX12_propertyOf_132 : decode cX12_propertyOf 132 = .ok (.goto 4, 3) := by decide +kernel
theorem dX12_propertyOf_135 : decode cX12_propertyOf 135 = .ok (.iconst 0, 1) := by decide +kernel
theorem dX12_propertyOf_136 : decode cX12_propertyOf 136 = .ok (.ireturn, 1) := by decide +kernel
theorem dX12_propertyOf_137 : decode cX12_propertyOf 137 = .ok (.aload_n 0, 1) := by decide +kernel
theorem dX12_propertyOf_138 : decode cX12_propertyOf 138 = .ok (.iload_n 1, 1) := by decide +kernel
theorem dX12_propertyOf_139 : decode cX12_propertyOf 139 = .ok (.bipush 12, 2) := by decide +kernel
theorem dX12_propertyOf_141 : decode cX12_propertyOf 141 = .ok (.invokevirtual 53, 3) := by decide +kernel
theorem dX12_propertyOf_144 : decode cX12_propertyOf 144 = .ok (.invokestatic 205, 3) := by decide +kernel
theorem dX12_propertyOf_147 : decode cX12_propertyOf 147 = .ok (.ireturn, 1) := by decide +kernel
theorem dX12_property_0 : decode cX12_property 0 = .ok (.aload_n 0, 1) := by decide +kernel
theorem dX12_property_1 : decode cX12_property 1 = .ok (.iload_n 1, 1) := by decide +kernel
theorem dX12_property_2 : decode cX12_property 2 = .ok (.invokevirtual 155, 3) := by decide +kernel
theorem dX12_property_5 : decode cX12_property 5 = .ok (.ifCond .ne 6, 3) := by decide +kernel
theorem dX12_property_8 : decode cX12_property 8 = .ok (.bipush (-2), 2) := by decide +kernel
theorem dX12_property_10 : decode cX12_property 10 = .ok (.ireturn, 1) := by decide +kernel
theorem dX12_property_11 : decode cX12_property 11 = .ok (.iload_n 2, 1) := by decide +kernel
theorem dX12_property_12 : decode cX12_property 12 = .ok (.iconst 0, 1) := by decide +kernel
theorem dX12_property_13 : decode cX12_property 13 = .ok (.bipush 8, 2) := by decide +kernel
theorem dX12_property_15 : decode cX12_property 15 = .ok (.invokestatic 49, 3) := by decide +kernel
theorem dX12_property_18 : decode cX12_property 18 = .ok (.ifCond .eq 12, 3) := by decide +kernel
theorem dX12_property_21 : decode cX12_property 21 = .ok (.aload_n 0, 1) := by decide +kernel
theorem dX12_property_22 : decode cX12_property 22 = .ok (.iload_n 1, 1) := by decide +kernel
theorem dX12_property_23 : decode cX12_property 23 = .ok (.iload_n 2, 1) := by decide +kernel
theorem dX12_property_24 : decode cX12_property 24 = .ok (.invokevirtual 208, 3) := by decide +kernel
theorem dX12_property_27 : decode cX12_property 27 = .ok (.goto 5, 3) := by decide +kernel
theorem dX12_property_30 : decode cX12_property 30 = .ok (.bipush (-3), 2) := by decide +kernel
theorem dX12_property_32 : decode cX12_property 32 = .ok (.ireturn, 1) := by decide +kernel
theorem dX12_loudnessBits_0 : decode cX12_loudnessBits 0 = .ok (.aload_n 0, 1) := by decide +kernel
theorem dX12_loudnessBits_1 : decode cX12_loudnessBits 1 = .ok (.iload_n 1, 1) := by decide +kernel
theorem dX12_loudnessBits_2 : decode cX12_loudnessBits 2 = .ok (.invokevirtual 155, 3) := by decide +kernel
theorem dX12_loudnessBits_5 : decode cX12_loudnessBits 5 = .ok (.ifCond .eq 15, 3) := by decide +kernel
theorem dX12_loudnessBits_8 : decode cX12_loudnessBits 8 = .ok (.aload_n 0, 1) := by decide +kernel
theorem dX12_loudnessBits_9 : decode cX12_loudnessBits 9 = .ok (.getfield 13, 3) := by decide +kernel
theorem dX12_loudnessBits_12 : decode cX12_loudnessBits 12 = .ok (.iload_n 1, 1) := by decide +kernel
theorem dX12_loudnessBits_13 : decode cX12_loudnessBits 13 = .ok (.faload, 1) := by decide +kernel
theorem dX12_loudnessBits_14 : decode cX12_loudnessBits 14 = .ok (.invokestatic 211, 3) := by decide +kernel
theorem dX12_loudnessBits_17 : decode cX12_loudnessBits 17 = .ok (.goto 5, 3) := by decide +kernel
theorem dX12_loudnessBits_20 : decode cX12_loudnessBits 20 = .ok (.bipush (-2), 2) := by decide +kernel
theorem dX12_loudnessBits_22 : decode cX12_loudnessBits 22 = .ok (.ireturn, 1) := by decide +kernel
theorem dX12_mixBits_0 : decode cX12_mixBits 0 = .ok (.aload_n 0, 1) := by decide +kernel
theorem dX12_mixBits_1 : decode cX12_mixBits 1 = .ok (.iload_n 1, 1) := by decide +kernel
theorem dX12_mixBits_2 : decode cX12_mixBits 2 = .ok (.invokevirtual 155, 3) := by decide +kernel
theorem dX12_mixBits_5 : decode cX12_mixBits 5 = .ok (.ifCond .eq 18, 3) := by decide +kernel
theorem dX12_mixBits_8 : decode cX12_mixBits 8 = .ok (.aload_n 0, 1) := by decide +kernel
theorem dX12_mixBits_9 : decode cX12_mixBits 9 = .ok (.getfield 13, 3) := by decide +kernel
theorem dX12_mixBits_12 : decode cX12_mixBits 12 = .ok (.bipush 20, 2) := by decide +kernel
theorem dX12_mixBits_14 : decode cX12_mixBits 14 = .ok (.iload_n 1, 1) := by decide +kernel
theorem dX12_mixBits_15 : decode cX12_mixBits 15 = .ok (.iadd, 1) := by decide +kernel
theorem dX12_mixBits_16 : decode cX12_mixBits 16 = .ok (.faload, 1) := by decide +kernel
theorem dX12_mixBits_17 : decode cX12_mixBits 17 = .ok (.invokestatic 211, 3) := by decide +kernel
theorem dX12_mixBits_20 : decode cX12_mixBits 20 = .ok (.goto 5, 3) := by decide +kernel
theorem dX12_mixBits_23 : decode cX12_mixBits 23 = .ok (.bipush (-2), 2) := by decide +kernel
theorem dX12_mixBits_25 : decode cX12_mixBits 25 = .ok (.ireturn, 1) := by decide +kernel
theorem dX12_mix_0 : decode cX12_mix 0 = .ok (.aload_n 0, 1) := by decide +kernel
theorem dX12_mix_1 : decode cX12_mix 1 = .ok (.iload_n 1, 1) := by decide +kernel
theorem dX12_mix_2 : decode cX12_mix 2 = .ok (.invokevirtual 155, 3) := by decide +kernel
theorem dX12_mix_5 : decode cX12_mix 5 = .ok (.ifCond .eq 19, 3) := by decide +kernel
theorem dX12_mix_8 : decode cX12_mix 8 = .ok (.aload_n 0, 1) := by decide +kernel
theorem dX12_mix_9 : decode cX12_mix 9 = .ok (.getfield 13, 3) := by decide +kernel
theorem dX12_mix_12 : decode cX12_mix 12 = .ok (.bipush 20, 2) := by decide +kernel
theorem dX12_mix_14 : decode cX12_mix 14 = .ok (.iload_n 1, 1) := by decide +kernel
theorem dX12_mix_15 : decode cX12_mix 15 = .ok (.iadd, 1) := by decide +kernel
theorem dX12_mix_16 : decode cX12_mix 16 = .ok (.faload, 1) := by decide +kernel
theorem dX12_mix_17 : decode cX12_mix 17 = .ok (.ldc 217, 2) := by decide +kernel
theorem dX12_mix_19 : decode cX12_mix 19 = .ok (.fmul, 1) := by decide +kernel
theorem dX12_mix_20 : decode cX12_mix 20 = .ok (.f2i, 1) := by decide +kernel
theorem dX12_mix_21 : decode cX12_mix 21 = .ok (.goto 5, 3) := by decide +kernel
theorem dX12_mix_24 : decode cX12_mix 24 = .ok (.bipush (-2), 2) := by decide +kernel
theorem dX12_mix_26 : decode cX12_mix 26 = .ok (.ireturn, 1) := by decide +kernel
theorem dX12_hears_0 : decode cX12_hears 0 = .ok (.aload_n 0, 1) := by decide +kernel
theorem dX12_hears_1 : decode cX12_hears 1 = .ok (.iload_n 1, 1) := by decide +kernel
theorem dX12_hears_2 : decode cX12_hears 2 = .ok (.invokevirtual 155, 3) := by decide +kernel
theorem dX12_hears_5 : decode cX12_hears 5 = .ok (.ifCond .eq 20, 3) := by decide +kernel
theorem dX12_hears_8 : decode cX12_hears 8 = .ok (.iload_n 2, 1) := by decide +kernel
theorem dX12_hears_9 : decode cX12_hears 9 = .ok (.iconst 0, 1) := by decide +kernel
theorem dX12_hears_10 : decode cX12_hears 10 = .ok (.aload_n 0, 1) := by decide +kernel
theorem dX12_hears_11 : decode cX12_hears 11 = .ok (.getfield 7, 3) := by decide +kernel
theorem dX12_hears_14 : decode cX12_hears 14 = .ok (.bipush 12, 2) := by decide +kernel
theorem dX12_hears_16 : decode cX12_hears 16 = .ok (.iaload, 1) := by decide +kernel
theorem dX12_hears_17 : decode cX12_hears 17 = .ok (.iconst 1, 1) := by decide +kernel
theorem dX12_hears_18 : decode cX12_hears 18 = .ok (.isub, 1) := by decide +kernel
theorem dX12_hears_19 : decode cX12_hears 19 = .ok (.invokestatic 49, 3) := by decide +kernel
theorem dX12_hears_22 : decode cX12_hears 22 = .ok (.ifCond .ne 6, 3) := by decide +kernel
theorem dX12_hears_25 : decode cX12_hears 25 = .ok (.bipush (-2), 2) := by decide +kernel
theorem dX12_hears_27 : decode cX12_hears 27 = .ok (.ireturn, 1) := by decide +kernel
theorem dX12_hears_28 : decode cX12_hears 28 = .ok (.aload_n 0, 1) := by decide +kernel
theorem dX12_hears_29 : decode cX12_hears 29 = .ok (.iload_n 1, 1) := by decide +kernel
theorem dX12_hears_30 : decode cX12_hears 30 = .ok (.bipush 12, 2) := by decide +kernel
theorem dX12_hears_32 : decode cX12_hears 32 = .ok (.invokevirtual 53, 3) := by decide +kernel
theorem dX12_hears_35 : decode cX12_hears 35 = .ok (.iload_n 2, 1) := by decide +kernel
theorem dX12_hears_36 : decode cX12_hears 36 = .ok (.ishr, 1) := by decide +kernel
theorem dX12_hears_37 : decode cX12_hears 37 = .ok (.iconst 1, 1) := by decide +kernel
theorem dX12_hears_38 : decode cX12_hears 38 = .ok (.iand, 1) := by decide +kernel
theorem dX12_hears_39 : decode cX12_hears 39 = .ok (.ireturn, 1) := by decide +kernel
theorem dX12_stream_0 : decode cX12_stream 0 = .ok (.aload_n 0, 1) := by decide +kernel
theorem dX12_stream_1 : decode cX12_stream 1 = .ok (.iload_n 1, 1) := by decide +kernel
theorem dX12_stream_2 : decode cX12_stream 2 = .ok (.invokevirtual 149, 3) := by decide +kernel
theorem dX12_stream_5 : decode cX12_stream 5 = .ok (.ifCond .eq 11, 3) := by decide +kernel
theorem dX12_stream_8 : decode cX12_stream 8 = .ok (.aload_n 0, 1) := by decide +kernel
theorem dX12_stream_9 : decode cX12_stream 9 = .ok (.iload_n 2, 1) := by decide +kernel
theorem dX12_stream_10 : decode cX12_stream 10 = .ok (.invokevirtual 149, 3) := by decide +kernel
theorem dX12_stream_13 : decode cX12_stream 13 = .ok (.ifCond .ne 6, 3) := by decide +kernel
theorem dX12_stream_16 : decode cX12_stream 16 = .ok (.bipush (-2), 2) := by decide +kernel
theorem dX12_stream_18 : decode cX12_stream 18 = .ok (.ireturn, 1) := by decide +kernel
theorem dX12_stream_19 : decode cX12_stream 19 = .ok (.iload_n 3, 1) := by decide +kernel
theorem dX12_stream_20 : decode cX12_stream 20 = .ok (.ifCond .lt 13, 3) := by decide +kernel
theorem dX12_stream_23 : decode cX12_stream 23 = .ok (.iload 4, 2) := by decide +kernel
theorem dX12_stream_25 : decode cX12_stream 25 = .ok (.iconst 0, 1) := by decide +kernel
theorem dX12_stream_26 : decode cX12_stream 26 = .ok (.iconst 2, 1) := by decide +kernel
theorem dX12_stream_27 : decode cX12_stream 27 = .ok (.invokestatic 49, 3) := by decide +kernel
theorem dX12_stream_30 : decode cX12_stream 30 = .ok (.ifCond .ne 6, 3) := by decide +kernel
theorem dX12_stream_33 : decode cX12_stream 33 = .ok (.bipush (-3), 2) := by decide +kernel
theorem dX12_stream_35 : decode cX12_stream 35 = .ok (.ireturn, 1) := by decide +kernel
theorem dX12_stream_36 : decode cX12_stream 36 = .ok (.aload_n 0, 1) := by decide +kernel
theorem dX12_stream_37 : decode cX12_stream 37 = .ok (.iload_n 1, 1) := by decide +kernel
theorem dX12_stream_38 : decode cX12_stream 38 = .ok (.iload_n 2, 1) := by decide +kernel
theorem dX12_stream_39 : decode cX12_stream 39 = .ok (.invokevirtual 126, 3) := by decide +kernel
theorem dX12_stream_42 : decode cX12_stream 42 = .ok (.ifCond .ne 6, 3) := by decide +kernel
theorem dX12_stream_45 : decode cX12_stream 45 = .ok (.bipush (-4), 2) := by decide +kernel
theorem dX12_stream_47 : decode cX12_stream 47 = .ok (.ireturn, 1) := by decide +kernel
theorem dX12_stream_48 : decode cX12_stream 48 = .ok (.bipush 8, 2) := by decide +kernel
theorem dX12_stream_50 : decode cX12_stream 50 = .ok (.iload_n 1, 1) := by decide +kernel
theorem dX12_stream_51 : decode cX12_stream 51 = .ok (.imul, 1) := by decide +kernel
theorem dX12_stream_52 : decode cX12_stream 52 = .ok (.iload_n 2, 1) := by decide +kernel
theorem dX12_stream_53 : decode cX12_stream 53 = .ok (.iadd, 1) := by decide +kernel
theorem dX12_stream_54 : decode cX12_stream 54 = .ok (.istore 5, 2) := by decide +kernel
theorem dX12_stream_56 : decode cX12_stream 56 = .ok (.iload_n 3, 1) := by decide +kernel
theorem dX12_stream_57 : decode cX12_stream 57 = .ok (.aload_n 0, 1) := by decide +kernel
theorem dX12_stream_58 : decode cX12_stream 58 = .ok (.getfield 7, 3) := by decide +kernel
theorem dX12_stream_61 : decode cX12_stream 61 = .ok (.sipush 395, 3) := by decide +kernel
theorem dX12_stream_64 : decode cX12_stream 64 = .ok (.bipush 9, 2) := by decide +kernel
theorem dX12_stream_66 : decode cX12_stream 66 = .ok (.iload 5, 2) := by decide +kernel
theorem dX12_stream_68 : decode cX12_stream 68 = .ok (.imul, 1) := by decide +kernel
theorem dX12_stream_69 : decode cX12_stream 69 = .ok (.iadd, 1) := by decide +kernel
theorem dX12_stream_70 : decode cX12_stream 70 = .ok (.iaload, 1) := by decide +kernel
theorem dX12_stream_71 : decode cX12_stream 71 = .ok (.if_icmp .lt 5, 3) := by decide +kernel
theorem dX12_stream_74 : decode cX12_stream 74 = .ok (.iconst (-1), 1) := by decide +kernel
theorem dX12_stream_75 : decode cX12_stream 75 = .ok (.ireturn, 1) := by decide +kernel
theorem dX12_stream_76 : decode cX12_stream 76 = .ok (.iload 4, 2) := by decide +kernel
theorem dX12_stream_78 : decode cX12_stream 78 = .ok (.iconst 2, 1) := by decide +kernel
theorem dX12_stream_79 : decode cX12_stream 79 = .ok (.if_icmp .ge 29, 3) := by decide +kernel
theorem dX12_stream_82 : decode cX12_stream 82 = .ok (.aload_n 0, 1) := by decide +kernel
theorem dX12_stream_83 : decode cX12_stream 83 = .ok (.getfield 7, 3) := by decide +kernel
theorem dX12_stream_86 : decode cX12_stream 86 = .ok (.sipush 395, 3) := by decide +kernel
theorem dX12_stream_89 : decode cX12_stream 89 = .ok (.bipush 9, 2) := by decide +kernel
theorem dX12_stream_91 : decode cX12_stream 91 = .ok (.iload 5, 2) := by decide +kernel
theorem dX12_stream_93 : decode cX12_stream 93 = .ok (.imul, 1) := by decide +kernel
theorem dX12_stream_94 : decode cX12_stream 94 = .ok (.iadd, 1) := by decide +kernel
theorem dX12_stream_95 : decode cX12_stream 95 = .ok (.iconst 1, 1) := by decide +kernel
theorem dX12_stream_96 : decode cX12_stream 96 = .ok (.iadd, 1) := by decide +kernel
theorem dX12_stream_97 : decode cX12_stream 97 = .ok (.iconst 2, 1) := by decide +kernel
theorem dX12_stream_98 : decode cX12_stream 98 = .ok (.iload_n 3, 1) := by decide +kernel
theorem dX12_stream_99 : decode cX12_stream 99 = .ok (.imul, 1) := by decide +kernel
theorem dX12_stream_100 : decode cX12_stream 100 = .ok (.iadd, 1) := by decide +kernel
theorem dX12_stream_101 : decode cX12_stream 101 = .ok (.iload 4, 2) := by decide +kernel
theorem dX12_stream_103 : decode cX12_stream 103 = .ok (.iadd, 1) := by decide +kernel
theorem dX12_stream_104 : decode cX12_stream 104 = .ok (.iaload, 1) := by decide +kernel
theorem dX12_stream_105 : decode cX12_stream 105 = .ok (.goto 20, 3) := by decide +kernel
theorem dX12_stream_108 : decode cX12_stream 108 = .ok (.aload_n 0, 1) := by decide +kernel
theorem dX12_stream_109 : decode cX12_stream 109 = .ok (.getfield 13, 3) := by decide +kernel
theorem dX12_stream_112 : decode cX12_stream 112 = .ok (.bipush 40, 2) := by decide +kernel
theorem dX12_stream_114 : decode cX12_stream 114 = .ok (.iconst 4, 1) := by decide +kernel
theorem dX12_stream_115 : decode cX12_stream 115 = .ok (.iload 5, 2) := by decide +kernel
theorem dX12_stream_117 : decode cX12_stream 117 = .ok (.imul, 1) := by decide +kernel
theorem dX12_stream_118 : decode cX12_stream 118 = .ok (.iadd, 1) := by decide +kernel
theorem dX12_stream_119 : decode cX12_stream 119 = .ok (.iload_n 3, 1) := by decide +kernel
theorem dX12_stream_120 : decode cX12_stream 120 = .ok (.iadd, 1) := by decide +kernel
theorem dX12_stream_121 : decode cX12_stream 121 = .ok (.faload, 1) := by decide +kernel
theorem dX12_stream_122 : decode cX12_stream 122 = .ok (.invokestatic 211, 3) := by decide +kernel
theorem dX12_stream_125 : decode cX12_stream 125 = .ok (.ireturn, 1) := by decide +kernel
theorem dX12_distance_0 : decode cX12_distance 0 = .ok (.aload_n 0, 1) := by decide +kernel
theorem dX12_distance_1 : decode cX12_distance 1 = .ok (.iload_n 1, 1) := by decide +kernel
theorem dX12_distance_2 : decode cX12_distance 2 = .ok (.invokevirtual 155, 3) := by decide +kernel
theorem dX12_distance_5 : decode cX12_distance 5 = .ok (.ifCond .eq 11, 3) := by decide +kernel
theorem dX12_distance_8 : decode cX12_distance 8 = .ok (.aload_n 0, 1) := by decide +kernel
theorem dX12_distance_9 : decode cX12_distance 9 = .ok (.iload_n 2, 1) := by decide +kernel
theorem dX12_distance_10 : decode cX12_distance 10 = .ok (.invokevirtual 155, 3) := by decide +kernel
theorem dX12_distance_13 : decode cX12_distance 13 = .ok (.ifCond .ne 6, 3) := by decide +kernel
theorem dX12_distance_16 : decode cX12_distance 16 = .ok (.bipush (-2), 2) := by decide +kernel
theorem dX12_distance_18 : decode cX12_distance 18 = .ok (.ireturn, 1) := by decide +kernel
theorem dX12_distance_19 : decode cX12_distance 19 = .ok (.aload_n 0, 1) := by decide +kernel
theorem dX12_distance_20 : decode cX12_distance 20 = .ok (.iload_n 1, 1) := by decide +kernel
theorem dX12_distance_21 : decode cX12_distance 21 = .ok (.iconst 2, 1) := by decide +kernel
theorem dX12_distance_22 : decode cX12_distance 22 = .ok (.invokevirtual 53, 3) := by decide +kernel
theorem dX12_distance_25 : decode cX12_distance 25 = .ok (.istore_n 3, 1) := by decide +kernel
theorem dX12_distance_26 : decode cX12_distance 26 = .ok (.aload_n 0, 1) := by decide +kernel
theorem dX12_distance_27 : decode cX12_distance 27 = .ok (.iload_n 2, 1) := by decide +kernel
theorem dX12_distance_28 : decode cX12_distance 28 = .ok (.iconst 2, 1) := by decide +kernel
theorem dX12_distance_29 : decode cX12_distance 29 = .ok (.invokevirtual 53, 3) := by decide +kernel
theorem dX12_distance_32 : decode cX12_distance 32 = .ok (.istore 4, 2) := by decide +kernel
theorem dX12_distance_34 : decode cX12_distance 34 = .ok (.iconst 0, 1) := by decide +kernel
theorem dX12_distance_35 : decode cX12_distance 35 = .ok (.istore 5, 2) := by decide +kernel
theorem dX12_distance_37 : decode cX12_distance 37 = .ok (.iload_n 3, 1) := by decide +kernel
theorem dX12_distance_38 : decode cX12_distance 38 = .ok (.iload 4, 2) := by decide +kernel
theorem dX12_distance_40 : decode cX12_distance 40 = .ok (.if_icmp .eq 34, 3) := by decide +kernel
theorem dX12_distance_43 : decode cX12_distance 43 = .ok (.iload_n 3, 1) := by decide +kernel
theorem dX12_distance_44 : decode cX12_distance 44 = .ok (.iload 4, 2) := by decide +kernel
theorem dX12_distance_46 : decode cX12_distance 46 = .ok (.if_icmp .le 13, 3) := by decide +kernel
theorem dX12_distance_49 : decode cX12_distance 49 = .ok (.aload_n 0, 1) := by decide +kernel
theorem dX12_distance_50 : decode cX12_distance 50 = .ok (.iload_n 3, 1) := by decide +kernel
theorem dX12_distance_51 : decode cX12_distance 51 = .ok (.iconst 0, 1) := by decide +kernel
theorem dX12_distance_52 : decode cX12_distance 52 = .ok (.invokevirtual 57, 3) := by decide +kernel
theorem dX12_distance_55 : decode cX12_distance 55 = .ok (.istore_n 3, 1) := by decide +kernel
theorem dX12_distance_56 : decode cX12_distance 56 = .ok (.goto 12, 3) := by decide +kernel
theorem dX12_distance_59 : decode cX12_distance 59 = .ok (.aload_n 0, 1) := by decide +kernel
theorem dX12_distance_60 : decode cX12_distance 60 = .ok (.iload 4, 2) := by decide +kernel
theorem dX12_distance_62 : decode cX12_distance 62 = .ok (.iconst 0, 1) := by decide +kernel
theorem dX12_distance_63 : decode cX12_distance 63 = .ok (.invokevirtual 57, 3) := by decide +kernel
theorem dX12_distance_66 : decode cX12_distance 66 = .ok (.istore 4, 2) := by decide +kernel
theorem dX12_distance_68 : decode cX12_distance 68 = .ok (.iinc 5 1, 3) := by decide +kernel
theorem dX12_distance_71 : decode cX12_distance 71 = .ok (.goto (-34), 3) := by decide +kernel
theorem dX12_distance_74 : decode cX12_distance 74 = .ok (.iload 5, 2) := by decide +kernel
theorem dX12_distance_76 : decode cX12_distance 76 = .ok (.ireturn, 1) := by decide +kernel
theorem dX12_waiting_0 : decode cX12_waiting 0 = .ok (.iload_n 1, 1) := by decide +kernel
theorem dX12_waiting_1 : decode cX12_waiting 1 = .ok (.iconst 0, 1) := by decide +kernel
theorem dX12_waiting_2 : decode cX12_waiting 2 = .ok (.aload_n 0, 1) := by decide +kernel
theorem dX12_waiting_3 : decode cX12_waiting 3 = .ok (.invokevirtual 74, 3) := by decide +kernel
theorem dX12_waiting_6 : decode cX12_waiting 6 = .ok (.iconst 1, 1) := by decide +kernel
theorem dX12_waiting_7 : decode cX12_waiting 7 = .ok (.isub, 1) := by decide +kernel
theorem dX12_waiting_8 : decode cX12_waiting 8 = .ok (.invokestatic 49, 3) := by decide +kernel
theorem dX12_waiting_11 : decode cX12_waiting 11 = .ok (.ifCond .eq 11, 3) := by decide +kernel
theorem dX12_waiting_14 : decode cX12_waiting 14 = .ok (.aload_n 0, 1) := by decide +kernel
theorem dX12_waiting_15 : decode cX12_waiting 15 = .ok (.iload_n 1, 1) := by decide +kernel
theorem dX12_waiting_16 : decode cX12_waiting 16 = .ok (.invokevirtual 78, 3) := by decide +kernel
theorem dX12_waiting_19 : decode cX12_waiting 19 = .ok (.goto 5, 3) := by decide +kernel
theorem dX12_waiting_22 : decode cX12_waiting 22 = .ok (.bipush (-2), 2) := by decide +kernel
theorem dX12_waiting_24 : decode cX12_waiting 24 = .ok (.ireturn, 1) := by decide +kernel
theorem dX12_foretell_0 : decode cX12_foretell 0 = .ok (.aload_n 0, 1) := by decide +kernel
theorem dX12_foretell_1 : decode cX12_foretell 1 = .ok (.iload_n 1, 1) := by decide +kernel
theorem dX12_foretell_2 : decode cX12_foretell 2 = .ok (.invokevirtual 155, 3) := by decide +kernel
theorem dX12_foretell_5 : decode cX12_foretell 5 = .ok (.ifCond .ne 6, 3) := by decide +kernel
theorem dX12_foretell_8 : decode cX12_foretell 8 = .ok (.bipush (-2), 2) := by decide +kernel
theorem dX12_foretell_10 : decode cX12_foretell 10 = .ok (.ireturn, 1) := by decide +kernel
theorem dX12_foretell_11 : decode cX12_foretell 11 = .ok (.iload_n 2, 1) := by decide +kernel
theorem dX12_foretell_12 : decode cX12_foretell 12 = .ok (.iconst 1, 1) := by decide +kernel
theorem dX12_foretell_13 : decode cX12_foretell 13 = .ok (.bipush 99, 2) := by decide +kernel
theorem dX12_foretell_15 : decode cX12_foretell 15 = .ok (.invokestatic 49, 3) := by decide +kernel
theorem dX12_foretell_18 : decode cX12_foretell 18 = .ok (.ifCond .ne 6, 3) := by decide +kernel
theorem dX12_foretell_21 : decode cX12_foretell 21 = .ok (.bipush (-3), 2) := by decide +kernel
theorem dX12_foretell_23 : decode cX12_foretell 23 = .ok (.ireturn, 1) := by decide +kernel
theorem dX12_foretell_24 : decode cX12_foretell 24 = .ok (.aload_n 0, 1) := by decide +kernel
theorem dX12_foretell_25 : decode cX12_foretell 25 = .ok (.iconst 0, 1) := by decide +kernel
theorem dX12_foretell_26 : decode cX12_foretell 26 = .ok (.sipush 5826, 3) := by decide +kernel
theorem dX12_foretell_29 : decode cX12_foretell 29 = .ok (.iconst 0, 1) := by decide +kernel
theorem dX12_foretell_30 : decode cX12_foretell 30 = .ok (.sipush 1776, 3) := by decide +kernel
theorem dX12_foretell_33 : decode cX12_foretell 33 = .ok (.invokevirtual 45, 3) := by decide +kernel
theorem dX12_foretell_36 : decode cX12_foretell 36 = .ok (.iconst 0, 1) := by decide +kernel
theorem dX12_foretell_37 : decode cX12_foretell 37 = .ok (.istore_n 3, 1) := by decide +kernel
theorem dX12_foretell_38 : decode cX12_foretell 38 = .ok (.iload_n 3, 1) := by decide +kernel
theorem dX12_foretell_39 : decode cX12_foretell 39 = .ok (.iload_n 2, 1) := by decide +kernel
theorem dX12_foretell_40 : decode cX12_foretell 40 = .ok (.if_icmp .ge 21, 3) := by decide +kernel
theorem dX12_foretell_43 : decode cX12_foretell 43 = .ok (.aload_n 0, 1) := by decide +kernel
theorem dX12_foretell_44 : decode cX12_foretell 44 = .ok (.iload_n 1, 1) := by decide +kernel
theorem dX12_foretell_45 : decode cX12_foretell 45 = .ok (.invokevirtual 95, 3) := by decide +kernel
theorem dX12_foretell_48 : decode cX12_foretell 48 = .ok (.ifCond .ne 13, 3) := by decide +kernel
theorem dX12_foretell_51 : decode cX12_foretell 51 = .ok (.aload_n 0, 1) := by decide +kernel
theorem dX12_foretell_52 : decode cX12_foretell 52 = .ok (.invokevirtual 161, 3) := by decide +kernel
theorem dX12_foretell_55 : decode cX12_foretell 55 = .ok (.iinc 3 1, 3) := by decide +kernel
theorem dX12_foretell_58 : decode cX12_foretell 58 = .ok (.goto (-20), 3) := by decide +kernel
theorem dX12_foretell_61 : decode cX12_foretell 61 = .ok (.aload_n 0, 1) := by decide +kernel
theorem dX12_foretell_62 : decode cX12_foretell 62 = .ok (.iload_n 1, 1) := by decide +kernel
theorem dX12_foretell_63 : decode cX12_foretell 63 = .ok (.invokevirtual 95, 3) := by decide +kernel
theorem dX12_foretell_66 : decode cX12_foretell 66 = .ok (.ifCond .eq 7, 3) := by decide +kernel
theorem dX12_foretell_69 : decode cX12_foretell 69 = .ok (.iload_n 3, 1) := by decide +kernel
theorem dX12_foretell_70 : decode cX12_foretell 70 = .ok (.goto 4, 3) := by decide +kernel
theorem dX12_foretell_73 : decode cX12_foretell 73 = .ok (.iconst (-1), 1) := by decide +kernel
theorem dX12_foretell_74 : decode cX12_foretell 74 = .ok (.istore 4, 2) := by decide +kernel
theorem dX12_foretell_76 : decode cX12_foretell 76 = .ok (.aload_n 0, 1) := by decide +kernel
theorem dX12_foretell_77 : decode cX12_foretell 77 = .ok (.sipush 5826, 3) := by decide +kernel
theorem dX12_foretell_80 : decode cX12_foretell 80 = .ok (.iconst 0, 1) := by decide +kernel
theorem dX12_foretell_81 : decode cX12_foretell 81 = .ok (.sipush 1776, 3) := by decide +kernel
theorem dX12_foretell_84 : decode cX12_foretell 84 = .ok (.iconst 0, 1) := by decide +kernel
theorem dX12_foretell_85 : decode cX12_foretell 85 = .ok (.invokevirtual 45, 3) := by decide +kernel
theorem dX12_foretell_88 : decode cX12_foretell 88 = .ok (.iload 4, 2) := by decide +kernel
theorem dX12_foretell_90 : decode cX12_foretell 90 = .ok (.ireturn, 1) := by decide +kernel
theorem dX12_event_0 : decode cX12_event 0 = .ok (.iload_n 1, 1) := by decide +kernel
theorem dX12_event_1 : decode cX12_event 1 = .ok (.iconst 0, 1) := by decide +kernel
theorem dX12_event_2 : decode cX12_event 2 = .ok (.aload_n 0, 1) := by decide +kernel
theorem dX12_event_3 : decode cX12_event 3 = .ok (.getfield 7, 3) := by decide +kernel
theorem dX12_event_6 : decode cX12_event 6 = .ok (.bipush 10, 2) := by decide +kernel
theorem dX12_event_8 : decode cX12_event 8 = .ok (.iaload, 1) := by decide +kernel
theorem dX12_event_9 : decode cX12_event 9 = .ok (.iconst 1, 1) := by decide +kernel
theorem dX12_event_10 : decode cX12_event 10 = .ok (.isub, 1) := by decide +kernel
theorem dX12_event_11 : decode cX12_event 11 = .ok (.invokestatic 49, 3) := by decide +kernel
theorem dX12_event_14 : decode cX12_event 14 = .ok (.ifCond .ne 6, 3) := by decide +kernel
theorem dX12_event_17 : decode cX12_event 17 = .ok (.bipush (-2), 2) := by decide +kernel
theorem dX12_event_19 : decode cX12_event 19 = .ok (.ireturn, 1) := by decide +kernel
theorem dX12_event_20 : decode cX12_event 20 = .ok (.iload_n 2, 1) := by decide +kernel
theorem dX12_event_21 : decode cX12_event 21 = .ok (.iconst 0, 1) := by decide +kernel
theorem dX12_event_22 : decode cX12_event 22 = .ok (.iconst 2, 1) := by decide +kernel
theorem dX12_event_23 : decode cX12_event 23 = .ok (.invokestatic 49, 3) := by decide +kernel
theorem dX12_event_26 : decode cX12_event 26 = .ok (.ifCond .eq 30, 3) := by decide +kernel
theorem dX12_event_29 : decode cX12_event 29 = .ok (.aload_n 0, 1) := by decide +kernel
theorem dX12_event_30 : decode cX12_event 30 = .ok (.getfield 7, 3) := by decide +kernel
theorem dX12_event_33 : decode cX12_event 33 = .ok (.sipush 305, 3) := by decide +kernel
theorem dX12_event_36 : decode cX12_event 36 = .ok (.iconst 3, 1) := by decide +kernel
theorem dX12_event_37 : decode cX12_event 37 = .ok (.aload_n 0, 1) := by decide +kernel
theorem dX12_event_38 : decode cX12_event 38 = .ok (.getfield 7, 3) := by decide +kernel
theorem dX12_event_41 : decode cX12_event 41 = .ok (.bipush 10, 2) := by decide +kernel
theorem dX12_event_43 : decode cX12_event 43 = .ok (.iaload, 1) := by decide +kernel
theorem dX12_event_44 : decode cX12_event 44 = .ok (.iconst 1, 1) := by decide +kernel
theorem dX12_event_45 : decode cX12_event 45 = .ok (.isub, 1) := by decide +kernel
theorem dX12_event_46 : decode cX12_event 46 = .ok (.iload_n 1, 1) := by decide +kernel
theorem dX12_event_47 : decode cX12_event 47 = .ok (.isub, 1) := by decide +kernel
theorem dX12_event_48 : decode cX12_event 48 = .ok (.imul, 1) := by decide +kernel
theorem dX12_event_49 : decode cX12_event 49 = .ok (.iadd, 1) := by decide +kernel
theorem dX12_event_50 : decode cX12_event 50 = .ok (.iload_n 2, 1) := by decide +kernel
theorem dX12_event_51 : decode cX12_event 51 = .ok (.iadd, 1) := by decide +kernel
theorem dX12_event_52 : decode cX12_event 52 = .ok (.iaload, 1) := by decide +kernel
theorem dX12_event_53 : decode cX12_event 53 = .ok (.goto 5, 3) := by decide +kernel
theorem dX12_event_56 : decode cX12_event 56 = .ok (.bipush (-3), 2) := by decide +kernel
theorem dX12_event_58 : decode cX12_event 58 = .ok (.ireturn, 1) := by decide +kernel
theorem dX12_note_0 : decode cX12_note 0 = .ok (.aload_n 0, 1) := by decide +kernel
theorem dX12_note_1 : decode cX12_note 1 = .ok (.ldc2_w 218, 3) := by decide +kernel
theorem dX12_note_4 : decode cX12_note 4 = .ok (.aload_n 0, 1) := by decide +kernel
theorem dX12_note_5 : decode cX12_note 5 = .ok (.getfield 220, 3) := by decide +kernel
theorem dX12_note_8 : decode cX12_note 8 = .ok (.lmul, 1) := by decide +kernel
theorem dX12_note_9 : decode cX12_note 9 = .ok (.lload_n 1, 1) := by decide +kernel
theorem dX12_note_10 : decode cX12_note 10 = .ok (.ladd, 1) := by decide +kernel
theorem dX12_note_11 : decode cX12_note 11 = .ok (.putfield 220, 3) := by decide +kernel
theorem dX12_note_14 : decode cX12_note 14 = .ok (.return_, 1) := by decide +kernel
theorem dX12_digest_0 : decode cX12_digest 0 = .ok (.aload_n 0, 1) := by decide +kernel
theorem dX12_digest_1 : decode cX12_digest 1 = .ok (.ldc2_w 224, 3) := by decide +kernel
theorem dX12_digest_4 : decode cX12_digest 4 = .ok (.putfield 220, 3) := by decide +kernel
theorem dX12_digest_7 : decode cX12_digest 7 = .ok (.iconst 0, 1) := by decide +kernel
theorem dX12_digest_8 : decode cX12_digest 8 = .ok (.istore_n 1, 1) := by decide +kernel
theorem dX12_digest_9 : decode cX12_digest 9 = .ok (.iload_n 1, 1) := by decide +kernel
theorem dX12_digest_10 : decode cX12_digest 10 = .ok (.bipush 7, 2) := by decide +kernel
theorem dX12_digest_12 : decode cX12_digest 12 = .ok (.if_icmp .ge 19, 3) := by decide +kernel
theorem dX12_digest_15 : decode cX12_digest 15 = .ok (.aload_n 0, 1) := by decide +kernel
theorem dX12_digest_16 : decode cX12_digest 16 = .ok (.aload_n 0, 1) := by decide +kernel
theorem dX12_digest_17 : decode cX12_digest 17 = .ok (.iload_n 1, 1) := by decide +kernel
theorem dX12_digest_18 : decode cX12_digest 18 = .ok (.invokevirtual 226, 3) := by decide +kernel
theorem dX12_digest_21 : decode cX12_digest 21 = .ok (.i2l, 1) := by decide +kernel
theorem dX12_digest_22 : decode cX12_digest 22 = .ok (.invokevirtual 229, 3) := by decide +kernel
theorem dX12_digest_25 : decode cX12_digest 25 = .ok (.iinc 1 1, 3) := by decide +kernel
theorem dX12_digest_28 : decode cX12_digest 28 = .ok (.goto (-19), 3) := by decide +kernel
theorem dX12_digest_31 : decode cX12_digest 31 = .ok (.iconst 0, 1) := by decide +kernel
theorem dX12_digest_32 : decode cX12_digest 32 = .ok (.istore_n 1, 1) := by decide +kernel
theorem dX12_digest_33 : decode cX12_digest 33 = .ok (.iload_n 1, 1) := by decide +kernel
theorem dX12_digest_34 : decode cX12_digest 34 = .ok (.aload_n 0, 1) := by decide +kernel
theorem dX12_digest_35 : decode cX12_digest 35 = .ok (.getfield 7, 3) := by decide +kernel
theorem dX12_digest_38 : decode cX12_digest 38 = .ok (.bipush 12, 2) := by decide +kernel
theorem dX12_digest_40 : decode cX12_digest 40 = .ok (.iaload, 1) := by decide +kernel
theorem dX12_digest_41 : decode cX12_digest 41 = .ok (.if_icmp .ge 74, 3) := by decide +kernel
theorem dX12_digest_44 : decode cX12_digest 44 = .ok (.iconst 0, 1) := by decide +kernel
theorem dX12_digest_45 : decode cX12_digest 45 = .ok (.istore_n 2, 1) := by decide +kernel
theorem dX12_digest_46 : decode cX12_digest 46 = .ok (.iload_n 2, 1) := by decide +kernel
theorem dX12_digest_47 : decode cX12_digest 47 = .ok (.bipush 9, 2) := by decide +kernel
theorem dX12_digest_49 : decode cX12_digest 49 = .ok (.if_icmp .ge 30, 3) := by decide +kernel
theorem dX12_digest_52 : decode cX12_digest 52 = .ok (.aload_n 0, 1) := by decide +kernel
theorem dX12_digest_53 : decode cX12_digest 53 = .ok (.iload_n 1, 1) := by decide +kernel
theorem dX12_digest_54 : decode cX12_digest 54 = .ok (.iconst 0, 1) := by decide +kernel
theorem dX12_digest_55 : decode cX12_digest 55 = .ok (.invokevirtual 53, 3) := by decide +kernel
theorem dX12_digest_58 : decode cX12_digest 58 = .ok (.iconst 1, 1) := by decide +kernel
theorem dX12_digest_59 : decode cX12_digest 59 = .ok (.if_icmp .ne 20, 3) := by decide +kernel
theorem dX12_digest_62 : decode cX12_digest 62 = .ok (.aload_n 0, 1) := by decide +kernel
theorem dX12_digest_63 : decode cX12_digest 63 = .ok (.aload_n 0, 1) := by decide +kernel
theorem dX12_digest_64 : decode cX12_digest 64 = .ok (.iload_n 1, 1) := by decide +kernel
theorem dX12_digest_65 : decode cX12_digest 65 = .ok (.iload_n 2, 1) := by decide +kernel
theorem dX12_digest_66 : decode cX12_digest 66 = .ok (.invokevirtual 208, 3) := by decide +kernel
theorem dX12_digest_69 : decode cX12_digest 69 = .ok (.i2l, 1) := by decide +kernel
theorem dX12_digest_70 : decode cX12_digest 70 = .ok (.invokevirtual 229, 3) := by decide +kernel
theorem dX12_digest_73 : decode cX12_digest 73 = .ok (.iinc 2 1, 3) := by decide +kernel
theorem dX12_digest_76 : decode cX12_digest 76 = .ok (.goto (-30), 3) := by decide +kernel
theorem dX12_digest_79 : decode cX12_digest 79 = .ok (.aload_n 0, 1) := by decide +kernel
theorem dX12_digest_80 : decode cX12_digest 80 = .ok (.iload_n 1, 1) := by decide +kernel
theorem dX12_digest_81 : decode cX12_digest 81 = .ok (.iconst 0, 1) := by decide +kernel
theorem dX12_digest_82 : decode cX12_digest 82 = .ok (.invokevirtual 53, 3) := by decide +kernel
theorem dX12_digest_85 : decode cX12_digest 85 = .ok (.iconst 1, 1) := by decide +kernel
theorem dX12_digest_86 : decode cX12_digest 86 = .ok (.if_icmp .ne 23, 3) := by decide +kernel
theorem dX12_digest_89 : decode cX12_digest 89 = .ok (.aload_n 0, 1) := by decide +kernel
theorem dX12_digest_90 : decode cX12_digest 90 = .ok (.aload_n 0, 1) := by decide +kernel
theorem dX12_digest_91 : decode cX12_digest 91 = .ok (.iload_n 1, 1) := by decide +kernel
theorem dX12_digest_92 : decode cX12_digest 92 = .ok (.invokevirtual 233, 3) := by decide +kernel
theorem dX12_digest_95 : decode cX12_digest 95 = .ok (.i2l, 1) := by decide +kernel
theorem dX12_digest_96 : decode cX12_digest 96 = .ok (.invokevirtual 229, 3) := by decide +kernel
theorem dX12_digest_99 : decode cX12_digest 99 = .ok (.aload_n 0, 1) := by decide +kernel
theorem dX12_digest_100 : decode cX12_digest 100 = .ok (.aload_n 0, 1) := by decide +kernel
theorem dX12_digest_101 : decode cX12_digest 101 = .ok (.iload_n 1, 1) := by decide +kernel
theorem dX12_digest_102 : decode cX12_digest 102 = .ok (.invokevirtual 236, 3) := by decide +kernel
theorem dX12_digest_105 : decode cX12_digest 105 = .ok (.i2l, 1) := by decide +kernel
theorem dX12_digest_106 : decode cX12_digest 106 = .ok (.invokevirtual 229, 3) := by decide +kernel
theorem dX12_digest_109 : decode cX12_digest 109 = .ok (.iinc 1 1, 3) := by decide +kernel
theorem dX12_digest_112 : decode cX12_digest 112 = .ok (.goto (-79), 3) := by decide +kernel
theorem dX12_digest_115 : decode cX12_digest 115 = .ok (.iconst 0, 1) := by decide +kernel
theorem dX12_digest_116 : decode cX12_digest 116 = .ok (.istore_n 1, 1) := by decide +kernel
theorem dX12_digest_117 : decode cX12_digest 117 = .ok (.iload_n 1, 1) := by decide +kernel
theorem dX12_digest_118 : decode cX12_digest 118 = .ok (.aload_n 0, 1) := by decide +kernel
theorem dX12_digest_119 : decode cX12_digest 119 = .ok (.getfield 7, 3) := by decide +kernel
theorem dX12_digest_122 : decode cX12_digest 122 = .ok (.bipush 11, 2) := by decide +kernel
theorem dX12_digest_124 : decode cX12_digest 124 = .ok (.iaload, 1) := by decide +kernel
theorem dX12_digest_125 : decode cX12_digest 125 = .ok (.if_icmp .ge 80, 3) := by decide +kernel
theorem dX12_digest_128 : decode cX12_digest 128 = .ok (.iconst 0, 1) := by decide +kernel
theorem dX12_digest_129 : decode cX12_digest 129 = .ok (.istore_n 2, 1) := by decide +kernel
theorem dX12_digest_130 : decode cX12_digest 130 = .ok (.iload_n 2, 1) := by decide +kernel
theorem dX12_digest_131 : decode cX12_digest 131 = .ok (.aload_n 0, 1) := by decide +kernel
theorem dX12_digest_132 : decode cX12_digest 132 = .ok (.getfield 7, 3) := by decide +kernel
theorem dX12_digest_135 : decode cX12_digest 135 = .ok (.bipush 11, 2) := by decide +kernel
theorem dX12_digest_137 : decode cX12_digest 137 = .ok (.iaload, 1) := by decide +kernel
theorem dX12_digest_138 : decode cX12_digest 138 = .ok (.if_icmp .ge 61, 3) := by decide +kernel
theorem dX12_digest_141 : decode cX12_digest 141 = .ok (.sipush 395, 3) := by decide +kernel
theorem dX12_digest_144 : decode cX12_digest 144 = .ok (.bipush 9, 2) := by decide +kernel
theorem dX12_digest_146 : decode cX12_digest 146 = .ok (.bipush 8, 2) := by decide +kernel
theorem dX12_digest_148 : decode cX12_digest 148 = .ok (.iload_n 1, 1) := by decide +kernel
theorem dX12_digest_149 : decode cX12_digest 149 = .ok (.imul, 1) := by decide +kernel
theorem dX12_digest_150 : decode cX12_digest 150 = .ok (.iload_n 2, 1) := by decide +kernel
theorem dX12_digest_151 : decode cX12_digest 151 = .ok (.iadd, 1) := by decide +kernel
theorem dX12_digest_152 : decode cX12_digest 152 = .ok (.imul, 1) := by decide +kernel
theorem dX12_digest_153 : decode cX12_digest 153 = .ok (.iadd, 1) := by decide +kernel
theorem dX12_digest_154 : decode cX12_digest 154 = .ok (.istore_n 3, 1) := by decide +kernel
theorem dX12_digest_155 : decode cX12_digest 155 = .ok (.iconst 0, 1) := by decide +kernel
theorem dX12_digest_156 : decode cX12_digest 156 = .ok (.istore 4, 2) := by decide +kernel
theorem dX12_digest_158 : decode cX12_digest 158 = .ok (.iload 4, 2) := by decide +kernel
theorem dX12_digest_160 : decode cX12_digest 160 = .ok (.aload_n 0, 1) := by decide +kernel
theorem dX12_digest_161 : decode cX12_digest 161 = .ok (.getfield 7, 3) := by decide +kernel
theorem dX12_digest_164 : decode cX12_digest 164 = .ok (.iload_n 3, 1) := by decide +kernel
theorem dX12_digest_165 : decode cX12_digest 165 = .ok (.iaload, 1) := by decide +kernel
theorem dX12_digest_166 : decode cX12_digest 166 = .ok (.if_icmp .ge 27, 3) := by decide +kernel
theorem dX12_digest_169 : decode cX12_digest 169 = .ok (.aload_n 0, 1) := by decide +kernel
theorem dX12_digest_170 : decode cX12_digest 170 = .ok (.aload_n 0, 1) := by decide +kernel
theorem dX12_digest_171 : decode cX12_digest 171 = .ok (.getfield 7, 3) := by decide +kernel
theorem dX12_digest_174 : decode cX12_digest 174 = .ok (.iload_n 3, 1) := by decide +kernel
theorem dX12_digest_175 : decode cX12_digest 175 = .ok (.iconst 1, 1) := by decide +kernel
theorem dX12_digest_176 : decode cX12_digest 176 = .ok (.iadd, 1) := by decide +kernel
theorem dX12_digest_177 : decode cX12_digest 177 = .ok (.iconst 2, 1) := by decide +kernel
theorem dX12_digest_178 : decode cX12_digest 178 = .ok (.iload 4, 2) := by decide +kernel
theorem dX12_digest_180 : decode cX12_digest 180 = .ok (.imul, 1) := by decide +kernel
theorem dX12_digest_181 : decode cX12_digest 181 = .ok (.iadd, 1) := by decide +kernel
theorem dX12_digest_182 : decode cX12_digest 182 = .ok (.iaload, 1) := by decide +kernel
theorem dX12_digest_183 : decode cX12_digest 183 = .ok (.i2l, 1) := by decide +kernel
theorem dX12_digest_184 : decode cX12_digest 184 = .ok (.invokevirtual 229, 3) := by decide +kernel
theorem dX12_digest_187 : decode cX12_digest 187 = .ok (.iinc 4 1, 3) := by decide +kernel
theorem dX12_digest_190 : decode cX12_digest 190 = .ok (.goto (-32), 3) := by decide +kernel
theorem dX12_digest_193 : decode cX12_digest 193 = .ok (.iinc 2 1, 3) := by decide +kernel
theorem dX12_digest_196 : decode cX12_digest 196 = .ok (.goto (-66), 3) := by decide +kernel
theorem dX12_digest_199 : decode cX12_digest 199 = .ok (.iinc 1 1, 3) := by decide +kernel
theorem dX12_digest_202 : decode cX12_digest 202 = .ok (.goto (-85), 3) := by decide +kernel
theorem dX12_digest_205 : decode cX12_digest 205 = .ok (.iconst 0, 1) := by decide +kernel
theorem dX12_digest_206 : decode cX12_digest 206 = .ok (.istore_n 1, 1) := by decide +kernel
theorem dX12_digest_207 : decode cX12_digest 207 = .ok (.iload_n 1, 1) := by decide +kernel
theorem dX12_digest_208 : decode cX12_digest 208 = .ok (.iconst 3, 1) := by decide +kernel
theorem dX12_digest_209 : decode cX12_digest 209 = .ok (.aload_n 0, 1) := by decide +kernel
theorem dX12_digest_210 : decode cX12_digest 210 = .ok (.getfield 7, 3) := by decide +kernel
theorem dX12_digest_213 : decode cX12_digest 213 = .ok (.bipush 10, 2) := by decide +kernel
theorem dX12_digest_215 : decode cX12_digest 215 = .ok (.iaload, 1) := by decide +kernel
theorem dX12_digest_216 : decode cX12_digest 216 = .ok (.imul, 1) := by decide +kernel
theorem dX12_digest_217 : decode cX12_digest 217 = .ok (.if_icmp .ge 24, 3) := by decide +kernel
theorem dX12_digest_220 : decode cX12_digest 220 = .ok (.aload_n 0, 1) := by decide +kernel
theorem dX12_digest_221 : decode cX12_digest 221 = .ok (.aload_n 0, 1) := by decide +kernel
theorem dX12_digest_222 : decode cX12_digest 222 = .ok (.getfield 7, 3) := by decide +kernel
theorem dX12_digest_225 : decode cX12_digest 225 = .ok (.sipush 305, 3) := by decide +kernel
theorem dX12_digest_228 : decode cX12_digest 228 = .ok (.iload_n 1, 1) := by decide +kernel
theorem dX12_digest_229 : decode cX12_digest 229 = .ok (.iadd, 1) := by decide +kernel
theorem dX12_digest_230 : decode cX12_digest 230 = .ok (.iaload, 1) := by decide +kernel
theorem dX12_digest_231 : decode cX12_digest 231 = .ok (.i2l, 1) := by decide +kernel
theorem dX12_digest_232 : decode cX12_digest 232 = .ok (.invokevirtual 229, 3) := by decide +kernel
theorem dX12_digest_235 : decode cX12_digest 235 = .ok (.iinc 1 1, 3) := by decide +kernel
theorem dX12_digest_238 : decode cX12_digest 238 = .ok (.goto (-31), 3) := by decide +kernel
theorem dX12_digest_241 : decode cX12_digest 241 = .ok (.aload_n 0, 1) := by decide +kernel
theorem dX12_digest_242 : decode cX12_digest 242 = .ok (.getfield 220, 3) := by decide +kernel
theorem dX12_digest_245 : decode cX12_digest 245 = .ok (.lreturn, 1) := by decide +kernel
theorem dJxf58ca_isNaN_12338_0 : decode cJxf58ca_isNaN_12338 0 = .ok (.fload_n 0, 1) := by decide +kernel
theorem dJxf58ca_isNaN_12338_1 : decode cJxf58ca_isNaN_12338 1 = .ok (.fload_n 0, 1) := by decide +kernel
theorem dJxf58ca_isNaN_12338_2 : decode cJxf58ca_isNaN_12338 2 = .ok (.fcmp .l, 1) := by decide +kernel
theorem dJxf58ca_isNaN_12338_3 : decode cJxf58ca_isNaN_12338 3 = .ok (.ifCond .eq 7, 3) := by decide +kernel
theorem dJxf58ca_isNaN_12338_6 : decode cJxf58ca_isNaN_12338 6 = .ok (.iconst 1, 1) := by decide +kernel
theorem dJxf58ca_isNaN_12338_7 : decode cJxf58ca_isNaN_12338 7 = .ok (.goto 4, 3) := by decide +kernel
theorem dJxf58ca_isNaN_12338_10 : decode cJxf58ca_isNaN_12338 10 = .ok (.iconst 0, 1) := by decide +kernel
theorem dJxf58ca_isNaN_12338_11 : decode cJxf58ca_isNaN_12338 11 = .ok (.ireturn, 1) := by decide +kernel
theorem dJxf58ca_floatToIntBits_5c35a_0 : decode cJxf58ca_floatToIntBits_5c35a 0 = .ok (.fload_n 0, 1) := by decide +kernel
theorem dJxf58ca_floatToIntBits_5c35a_1 : decode cJxf58ca_floatToIntBits_5c35a 1 = .ok (.invokestatic 59, 3) := by decide +kernel
theorem dJxf58ca_floatToIntBits_5c35a_4 : decode cJxf58ca_floatToIntBits_5c35a 4 = .ok (.ifCond .ne 8, 3) := by decide +kernel
theorem dJxf58ca_floatToIntBits_5c35a_7 : decode cJxf58ca_floatToIntBits_5c35a 7 = .ok (.fload_n 0, 1) := by decide +kernel
theorem dJxf58ca_floatToIntBits_5c35a_8 : decode cJxf58ca_floatToIntBits_5c35a 8 = .ok (.invokestatic 74, 3) := by decide +kernel
theorem dJxf58ca_floatToIntBits_5c35a_11 : decode cJxf58ca_floatToIntBits_5c35a 11 = .ok (.ireturn, 1) := by decide +kernel
theorem dJxf58ca_floatToIntBits_5c35a_12 : decode cJxf58ca_floatToIntBits_5c35a 12 = .ok (.ldc 77, 2) := by decide +kernel
theorem dJxf58ca_floatToIntBits_5c35a_14 : decode cJxf58ca_floatToIntBits_5c35a 14 = .ok (.ireturn, 1) := by decide +kernel
theorem dJ6_bitCount_0f7a4_0 : decode cJ6_bitCount_0f7a4 0 = .ok (.iload_n 0, 1) := by decide +kernel
theorem dJ6_bitCount_0f7a4_1 : decode cJ6_bitCount_0f7a4 1 = .ok (.iload_n 0, 1) := by decide +kernel
theorem dJ6_bitCount_0f7a4_2 : decode cJ6_bitCount_0f7a4 2 = .ok (.iconst 1, 1) := by decide +kernel
theorem dJ6_bitCount_0f7a4_3 : decode cJ6_bitCount_0f7a4 3 = .ok (.iushr, 1) := by decide +kernel
theorem dJ6_bitCount_0f7a4_4 : decode cJ6_bitCount_0f7a4 4 = .ok (.ldc_w 265, 3) := by decide +kernel
theorem dJ6_bitCount_0f7a4_7 : decode cJ6_bitCount_0f7a4 7 = .ok (.iand, 1) := by decide +kernel
theorem dJ6_bitCount_0f7a4_8 : decode cJ6_bitCount_0f7a4 8 = .ok (.isub, 1) := by decide +kernel
theorem dJ6_bitCount_0f7a4_9 : decode cJ6_bitCount_0f7a4 9 = .ok (.istore_n 0, 1) := by decide +kernel
theorem dJ6_bitCount_0f7a4_10 : decode cJ6_bitCount_0f7a4 10 = .ok (.iload_n 0, 1) := by decide +kernel
theorem dJ6_bitCount_0f7a4_11 : decode cJ6_bitCount_0f7a4 11 = .ok (.ldc_w 266, 3) := by decide +kernel
theorem dJ6_bitCount_0f7a4_14 : decode cJ6_bitCount_0f7a4 14 = .ok (.iand, 1) := by decide +kernel
theorem dJ6_bitCount_0f7a4_15 : decode cJ6_bitCount_0f7a4 15 = .ok (.iload_n 0, 1) := by decide +kernel
theorem dJ6_bitCount_0f7a4_16 : decode cJ6_bitCount_0f7a4 16 = .ok (.iconst 2, 1) := by decide +kernel
theorem dJ6_bitCount_0f7a4_17 : decode cJ6_bitCount_0f7a4 17 = .ok (.iushr, 1) := by decide +kernel
theorem dJ6_bitCount_0f7a4_18 : decode cJ6_bitCount_0f7a4 18 = .ok (.ldc_w 266, 3) := by decide +kernel
theorem dJ6_bitCount_0f7a4_21 : decode cJ6_bitCount_0f7a4 21 = .ok (.iand, 1) := by decide +kernel
theorem dJ6_bitCount_0f7a4_22 : decode cJ6_bitCount_0f7a4 22 = .ok (.iadd, 1) := by decide +kernel
theorem dJ6_bitCount_0f7a4_23 : decode cJ6_bitCount_0f7a4 23 = .ok (.istore_n 0, 1) := by decide +kernel
theorem dJ6_bitCount_0f7a4_24 : decode cJ6_bitCount_0f7a4 24 = .ok (.iload_n 0, 1) := by decide +kernel
theorem dJ6_bitCount_0f7a4_25 : decode cJ6_bitCount_0f7a4 25 = .ok (.iload_n 0, 1) := by decide +kernel
theorem dJ6_bitCount_0f7a4_26 : decode cJ6_bitCount_0f7a4 26 = .ok (.iconst 4, 1) := by decide +kernel
theorem dJ6_bitCount_0f7a4_27 : decode cJ6_bitCount_0f7a4 27 = .ok (.iushr, 1) := by decide +kernel
theorem dJ6_bitCount_0f7a4_28 : decode cJ6_bitCount_0f7a4 28 = .ok (.iadd, 1) := by decide +kernel
theorem dJ6_bitCount_0f7a4_29 : decode cJ6_bitCount_0f7a4 29 = .ok (.ldc_w 267, 3) := by decide +kernel
theorem dJ6_bitCount_0f7a4_32 : decode cJ6_bitCount_0f7a4 32 = .ok (.iand, 1) := by decide +kernel
theorem dJ6_bitCount_0f7a4_33 : decode cJ6_bitCount_0f7a4 33 = .ok (.istore_n 0, 1) := by decide +kernel
theorem dJ6_bitCount_0f7a4_34 : decode cJ6_bitCount_0f7a4 34 = .ok (.iload_n 0, 1) := by decide +kernel
theorem dJ6_bitCount_0f7a4_35 : decode cJ6_bitCount_0f7a4 35 = .ok (.iload_n 0, 1) := by decide +kernel
theorem dJ6_bitCount_0f7a4_36 : decode cJ6_bitCount_0f7a4 36 = .ok (.bipush 8, 2) := by decide +kernel
theorem dJ6_bitCount_0f7a4_38 : decode cJ6_bitCount_0f7a4 38 = .ok (.iushr, 1) := by decide +kernel
theorem dJ6_bitCount_0f7a4_39 : decode cJ6_bitCount_0f7a4 39 = .ok (.iadd, 1) := by decide +kernel
theorem dJ6_bitCount_0f7a4_40 : decode cJ6_bitCount_0f7a4 40 = .ok (.istore_n 0, 1) := by decide +kernel
theorem dJ6_bitCount_0f7a4_41 : decode cJ6_bitCount_0f7a4 41 = .ok (.iload_n 0, 1) := by decide +kernel
theorem dJ6_bitCount_0f7a4_42 : decode cJ6_bitCount_0f7a4 42 = .ok (.iload_n 0, 1) := by decide +kernel
theorem dJ6_bitCount_0f7a4_43 : decode cJ6_bitCount_0f7a4 43 = .ok (.bipush 16, 2) := by decide +kernel
theorem dJ6_bitCount_0f7a4_45 : decode cJ6_bitCount_0f7a4 45 = .ok (.iushr, 1) := by decide +kernel
theorem dJ6_bitCount_0f7a4_46 : decode cJ6_bitCount_0f7a4 46 = .ok (.iadd, 1) := by decide +kernel
theorem dJ6_bitCount_0f7a4_47 : decode cJ6_bitCount_0f7a4 47 = .ok (.istore_n 0, 1) := by decide +kernel
theorem dJ6_bitCount_0f7a4_48 : decode cJ6_bitCount_0f7a4 48 = .ok (.iload_n 0, 1) := by decide +kernel
theorem dJ6_bitCount_0f7a4_49 : decode cJ6_bitCount_0f7a4 49 = .ok (.bipush 63, 2) := by decide +kernel
theorem dJ6_bitCount_0f7a4_51 : decode cJ6_bitCount_0f7a4 51 = .ok (.iand, 1) := by decide +kernel
theorem dJ6_bitCount_0f7a4_52 : decode cJ6_bitCount_0f7a4 52 = .ok (.ireturn, 1) := by decide +kernel
theorem dL_law_0 : decode cL_law 0 = .ok (.new 7, 3) := by decide +kernel
theorem dL_law_3 : decode cL_law 3 = .ok (.dup, 1) := by decide +kernel
theorem dL_law_4 : decode cL_law 4 = .ok (.invokespecial 9, 3) := by decide +kernel
theorem dL_law_7 : decode cL_law 7 = .ok (.astore_n 1, 1) := by decide +kernel
theorem dL_law_8 : decode cL_law 8 = .ok (.new 10, 3) := by decide +kernel
theorem dL_law_11 : decode cL_law 11 = .ok (.dup, 1) := by decide +kernel
theorem dL_law_12 : decode cL_law 12 = .ok (.invokespecial 12, 3) := by decide +kernel
theorem dL_law_15 : decode cL_law 15 = .ok (.astore_n 2, 1) := by decide +kernel
theorem dL_law_16 : decode cL_law 16 = .ok (.iconst 0, 1) := by decide +kernel
theorem dL_law_17 : decode cL_law 17 = .ok (.istore_n 3, 1) := by decide +kernel
theorem dL_law_18 : decode cL_law 18 = .ok (.iload_n 3, 1) := by decide +kernel
theorem dL_law_19 : decode cL_law 19 = .ok (.aload_n 0, 1) := by decide +kernel
theorem dL_law_20 : decode cL_law 20 = .ok (.arraylength, 1) := by decide +kernel
theorem dL_law_21 : decode cL_law 21 = .ok (.iconst 5, 1) := by decide +kernel
theorem dL_law_22 : decode cL_law 22 = .ok (.isub, 1) := by decide +kernel
theorem dL_law_23 : decode cL_law 23 = .ok (.if_icmp .gt 996, 3) := by decide +kernel
theorem dL_law_26 : decode cL_law 26 = .ok (.aload_n 0, 1) := by decide +kernel
theorem dL_law_27 : decode cL_law 27 = .ok (.iload_n 3, 1) := by decide +kernel
theorem dL_law_28 : decode cL_law 28 = .ok (.iaload, 1) := by decide +kernel
theorem dL_law_29 : decode cL_law 29 = .ok (.bipush 31, 2) := by decide +kernel
theorem dL_law_31 : decode cL_law 31 = .ok (.iand, 1) := by decide +kernel
theorem dL_law_32 : decode cL_law 32 = .ok (.tableswitch 981 0 27 #[128, 187, 220, 243, 276, 309, 358, 411, 480, 513, 536, 559, 572, 595, 608, 621, 634, 657, 690, 713, 736, 759, 792, 845, 878, 901, 934, 967], 128) := by decide +kernel
theorem dL_law_160 : decode cL_law 160 = .ok (.aload_n 1, 1) := by decide +kernel
theorem dL_law_161 : decode cL_law 161 = .ok (.aload_n 0, 1) := by decide +kernel
theorem dL_law_162 : decode cL_law 162 = .ok (.iload_n 3, 1) := by decide +kernel
theorem dL_law_163 : decode cL_law 163 = .ok (.iconst 1, 1) := by decide +kernel
theorem dL_law_164 : decode cL_law 164 = .ok (.iadd, 1) := by decide +kernel
theorem dL_law_165 : decode cL_law 165 = .ok (.iaload, 1) := by decide +kernel
theorem dL_law_166 : decode cL_law 166 = .ok (.aload_n 0, 1) := by decide +kernel
theorem dL_law_167 : decode cL_law 167 = .ok (.iload_n 3, 1) := by decide +kernel
theorem dL_law_168 : decode cL_law 168 = .ok (.iconst 2, 1) := by decide +kernel
theorem dL_law_169 : decode cL_law 169 = .ok (.iadd, 1) := by decide +kernel
theorem dL_law_170 : decode cL_law 170 = .ok (.iaload, 1) := by decide +kernel
theorem dL_law_171 : decode cL_law 171 = .ok (.aload_n 0, 1) := by decide +kernel
theorem dL_law_172 : decode cL_law 172 = .ok (.iload_n 3, 1) := by decide +kernel
theorem dL_law_173 : decode cL_law 173 = .ok (.iconst 3, 1) := by decide +kernel
theorem dL_law_174 : decode cL_law 174 = .ok (.iadd, 1) := by decide +kernel
theorem dL_law_175 : decode cL_law 175 = .ok (.iaload, 1) := by decide +kernel
theorem dL_law_176 : decode cL_law 176 = .ok (.ifCond .eq 7, 3) := by decide +kernel
theorem dL_law_179 : decode cL_law 179 = .ok (.iconst 1, 1) := by decide +kernel
theorem dL_law_180 : decode cL_law 180 = .ok (.goto 4, 3) := by decide +kernel
theorem dL_law_183 : decode cL_law 183 = .ok (.iconst 0, 1) := by decide +kernel
theorem dL_law_184 : decode cL_law 184 = .ok (.invokevirtual 13, 3) := by decide +kernel
theorem dL_law_187 : decode cL_law 187 = .ok (.aload_n 2, 1) := by decide +kernel
theorem dL_law_188 : decode cL_law 188 = .ok (.aload_n 0, 1) := by decide +kernel
theorem dL_law_189 : decode cL_law 189 = .ok (.iload_n 3, 1) := by decide +kernel
theorem dL_law_190 : decode cL_law 190 = .ok (.iconst 1, 1) := by decide +kernel
theorem dL_law_191 : decode cL_law 191 = .ok (.iadd, 1) := by decide +kernel
theorem dL_law_192 : decode cL_law 192 = .ok (.iaload, 1) := by decide +kernel
theorem dL_law_193 : decode cL_law 193 = .ok (.aload_n 0, 1) := by decide +kernel
theorem dL_law_194 : decode cL_law 194 = .ok (.iload_n 3, 1) := by decide +kernel
theorem dL_law_195 : decode cL_law 195 = .ok (.iconst 2, 1) := by decide +kernel
theorem dL_law_196 : decode cL_law 196 = .ok (.iadd, 1) := by decide +kernel
theorem dL_law_197 : decode cL_law 197 = .ok (.iaload, 1) := by decide +kernel
theorem dL_law_198 : decode cL_law 198 = .ok (.aload_n 0, 1) := by decide +kernel
theorem dL_law_199 : decode cL_law 199 = .ok (.iload_n 3, 1) := by decide +kernel
theorem dL_law_200 : decode cL_law 200 = .ok (.iconst 3, 1) := by decide +kernel
theorem dL_law_201 : decode cL_law 201 = .ok (.iadd, 1) := by decide +kernel
theorem dL_law_202 : decode cL_law 202 = .ok (.iaload, 1) := by decide +kernel
theorem dL_law_203 : decode cL_law 203 = .ok (.ifCond .eq 7, 3) := by decide +kernel
theorem dL_law_206 : decode cL_law 206 = .ok (.iconst 1, 1) := by decide +kernel
theorem dL_law_207 : decode cL_law 207 = .ok (.goto 4, 3) := by decide +kernel
theorem dL_law_210 : decode cL_law 210 = .ok (.iconst 0, 1) := by decide +kernel
theorem dL_law_211 : decode cL_law 211 = .ok (.invokevirtual 17, 3) := by decide +kernel
theorem dL_law_214 : decode cL_law 214 = .ok (.if_icmp .eq 799, 3) := by decide +kernel
theorem dL_law_217 : decode cL_law 217 = .ok (.iconst 0, 1) := by decide +kernel
theorem dL_law_218 : decode cL_law 218 = .ok (.ireturn, 1) := by decide +kernel
theorem dL_law_219 : decode cL_law 219 = .ok (.aload_n 1, 1) := by decide +kernel
theorem dL_law_220 : decode cL_law 220 = .ok (.aload_n 0, 1) := by decide +kernel
theorem dL_law_221 : decode cL_law 221 = .ok (.iload_n 3, 1) := by decide +kernel
theorem dL_law_222 : decode cL_law 222 = .ok (.iconst 1, 1) := by decide +kernel
theorem dL_law_223 : decode cL_law 223 = .ok (.iadd, 1) := by decide +kernel
theorem dL_law_224 : decode cL_law 224 = .ok (.iaload, 1) := by decide +kernel
theorem dL_law_225 : decode cL_law 225 = .ok (.aload_n 0, 1) := by decide +kernel
theorem dL_law_226 : decode cL_law 226 = .ok (.iload_n 3, 1) := by decide +kernel
theorem dL_law_227 : decode cL_law 227 = .ok (.iconst 2, 1) := by decide +kernel
theorem dL_law_228 : decode cL_law 228 = .ok (.iadd, 1) := by decide +kernel
theorem dL_law_229 : decode cL_law 229 = .ok (.iaload, 1) := by decide +kernel
theorem dL_law_230 : decode cL_law 230 = .ok (.invokevirtual 18, 3) := by decide +kernel
theorem dL_law_233 : decode cL_law 233 = .ok (.aload_n 2, 1) := by decide +kernel
theorem dL_law_234 : decode cL_law 234 = .ok (.aload_n 0, 1) := by decide +kernel
theorem dL_law_235 : decode cL_law 235 = .ok (.iload_n 3, 1) := by decide +kernel
theorem dL_law_236 : decode cL_law 236 = .ok (.iconst 1, 1) := by decide +kernel
theorem dL_law_237 : decode cL_law 237 = .ok (.iadd, 1) := by decide +kernel
theorem dL_law_238 : decode cL_law 238 = .ok (.iaload, 1) := by decide +kernel
theorem dL_law_239 : decode cL_law 239 = .ok (.aload_n 0, 1) := by decide +kernel
theorem dL_law_240 : decode cL_law 240 = .ok (.iload_n 3, 1) := by decide +kernel
theorem dL_law_241 : decode cL_law 241 = .ok (.iconst 2, 1) := by decide +kernel
theorem dL_law_242 : decode cL_law 242 = .ok (.iadd, 1) := by decide +kernel
theorem dL_law_243 : decode cL_law 243 = .ok (.iaload, 1) := by decide +kernel
theorem dL_law_244 : decode cL_law 244 = .ok (.invokevirtual 22, 3) := by decide +kernel
theorem dL_law_247 : decode cL_law 247 = .ok (.if_icmp .eq 766, 3) := by decide +kernel
theorem dL_law_250 : decode cL_law 250 = .ok (.iconst 0, 1) := by decide +kernel
theorem dL_law_251 : decode cL_law 251 = .ok (.ireturn, 1) := by decide +kernel
theorem dL_law_252 : decode cL_law 252 = .ok (.aload_n 1, 1) := by decide +kernel
theorem dL_law_253 : decode cL_law 253 = .ok (.aload_n 0, 1) := by decide +kernel
theorem dL_law_254 : decode cL_law 254 = .ok (.iload_n 3, 1) := by decide +kernel
theorem dL_law_255 : decode cL_law 255 = .ok (.iconst 1, 1) := by decide +kernel
theorem dL_law_256 : decode cL_law 256 = .ok (.iadd, 1) := by decide +kernel
theorem dL_law_257 : decode cL_law 257 = .ok (.iaload, 1) := by decide +kernel
theorem dL_law_258 : decode cL_law 258 = .ok (.invokevirtual 23, 3) := by decide +kernel
theorem dL_law_261 : decode cL_law 261 = .ok (.aload_n 2, 1) := by decide +kernel
theorem dL_law_262 : decode cL_law 262 = .ok (.aload_n 0, 1) := by decide +kernel
theorem dL_law_263 : decode cL_law 263 = .ok (.iload_n 3, 1) := by decide +kernel
theorem dL_law_264 : decode cL_law 264 = .ok (.iconst 1, 1) := by decide +kernel
theorem dL_law_265 : decode cL_law 265 = .ok (.iadd, 1) := by decide +kernel
theorem dL_law_266 : decode cL_law 266 = .ok (.iaload, 1) := by decide +kernel
theorem dL_law_267 : decode cL_law 267 = .ok (.invokevirtual 27, 3) := by decide +kernel
theorem dL_law_270 : decode cL_law 270 = .ok (.if_icmp .eq 743, 3) := by decide +kernel
theorem dL_law_273 : decode cL_law 273 = .ok (.iconst 0, 1) := by decide +kernel
theorem dL_law_274 : decode cL_law 274 = .ok (.ireturn, 1) := by decide +kernel
theorem dL_law_275 : decode cL_law 275 = .ok (.aload_n 1, 1) := by decide +kernel
theorem dL_law_276 : decode cL_law 276 = .ok (.aload_n 0, 1) := by decide +kernel
theorem dL_law_277 : decode cL_law 277 = .ok (.iload_n 3, 1) := by decide +kernel
theorem dL_law_278 : decode cL_law 278 = .ok (.iconst 1, 1) := by decide +kernel
theorem dL_law_279 : decode cL_law 279 = .ok (.iadd, 1) := by decide +kernel
theorem dL_law_280 : decode cL_law 280 = .ok (.iaload, 1) := by decide +kernel
theorem dL_law_281 : decode cL_law 281 = .ok (.aload_n 0, 1) := by decide +kernel
theorem dL_law_282 : decode cL_law 282 = .ok (.iload_n 3, 1) := by decide +kernel
theorem dL_law_283 : decode cL_law 283 = .ok (.iconst 2, 1) := by decide +kernel
theorem dL_law_284 : decode cL_law 284 = .ok (.iadd, 1) := by decide +kernel
theorem dL_law_285 : decode cL_law 285 = .ok (.iaload, 1) := by decide +kernel
theorem dL_law_286 : decode cL_law 286 = .ok (.invokevirtual 28, 3) := by decide +kernel
theorem dL_law_289 : decode cL_law 289 = .ok (.aload_n 2, 1) := by decide +kernel
theorem dL_law_290 : decode cL_law 290 = .ok (.aload_n 0, 1) := by decide +kernel
theorem dL_law_291 : decode cL_law 291 = .ok (.iload_n 3, 1) := by decide +kernel
theorem dL_law_292 : decode cL_law 292 = .ok (.iconst 1, 1) := by decide +kernel
theorem dL_law_293 : decode cL_law 293 = .ok (.iadd, 1) := by decide +kernel
theorem dL_law_294 : decode cL_law 294 = .ok (.iaload, 1) := by decide +kernel
theorem dL_law_295 : decode cL_law 295 = .ok (.aload_n 0, 1) := by decide +kernel
theorem dL_law_296 : decode cL_law 296 = .ok (.iload_n 3, 1) := by decide +kernel
theorem dL_law_297 : decode cL_law 297 = .ok (.iconst 2, 1) := by decide +kernel
theorem dL_law_298 : decode cL_law 298 = .ok (.iadd, 1) := by decide +kernel
theorem dL_law_299 : decode cL_law 299 = .ok (.iaload, 1) := by decide +kernel
theorem dL_law_300 : decode cL_law 300 = .ok (.invokevirtual 31, 3) := by decide +kernel
theorem dL_law_303 : decode cL_law 303 = .ok (.if_icmp .eq 710, 3) := by decide +kernel
theorem dL_law_306 : decode cL_law 306 = .ok (.iconst 0, 1) := by decide +kernel
theorem dL_law_307 : decode cL_law 307 = .ok (.ireturn, 1) := by decide +kernel
theorem dL_law_308 : decode cL_law 308 = .ok (.aload_n 1, 1) := by decide +kernel
theorem dL_law_309 : decode cL_law 309 = .ok (.aload_n 0, 1) := by decide +kernel
theorem dL_law_310 : decode cL_law 310 = .ok (.iload_n 3, 1) := by decide +kernel
theorem dL_law_311 : decode cL_law 311 = .ok (.iconst 1, 1) := by decide +kernel
theorem dL_law_312 : decode cL_law 312 = .ok (.iadd, 1) := by decide +kernel
theorem dL_law_313 : decode cL_law 313 = .ok (.iaload, 1) := by decide +kernel
theorem dL_law_314 : decode cL_law 314 = .ok (.aload_n 0, 1) := by decide +kernel
theorem dL_law_315 : decode cL_law 315 = .ok (.iload_n 3, 1) := by decide +kernel
theorem dL_law_316 : decode cL_law 316 = .ok (.iconst 2, 1) := by decide +kernel
theorem dL_law_317 : decode cL_law 317 = .ok (.iadd, 1) := by decide +kernel
theorem dL_law_318 : decode cL_law 318 = .ok (.iaload, 1) := by decide +kernel
theorem dL_law_319 : decode cL_law 319 = .ok (.invokevirtual 32, 3) := by decide +kernel
theorem dL_law_322 : decode cL_law 322 = .ok (.aload_n 2, 1) := by decide +kernel
theorem dL_law_323 : decode cL_law 323 = .ok (.aload_n 0, 1) := by decide +kernel
theorem dL_law_324 : decode cL_law 324 = .ok (.iload_n 3, 1) := by decide +kernel
theorem dL_law_325 : decode cL_law 325 = .ok (.iconst 1, 1) := by decide +kernel
theorem dL_law_326 : decode cL_law 326 = .ok (.iadd, 1) := by decide +kernel
theorem dL_law_327 : decode cL_law 327 = .ok (.iaload, 1) := by decide +kernel
theorem dL_law_328 : decode cL_law 328 = .ok (.aload_n 0, 1) := by decide +kernel
theorem dL_law_329 : decode cL_law 329 = .ok (.iload_n 3, 1) := by decide +kernel
theorem dL_law_330 : decode cL_law 330 = .ok (.iconst 2, 1) := by decide +kernel
theorem dL_law_331 : decode cL_law 331 = .ok (.iadd, 1) := by decide +kernel
theorem dL_law_332 : decode cL_law 332 = .ok (.iaload, 1) := by decide +kernel
theorem dL_law_333 : decode cL_law 333 = .ok (.invokevirtual 35, 3) := by decide +kernel
theorem dL_law_336 : decode cL_law 336 = .ok (.if_icmp .eq 677, 3) := by decide +kernel
theorem dL_law_339 : decode cL_law 339 = .ok (.iconst 0, 1) := by decide +kernel
theorem dL_law_340 : decode cL_law 340 = .ok (.ireturn, 1) := by decide +kernel
theorem dL_law_341 : decode cL_law 341 = .ok (.aload_n 1, 1) := by decide +kernel
theorem dL_law_342 : decode cL_law 342 = .ok (.aload_n 0, 1) := by decide +kernel
theorem dL_law_343 : decode cL_law 343 = .ok (.iload_n 3, 1) := by decide +kernel
theorem dL_law_344 : decode cL_law 344 = .ok (.iconst 1, 1) := by decide +kernel
theorem dL_law_345 : decode cL_law 345 = .ok (.iadd, 1) := by decide +kernel
theorem dL_law_346 : decode cL_law 346 = .ok (.iaload, 1) := by decide +kernel
theorem dL_law_347 : decode cL_law 347 = .ok (.aload_n 0, 1) := by decide +kernel
theorem dL_law_348 : decode cL_law 348 = .ok (.iload_n 3, 1) := by decide +kernel
theorem dL_law_349 : decode cL_law 349 = .ok (.iconst 2, 1) := by decide +kernel
theorem dL_law_350 : decode cL_law 350 = .ok (.iadd, 1) := by decide +kernel
theorem dL_law_351 : decode cL_law 351 = .ok (.iaload, 1) := by decide +kernel
theorem dL_law_352 : decode cL_law 352 = .ok (.ifCond .eq 7, 3) := by decide +kernel
theorem dL_law_355 : decode cL_law 355 = .ok (.iconst 1, 1) := by decide +kernel
theorem dL_law_356 : decode cL_law 356 = .ok (.goto 4, 3) := by decide +kernel
theorem dL_law_359 : decode cL_law 359 = .ok (.iconst 0, 1) := by decide +kernel
theorem dL_law_360 : decode cL_law 360 = .ok (.invokevirtual 36, 3) := by decide +kernel
theorem dL_law_363 : decode cL_law 363 = .ok (.aload_n 2, 1) := by decide +kernel
theorem dL_law_364 : decode cL_law 364 = .ok (.aload_n 0, 1) := by decide +kernel
theorem dL_law_365 : decode cL_law 365 = .ok (.iload_n 3, 1) := by decide +kernel
theorem dL_law_366 : decode cL_law 366 = .ok (.iconst 1, 1) := by decide +kernel
theorem dL_law_367 : decode cL_law 367 = .ok (.iadd, 1) := by decide +kernel
theorem dL_law_368 : decode cL_law 368 = .ok (.iaload, 1) := by decide +kernel
theorem dL_law_369 : decode cL_law 369 = .ok (.aload_n 0, 1) := by decide +kernel
theorem dL_law_370 : decode cL_law 370 = .ok (.iload_n 3, 1) := by decide +kernel
theorem dL_law_371 : decode cL_law 371 = .ok (.iconst 2, 1) := by decide +kernel
theorem dL_law_372 : decode cL_law 372 = .ok (.iadd, 1) := by decide +kernel
theorem dL_law_373 : decode cL_law 373 = .ok (.iaload, 1) := by decide +kernel
theorem dL_law_374 : decode cL_law 374 = .ok (.ifCond .eq 7, 3) := by decide +kernel
theorem dL_law_377 : decode cL_law 377 = .ok (.iconst 1, 1) := by decide +kernel
theorem dL_law_378 : decode cL_law 378 = .ok (.goto 4, 3) := by decide +kernel
theorem dL_law_381 : decode cL_law 381 = .ok (.iconst 0, 1) := by decide +kernel
theorem dL_law_382 : decode cL_law 382 = .ok (.invokevirtual 40, 3) := by decide +kernel
theorem dL_law_385 : decode cL_law 385 = .ok (.if_icmp .eq 628, 3) := by decide +kernel
theorem dL_law_388 : decode cL_law 388 = .ok (.iconst 0, 1) := by decide +kernel
theorem dL_law_389 : decode cL_law 389 = .ok (.ireturn, 1) := by decide +kernel
theorem dL_law_390 : decode cL_law 390 = .ok (.aload_n 1, 1) := by decide +kernel
theorem dL_law_391 : decode cL_law 391 = .ok (.aload_n 0, 1) := by decide +kernel
theorem dL_law_392 : decode cL_law 392 = .ok (.iload_n 3, 1) := by decide +kernel
theorem dL_law_393 : decode cL_law 393 = .ok (.iconst 1, 1) := by decide +kernel
theorem dL_law_394 : decode cL_law 394 = .ok (.iadd, 1) := by decide +kernel
theorem dL_law_395 : decode cL_law 395 = .ok (.iaload, 1) := by decide +kernel
theorem dL_law_396 : decode cL_law 396 = .ok (.aload_n 0, 1) := by decide +kernel
theorem dL_law_397 : decode cL_law 397 = .ok (.iload_n 3, 1) := by decide +kernel
theorem dL_law_398 : decode cL_law 398 = .ok (.iconst 2, 1) := by decide +kernel
theorem dL_law_399 : decode cL_law 399 = .ok (.iadd, 1) := by decide +kernel
theorem dL_law_400 : decode cL_law 400 = .ok (.iaload, 1) := by decide +kernel
theorem dL_law_401 : decode cL_law 401 = .ok (.aload_n 0, 1) := by decide +kernel
theorem dL_law_402 : decode cL_law 402 = .ok (.iload_n 3, 1) := by decide +kernel
theorem dL_law_403 : decode cL_law 403 = .ok (.iconst 3, 1) := by decide +kernel
theorem dL_law_404 : decode cL_law 404 = .ok (.iadd, 1) := by decide +kernel
theorem dL_law_405 : decode cL_law 405 = .ok (.iaload, 1) := by decide +kernel
theorem dL_law_406 : decode cL_law 406 = .ok (.aload_n 0, 1) := by decide +kernel
theorem dL_law_407 : decode cL_law 407 = .ok (.iload_n 3, 1) := by decide +kernel
theorem dL_law_408 : decode cL_law 408 = .ok (.iconst 4, 1) := by decide +kernel
theorem dL_law_409 : decode cL_law 409 = .ok (.iadd, 1) := by decide +kernel
theorem dL_law_410 : decode cL_law 410 = .ok (.iaload, 1) := by decide +kernel
theorem dL_law_411 : decode cL_law 411 = .ok (.invokevirtual 41, 3) := by decide +kernel
theorem dL_law_414 : decode cL_law 414 = .ok (.aload_n 2, 1) := by decide +kernel
theorem dL_law_415 : decode cL_law 415 = .ok (.aload_n 0, 1) := by decide +kernel
theorem dL_law_416 : decode cL_law 416 = .ok (.iload_n 3, 1) := by decide +kernel
theorem dL_law_417 : decode cL_law 417 = .ok (.iconst 1, 1) := by decide +kernel
theorem dL_law_418 : decode cL_law 418 = .ok (.iadd, 1) := by decide +kernel
theorem dL_law_419 : decode cL_law 419 = .ok (.iaload, 1) := by decide +kernel
theorem dL_law_420 : decode cL_law 420 = .ok (.aload_n 0, 1) := by decide +kernel
theorem dL_law_421 : decode cL_law 421 = .ok (.iload_n 3, 1) := by decide +kernel
theorem dL_law_422 : decode cL_law 422 = .ok (.iconst 2, 1) := by decide +kernel
theorem dL_law_423 : decode cL_law 423 = .ok (.iadd, 1) := by decide +kernel
theorem dL_law_424 : decode cL_law 424 = .ok (.iaload, 1) := by decide +kernel
theorem dL_law_425 : decode cL_law 425 = .ok (.aload_n 0, 1) := by decide +kernel
theorem dL_law_426 : decode cL_law 426 = .ok (.iload_n 3, 1) := by decide +kernel
theorem dL_law_427 : decode cL_law 427 = .ok (.iconst 3, 1) := by decide +kernel
theorem dL_law_428 : decode cL_law 428 = .ok (.iadd, 1) := by decide +kernel
theorem dL_law_429 : decode cL_law 429 = .ok (.iaload, 1) := by decide +kernel
theorem dL_law_430 : decode cL_law 430 = .ok (.aload_n 0, 1) := by decide +kernel
theorem dL_law_431 : decode cL_law 431 = .ok (.iload_n 3, 1) := by decide +kernel
theorem dL_law_432 : decode cL_law 432 = .ok (.iconst 4, 1) := by decide +kernel
theorem dL_law_433 : decode cL_law 433 = .ok (.iadd, 1) := by decide +kernel
theorem dL_law_434 : decode cL_law 434 = .ok (.iaload, 1) := by decide +kernel
theorem dL_law_435 : decode cL_law 435 = .ok (.invokevirtual 45, 3) := by decide +kernel
theorem dL_law_438 : decode cL_law 438 = .ok (.if_icmp .eq 575, 3) := by decide +kernel
theorem dL_law_441 : decode cL_law 441 = .ok (.iconst 0, 1) := by decide +kernel
theorem dL_law_442 : decode cL_law 442 = .ok (.ireturn, 1) := by decide +kernel
theorem dL_law_443 : decode cL_law 443 = .ok (.aload_n 1, 1) := by decide +kernel
theorem dL_law_444 : decode cL_law 444 = .ok (.aload_n 0, 1) := by decide +kernel
theorem dL_law_445 : decode cL_law 445 = .ok (.iload_n 3, 1) := by decide +kernel
theorem dL_law_446 : decode cL_law 446 = .ok (.iconst 1, 1) := by decide +kernel
theorem dL_law_447 : decode cL_law 447 = .ok (.iadd, 1) := by decide +kernel
theorem dL_law_448 : decode cL_law 448 = .ok (.iaload, 1) := by decide +kernel
theorem dL_law_449 : decode cL_law 449 = .ok (.ifCond .eq 7, 3) := by decide +kernel
theorem dL_law_452 : decode cL_law 452 = .ok (.iconst 1, 1) := by decide +kernel
theorem dL_law_453 : decode cL_law 453 = .ok (.goto 4, 3) := by decide +kernel
theorem dL_law_456 : decode cL_law 456 = .ok (.iconst 0, 1) := by decide +kernel
theorem dL_law_457 : decode cL_law 457 = .ok (.aload_n 0, 1) := by decide +kernel
theorem dL_law_458 : decode cL_law 458 = .ok (.iload_n 3, 1) := by decide +kernel
theorem dL_law_459 : decode cL_law 459 = .ok (.iconst 2, 1) := by decide +kernel
theorem dL_law_460 : decode cL_law 460 = .ok (.iadd, 1) := by decide +kernel
theorem dL_law_461 : decode cL_law 461 = .ok (.iaload, 1) := by decide +kernel
theorem dL_law_462 : decode cL_law 462 = .ok (.aload_n 0, 1) := by decide +kernel
theorem dL_law_463 : decode cL_law 463 = .ok (.iload_n 3, 1) := by decide +kernel
theorem dL_law_464 : decode cL_law 464 = .ok (.iconst 3, 1) := by decide +kernel
theorem dL_law_465 : decode cL_law 465 = .ok (.iadd, 1) := by decide +kernel
theorem dL_law_466 : decode cL_law 466 = .ok (.iaload, 1) := by decide +kernel
theorem dL_law_467 : decode cL_law 467 = .ok (.aload_n 0, 1) := by decide +kernel
theorem dL_law_468 : decode cL_law 468 = .ok (.iload_n 3, 1) := by decide +kernel
theorem dL_law_469 : decode cL_law 469 = .ok (.iconst 4, 1) := by decide +kernel
theorem dL_law_470 : decode cL_law 470 = .ok (.iadd, 1) := by decide +kernel
theorem dL_law_471 : decode cL_law 471 = .ok (.iaload, 1) := by decide +kernel
theorem dL_law_472 : decode cL_law 472 = .ok (.invokevirtual 46, 3) := by decide +kernel
theorem dL_law_475 : decode cL_law 475 = .ok (.aload_n 2, 1) := by decide +kernel
theorem dL_law_476 : decode cL_law 476 = .ok (.aload_n 0, 1) := by decide +kernel
theorem dL_law_477 : decode cL_law 477 = .ok (.iload_n 3, 1) := by decide +kernel
theorem dL_law_478 : decode cL_law 478 = .ok (.iconst 1, 1) := by decide +kernel
theorem dL_law_479 : decode cL_law 479 = .ok (.iadd, 1) := by decide +kernel
theorem dL_law_480 : decode cL_law 480 = .ok (.iaload, 1) := by decide +kernel
theorem dL_law_481 : decode cL_law 481 = .ok (.ifCond .eq 7, 3) := by decide +kernel
theorem dL_law_484 : decode cL_law 484 = .ok (.iconst 1, 1) := by decide +kernel
theorem dL_law_485 : decode cL_law 485 = .ok (.goto 4, 3) := by decide +kernel
theorem dL_law_488 : decode cL_law 488 = .ok (.iconst 0, 1) := by decide +kernel
theorem dL_law_489 : decode cL_law 489 = .ok (.aload_n 0, 1) := by decide +kernel
theorem dL_law_490 : decode cL_law 490 = .ok (.iload_n 3, 1) := by decide +kernel
theorem dL_law_491 : decode cL_law 491 = .ok (.iconst 2, 1) := by decide +kernel
theorem dL_law_492 : decode cL_law 492 = .ok (.iadd, 1) := by decide +kernel
theorem dL_law_493 : decode cL_law 493 = .ok (.iaload, 1) := by decide +kernel
theorem dL_law_494 : decode cL_law 494 = .ok (.aload_n 0, 1) := by decide +kernel
theorem dL_law_495 : decode cL_law 495 = .ok (.iload_n 3, 1) := by decide +kernel
theorem dL_law_496 : decode cL_law 496 = .ok (.iconst 3, 1) := by decide +kernel
theorem dL_law_497 : decode cL_law 497 = .ok (.iadd, 1) := by decide +kernel
theorem dL_law_498 : decode cL_law 498 = .ok (.iaload, 1) := by decide +kernel
theorem dL_law_499 : decode cL_law 499 = .ok (.aload_n 0, 1) := by decide +kernel
theorem dL_law_500 : decode cL_law 500 = .ok (.iload_n 3, 1) := by decide +kernel
theorem dL_law_501 : decode cL_law 501 = .ok (.iconst 4, 1) := by decide +kernel
theorem dL_law_502 : decode cL_law 502 = .ok (.iadd, 1) := by decide +kernel
theorem dL_law_503 : decode cL_law 503 = .ok (.iaload, 1) := by decide +kernel
theorem dL_law_504 : decode cL_law 504 = .ok (.invokevirtual 50, 3) := by decide +kernel
theorem dL_law_507 : decode cL_law 507 = .ok (.if_icmp .eq 506, 3) := by decide +kernel
theorem dL_law_510 : decode cL_law 510 = .ok (.iconst 0, 1) := by decide +kernel
theorem dL_law_511 : decode cL_law 511 = .ok (.ireturn, 1) := by decide +kernel
theorem dL_law_512 : decode cL_law 512 = .ok (.aload_n 1, 1) := by decide +kernel
theorem dL_law_513 : decode cL_law 513 = .ok (.aload_n 0, 1) := by decide +kernel
theorem dL_law_514 : decode cL_law 514 = .ok (.iload_n 3, 1) := by decide +kernel
theorem dL_law_515 : decode cL_law 515 = .ok (.iconst 1, 1) := by decide +kernel
theorem dL_law_516 : decode cL_law 516 = .ok (.iadd, 1) := by decide +kernel
theorem dL_law_517 : decode cL_law 517 = .ok (.iaload, 1) := by decide +kernel
theorem dL_law_518 : decode cL_law 518 = .ok (.aload_n 0, 1) := by decide +kernel
theorem dL_law_519 : decode cL_law 519 = .ok (.iload_n 3, 1) := by decide +kernel
theorem dL_law_520 : decode cL_law 520 = .ok (.iconst 2, 1) := by decide +kernel
theorem dL_law_521 : decode cL_law 521 = .ok (.iadd, 1) := by decide +kernel
theorem dL_law_522 : decode cL_law 522 = .ok (.iaload, 1) := by decide +kernel
theorem dL_law_523 : decode cL_law 523 = .ok (.invokevirtual 51, 3) := by decide +kernel
theorem dL_law_526 : decode cL_law 526 = .ok (.aload_n 2, 1) := by decide +kernel
theorem dL_law_527 : decode cL_law 527 = .ok (.aload_n 0, 1) := by decide +kernel
theorem dL_law_528 : decode cL_law 528 = .ok (.iload_n 3, 1) := by decide +kernel
theorem dL_law_529 : decode cL_law 529 = .ok (.iconst 1, 1) := by decide +kernel
theorem dL_law_530 : decode cL_law 530 = .ok (.iadd, 1) := by decide +kernel
theorem dL_law_531 : decode cL_law 531 = .ok (.iaload, 1) := by decide +kernel
theorem dL_law_532 : decode cL_law 532 = .ok (.aload_n 0, 1) := by decide +kernel
theorem dL_law_533 : decode cL_law 533 = .ok (.iload_n 3, 1) := by decide +kernel
theorem dL_law_534 : decode cL_law 534 = .ok (.iconst 2, 1) := by decide +kernel
theorem dL_law_535 : decode cL_law 535 = .ok (.iadd, 1) := by decide +kernel
theorem dL_law_536 : decode cL_law 536 = .ok (.iaload, 1) := by decide +kernel
theorem dL_law_537 : decode cL_law 537 = .ok (.invokevirtual 54, 3) := by decide +kernel
theorem dL_law_540 : decode cL_law 540 = .ok (.if_icmp .eq 473, 3) := by decide +kernel
theorem dL_law_543 : decode cL_law 543 = .ok (.iconst 0, 1) := by decide +kernel
theorem dL_law_544 : decode cL_law 544 = .ok (.ireturn, 1) := by decide +kernel
theorem dL_law_545 : decode cL_law 545 = .ok (.aload_n 1, 1) := by decide +kernel
theorem dL_law_546 : decode cL_law 546 = .ok (.aload_n 0, 1) := by decide +kernel
theorem dL_law_547 : decode cL_law 547 = .ok (.iload_n 3, 1) := by decide +kernel
theorem dL_law_548 : decode cL_law 548 = .ok (.iconst 1, 1) := by decide +kernel
theorem dL_law_549 : decode cL_law 549 = .ok (.iadd, 1) := by decide +kernel
theorem dL_law_550 : decode cL_law 550 = .ok (.iaload, 1) := by decide +kernel
theorem dL_law_551 : decode cL_law 551 = .ok (.invokevirtual 55, 3) := by decide +kernel
theorem dL_law_554 : decode cL_law 554 = .ok (.aload_n 2, 1) := by decide +kernel
theorem dL_law_555 : decode cL_law 555 = .ok (.aload_n 0, 1) := by decide +kernel
theorem dL_law_556 : decode cL_law 556 = .ok (.iload_n 3, 1) := by decide +kernel
theorem dL_law_557 : decode cL_law 557 = .ok (.iconst 1, 1) := by decide +kernel
theorem dL_law_558 : decode cL_law 558 = .ok (.iadd, 1) := by decide +kernel
theorem dL_law_559 : decode cL_law 559 = .ok (.iaload, 1) := by decide +kernel
theorem dL_law_560 : decode cL_law 560 = .ok (.invokevirtual 58, 3) := by decide +kernel
theorem dL_law_563 : decode cL_law 563 = .ok (.if_icmp .eq 450, 3) := by decide +kernel
theorem dL_law_566 : decode cL_law 566 = .ok (.iconst 0, 1) := by decide +kernel
theorem dL_law_567 : decode cL_law 567 = .ok (.ireturn, 1) := by decide +kernel
theorem dL_law_568 : decode cL_law 568 = .ok (.aload_n 1, 1) := by decide +kernel
theorem dL_law_569 : decode cL_law 569 = .ok (.aload_n 0, 1) := by decide +kernel
theorem dL_law_570 : decode cL_law 570 = .ok (.iload_n 3, 1) := by decide +kernel
theorem dL_law_571 : decode cL_law 571 = .ok (.iconst 1, 1) := by decide +kernel
theorem dL_law_572 : decode cL_law 572 = .ok (.iadd, 1) := by decide +kernel
theorem dL_law_573 : decode cL_law 573 = .ok (.iaload, 1) := by decide +kernel
theorem dL_law_574 : decode cL_law 574 = .ok (.invokevirtual 59, 3) := by decide +kernel
theorem dL_law_577 : decode cL_law 577 = .ok (.aload_n 2, 1) := by decide +kernel
theorem dL_law_578 : decode cL_law 578 = .ok (.aload_n 0, 1) := by decide +kernel
theorem dL_law_579 : decode cL_law 579 = .ok (.iload_n 3, 1) := by decide +kernel
theorem dL_law_580 : decode cL_law 580 = .ok (.iconst 1, 1) := by decide +kernel
theorem dL_law_581 : decode cL_law 581 = .ok (.iadd, 1) := by decide +kernel
theorem dL_law_582 : decode cL_law 582 = .ok (.iaload, 1) := by decide +kernel
theorem dL_law_583 : decode cL_law 583 = .ok (.invokevirtual 62, 3) := by decide +kernel
theorem dL_law_586 : decode cL_law 586 = .ok (.if_icmp .eq 427, 3) := by decide +kernel
theorem dL_law_589 : decode cL_law 589 = .ok (.iconst 0, 1) := by decide +kernel
theorem dL_law_590 : decode cL_law 590 = .ok (.ireturn, 1) := by decide +kernel
theorem dL_law_591 : decode cL_law 591 = .ok (.aload_n 1, 1) := by decide +kernel
theorem dL_law_592 : decode cL_law 592 = .ok (.invokevirtual 63, 3) := by decide +kernel
theorem dL_law_595 : decode cL_law 595 = .ok (.aload_n 2, 1) := by decide +kernel
theorem dL_law_596 : decode cL_law 596 = .ok (.invokevirtual 67, 3) := by decide +kernel
theorem dL_law_599 : decode cL_law 599 = .ok (.if_icmp .eq 414, 3) := by decide +kernel
theorem dL_law_602 : decode cL_law 602 = .ok (.iconst 0, 1) := by decide +kernel
theorem dL_law_603 : decode cL_law 603 = .ok (.ireturn, 1) := by decide +kernel
theorem dL_law_604 : decode cL_law 604 = .ok (.aload_n 1, 1) := by decide +kernel
theorem dL_law_605 : decode cL_law 605 = .ok (.aload_n 0, 1) := by decide +kernel
theorem dL_law_606 : decode cL_law 606 = .ok (.iload_n 3, 1) := by decide +kernel
theorem dL_law_607 : decode cL_law 607 = .ok (.iconst 1, 1) := by decide +kernel
theorem dL_law_608 : decode cL_law 608 = .ok (.iadd, 1) := by decide +kernel
theorem dL_law_609 : decode cL_law 609 = .ok (.iaload, 1) := by decide +kernel
theorem dL_law_610 : decode cL_law 610 = .ok (.invokevirtual 68, 3) := by decide +kernel
theorem dL_law_613 : decode cL_law 613 = .ok (.aload_n 2, 1) := by decide +kernel
theorem dL_law_614 : decode cL_law 614 = .ok (.aload_n 0, 1) := by decide +kernel
theorem dL_law_615 : decode cL_law 615 = .ok (.iload_n 3, 1) := by decide +kernel
theorem dL_law_616 : decode cL_law 616 = .ok (.iconst 1, 1) := by decide +kernel
theorem dL_law_617 : decode cL_law 617 = .ok (.iadd, 1) := by decide +kernel
theorem dL_law_618 : decode cL_law 618 = .ok (.iaload, 1) := by decide +kernel
theorem dL_law_619 : decode cL_law 619 = .ok (.invokevirtual 71, 3) := by decide +kernel
theorem dL_law_622 : decode cL_law 622 = .ok (.if_icmp .eq 391, 3) := by decide +kernel
theorem dL_law_625 : decode cL_law 625 = .ok (.iconst 0, 1) := by decide +kernel
theorem dL_law_626 : decode cL_law 626 = .ok (.ireturn, 1) := by decide +kernel
theorem dL_law_627 : decode cL_law 627 = .ok (.aload_n 1, 1) := by decide +kernel
theorem dL_law_628 : decode cL_law 628 = .ok (.invokevirtual 72, 3) := by decide +kernel
theorem dL_law_631 : decode cL_law 631 = .ok (.aload_n 2, 1) := by decide +kernel
theorem dL_law_632 : decode cL_law 632 = .ok (.invokevirtual 75, 3) := by decide +kernel
theorem dL_law_635 : decode cL_law 635 = .ok (.if_icmp .eq 378, 3) := by decide +kernel
theorem dL_law_638 : decode cL_law 638 = .ok (.iconst 0, 1) := by decide +kernel
theorem dL_law_639 : decode cL_law 639 = .ok (.ireturn, 1) := by decide +kernel
theorem dL_law_640 : decode cL_law 640 = .ok (.aload_n 1, 1) := by decide +kernel
theorem dL_law_641 : decode cL_law 641 = .ok (.invokevirtual 76, 3) := by decide +kernel
theorem dL_law_644 : decode cL_law 644 = .ok (.aload_n 2, 1) := by decide +kernel
theorem dL_law_645 : decode cL_law 645 = .ok (.invokevirtual 79, 3) := by decide +kernel
theorem dL_law_648 : decode cL_law 648 = .ok (.if_icmp .eq 365, 3) := by decide +kernel
theorem dL_law_651 : decode cL_law 651 = .ok (.iconst 0, 1) := by decide +kernel
theorem dL_law_652 : decode cL_law 652 = .ok (.ireturn, 1) := by decide +kernel
theorem dL_law_653 : decode cL_law 653 = .ok (.aload_n 1, 1) := by decide +kernel
theorem dL_law_654 : decode cL_law 654 = .ok (.invokevirtual 80, 3) := by decide +kernel
theorem dL_law_657 : decode cL_law 657 = .ok (.aload_n 2, 1) := by decide +kernel
theorem dL_law_658 : decode cL_law 658 = .ok (.invokevirtual 83, 3) := by decide +kernel
theorem dL_law_661 : decode cL_law 661 = .ok (.if_icmp .eq 352, 3) := by decide +kernel
theorem dL_law_664 : decode cL_law 664 = .ok (.iconst 0, 1) := by decide +kernel
theorem dL_law_665 : decode cL_law 665 = .ok (.ireturn, 1) := by decide +kernel
theorem dL_law_666 : decode cL_law 666 = .ok (.aload_n 1, 1) := by decide +kernel
theorem dL_law_667 : decode cL_law 667 = .ok (.aload_n 0, 1) := by decide +kernel
theorem dL_law_668 : decode cL_law 668 = .ok (.iload_n 3, 1) := by decide +kernel
theorem dL_law_669 : decode cL_law 669 = .ok (.iconst 1, 1) := by decide +kernel
theorem dL_law_670 : decode cL_law 670 = .ok (.iadd, 1) := by decide +kernel
theorem dL_law_671 : decode cL_law 671 = .ok (.iaload, 1) := by decide +kernel
theorem dL_law_672 : decode cL_law 672 = .ok (.invokevirtual 84, 3) := by decide +kernel
theorem dL_law_675 : decode cL_law 675 = .ok (.aload_n 2, 1) := by decide +kernel
theorem dL_law_676 : decode cL_law 676 = .ok (.aload_n 0, 1) := by decide +kernel
theorem dL_law_677 : decode cL_law 677 = .ok (.iload_n 3, 1) := by decide +kernel
theorem dL_law_678 : decode cL_law 678 = .ok (.iconst 1, 1) := by decide +kernel
theorem dL_law_679 : decode cL_law 679 = .ok (.iadd, 1) := by decide +kernel
theorem dL_law_680 : decode cL_law 680 = .ok (.iaload, 1) := by decide +kernel
theorem dL_law_681 : decode cL_law 681 = .ok (.invokevirtual 87, 3) := by decide +kernel
theorem dL_law_684 : decode cL_law 684 = .ok (.if_icmp .eq 329, 3) := by decide +kernel
theorem dL_law_687 : decode cL_law 687 = .ok (.iconst 0, 1) := by decide +kernel
theorem dL_law_688 : decode cL_law 688 = .ok (.ireturn, 1) := by decide +kernel
theorem dL_law_689 : decode cL_law 689 = .ok (.aload_n 1, 1) := by decide +kernel
theorem dL_law_690 : decode cL_law 690 = .ok (.aload_n 0, 1) := by decide +kernel
theorem dL_law_691 : decode cL_law 691 = .ok (.iload_n 3, 1) := by decide +kernel
theorem dL_law_692 : decode cL_law 692 = .ok (.iconst 1, 1) := by decide +kernel
theorem dL_law_693 : decode cL_law 693 = .ok (.iadd, 1) := by decide +kernel
theorem dL_law_694 : decode cL_law 694 = .ok (.iaload, 1) := by decide +kernel
theorem dL_law_695 : decode cL_law 695 = .ok (.aload_n 0, 1) := by decide +kernel
theorem dL_law_696 : decode cL_law 696 = .ok (.iload_n 3, 1) := by decide +kernel
theorem dL_law_697 : decode cL_law 697 = .ok (.iconst 2, 1) := by decide +kernel
theorem dL_law_698 : decode cL_law 698 = .ok (.iadd, 1) := by decide +kernel
theorem dL_law_699 : decode cL_law 699 = .ok (.iaload, 1) := by decide +kernel
theorem dL_law_700 : decode cL_law 700 = .ok (.invokevirtual 88, 3) := by decide +kernel
theorem dL_law_703 : decode cL_law 703 = .ok (.aload_n 2, 1) := by decide +kernel
theorem dL_law_704 : decode cL_law 704 = .ok (.aload_n 0, 1) := by decide +kernel
theorem dL_law_705 : decode cL_law 705 = .ok (.iload_n 3, 1) := by decide +kernel
theorem dL_law_706 : decode cL_law 706 = .ok (.iconst 1, 1) := by decide +kernel
theorem dL_law_707 : decode cL_law 707 = .ok (.iadd, 1) := by decide +kernel
theorem dL_law_708 : decode cL_law 708 = .ok (.iaload, 1) := by decide +kernel
theorem dL_law_709 : decode cL_law 709 = .ok (.aload_n 0, 1) := by decide +kernel
theorem dL_law_710 : decode cL_law 710 = .ok (.iload_n 3, 1) := by decide +kernel
theorem dL_law_711 : decode cL_law 711 = .ok (.iconst 2, 1) := by decide +kernel
theorem dL_law_712 : decode cL_law 712 = .ok (.iadd, 1) := by decide +kernel
theorem dL_law_713 : decode cL_law 713 = .ok (.iaload, 1) := by decide +kernel
theorem dL_law_714 : decode cL_law 714 = .ok (.invokevirtual 91, 3) := by decide +kernel
theorem dL_law_717 : decode cL_law 717 = .ok (.if_icmp .eq 296, 3) := by decide +kernel
theorem dL_law_720 : decode cL_law 720 = .ok (.iconst 0, 1) := by decide +kernel
theorem dL_law_721 : decode cL_law 721 = .ok (.ireturn, 1) := by decide +kernel
theorem dL_law_722 : decode cL_law 722 = .ok (.aload_n 1, 1) := by decide +kernel
theorem dL_law_723 : decode cL_law 723 = .ok (.aload_n 0, 1) := by decide +kernel
theorem dL_law_724 : decode cL_law 724 = .ok (.iload_n 3, 1) := by decide +kernel
theorem dL_law_725 : decode cL_law 725 = .ok (.iconst 1, 1) := by decide +kernel
theorem dL_law_726 : decode cL_law 726 = .ok (.iadd, 1) := by decide +kernel
theorem dL_law_727 : decode cL_law 727 = .ok (.iaload, 1) := by decide +kernel
theorem dL_law_728 : decode cL_law 728 = .ok (.invokevirtual 92, 3) := by decide +kernel
theorem dL_law_731 : decode cL_law 731 = .ok (.aload_n 2, 1) := by decide +kernel
theorem dL_law_732 : decode cL_law 732 = .ok (.aload_n 0, 1) := by decide +kernel
theorem dL_law_733 : decode cL_law 733 = .ok (.iload_n 3, 1) := by decide +kernel
theorem dL_law_734 : decode cL_law 734 = .ok (.iconst 1, 1) := by decide +kernel
theorem dL_law_735 : decode cL_law 735 = .ok (.iadd, 1) := by decide +kernel
theorem dL_law_736 : decode cL_law 736 = .ok (.iaload, 1) := by decide +kernel
theorem dL_law_737 : decode cL_law 737 = .ok (.invokevirtual 95, 3) := by decide +kernel
theorem dL_law_740 : decode cL_law 740 = .ok (.if_icmp .eq 273, 3) := by decide +kernel
theorem dL_law_743 : decode cL_law 743 = .ok (.iconst 0, 1) := by decide +kernel
theorem dL_law_744 : decode cL_law 744 = .ok (.ireturn, 1) := by decide +kernel
theorem dL_law_745 : decode cL_law 745 = .ok (.aload_n 1, 1) := by decide +kernel
theorem dL_law_746 : decode cL_law 746 = .ok (.aload_n 0, 1) := by decide +kernel
theorem dL_law_747 : decode cL_law 747 = .ok (.iload_n 3, 1) := by decide +kernel
theorem dL_law_748 : decode cL_law 748 = .ok (.iconst 1, 1) := by decide +kernel
theorem dL_law_749 : decode cL_law 749 = .ok (.iadd, 1) := by decide +kernel
theorem dL_law_750 : decode cL_law 750 = .ok (.iaload, 1) := by decide +kernel
theorem dL_law_751 : decode cL_law 751 = .ok (.invokevirtual 96, 3) := by decide +kernel
theorem dL_law_754 : decode cL_law 754 = .ok (.aload_n 2, 1) := by decide +kernel
theorem dL_law_755 : decode cL_law 755 = .ok (.aload_n 0, 1) := by decide +kernel
theorem dL_law_756 : decode cL_law 756 = .ok (.iload_n 3, 1) := by decide +kernel
theorem dL_law_757 : decode cL_law 757 = .ok (.iconst 1, 1) := by decide +kernel
theorem dL_law_758 : decode cL_law 758 = .ok (.iadd, 1) := by decide +kernel
theorem dL_law_759 : decode cL_law 759 = .ok (.iaload, 1) := by decide +kernel
theorem dL_law_760 : decode cL_law 760 = .ok (.invokevirtual 99, 3) := by decide +kernel
theorem dL_law_763 : decode cL_law 763 = .ok (.if_icmp .eq 250, 3) := by decide +kernel
theorem dL_law_766 : decode cL_law 766 = .ok (.iconst 0, 1) := by decide +kernel
theorem dL_law_767 : decode cL_law 767 = .ok (.ireturn, 1) := by decide +kernel
theorem dL_law_768 : decode cL_law 768 = .ok (.aload_n 1, 1) := by decide +kernel
theorem dL_law_769 : decode cL_law 769 = .ok (.aload_n 0, 1) := by decide +kernel
theorem dL_law_770 : decode cL_law 770 = .ok (.iload_n 3, 1) := by decide +kernel
theorem dL_law_771 : decode cL_law 771 = .ok (.iconst 1, 1) := by decide +kernel
theorem dL_law_772 : decode cL_law 772 = .ok (.iadd, 1) := by decide +kernel
theorem dL_law_773 : decode cL_law 773 = .ok (.iaload, 1) := by decide +kernel
theorem dL_law_774 : decode cL_law 774 = .ok (.invokevirtual 100, 3) := by decide +kernel
theorem dL_law_777 : decode cL_law 777 = .ok (.aload_n 2, 1) := by decide +kernel
theorem dL_law_778 : decode cL_law 778 = .ok (.aload_n 0, 1) := by decide +kernel
theorem dL_law_779 : decode cL_law 779 = .ok (.iload_n 3, 1) := by decide +kernel
theorem dL_law_780 : decode cL_law 780 = .ok (.iconst 1, 1) := by decide +kernel
theorem dL_law_781 : decode cL_law 781 = .ok (.iadd, 1) := by decide +kernel
theorem dL_law_782 : decode cL_law 782 = .ok (.iaload, 1) := by decide +kernel
theorem dL_law_783 : decode cL_law 783 = .ok (.invokevirtual 103, 3) := by decide +kernel
theorem dL_law_786 : decode cL_law 786 = .ok (.if_icmp .eq 227, 3) := by decide +kernel
theorem dL_law_789 : decode cL_law 789 = .ok (.iconst 0, 1) := by decide +kernel
theorem dL_law_790 : decode cL_law 790 = .ok (.ireturn, 1) := by decide +kernel
theorem dL_law_791 : decode cL_law 791 = .ok (.aload_n 1, 1) := by decide +kernel
theorem dL_law_792 : decode cL_law 792 = .ok (.aload_n 0, 1) := by decide +kernel
theorem dL_law_793 : decode cL_law 793 = .ok (.iload_n 3, 1) := by decide +kernel
theorem dL_law_794 : decode cL_law 794 = .ok (.iconst 1, 1) := by decide +kernel
theorem dL_law_795 : decode cL_law 795 = .ok (.iadd, 1) := by decide +kernel
theorem dL_law_796 : decode cL_law 796 = .ok (.iaload, 1) := by decide +kernel
theorem dL_law_797 : decode cL_law 797 = .ok (.aload_n 0, 1) := by decide +kernel
theorem dL_law_798 : decode cL_law 798 = .ok (.iload_n 3, 1) := by decide +kernel
theorem dL_law_799 : decode cL_law 799 = .ok (.iconst 2, 1) := by decide +kernel
theorem dL_law_800 : decode cL_law 800 = .ok (.iadd, 1) := by decide +kernel
theorem dL_law_801 : decode cL_law 801 = .ok (.iaload, 1) := by decide +kernel
theorem dL_law_802 : decode cL_law 802 = .ok (.invokevirtual 104, 3) := by decide +kernel
theorem dL_law_805 : decode cL_law 805 = .ok (.aload_n 2, 1) := by decide +kernel
theorem dL_law_806 : decode cL_law 806 = .ok (.aload_n 0, 1) := by decide +kernel
theorem dL_law_807 : decode cL_law 807 = .ok (.iload_n 3, 1) := by decide +kernel
theorem dL_law_808 : decode cL_law 808 = .ok (.iconst 1, 1) := by decide +kernel
theorem dL_law_809 : decode cL_law 809 = .ok (.iadd, 1) := by decide +kernel
theorem dL_law_810 : decode cL_law 810 = .ok (.iaload, 1) := by decide +kernel
theorem dL_law_811 : decode cL_law 811 = .ok (.aload_n 0, 1) := by decide +kernel
theorem dL_law_812 : decode cL_law 812 = .ok (.iload_n 3, 1) := by decide +kernel
theorem dL_law_813 : decode cL_law 813 = .ok (.iconst 2, 1) := by decide +kernel
theorem dL_law_814 : decode cL_law 814 = .ok (.iadd, 1) := by decide +kernel
theorem dL_law_815 : decode cL_law 815 = .ok (.iaload, 1) := by decide +kernel
theorem dL_law_816 : decode cL_law 816 = .ok (.invokevirtual 107, 3) := by decide +kernel
theorem dL_law_819 : decode cL_law 819 = .ok (.if_icmp .eq 194, 3) := by decide +kernel
theorem dL_law_822 : decode cL_law 822 = .ok (.iconst 0, 1) := by decide +kernel
theorem dL_law_823 : decode cL_law 823 = .ok (.ireturn, 1) := by decide +kernel
theorem dL_law_824 : decode cL_law 824 = .ok (.aload_n 1, 1) := by decide +kernel
theorem dL_law_825 : decode cL_law 825 = .ok (.aload_n 0, 1) := by decide +kernel
theorem dL_law_826 : decode cL_law 826 = .ok (.iload_n 3, 1) := by decide +kernel
theorem dL_law_827 : decode cL_law 827 = .ok (.iconst 1, 1) := by decide +kernel
theorem dL_law_828 : decode cL_law 828 = .ok (.iadd, 1) := by decide +kernel
theorem dL_law_829 : decode cL_law 829 = .ok (.iaload, 1) := by decide +kernel
theorem dL_law_830 : decode cL_law 830 = .ok (.aload_n 0, 1) := by decide +kernel
theorem dL_law_831 : decode cL_law 831 = .ok (.iload_n 3, 1) := by decide +kernel
theorem dL_law_832 : decode cL_law 832 = .ok (.iconst 2, 1) := by decide +kernel
theorem dL_law_833 : decode cL_law 833 = .ok (.iadd, 1) := by decide +kernel
theorem dL_law_834 : decode cL_law 834 = .ok (.iaload, 1) := by decide +kernel
theorem dL_law_835 : decode cL_law 835 = .ok (.aload_n 0, 1) := by decide +kernel
theorem dL_law_836 : decode cL_law 836 = .ok (.iload_n 3, 1) := by decide +kernel
theorem dL_law_837 : decode cL_law 837 = .ok (.iconst 3, 1) := by decide +kernel
theorem dL_law_838 : decode cL_law 838 = .ok (.iadd, 1) := by decide +kernel
theorem dL_law_839 : decode cL_law 839 = .ok (.iaload, 1) := by decide +kernel
theorem dL_law_840 : decode cL_law 840 = .ok (.aload_n 0, 1) := by decide +kernel
theorem dL_law_841 : decode cL_law 841 = .ok (.iload_n 3, 1) := by decide +kernel
theorem dL_law_842 : decode cL_law 842 = .ok (.iconst 4, 1) := by decide +kernel
theorem dL_law_843 : decode cL_law 843 = .ok (.iadd, 1) := by decide +kernel
theorem dL_law_844 : decode cL_law 844 = .ok (.iaload, 1) := by decide +kernel
theorem dL_law_845 : decode cL_law 845 = .ok (.invokevirtual 108, 3) := by decide +kernel
theorem dL_law_848 : decode cL_law 848 = .ok (.aload_n 2, 1) := by decide +kernel
theorem dL_law_849 : decode cL_law 849 = .ok (.aload_n 0, 1) := by decide +kernel
theorem dL_law_850 : decode cL_law 850 = .ok (.iload_n 3, 1) := by decide +kernel
theorem dL_law_851 : decode cL_law 851 = .ok (.iconst 1, 1) := by decide +kernel
theorem dL_law_852 : decode cL_law 852 = .ok (.iadd, 1) := by decide +kernel
theorem dL_law_853 : decode cL_law 853 = .ok (.iaload, 1) := by decide +kernel
theorem dL_law_854 : decode cL_law 854 = .ok (.aload_n 0, 1) := by decide +kernel
theorem dL_law_855 : decode cL_law 855 = .ok (.iload_n 3, 1) := by decide +kernel
theorem dL_law_856 : decode cL_law 856 = .ok (.iconst 2, 1) := by decide +kernel
theorem dL_law_857 : decode cL_law 857 = .ok (.iadd, 1) := by decide +kernel
theorem dL_law_858 : decode cL_law 858 = .ok (.iaload, 1) := by decide +kernel
theorem dL_law_859 : decode cL_law 859 = .ok (.aload_n 0, 1) := by decide +kernel
theorem dL_law_860 : decode cL_law 860 = .ok (.iload_n 3, 1) := by decide +kernel
theorem dL_law_861 : decode cL_law 861 = .ok (.iconst 3, 1) := by decide +kernel
theorem dL_law_862 : decode cL_law 862 = .ok (.iadd, 1) := by decide +kernel
theorem dL_law_863 : decode cL_law 863 = .ok (.iaload, 1) := by decide +kernel
theorem dL_law_864 : decode cL_law 864 = .ok (.aload_n 0, 1) := by decide +kernel
theorem dL_law_865 : decode cL_law 865 = .ok (.iload_n 3, 1) := by decide +kernel
theorem dL_law_866 : decode cL_law 866 = .ok (.iconst 4, 1) := by decide +kernel
theorem dL_law_867 : decode cL_law 867 = .ok (.iadd, 1) := by decide +kernel
theorem dL_law_868 : decode cL_law 868 = .ok (.iaload, 1) := by decide +kernel
theorem dL_law_869 : decode cL_law 869 = .ok (.invokevirtual 111, 3) := by decide +kernel
theorem dL_law_872 : decode cL_law 872 = .ok (.if_icmp .eq 141, 3) := by decide +kernel
theorem dL_law_875 : decode cL_law 875 = .ok (.iconst 0, 1) := by decide +kernel
theorem dL_law_876 : decode cL_law 876 = .ok (.ireturn, 1) := by decide +kernel
theorem dL_law_877 : decode cL_law 877 = .ok (.aload_n 1, 1) := by decide +kernel
theorem dL_law_878 : decode cL_law 878 = .ok (.aload_n 0, 1) := by decide +kernel
theorem dL_law_879 : decode cL_law 879 = .ok (.iload_n 3, 1) := by decide +kernel
theorem dL_law_880 : decode cL_law 880 = .ok (.iconst 1, 1) := by decide +kernel
theorem dL_law_881 : decode cL_law 881 = .ok (.iadd, 1) := by decide +kernel
theorem dL_law_882 : decode cL_law 882 = .ok (.iaload, 1) := by decide +kernel
theorem dL_law_883 : decode cL_law 883 = .ok (.aload_n 0, 1) := by decide +kernel
theorem dL_law_884 : decode cL_law 884 = .ok (.iload_n 3, 1) := by decide +kernel
theorem dL_law_885 : decode cL_law 885 = .ok (.iconst 2, 1) := by decide +kernel
theorem dL_law_886 : decode cL_law 886 = .ok (.iadd, 1) := by decide +kernel
theorem dL_law_887 : decode cL_law 887 = .ok (.iaload, 1) := by decide +kernel
theorem dL_law_888 : decode cL_law 888 = .ok (.invokevirtual 112, 3) := by decide +kernel
theorem dL_law_891 : decode cL_law 891 = .ok (.aload_n 2, 1) := by decide +kernel
theorem dL_law_892 : decode cL_law 892 = .ok (.aload_n 0, 1) := by decide +kernel
theorem dL_law_893 : decode cL_law 893 = .ok (.iload_n 3, 1) := by decide +kernel
theorem dL_law_894 : decode cL_law 894 = .ok (.iconst 1, 1) := by decide +kernel
theorem dL_law_895 : decode cL_law 895 = .ok (.iadd, 1) := by decide +kernel
theorem dL_law_896 : decode cL_law 896 = .ok (.iaload, 1) := by decide +kernel
theorem dL_law_897 : decode cL_law 897 = .ok (.aload_n 0, 1) := by decide +kernel
theorem dL_law_898 : decode cL_law 898 = .ok (.iload_n 3, 1) := by decide +kernel
theorem dL_law_899 : decode cL_law 899 = .ok (.iconst 2, 1) := by decide +kernel
theorem dL_law_900 : decode cL_law 900 = .ok (.iadd, 1) := by decide +kernel
theorem dL_law_901 : decode cL_law 901 = .ok (.iaload, 1) := by decide +kernel
theorem dL_law_902 : decode cL_law 902 = .ok (.invokevirtual 115, 3) := by decide +kernel
theorem dL_law_905 : decode cL_law 905 = .ok (.if_icmp .eq 108, 3) := by decide +kernel
theorem dL_law_908 : decode cL_law 908 = .ok (.iconst 0, 1) := by decide +kernel
theorem dL_law_909 : decode cL_law 909 = .ok (.ireturn, 1) := by decide +kernel
theorem dL_law_910 : decode cL_law 910 = .ok (.aload_n 1, 1) := by decide +kernel
theorem dL_law_911 : decode cL_law 911 = .ok (.aload_n 0, 1) := by decide +kernel
theorem dL_law_912 : decode cL_law 912 = .ok (.iload_n 3, 1) := by decide +kernel
theorem dL_law_913 : decode cL_law 913 = .ok (.iconst 1, 1) := by decide +kernel
theorem dL_law_914 : decode cL_law 914 = .ok (.iadd, 1) := by decide +kernel
theorem dL_law_915 : decode cL_law 915 = .ok (.iaload, 1) := by decide +kernel
theorem dL_law_916 : decode cL_law 916 = .ok (.invokevirtual 116, 3) := by decide +kernel
theorem dL_law_919 : decode cL_law 919 = .ok (.aload_n 2, 1) := by decide +kernel
theorem dL_law_920 : decode cL_law 920 = .ok (.aload_n 0, 1) := by decide +kernel
theorem dL_law_921 : decode cL_law 921 = .ok (.iload_n 3, 1) := by decide +kernel
theorem dL_law_922 : decode cL_law 922 = .ok (.iconst 1, 1) := by decide +kernel
theorem dL_law_923 : decode cL_law 923 = .ok (.iadd, 1) := by decide +kernel
theorem dL_law_924 : decode cL_law 924 = .ok (.iaload, 1) := by decide +kernel
theorem dL_law_925 : decode cL_law 925 = .ok (.invokevirtual 119, 3) := by decide +kernel
theorem dL_law_928 : decode cL_law 928 = .ok (.if_icmp .eq 85, 3) := by decide +kernel
theorem dL_law_931 : decode cL_law 931 = .ok (.iconst 0, 1) := by decide +kernel
theorem dL_law_932 : decode cL_law 932 = .ok (.ireturn, 1) := by decide +kernel
theorem dL_law_933 : decode cL_law 933 = .ok (.aload_n 1, 1) := by decide +kernel
theorem dL_law_934 : decode cL_law 934 = .ok (.aload_n 0, 1) := by decide +kernel
theorem dL_law_935 : decode cL_law 935 = .ok (.iload_n 3, 1) := by decide +kernel
theorem dL_law_936 : decode cL_law 936 = .ok (.iconst 1, 1) := by decide +kernel
theorem dL_law_937 : decode cL_law 937 = .ok (.iadd, 1) := by decide +kernel
theorem dL_law_938 : decode cL_law 938 = .ok (.iaload, 1) := by decide +kernel
theorem dL_law_939 : decode cL_law 939 = .ok (.aload_n 0, 1) := by decide +kernel
theorem dL_law_940 : decode cL_law 940 = .ok (.iload_n 3, 1) := by decide +kernel
theorem dL_law_941 : decode cL_law 941 = .ok (.iconst 2, 1) := by decide +kernel
theorem dL_law_942 : decode cL_law 942 = .ok (.iadd, 1) := by decide +kernel
theorem dL_law_943 : decode cL_law 943 = .ok (.iaload, 1) := by decide +kernel
theorem dL_law_944 : decode cL_law 944 = .ok (.invokevirtual 120, 3) := by decide +kernel
theorem dL_law_947 : decode cL_law 947 = .ok (.aload_n 2, 1) := by decide +kernel
theorem dL_law_948 : decode cL_law 948 = .ok (.aload_n 0, 1) := by decide +kernel
theorem dL_law_949 : decode cL_law 949 = .ok (.iload_n 3, 1) := by decide +kernel
theorem dL_law_950 : decode cL_law 950 = .ok (.iconst 1, 1) := by decide +kernel
theorem dL_law_951 : decode cL_law 951 = .ok (.iadd, 1) := by decide +kernel
theorem dL_law_952 : decode cL_law 952 = .ok (.iaload, 1) := by decide +kernel
theorem dL_law_953 : decode cL_law 953 = .ok (.aload_n 0, 1) := by decide +kernel
theorem dL_law_954 : decode cL_law 954 = .ok (.iload_n 3, 1) := by decide +kernel
theorem dL_law_955 : decode cL_law 955 = .ok (.iconst 2, 1) := by decide +kernel
theorem dL_law_956 : decode cL_law 956 = .ok (.iadd, 1) := by decide +kernel
theorem dL_law_957 : decode cL_law 957 = .ok (.iaload, 1) := by decide +kernel
theorem dL_law_958 : decode cL_law 958 = .ok (.invokevirtual 123, 3) := by decide +kernel
theorem dL_law_961 : decode cL_law 961 = .ok (.if_icmp .eq 52, 3) := by decide +kernel
theorem dL_law_964 : decode cL_law 964 = .ok (.iconst 0, 1) := by decide +kernel
theorem dL_law_965 : decode cL_law 965 = .ok (.ireturn, 1) := by decide +kernel
theorem dL_law_966 : decode cL_law 966 = .ok (.aload_n 1, 1) := by decide +kernel
theorem dL_law_967 : decode cL_law 967 = .ok (.aload_n 0, 1) := by decide +kernel
theorem dL_law_968 : decode cL_law 968 = .ok (.iload_n 3, 1) := by decide +kernel
theorem dL_law_969 : decode cL_law 969 = .ok (.iconst 1, 1) := by decide +kernel
theorem dL_law_970 : decode cL_law 970 = .ok (.iadd, 1) := by decide +kernel
theorem dL_law_971 : decode cL_law 971 = .ok (.iaload, 1) := by decide +kernel
theorem dL_law_972 : decode cL_law 972 = .ok (.aload_n 0, 1) := by decide +kernel
theorem dL_law_973 : decode cL_law 973 = .ok (.iload_n 3, 1) := by decide +kernel
theorem dL_law_974 : decode cL_law 974 = .ok (.iconst 2, 1) := by decide +kernel
theorem dL_law_975 : decode cL_law 975 = .ok (.iadd, 1) := by decide +kernel
theorem dL_law_976 : decode cL_law 976 = .ok (.iaload, 1) := by decide +kernel
theorem dL_law_977 : decode cL_law 977 = .ok (.invokevirtual 124, 3) := by decide +kernel
theorem dL_law_980 : decode cL_law 980 = .ok (.aload_n 2, 1) := by decide +kernel
theorem dL_law_981 : decode cL_law 981 = .ok (.aload_n 0, 1) := by decide +kernel
theorem dL_law_982 : decode cL_law 982 = .ok (.iload_n 3, 1) := by decide +kernel
theorem dL_law_983 : decode cL_law 983 = .ok (.iconst 1, 1) := by decide +kernel
theorem dL_law_984 : decode cL_law 984 = .ok (.iadd, 1) := by decide +kernel
theorem dL_law_985 : decode cL_law 985 = .ok (.iaload, 1) := by decide +kernel
theorem dL_law_986 : decode cL_law 986 = .ok (.aload_n 0, 1) := by decide +kernel
theorem dL_law_987 : decode cL_law 987 = .ok (.iload_n 3, 1) := by decide +kernel
theorem dL_law_988 : decode cL_law 988 = .ok (.iconst 2, 1) := by decide +kernel
theorem dL_law_989 : decode cL_law 989 = .ok (.iadd, 1) := by decide +kernel
theorem dL_law_990 : decode cL_law 990 = .ok (.iaload, 1) := by decide +kernel
theorem dL_law_991 : decode cL_law 991 = .ok (.invokevirtual 127, 3) := by decide +kernel
theorem dL_law_994 : decode cL_law 994 = .ok (.if_icmp .eq 19, 3) := by decide +kernel
theorem dL_law_997 : decode cL_law 997 = .ok (.iconst 0, 1) := by decide +kernel
theorem dL_law_998 : decode cL_law 998 = .ok (.ireturn, 1) := by decide +kernel
theorem dL_law_999 : decode cL_law 999 = .ok (.aload_n 1, 1) := by decide +kernel
theorem dL_law_1000 : decode cL_law 1000 = .ok (.invokevirtual 128, 3) := by decide +kernel
theorem dL_law_1003 : decode cL_law 1003 = .ok (.aload_n 2, 1) := by decide +kernel
theorem dL_law_1004 : decode cL_law 1004 = .ok (.invokevirtual 132, 3) := by decide +kernel
theorem dL_law_1007 : decode cL_law 1007 = .ok (.lcmp, 1) := by decide +kernel
theorem dL_law_1008 : decode cL_law 1008 = .ok (.ifCond .eq 5, 3) := by decide +kernel
theorem dL_law_1011 : decode cL_law 1011 = .ok (.iconst 0, 1) := by decide +kernel
theorem dL_law_1012 : decode cL_law 1012 = .ok (.ireturn, 1) := by decide +kernel
theorem dL_law_1013 : decode cL_law 1013 = .ok (.iinc 3 5, 3) := by decide +kernel
theorem dL_law_1016 : decode cL_law 1016 = .ok (.goto (-998), 3) := by decide +kernel
theorem dL_law_1019 : decode cL_law 1019 = .ok (.iconst 1, 1) := by decide +kernel
theorem dL_law_1020 : decode cL_law 1020 = .ok (.ireturn, 1) := by decide +kernel
