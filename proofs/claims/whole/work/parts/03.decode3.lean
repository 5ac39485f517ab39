theorem dX12_stands_42 : decode cX12_stands 42 = .ok (.iconst 1, 1) := by decide +kernel
theorem dX12_stands_43 : decode cX12_stands 43 = .ok (.aload_n 0, 1) := by decide +kernel
theorem dX12_stands_44 : decode cX12_stands 44 = .ok (.getfield 7, 3) := by decide +kernel
theorem dX12_stands_47 : decode cX12_stands 47 = .ok (.bipush 78, 2) := by decide +kernel
theorem dX12_stands_49 : decode cX12_stands 49 = .ok (.iaload, 1) := by decide +kernel
theorem dX12_stands_50 : decode cX12_stands 50 = .ok (.ishl, 1) := by decide +kernel
theorem dX12_stands_51 : decode cX12_stands 51 = .ok (.iconst 1, 1) := by decide +kernel
theorem dX12_stands_52 : decode cX12_stands 52 = .ok (.isub, 1) := by decide +kernel
theorem dX12_stands_53 : decode cX12_stands 53 = .ok (.istore_n 3, 1) := by decide +kernel
theorem dX12_stands_54 : decode cX12_stands 54 = .ok (.aload_n 0, 1) := by decide +kernel
theorem dX12_stands_55 : decode cX12_stands 55 = .ok (.getfield 48, 3) := by decide +kernel
theorem dX12_stands_58 : decode cX12_stands 58 = .ok (.iload_n 3, 1) := by decide +kernel
theorem dX12_stands_59 : decode cX12_stands 59 = .ok (.iaload, 1) := by decide +kernel
theorem dX12_stands_60 : decode cX12_stands 60 = .ok (.istore 4, 2) := by decide +kernel
theorem dX12_stands_62 : decode cX12_stands 62 = .ok (.iload 4, 2) := by decide +kernel
theorem dX12_stands_64 : decode cX12_stands 64 = .ok (.sipush 10000, 3) := by decide +kernel
theorem dX12_stands_67 : decode cX12_stands 67 = .ok (.iadd, 1) := by decide +kernel
theorem dX12_stands_68 : decode cX12_stands 68 = .ok (.iconst 1, 1) := by decide +kernel
theorem dX12_stands_69 : decode cX12_stands 69 = .ok (.isub, 1) := by decide +kernel
theorem dX12_stands_70 : decode cX12_stands 70 = .ok (.sipush 10000, 3) := by decide +kernel
theorem dX12_stands_73 : decode cX12_stands 73 = .ok (.idiv, 1) := by decide +kernel
theorem dX12_stands_74 : decode cX12_stands 74 = .ok (.istore 5, 2) := by decide +kernel
theorem dX12_stands_76 : decode cX12_stands 76 = .ok (.iload_n 2, 1) := by decide +kernel
theorem dX12_stands_77 : decode cX12_stands 77 = .ok (.iconst 2, 1) := by decide +kernel
theorem dX12_stands_78 : decode cX12_stands 78 = .ok (.if_icmp .ge 22, 3) := by decide +kernel
theorem dX12_stands_81 : decode cX12_stands 81 = .ok (.iload_n 2, 1) := by decide +kernel
theorem dX12_stands_82 : decode cX12_stands 82 = .ok (.ifCond .ne 8, 3) := by decide +kernel
theorem dX12_stands_85 : decode cX12_stands 85 = .ok (.iload 5, 2) := by decide +kernel
theorem dX12_stands_87 : decode cX12_stands 87 = .ok (.goto 12, 3) := by decide +kernel
theorem dX12_stands_90 : decode cX12_stands 90 = .ok (.iload 5, 2) := by decide +kernel
theorem dX12_stands_92 : decode cX12_stands 92 = .ok (.sipush 10000, 3) := by decide +kernel
theorem dX12_stands_95 : decode cX12_stands 95 = .ok (.imul, 1) := by decide +kernel
theorem dX12_stands_96 : decode cX12_stands 96 = .ok (.iload 4, 2) := by decide +kernel
theorem dX12_stands_98 : decode cX12_stands 98 = .ok (.isub, 1) := by decide +kernel
theorem dX12_stands_99 : decode cX12_stands 99 = .ok (.ireturn, 1) := by decide +kernel
theorem dX12_stands_100 : decode cX12_stands 100 = .ok (.iconst (-1), 1) := by decide +kernel
theorem dX12_stands_101 : decode cX12_stands 101 = .ok (.istore 6, 2) := by decide +kernel
theorem dX12_stands_103 : decode cX12_stands 103 = .ok (.iconst 0, 1) := by decide +kernel
theorem dX12_stands_104 : decode cX12_stands 104 = .ok (.istore 7, 2) := by decide +kernel
theorem dX12_stands_106 : decode cX12_stands 106 = .ok (.iload 7, 2) := by decide +kernel
theorem dX12_stands_108 : decode cX12_stands 108 = .ok (.iload_n 2, 1) := by decide +kernel
theorem dX12_stands_109 : decode cX12_stands 109 = .ok (.bipush 10, 2) := by decide +kernel
theorem dX12_stands_111 : decode cX12_stands 111 = .ok (.isub, 1) := by decide +kernel
theorem dX12_stands_112 : decode cX12_stands 112 = .ok (.if_icmp .gt 38, 3) := by decide +kernel
theorem dX12_stands_115 : decode cX12_stands 115 = .ok (.aload_n 0, 1) := by decide +kernel
theorem dX12_stands_116 : decode cX12_stands 116 = .ok (.iload_n 1, 1) := by decide +kernel
theorem dX12_stands_117 : decode cX12_stands 117 = .ok (.iload 7, 2) := by decide +kernel
theorem dX12_stands_119 : decode cX12_stands 119 = .ok (.iload_n 3, 1) := by decide +kernel
theorem dX12_stands_120 : decode cX12_stands 120 = .ok (.invokevirtual 442, 3) := by decide +kernel
theorem dX12_stands_123 : decode cX12_stands 123 = .ok (.istore 6, 2) := by decide +kernel
theorem dX12_stands_125 : decode cX12_stands 125 = .ok (.iload_n 3, 1) := by decide +kernel
theorem dX12_stands_126 : decode cX12_stands 126 = .ok (.iload 6, 2) := by decide +kernel
theorem dX12_stands_128 : decode cX12_stands 128 = .ok (.iconst (-1), 1) := by decide +kernel
theorem dX12_stands_129 : decode cX12_stands 129 = .ok (.if_icmp .ne 7, 3) := by decide +kernel
theorem dX12_stands_132 : decode cX12_stands 132 = .ok (.iload_n 3, 1) := by decide +kernel
theorem dX12_stands_133 : decode cX12_stands 133 = .ok (.goto 9, 3) := by decide +kernel
theorem dX12_stands_136 : decode cX12_stands 136 = .ok (.iconst 1, 1) := by decide +kernel
theorem dX12_stands_137 : decode cX12_stands 137 = .ok (.iload 6, 2) := by decide +kernel
theorem dX12_stands_139 : decode cX12_stands 139 = .ok (.ishl, 1) := by decide +kernel
theorem dX12_stands_140 : decode cX12_stands 140 = .ok (.iconst (-1), 1) := by decide +kernel
theorem dX12_stands_141 : decode cX12_stands 141 = .ok (.ixor, 1) := by decide +kernel
theorem dX12_stands_142 : decode cX12_stands 142 = .ok (.iand, 1) := by decide +kernel
theorem dX12_stands_143 : decode cX12_stands 143 = .ok (.istore_n 3, 1) := by decide +kernel
theorem dX12_stands_144 : decode cX12_stands 144 = .ok (.iinc 7 1, 3) := by decide +kernel
theorem dX12_stands_147 : decode cX12_stands 147 = .ok (.goto (-41), 3) := by decide +kernel
theorem dX12_stands_150 : decode cX12_stands 150 = .ok (.iload 6, 2) := by decide +kernel
theorem dX12_stands_152 : decode cX12_stands 152 = .ok (.ireturn, 1) := by decide +kernel
theorem dX12_state_0 : decode cX12_state 0 = .ok (.aload_n 0, 1) := by decide +kernel
theorem dX12_state_1 : decode cX12_state 1 = .ok (.getfield 7, 3) := by decide +kernel
theorem dX12_state_4 : decode cX12_state 4 = .ok (.iconst 2, 1) := by decide +kernel
theorem dX12_state_5 : decode cX12_state 5 = .ok (.iaload, 1) := by decide +kernel
theorem dX12_state_6 : decode cX12_state 6 = .ok (.istore_n 2, 1) := by decide +kernel
theorem dX12_state_7 : decode cX12_state 7 = .ok (.aload_n 0, 1) := by decide +kernel
theorem dX12_state_8 : decode cX12_state 8 = .ok (.getfield 7, 3) := by decide +kernel
theorem dX12_state_11 : decode cX12_state 11 = .ok (.iconst 2, 1) := by decide +kernel
theorem dX12_state_12 : decode cX12_state 12 = .ok (.iload_n 1, 1) := by decide +kernel
theorem dX12_state_13 : decode cX12_state 13 = .ok (.iastore, 1) := by decide +kernel
theorem dX12_state_14 : decode cX12_state 14 = .ok (.aload_n 0, 1) := by decide +kernel
theorem dX12_state_15 : decode cX12_state 15 = .ok (.invokevirtual 61, 3) := by decide +kernel
theorem dX12_state_18 : decode cX12_state 18 = .ok (.iload_n 2, 1) := by decide +kernel
theorem dX12_state_19 : decode cX12_state 19 = .ok (.ireturn, 1) := by decide +kernel
theorem dX12_stepOf_0 : decode cX12_stepOf 0 = .ok (.aload_n 0, 1) := by decide +kernel
theorem dX12_stepOf_1 : decode cX12_stepOf 1 = .ok (.bipush 21, 2) := by decide +kernel
theorem dX12_stepOf_3 : decode cX12_stepOf 3 = .ok (.iload_n 1, 1) := by decide +kernel
theorem dX12_stepOf_4 : decode cX12_stepOf 4 = .ok (.aload_n 0, 1) := by decide +kernel
theorem dX12_stepOf_5 : decode cX12_stepOf 5 = .ok (.getfield 7, 3) := by decide +kernel
theorem dX12_stepOf_8 : decode cX12_stepOf 8 = .ok (.bipush 114, 2) := by decide +kernel
theorem dX12_stepOf_10 : decode cX12_stepOf 10 = .ok (.iload_n 1, 1) := by decide +kernel
theorem dX12_stepOf_11 : decode cX12_stepOf 11 = .ok (.iadd, 1) := by decide +kernel
theorem dX12_stepOf_12 : decode cX12_stepOf 12 = .ok (.iaload, 1) := by decide +kernel
theorem dX12_stepOf_13 : decode cX12_stepOf 13 = .ok (.bipush 9, 2) := by decide +kernel
theorem dX12_stepOf_15 : decode cX12_stepOf 15 = .ok (.invokevirtual 306, 3) := by decide +kernel
theorem dX12_stepOf_18 : decode cX12_stepOf 18 = .ok (.ireturn, 1) := by decide +kernel
theorem dX12_sumUp_0 : decode cX12_sumUp 0 = .ok (.aload_n 0, 1) := by decide +kernel
theorem dX12_sumUp_1 : decode cX12_sumUp 1 = .ok (.invokevirtual 203, 3) := by decide +kernel
theorem dX12_sumUp_4 : decode cX12_sumUp 4 = .ok (.ifCond .ne 5, 3) := by decide +kernel
theorem dX12_sumUp_7 : decode cX12_sumUp 7 = .ok (.iconst 0, 1) := by decide +kernel
theorem dX12_sumUp_8 : decode cX12_sumUp 8 = .ok (.ireturn, 1) := by decide +kernel
theorem dX12_sumUp_9 : decode cX12_sumUp 9 = .ok (.aload_n 0, 1) := by decide +kernel
theorem dX12_sumUp_10 : decode cX12_sumUp 10 = .ok (.getfield 170, 3) := by decide +kernel
theorem dX12_sumUp_13 : decode cX12_sumUp 13 = .ok (.sipush 143, 3) := by decide +kernel
theorem dX12_sumUp_16 : decode cX12_sumUp 16 = .ok (.if_icmp .eq 13, 3) := by decide +kernel
theorem dX12_sumUp_19 : decode cX12_sumUp 19 = .ok (.aload_n 0, 1) := by decide +kernel
theorem dX12_sumUp_20 : decode cX12_sumUp 20 = .ok (.getfield 170, 3) := by decide +kernel
theorem dX12_sumUp_23 : decode cX12_sumUp 23 = .ok (.sipush 145, 3) := by decide +kernel
theorem dX12_sumUp_26 : decode cX12_sumUp 26 = .ok (.if_icmp .ne 43, 3) := by decide +kernel
theorem dX12_sumUp_29 : decode cX12_sumUp 29 = .ok (.aload_n 0, 1) := by decide +kernel
theorem dX12_sumUp_30 : decode cX12_sumUp 30 = .ok (.getfield 170, 3) := by decide +kernel
theorem dX12_sumUp_33 : decode cX12_sumUp 33 = .ok (.sipush 143, 3) := by decide +kernel
theorem dX12_sumUp_36 : decode cX12_sumUp 36 = .ok (.if_icmp .ne 8, 3) := by decide +kernel
theorem dX12_sumUp_39 : decode cX12_sumUp 39 = .ok (.bipush 23, 2) := by decide +kernel
theorem dX12_sumUp_41 : decode cX12_sumUp 41 = .ok (.goto 5, 3) := by decide +kernel
theorem dX12_sumUp_44 : decode cX12_sumUp 44 = .ok (.bipush 24, 2) := by decide +kernel
theorem dX12_sumUp_46 : decode cX12_sumUp 46 = .ok (.istore_n 1, 1) := by decide +kernel
theorem dX12_sumUp_47 : decode cX12_sumUp 47 = .ok (.aload_n 0, 1) := by decide +kernel
theorem dX12_sumUp_48 : decode cX12_sumUp 48 = .ok (.invokevirtual 194, 3) := by decide +kernel
theorem dX12_sumUp_51 : decode cX12_sumUp 51 = .ok (.aload_n 0, 1) := by decide +kernel
theorem dX12_sumUp_52 : decode cX12_sumUp 52 = .ok (.invokevirtual 203, 3) := by decide +kernel
theorem dX12_sumUp_55 : decode cX12_sumUp 55 = .ok (.ifCond .ne 5, 3) := by decide +kernel
theorem dX12_sumUp_58 : decode cX12_sumUp 58 = .ok (.iconst 0, 1) := by decide +kernel
theorem dX12_sumUp_59 : decode cX12_sumUp 59 = .ok (.ireturn, 1) := by decide +kernel
theorem dX12_sumUp_60 : decode cX12_sumUp 60 = .ok (.aload_n 0, 1) := by decide +kernel
theorem dX12_sumUp_61 : decode cX12_sumUp 61 = .ok (.iload_n 1, 1) := by decide +kernel
theorem dX12_sumUp_62 : decode cX12_sumUp 62 = .ok (.iconst 0, 1) := by decide +kernel
theorem dX12_sumUp_63 : decode cX12_sumUp 63 = .ok (.invokevirtual 207, 3) := by decide +kernel
theorem dX12_sumUp_66 : decode cX12_sumUp 66 = .ok (.goto (-57), 3) := by decide +kernel
theorem dX12_sumUp_69 : decode cX12_sumUp 69 = .ok (.iconst 1, 1) := by decide +kernel
theorem dX12_sumUp_70 : decode cX12_sumUp 70 = .ok (.ireturn, 1) := by decide +kernel
theorem dX12_takesField_0 : decode cX12_takesField 0 = .ok (.aload_n 0, 1) := by decide +kernel
theorem dX12_takesField_1 : decode cX12_takesField 1 = .ok (.getfield 7, 3) := by decide +kernel
theorem dX12_takesField_4 : decode cX12_takesField 4 = .ok (.bipush 40, 2) := by decide +kernel
theorem dX12_takesField_6 : decode cX12_takesField 6 = .ok (.iload_n 1, 1) := by decide +kernel
theorem dX12_takesField_7 : decode cX12_takesField 7 = .ok (.iadd, 1) := by decide +kernel
theorem dX12_takesField_8 : decode cX12_takesField 8 = .ok (.iconst 1, 1) := by decide +kernel
theorem dX12_takesField_9 : decode cX12_takesField 9 = .ok (.iastore, 1) := by decide +kernel
theorem dX12_takesField_10 : decode cX12_takesField 10 = .ok (.aload_n 0, 1) := by decide +kernel
theorem dX12_takesField_11 : decode cX12_takesField 11 = .ok (.getfield 7, 3) := by decide +kernel
theorem dX12_takesField_14 : decode cX12_takesField 14 = .ok (.bipush 52, 2) := by decide +kernel
theorem dX12_takesField_16 : decode cX12_takesField 16 = .ok (.iload_n 1, 1) := by decide +kernel
theorem dX12_takesField_17 : decode cX12_takesField 17 = .ok (.iadd, 1) := by decide +kernel
theorem dX12_takesField_18 : decode cX12_takesField 18 = .ok (.aload_n 0, 1) := by decide +kernel
theorem dX12_takesField_19 : decode cX12_takesField 19 = .ok (.getfield 7, 3) := by decide +kernel
theorem dX12_takesField_22 : decode cX12_takesField 22 = .ok (.bipush 90, 2) := by decide +kernel
theorem dX12_takesField_24 : decode cX12_takesField 24 = .ok (.iload_n 1, 1) := by decide +kernel
theorem dX12_takesField_25 : decode cX12_takesField 25 = .ok (.iadd, 1) := by decide +kernel
theorem dX12_takesField_26 : decode cX12_takesField 26 = .ok (.iaload, 1) := by decide +kernel
theorem dX12_takesField_27 : decode cX12_takesField 27 = .ok (.invokestatic 323, 3) := by decide +kernel
theorem dX12_takesField_30 : decode cX12_takesField 30 = .ok (.iastore, 1) := by decide +kernel
theorem dX12_takesField_31 : decode cX12_takesField 31 = .ok (.return_, 1) := by decide +kernel
theorem dX12_teach_0 : decode cX12_teach 0 = .ok (.aload_n 0, 1) := by decide +kernel
theorem dX12_teach_1 : decode cX12_teach 1 = .ok (.iload_n 1, 1) := by decide +kernel
theorem dX12_teach_2 : decode cX12_teach 2 = .ok (.invokevirtual 70, 3) := by decide +kernel
theorem dX12_teach_5 : decode cX12_teach 5 = .ok (.ifCond .eq 30, 3) := by decide +kernel
theorem dX12_teach_8 : decode cX12_teach 8 = .ok (.iload_n 2, 1) := by decide +kernel
theorem dX12_teach_9 : decode cX12_teach 9 = .ok (.iconst 0, 1) := by decide +kernel
theorem dX12_teach_10 : decode cX12_teach 10 = .ok (.bipush 7, 2) := by decide +kernel
theorem dX12_teach_12 : decode cX12_teach 12 = .ok (.invokestatic 54, 3) := by decide +kernel
theorem dX12_teach_15 : decode cX12_teach 15 = .ok (.ifCond .eq 20, 3) := by decide +kernel
theorem dX12_teach_18 : decode cX12_teach 18 = .ok (.aload_n 0, 1) := by decide +kernel
theorem dX12_teach_19 : decode cX12_teach 19 = .ok (.getfield 7, 3) := by decide +kernel
theorem dX12_teach_22 : decode cX12_teach 22 = .ok (.bipush 16, 2) := by decide +kernel
theorem dX12_teach_24 : decode cX12_teach 24 = .ok (.iload_n 1, 1) := by decide +kernel
theorem dX12_teach_25 : decode cX12_teach 25 = .ok (.iadd, 1) := by decide +kernel
theorem dX12_teach_26 : decode cX12_teach 26 = .ok (.iaload, 1) := by decide +kernel
theorem dX12_teach_27 : decode cX12_teach 27 = .ok (.iload_n 2, 1) := by decide +kernel
theorem dX12_teach_28 : decode cX12_teach 28 = .ok (.ishr, 1) := by decide +kernel
theorem dX12_teach_29 : decode cX12_teach 29 = .ok (.iconst 1, 1) := by decide +kernel
theorem dX12_teach_30 : decode cX12_teach 30 = .ok (.iand, 1) := by decide +kernel
theorem dX12_teach_31 : decode cX12_teach 31 = .ok (.iconst 1, 1) := by decide +kernel
theorem dX12_teach_32 : decode cX12_teach 32 = .ok (.if_icmp .ne 5, 3) := by decide +kernel
theorem dX12_teach_35 : decode cX12_teach 35 = .ok (.iconst 0, 1) := by decide +kernel
theorem dX12_teach_36 : decode cX12_teach 36 = .ok (.ireturn, 1) := by decide +kernel
theorem dX12_teach_37 : decode cX12_teach 37 = .ok (.aload_n 0, 1) := by decide +kernel
theorem dX12_teach_38 : decode cX12_teach 38 = .ok (.invokevirtual 317, 3) := by decide +kernel
theorem dX12_teach_41 : decode cX12_teach 41 = .ok (.aload_n 0, 1) := by decide +kernel
theorem dX12_teach_42 : decode cX12_teach 42 = .ok (.getfield 7, 3) := by decide +kernel
theorem dX12_teach_45 : decode cX12_teach 45 = .ok (.bipush 16, 2) := by decide +kernel
theorem dX12_teach_47 : decode cX12_teach 47 = .ok (.iload_n 1, 1) := by decide +kernel
theorem dX12_teach_48 : decode cX12_teach 48 = .ok (.iadd, 1) := by decide +kernel
theorem dX12_teach_49 : decode cX12_teach 49 = .ok (.dup2, 1) := by decide +kernel
theorem dX12_teach_50 : decode cX12_teach 50 = .ok (.iaload, 1) := by decide +kernel
theorem dX12_teach_51 : decode cX12_teach 51 = .ok (.iconst 1, 1) := by decide +kernel
theorem dX12_teach_52 : decode cX12_teach 52 = .ok (.iload_n 2, 1) := by decide +kernel
theorem dX12_teach_53 : decode cX12_teach 53 = .ok (.ishl, 1) := by decide +kernel
theorem dX12_teach_54 : decode cX12_teach 54 = .ok (.ior, 1) := by decide +kernel
theorem dX12_teach_55 : decode cX12_teach 55 = .ok (.iastore, 1) := by decide +kernel
theorem dX12_teach_56 : decode cX12_teach 56 = .ok (.iconst 1, 1) := by decide +kernel
theorem dX12_teach_57 : decode cX12_teach 57 = .ok (.ireturn, 1) := by decide +kernel
theorem dX12_tellWord_0 : decode cX12_tellWord 0 = .ok (.aload_n 0, 1) := by decide +kernel
theorem dX12_tellWord_1 : decode cX12_tellWord 1 = .ok (.ldc 139, 2) := by decide +kernel
theorem dX12_tellWord_3 : decode cX12_tellWord 3 = .ok (.invokevirtual 101, 3) := by decide +kernel
theorem dX12_tellWord_6 : decode cX12_tellWord 6 = .ok (.ifCond .eq 6, 3) := by decide +kernel
theorem dX12_tellWord_9 : decode cX12_tellWord 9 = .ok (.bipush 7, 2) := by decide +kernel
theorem dX12_tellWord_11 : decode cX12_tellWord 11 = .ok (.ireturn, 1) := by decide +kernel
theorem dX12_tellWord_12 : decode cX12_tellWord 12 = .ok (.aload_n 0, 1) := by decide +kernel
theorem dX12_tellWord_13 : decode cX12_tellWord 13 = .ok (.ldc 124, 2) := by decide +kernel
theorem dX12_tellWord_15 : decode cX12_tellWord 15 = .ok (.invokevirtual 101, 3) := by decide +kernel
theorem dX12_tellWord_18 : decode cX12_tellWord 18 = .ok (.ifCond .eq 7, 3) := by decide +kernel
theorem dX12_tellWord_21 : decode cX12_tellWord 21 = .ok (.iconst 5, 1) := by decide +kernel
theorem dX12_tellWord_22 : decode cX12_tellWord 22 = .ok (.goto 4, 3) := by decide +kernel
theorem dX12_tellWord_25 : decode cX12_tellWord 25 = .ok (.iconst 1, 1) := by decide +kernel
theorem dX12_tellWord_26 : decode cX12_tellWord 26 = .ok (.ireturn, 1) := by decide +kernel
theorem dX12_tells_0 : decode cX12_tells 0 = .ok (.aload_n 0, 1) := by decide +kernel
theorem dX12_tells_1 : decode cX12_tells 1 = .ok (.getfield 7, 3) := by decide +kernel
theorem dX12_tells_4 : decode cX12_tells 4 = .ok (.iconst 0, 1) := by decide +kernel
theorem dX12_tells_5 : decode cX12_tells 5 = .ok (.iaload, 1) := by decide +kernel
theorem dX12_tells_6 : decode cX12_tells 6 = .ok (.bipush 7, 2) := by decide +kernel
theorem dX12_tells_8 : decode cX12_tells 8 = .ok (.irem, 1) := by decide +kernel
theorem dX12_tells_9 : decode cX12_tells 9 = .ok (.ifCond .eq 4, 3) := by decide +kernel
theorem dX12_tells_12 : decode cX12_tells 12 = .ok (.return_, 1) := by decide +kernel
theorem dX12_tells_13 : decode cX12_tells 13 = .ok (.iconst 0, 1) := by decide +kernel
theorem dX12_tells_14 : decode cX12_tells 14 = .ok (.istore_n 1, 1) := by decide +kernel
theorem dX12_tells_15 : decode cX12_tells 15 = .ok (.iload_n 1, 1) := by decide +kernel
theorem dX12_tells_16 : decode cX12_tells 16 = .ok (.aload_n 0, 1) := by decide +kernel
theorem dX12_tells_17 : decode cX12_tells 17 = .ok (.getfield 7, 3) := by decide +kernel
theorem dX12_tells_20 : decode cX12_tells 20 = .ok (.bipush 78, 2) := by decide +kernel
theorem dX12_tells_22 : decode cX12_tells 22 = .ok (.iaload, 1) := by decide +kernel
theorem dX12_tells_23 : decode cX12_tells 23 = .ok (.if_icmp .ge 91, 3) := by decide +kernel
theorem dX12_tells_26 : decode cX12_tells 26 = .ok (.aload_n 0, 1) := by decide +kernel
theorem dX12_tells_27 : decode cX12_tells 27 = .ok (.getfield 7, 3) := by decide +kernel
theorem dX12_tells_30 : decode cX12_tells 30 = .ok (.bipush 40, 2) := by decide +kernel
theorem dX12_tells_32 : decode cX12_tells 32 = .ok (.iload_n 1, 1) := by decide +kernel
theorem dX12_tells_33 : decode cX12_tells 33 = .ok (.iadd, 1) := by decide +kernel
theorem dX12_tells_34 : decode cX12_tells 34 = .ok (.iaload, 1) := by decide +kernel
theorem dX12_tells_35 : decode cX12_tells 35 = .ok (.ifCond .eq 6, 3) := by decide +kernel
theorem dX12_tells_38 : decode cX12_tells 38 = .ok (.goto 70, 3) := by decide +kernel
theorem dX12_tells_41 : decode cX12_tells 41 = .ok (.aload_n 0, 1) := by decide +kernel
theorem dX12_tells_42 : decode cX12_tells 42 = .ok (.iload_n 1, 1) := by decide +kernel
theorem dX12_tells_43 : decode cX12_tells 43 = .ok (.invokevirtual 370, 3) := by decide +kernel
theorem dX12_tells_46 : decode cX12_tells 46 = .ok (.istore_n 2, 1) := by decide +kernel
theorem dX12_tells_47 : decode cX12_tells 47 = .ok (.iconst 0, 1) := by decide +kernel
theorem dX12_tells_48 : decode cX12_tells 48 = .ok (.istore_n 3, 1) := by decide +kernel
theorem dX12_tells_49 : decode cX12_tells 49 = .ok (.iload_n 3, 1) := by decide +kernel
theorem dX12_tells_50 : decode cX12_tells 50 = .ok (.aload_n 0, 1) := by decide +kernel
theorem dX12_tells_51 : decode cX12_tells 51 = .ok (.getfield 7, 3) := by decide +kernel
theorem dX12_tells_54 : decode cX12_tells 54 = .ok (.bipush 78, 2) := by decide +kernel
theorem dX12_tells_56 : decode cX12_tells 56 = .ok (.iaload, 1) := by decide +kernel
theorem dX12_tells_57 : decode cX12_tells 57 = .ok (.if_icmp .ge 51, 3) := by decide +kernel
theorem dX12_tells_60 : decode cX12_tells 60 = .ok (.iload_n 2, 1) := by decide +kernel
theorem dX12_tells_61 : decode cX12_tells 61 = .ok (.iload_n 3, 1) := by decide +kernel
theorem dX12_tells_62 : decode cX12_tells 62 = .ok (.ishr, 1) := by decide +kernel
theorem dX12_tells_63 : decode cX12_tells 63 = .ok (.iconst 1, 1) := by decide +kernel
theorem dX12_tells_64 : decode cX12_tells 64 = .ok (.iand, 1) := by decide +kernel
theorem dX12_tells_65 : decode cX12_tells 65 = .ok (.iconst 1, 1) := by decide +kernel
theorem dX12_tells_66 : decode cX12_tells 66 = .ok (.if_icmp .ne 36, 3) := by decide +kernel
theorem dX12_tells_69 : decode cX12_tells 69 = .ok (.aload_n 0, 1) := by decide +kernel
theorem dX12_tells_70 : decode cX12_tells 70 = .ok (.getfield 7, 3) := by decide +kernel
theorem dX12_tells_73 : decode cX12_tells 73 = .ok (.bipush 40, 2) := by decide +kernel
theorem dX12_tells_75 : decode cX12_tells 75 = .ok (.iload_n 3, 1) := by decide +kernel
theorem dX12_tells_76 : decode cX12_tells 76 = .ok (.iadd, 1) := by decide +kernel
theorem dX12_tells_77 : decode cX12_tells 77 = .ok (.iaload, 1) := by decide +kernel
theorem dX12_tells_78 : decode cX12_tells 78 = .ok (.ifCond .ne 24, 3) := by decide +kernel
theorem dX12_tells_81 : decode cX12_tells 81 = .ok (.aload_n 0, 1) := by decide +kernel
theorem dX12_tells_82 : decode cX12_tells 82 = .ok (.getfield 7, 3) := by decide +kernel
theorem dX12_tells_85 : decode cX12_tells 85 = .ok (.bipush 16, 2) := by decide +kernel
theorem dX12_tells_87 : decode cX12_tells 87 = .ok (.iload_n 3, 1) := by decide +kernel
theorem dX12_tells_88 : decode cX12_tells 88 = .ok (.iadd, 1) := by decide +kernel
theorem dX12_tells_89 : decode cX12_tells 89 = .ok (.dup2, 1) := by decide +kernel
theorem dX12_tells_90 : decode cX12_tells 90 = .ok (.iaload, 1) := by decide +kernel
theorem dX12_tells_91 : decode cX12_tells 91 = .ok (.aload_n 0, 1) := by decide +kernel
theorem dX12_tells_92 : decode cX12_tells 92 = .ok (.getfield 7, 3) := by decide +kernel
theorem dX12_tells_95 : decode cX12_tells 95 = .ok (.bipush 16, 2) := by decide +kernel
theorem dX12_tells_97 : decode cX12_tells 97 = .ok (.iload_n 1, 1) := by decide +kernel
theorem dX12_tells_98 : decode cX12_tells 98 = .ok (.iadd, 1) := by decide +kernel
theorem dX12_tells_99 : decode cX12_tells 99 = .ok (.iaload, 1) := by decide +kernel
theorem dX12_tells_100 : decode cX12_tells 100 = .ok (.ior, 1) := by decide +kernel
theorem dX12_tells_101 : decode cX12_tells 101 = .ok (.iastore, 1) := by decide +kernel
theorem dX12_tells_102 : decode cX12_tells 102 = .ok (.iinc 3 1, 3) := by decide +kernel
theorem dX12_tells_105 : decode cX12_tells 105 = .ok (.goto (-56), 3) := by decide +kernel
theorem dX12_tells_108 : decode cX12_tells 108 = .ok (.iinc 1 1, 3) := by decide +kernel
theorem dX12_tells_111 : decode cX12_tells 111 = .ok (.goto (-96), 3) := by decide +kernel
theorem dX12_tells_114 : decode cX12_tells 114 = .ok (.return_, 1) := by decide +kernel
theorem dX12_text_0 : decode cX12_text 0 = .ok (.aload_n 0, 1) := by decide +kernel
theorem dX12_text_1 : decode cX12_text 1 = .ok (.iconst 0, 1) := by decide +kernel
theorem dX12_text_2 : decode cX12_text 2 = .ok (.putfield 273, 3) := by decide +kernel
theorem dX12_text_5 : decode cX12_text 5 = .ok (.aload_n 0, 1) := by decide +kernel
theorem dX12_text_6 : decode cX12_text 6 = .ok (.iconst (-1), 1) := by decide +kernel
theorem dX12_text_7 : decode cX12_text 7 = .ok (.putfield 40, 3) := by decide +kernel
theorem dX12_text_10 : decode cX12_text 10 = .ok (.iload_n 1, 1) := by decide +kernel
theorem dX12_text_11 : decode cX12_text 11 = .ok (.iconst 0, 1) := by decide +kernel
theorem dX12_text_12 : decode cX12_text 12 = .ok (.iconst 3, 1) := by decide +kernel
theorem dX12_text_13 : decode cX12_text 13 = .ok (.invokestatic 54, 3) := by decide +kernel
theorem dX12_text_16 : decode cX12_text 16 = .ok (.ifCond .ne 10, 3) := by decide +kernel
theorem dX12_text_19 : decode cX12_text 19 = .ok (.aload_n 0, 1) := by decide +kernel
theorem dX12_text_20 : decode cX12_text 20 = .ok (.iconst 0, 1) := by decide +kernel
theorem dX12_text_21 : decode cX12_text 21 = .ok (.putfield 80, 3) := by decide +kernel
theorem dX12_text_24 : decode cX12_text 24 = .ok (.iconst (-1), 1) := by decide +kernel
theorem dX12_text_25 : decode cX12_text 25 = .ok (.ireturn, 1) := by decide +kernel
theorem dX12_text_26 : decode cX12_text 26 = .ok (.aload_n 0, 1) := by decide +kernel
theorem dX12_text_27 : decode cX12_text 27 = .ok (.iconst 0, 1) := by decide +kernel
theorem dX12_text_28 : decode cX12_text 28 = .ok (.putfield 185, 3) := by decide +kernel
theorem dX12_text_31 : decode cX12_text 31 = .ok (.aload_n 0, 1) := by decide +kernel
theorem dX12_text_32 : decode cX12_text 32 = .ok (.iconst 0, 1) := by decide +kernel
theorem dX12_text_33 : decode cX12_text 33 = .ok (.putfield 83, 3) := by decide +kernel
theorem dX12_text_36 : decode cX12_text 36 = .ok (.aload_n 0, 1) := by decide +kernel
theorem dX12_text_37 : decode cX12_text 37 = .ok (.iload_n 1, 1) := by decide +kernel
theorem dX12_text_38 : decode cX12_text 38 = .ok (.putfield 151, 3) := by decide +kernel
theorem dX12_text_41 : decode cX12_text 41 = .ok (.aload_n 0, 1) := by decide +kernel
theorem dX12_text_42 : decode cX12_text 42 = .ok (.invokevirtual 194, 3) := by decide +kernel
theorem dX12_text_45 : decode cX12_text 45 = .ok (.iload_n 1, 1) := by decide +kernel
theorem dX12_text_46 : decode cX12_text 46 = .ok (.ifCond .ne 10, 3) := by decide +kernel
theorem dX12_text_49 : decode cX12_text 49 = .ok (.aload_n 0, 1) := by decide +kernel
theorem dX12_text_50 : decode cX12_text 50 = .ok (.invokevirtual 276, 3) := by decide +kernel
theorem dX12_text_53 : decode cX12_text 53 = .ok (.goto 7, 3) := by decide +kernel
theorem dX12_text_56 : decode cX12_text 56 = .ok (.aload_n 0, 1) := by decide +kernel
theorem dX12_text_57 : decode cX12_text 57 = .ok (.invokevirtual 279, 3) := by decide +kernel
theorem dX12_text_60 : decode cX12_text 60 = .ok (.istore_n 2, 1) := by decide +kernel
theorem dX12_text_61 : decode cX12_text 61 = .ok (.aload_n 0, 1) := by decide +kernel
theorem dX12_text_62 : decode cX12_text 62 = .ok (.iconst 0, 1) := by decide +kernel
theorem dX12_text_63 : decode cX12_text 63 = .ok (.putfield 80, 3) := by decide +kernel
theorem dX12_text_66 : decode cX12_text 66 = .ok (.iload_n 2, 1) := by decide +kernel
theorem dX12_text_67 : decode cX12_text 67 = .ok (.ifCond .eq 9, 3) := by decide +kernel
theorem dX12_text_70 : decode cX12_text 70 = .ok (.aload_n 0, 1) := by decide +kernel
theorem dX12_text_71 : decode cX12_text 71 = .ok (.iload_n 1, 1) := by decide +kernel
theorem dX12_text_72 : decode cX12_text 72 = .ok (.invokevirtual 282, 3) := by decide +kernel
theorem dX12_text_75 : decode cX12_text 75 = .ok (.ireturn, 1) := by decide +kernel
theorem dX12_text_76 : decode cX12_text 76 = .ok (.aload_n 0, 1) := by decide +kernel
theorem dX12_text_77 : decode cX12_text 77 = .ok (.aload_n 0, 1) := by decide +kernel
theorem dX12_text_78 : decode cX12_text 78 = .ok (.getfield 185, 3) := by decide +kernel
theorem dX12_text_81 : decode cX12_text 81 = .ok (.putfield 273, 3) := by decide +kernel
theorem dX12_text_84 : decode cX12_text 84 = .ok (.aload_n 0, 1) := by decide +kernel
theorem dX12_text_85 : decode cX12_text 85 = .ok (.aload_n 0, 1) := by decide +kernel
theorem dX12_text_86 : decode cX12_text 86 = .ok (.getfield 188, 3) := by decide +kernel
theorem dX12_text_89 : decode cX12_text 89 = .ok (.putfield 40, 3) := by decide +kernel
theorem dX12_text_92 : decode cX12_text 92 = .ok (.iconst (-1), 1) := by decide +kernel
theorem dX12_text_93 : decode cX12_text 93 = .ok (.ireturn, 1) := by decide +kernel
theorem dX12_toldBy_0 : decode cX12_toldBy 0 = .ok (.iconst 0, 1) := by decide +kernel
theorem dX12_toldBy_1 : decode cX12_toldBy 1 = .ok (.istore_n 2, 1) := by decide +kernel
theorem dX12_toldBy_2 : decode cX12_toldBy 2 = .ok (.iconst 0, 1) := by decide +kernel
theorem dX12_toldBy_3 : decode cX12_toldBy 3 = .ok (.istore_n 3, 1) := by decide +kernel
theorem dX12_toldBy_4 : decode cX12_toldBy 4 = .ok (.iload_n 3, 1) := by decide +kernel
theorem dX12_toldBy_5 : decode cX12_toldBy 5 = .ok (.aload_n 0, 1) := by decide +kernel
theorem dX12_toldBy_6 : decode cX12_toldBy 6 = .ok (.getfield 7, 3) := by decide +kernel
theorem dX12_toldBy_9 : decode cX12_toldBy 9 = .ok (.bipush 85, 2) := by decide +kernel
theorem dX12_toldBy_11 : decode cX12_toldBy 11 = .ok (.iaload, 1) := by decide +kernel
theorem dX12_toldBy_12 : decode cX12_toldBy 12 = .ok (.if_icmp .ge 42, 3) := by decide +kernel
theorem dX12_toldBy_15 : decode cX12_toldBy 15 = .ok (.aload_n 0, 1) := by decide +kernel
theorem dX12_toldBy_16 : decode cX12_toldBy 16 = .ok (.getfield 7, 3) := by decide +kernel
theorem dX12_toldBy_19 : decode cX12_toldBy 19 = .ok (.sipush 158, 3) := by decide +kernel
theorem dX12_toldBy_22 : decode cX12_toldBy 22 = .ok (.iconst 2, 1) := by decide +kernel
theorem dX12_toldBy_23 : decode cX12_toldBy 23 = .ok (.iload_n 3, 1) := by decide +kernel
theorem dX12_toldBy_24 : decode cX12_toldBy 24 = .ok (.imul, 1) := by decide +kernel
theorem dX12_toldBy_25 : decode cX12_toldBy 25 = .ok (.iadd, 1) := by decide +kernel
theorem dX12_toldBy_26 : decode cX12_toldBy 26 = .ok (.iaload, 1) := by decide +kernel
theorem dX12_toldBy_27 : decode cX12_toldBy 27 = .ok (.iload_n 1, 1) := by decide +kernel
theorem dX12_toldBy_28 : decode cX12_toldBy 28 = .ok (.if_icmp .ne 20, 3) := by decide +kernel
theorem dX12_toldBy_31 : decode cX12_toldBy 31 = .ok (.iload_n 2, 1) := by decide +kernel
theorem dX12_toldBy_32 : decode cX12_toldBy 32 = .ok (.aload_n 0, 1) := by decide +kernel
theorem dX12_toldBy_33 : decode cX12_toldBy 33 = .ok (.getfield 7, 3) := by decide +kernel
theorem dX12_toldBy_36 : decode cX12_toldBy 36 = .ok (.sipush 158, 3) := by decide +kernel
theorem dX12_toldBy_39 : decode cX12_toldBy 39 = .ok (.iconst 2, 1) := by decide +kernel
theorem dX12_toldBy_40 : decode cX12_toldBy 40 = .ok (.iload_n 3, 1) := by decide +kernel
theorem dX12_toldBy_41 : decode cX12_toldBy 41 = .ok (.imul, 1) := by decide +kernel
theorem dX12_toldBy_42 : decode cX12_toldBy 42 = .ok (.iadd, 1) := by decide +kernel
theorem dX12_toldBy_43 : decode cX12_toldBy 43 = .ok (.iconst 1, 1) := by decide +kernel
theorem dX12_toldBy_44 : decode cX12_toldBy 44 = .ok (.iadd, 1) := by decide +kernel
theorem dX12_toldBy_45 : decode cX12_toldBy 45 = .ok (.iaload, 1) := by decide +kernel
theorem dX12_toldBy_46 : decode cX12_toldBy 46 = .ok (.ior, 1) := by decide +kernel
theorem dX12_toldBy_47 : decode cX12_toldBy 47 = .ok (.istore_n 2, 1) := by decide +kernel
theorem dX12_toldBy_48 : decode cX12_toldBy 48 = .ok (.iinc 3 1, 3) := by decide +kernel
theorem dX12_toldBy_51 : decode cX12_toldBy 51 = .ok (.goto (-47), 3) := by decide +kernel
theorem dX12_toldBy_54 : decode cX12_toldBy 54 = .ok (.iload_n 2, 1) := by decide +kernel
theorem dX12_toldBy_55 : decode cX12_toldBy 55 = .ok (.ireturn, 1) := by decide +kernel
theorem dX12_treaty_0 : decode cX12_treaty 0 = .ok (.iload_n 1, 1) := by decide +kernel
theorem dX12_treaty_1 : decode cX12_treaty 1 = .ok (.iconst 0, 1) := by decide +kernel
theorem dX12_treaty_2 : decode cX12_treaty 2 = .ok (.iconst 1, 1) := by decide +kernel
theorem dX12_treaty_3 : decode cX12_treaty 3 = .ok (.invokestatic 54, 3) := by decide +kernel
theorem dX12_treaty_6 : decode cX12_treaty 6 = .ok (.ifCond .ne 5, 3) := by decide +kernel
theorem dX12_treaty_9 : decode cX12_treaty 9 = .ok (.iconst (-1), 1) := by decide +kernel
theorem dX12_treaty_10 : decode cX12_treaty 10 = .ok (.ireturn, 1) := by decide +kernel
theorem dX12_treaty_11 : decode cX12_treaty 11 = .ok (.aload_n 0, 1) := by decide +kernel
theorem dX12_treaty_12 : decode cX12_treaty 12 = .ok (.iconst 0, 1) := by decide +kernel
theorem dX12_treaty_13 : decode cX12_treaty 13 = .ok (.invokevirtual 379, 3) := by decide +kernel
theorem dX12_treaty_16 : decode cX12_treaty 16 = .ok (.aload_n 0, 1) := by decide +kernel
theorem dX12_treaty_17 : decode cX12_treaty 17 = .ok (.iconst 1, 1) := by decide +kernel
theorem dX12_treaty_18 : decode cX12_treaty 18 = .ok (.invokevirtual 379, 3) := by decide +kernel
theorem dX12_treaty_21 : decode cX12_treaty 21 = .ok (.ior, 1) := by decide +kernel
theorem dX12_treaty_22 : decode cX12_treaty 22 = .ok (.istore_n 2, 1) := by decide +kernel
theorem dX12_treaty_23 : decode cX12_treaty 23 = .ok (.iconst (-1), 1) := by decide +kernel
theorem dX12_treaty_24 : decode cX12_treaty 24 = .ok (.istore_n 3, 1) := by decide +kernel
theorem dX12_treaty_25 : decode cX12_treaty 25 = .ok (.iconst 0, 1) := by decide +kernel
theorem dX12_treaty_26 : decode cX12_treaty 26 = .ok (.istore 4, 2) := by decide +kernel
theorem dX12_treaty_28 : decode cX12_treaty 28 = .ok (.iload 4, 2) := by decide +kernel
theorem dX12_treaty_30 : decode cX12_treaty 30 = .ok (.sipush 256, 3) := by decide +kernel
theorem dX12_treaty_33 : decode cX12_treaty 33 = .ok (.if_icmp .ge 78, 3) := by decide +kernel
theorem dX12_treaty_36 : decode cX12_treaty 36 = .ok (.iload 4, 2) := by decide +kernel
theorem dX12_treaty_38 : decode cX12_treaty 38 = .ok (.iload_n 2, 1) := by decide +kernel
theorem dX12_treaty_39 : decode cX12_treaty 39 = .ok (.iconst (-1), 1) := by decide +kernel
theorem dX12_treaty_40 : decode cX12_treaty 40 = .ok (.ixor, 1) := by decide +kernel
theorem dX12_treaty_41 : decode cX12_treaty 41 = .ok (.iand, 1) := by decide +kernel
theorem dX12_treaty_42 : decode cX12_treaty 42 = .ok (.ifCond .ne 63, 3) := by decide +kernel
theorem dX12_treaty_45 : decode cX12_treaty 45 = .ok (.aload_n 0, 1) := by decide +kernel
theorem dX12_treaty_46 : decode cX12_treaty 46 = .ok (.iload 4, 2) := by decide +kernel
theorem dX12_treaty_48 : decode cX12_treaty 48 = .ok (.invokevirtual 457, 3) := by decide +kernel
theorem dX12_treaty_51 : decode cX12_treaty 51 = .ok (.ifCond .ne 6, 3) := by decide +kernel
theorem dX12_treaty_54 : decode cX12_treaty 54 = .ok (.goto 51, 3) := by decide +kernel
theorem dX12_treaty_57 : decode cX12_treaty 57 = .ok (.iload_n 3, 1) := by decide +kernel
theorem dX12_treaty_58 : decode cX12_treaty 58 = .ok (.iconst (-1), 1) := by decide +kernel
theorem dX12_treaty_59 : decode cX12_treaty 59 = .ok (.if_icmp .ne 7, 3) := by decide +kernel
theorem dX12_treaty_62 : decode cX12_treaty 62 = .ok (.iconst (-1), 1) := by decide +kernel
theorem dX12_treaty_63 : decode cX12_treaty 63 = .ok (.goto 15, 3) := by decide +kernel
theorem dX12_treaty_66 : decode cX12_treaty 66 = .ok (.aload_n 0, 1) := by decide +kernel
theorem dX12_treaty_67 : decode cX12_treaty 67 = .ok (.iload 4, 2) := by decide +kernel
theorem dX12_treaty_69 : decode cX12_treaty 69 = .ok (.invokevirtual 382, 3) := by decide +kernel
theorem dX12_treaty_72 : decode cX12_treaty 72 = .ok (.aload_n 0, 1) := by decide +kernel
theorem dX12_treaty_73 : decode cX12_treaty 73 = .ok (.iload_n 3, 1) := by decide +kernel
theorem dX12_treaty_74 : decode cX12_treaty 74 = .ok (.invokevirtual 382, 3) := by decide +kernel
theorem dX12_treaty_77 : decode cX12_treaty 77 = .ok (.isub, 1) := by decide +kernel
theorem dX12_treaty_78 : decode cX12_treaty 78 = .ok (.istore 5, 2) := by decide +kernel
theorem dX12_treaty_80 : decode cX12_treaty 80 = .ok (.iload 5, 2) := by decide +kernel
theorem dX12_treaty_82 : decode cX12_treaty 82 = .ok (.ifCond .lt 20, 3) := by decide +kernel
theorem dX12_treaty_85 : decode cX12_treaty 85 = .ok (.iload 5, 2) := by decide +kernel
theorem dX12_treaty_87 : decode cX12_treaty 87 = .ok (.ifCond .ne 18, 3) := by decide +kernel
theorem dX12_treaty_90 : decode cX12_treaty 90 = .ok (.iload 4, 2) := by decide +kernel
theorem dX12_treaty_92 : decode cX12_treaty 92 = .ok (.invokestatic 291, 3) := by decide +kernel
theorem dX12_treaty_95 : decode cX12_treaty 95 = .ok (.iload_n 3, 1) := by decide +kernel
theorem dX12_treaty_96 : decode cX12_treaty 96 = .ok (.invokestatic 291, 3) := by decide +kernel
theorem dX12_treaty_99 : decode cX12_treaty 99 = .ok (.if_icmp .ge 6, 3) := by decide +kernel
theorem dX12_treaty_102 : decode cX12_treaty 102 = .ok (.iload 4, 2) := by decide +kernel
theorem dX12_treaty_104 : decode cX12_treaty 104 = .ok (.istore_n 3, 1) := by decide +kernel
theorem dX12_treaty_105 : decode cX12_treaty 105 = .ok (.iinc 4 1, 3) := by decide +kernel
theorem dX12_treaty_108 : decode cX12_treaty 108 = .ok (.goto (-80), 3) := by decide +kernel
theorem dX12_treaty_111 : decode cX12_treaty 111 = .ok (.iload_n 3, 1) := by decide +kernel
theorem dX12_treaty_112 : decode cX12_treaty 112 = .ok (.iconst (-1), 1) := by decide +kernel
theorem dX12_treaty_113 : decode cX12_treaty 113 = .ok (.if_icmp .eq 8, 3) := by decide +kernel
theorem dX12_treaty_116 : decode cX12_treaty 116 = .ok (.iload_n 1, 1) := by decide +kernel
theorem dX12_treaty_117 : decode cX12_treaty 117 = .ok (.iconst 1, 1) := by decide +kernel
theorem dX12_treaty_118 : decode cX12_treaty 118 = .ok (.if_icmp .ne 7, 3) := by decide +kernel
theorem dX12_treaty_121 : decode cX12_treaty 121 = .ok (.iload_n 3, 1) := by decide +kernel
theorem dX12_treaty_122 : decode cX12_treaty 122 = .ok (.goto 8, 3) := by decide +kernel
theorem dX12_treaty_125 : decode cX12_treaty 125 = .ok (.aload_n 0, 1) := by decide +kernel
theorem dX12_treaty_126 : decode cX12_treaty 126 = .ok (.iload_n 3, 1) := by decide +kernel
theorem dX12_treaty_127 : decode cX12_treaty 127 = .ok (.invokevirtual 382, 3) := by decide +kernel
theorem dX12_treaty_130 : decode cX12_treaty 130 = .ok (.ireturn, 1) := by decide +kernel
theorem dX12_turned_0 : decode cX12_turned 0 = .ok (.iconst 0, 1) := by decide +kernel
theorem dX12_turned_1 : decode cX12_turned 1 = .ok (.istore_n 2, 1) := by decide +kernel
theorem dX12_turned_2 : decode cX12_turned 2 = .ok (.iconst 0, 1) := by decide +kernel
theorem dX12_turned_3 : decode cX12_turned 3 = .ok (.istore_n 3, 1) := by decide +kernel
theorem dX12_turned_4 : decode cX12_turned 4 = .ok (.iload_n 3, 1) := by decide +kernel
theorem dX12_turned_5 : decode cX12_turned 5 = .ok (.iload_n 1, 1) := by decide +kernel
theorem dX12_turned_6 : decode cX12_turned 6 = .ok (.if_icmp .ge 23, 3) := by decide +kernel
theorem dX12_turned_9 : decode cX12_turned 9 = .ok (.iload_n 2, 1) := by decide +kernel
theorem dX12_turned_10 : decode cX12_turned 10 = .ok (.iload_n 0, 1) := by decide +kernel
theorem dX12_turned_11 : decode cX12_turned 11 = .ok (.iload_n 1, 1) := by decide +kernel
theorem dX12_turned_12 : decode cX12_turned 12 = .ok (.iconst 1, 1) := by decide +kernel
theorem dX12_turned_13 : decode cX12_turned 13 = .ok (.isub, 1) := by decide +kernel
theorem dX12_turned_14 : decode cX12_turned 14 = .ok (.iload_n 3, 1) := by decide +kernel
theorem dX12_turned_15 : decode cX12_turned 15 = .ok (.isub, 1) := by decide +kernel
theorem dX12_turned_16 : decode cX12_turned 16 = .ok (.ishr, 1) := by decide +kernel
theorem dX12_turned_17 : decode cX12_turned 17 = .ok (.iconst 1, 1) := by decide +kernel
theorem dX12_turned_18 : decode cX12_turned 18 = .ok (.iand, 1) := by decide +kernel
theorem dX12_turned_19 : decode cX12_turned 19 = .ok (.iload_n 3, 1) := by decide +kernel
theorem dX12_turned_20 : decode cX12_turned 20 = .ok (.ishl, 1) := by decide +kernel
theorem dX12_turned_21 : decode cX12_turned 21 = .ok (.ior, 1) := by decide +kernel
theorem dX12_turned_22 : decode cX12_turned 22 = .ok (.istore_n 2, 1) := by decide +kernel
theorem dX12_turned_23 : decode cX12_turned 23 = .ok (.iinc 3 1, 3) := by decide +kernel
theorem dX12_turned_26 : decode cX12_turned 26 = .ok (.goto (-22), 3) := by decide +kernel
theorem dX12_turned_29 : decode cX12_turned 29 = .ok (.iload_n 2, 1) := by decide +kernel
theorem dX12_turned_30 : decode cX12_turned 30 = .ok (.ireturn, 1) := by decide +kernel
theorem dX12_undo_0 : decode cX12_undo 0 = .ok (.aload_n 0, 1) := by decide +kernel
theorem dX12_undo_1 : decode cX12_undo 1 = .ok (.getfield 58, 3) := by decide +kernel
theorem dX12_undo_4 : decode cX12_undo 4 = .ok (.ifCond .ne 5, 3) := by decide +kernel
theorem dX12_undo_7 : decode cX12_undo 7 = .ok (.iconst 0, 1) := by decide +kernel
theorem dX12_undo_8 : decode cX12_undo 8 = .ok (.ireturn, 1) := by decide +kernel
theorem dX12_undo_9 : decode cX12_undo 9 = .ok (.aload_n 0, 1) := by decide +kernel
theorem dX12_undo_10 : decode cX12_undo 10 = .ok (.dup, 1) := by decide +kernel
theorem dX12_undo_11 : decode cX12_undo 11 = .ok (.getfield 58, 3) := by decide +kernel
theorem dX12_undo_14 : decode cX12_undo 14 = .ok (.iconst 1, 1) := by decide +kernel
theorem dX12_undo_15 : decode cX12_undo 15 = .ok (.isub, 1) := by decide +kernel
theorem dX12_undo_16 : decode cX12_undo 16 = .ok (.putfield 58, 3) := by decide +kernel
theorem dX12_undo_19 : decode cX12_undo 19 = .ok (.iconst 0, 1) := by decide +kernel
theorem dX12_undo_20 : decode cX12_undo 20 = .ok (.istore_n 1, 1) := by decide +kernel
theorem dX12_undo_21 : decode cX12_undo 21 = .ok (.iload_n 1, 1) := by decide +kernel
theorem dX12_undo_22 : decode cX12_undo 22 = .ok (.bipush 78, 2) := by decide +kernel
theorem dX12_undo_24 : decode cX12_undo 24 = .ok (.if_icmp .ge 29, 3) := by decide +kernel
theorem dX12_undo_27 : decode cX12_undo 27 = .ok (.aload_n 0, 1) := by decide +kernel
theorem dX12_undo_28 : decode cX12_undo 28 = .ok (.getfield 7, 3) := by decide +kernel
theorem dX12_undo_31 : decode cX12_undo 31 = .ok (.iload_n 1, 1) := by decide +kernel
theorem dX12_undo_32 : decode cX12_undo 32 = .ok (.aload_n 0, 1) := by decide +kernel
theorem dX12_undo_33 : decode cX12_undo 33 = .ok (.getfield 16, 3) := by decide +kernel
theorem dX12_undo_36 : decode cX12_undo 36 = .ok (.bipush 78, 2) := by decide +kernel
theorem dX12_undo_38 : decode cX12_undo 38 = .ok (.aload_n 0, 1) := by decide +kernel
theorem dX12_undo_39 : decode cX12_undo 39 = .ok (.getfield 58, 3) := by decide +kernel
theorem dX12_undo_42 : decode cX12_undo 42 = .ok (.imul, 1) := by decide +kernel
theorem dX12_undo_43 : decode cX12_undo 43 = .ok (.iload_n 1, 1) := by decide +kernel
theorem dX12_undo_44 : decode cX12_undo 44 = .ok (.iadd, 1) := by decide +kernel
theorem dX12_undo_45 : decode cX12_undo 45 = .ok (.iaload, 1) := by decide +kernel
theorem dX12_undo_46 : decode cX12_undo 46 = .ok (.iastore, 1) := by decide +kernel
theorem dX12_undo_47 : decode cX12_undo 47 = .ok (.iinc 1 1, 3) := by decide +kernel
theorem dX12_undo_50 : decode cX12_undo 50 = .ok (.goto (-29), 3) := by decide +kernel
theorem dX12_undo_53 : decode cX12_undo 53 = .ok (.iconst 1, 1) := by decide +kernel
theorem dX12_undo_54 : decode cX12_undo 54 = .ok (.ireturn, 1) := by decide +kernel
theorem dX12_unit_0 : decode cX12_unit 0 = .ok (.aload_n 0, 1) := by decide +kernel
theorem dX12_unit_1 : decode cX12_unit 1 = .ok (.getfield 170, 3) := by decide +kernel
theorem dX12_unit_4 : decode cX12_unit 4 = .ok (.bipush 41, 2) := by decide +kernel
theorem dX12_unit_6 : decode cX12_unit 6 = .ok (.bipush 49, 2) := by decide +kernel
theorem dX12_unit_8 : decode cX12_unit 8 = .ok (.invokestatic 54, 3) := by decide +kernel
theorem dX12_unit_11 : decode cX12_unit 11 = .ok (.istore_n 1, 1) := by decide +kernel
theorem dX12_unit_12 : decode cX12_unit 12 = .ok (.aload_n 0, 1) := by decide +kernel
theorem dX12_unit_13 : decode cX12_unit 13 = .ok (.getfield 170, 3) := by decide +kernel
theorem dX12_unit_16 : decode cX12_unit 16 = .ok (.iconst 2, 1) := by decide +kernel
theorem dX12_unit_17 : decode cX12_unit 17 = .ok (.if_icmp .eq 13, 3) := by decide +kernel
theorem dX12_unit_20 : decode cX12_unit 20 = .ok (.iload_n 1, 1) := by decide +kernel
theorem dX12_unit_21 : decode cX12_unit 21 = .ok (.ifCond .ne 9, 3) := by decide +kernel
theorem dX12_unit_24 : decode cX12_unit 24 = .ok (.aload_n 0, 1) := by decide +kernel
theorem dX12_unit_25 : decode cX12_unit 25 = .ok (.iconst 1, 1) := by decide +kernel
theorem dX12_unit_26 : decode cX12_unit 26 = .ok (.invokevirtual 191, 3) := by decide +kernel
theorem dX12_unit_29 : decode cX12_unit 29 = .ok (.ireturn, 1) := by decide +kernel
theorem dX12_unit_30 : decode cX12_unit 30 = .ok (.aload_n 0, 1) := by decide +kernel
theorem dX12_unit_31 : decode cX12_unit 31 = .ok (.iload_n 1, 1) := by decide +kernel
theorem dX12_unit_32 : decode cX12_unit 32 = .ok (.ifCond .eq 13, 3) := by decide +kernel
theorem dX12_unit_35 : decode cX12_unit 35 = .ok (.aload_n 0, 1) := by decide +kernel
theorem dX12_unit_36 : decode cX12_unit 36 = .ok (.getfield 170, 3) := by decide +kernel
theorem dX12_unit_39 : decode cX12_unit 39 = .ok (.bipush 40, 2) := by decide +kernel
theorem dX12_unit_41 : decode cX12_unit 41 = .ok (.isub, 1) := by decide +kernel
theorem dX12_unit_42 : decode cX12_unit 42 = .ok (.goto 4, 3) := by decide +kernel
theorem dX12_unit_45 : decode cX12_unit 45 = .ok (.iconst 0, 1) := by decide +kernel
theorem dX12_unit_46 : decode cX12_unit 46 = .ok (.aload_n 0, 1) := by decide +kernel
theorem dX12_unit_47 : decode cX12_unit 47 = .ok (.getfield 182, 3) := by decide +kernel
theorem dX12_unit_50 : decode cX12_unit 50 = .ok (.invokevirtual 207, 3) := by decide +kernel
theorem dX12_unit_53 : decode cX12_unit 53 = .ok (.aload_n 0, 1) := by decide +kernel
theorem dX12_unit_54 : decode cX12_unit 54 = .ok (.invokevirtual 194, 3) := by decide +kernel
theorem dX12_unit_57 : decode cX12_unit 57 = .ok (.iconst 1, 1) := by decide +kernel
theorem dX12_unit_58 : decode cX12_unit 58 = .ok (.ireturn, 1) := by decide +kernel
theorem dX12_wages_0 : decode cX12_wages 0 = .ok (.iconst 0, 1) := by decide +kernel
theorem dX12_wages_1 : decode cX12_wages 1 = .ok (.istore_n 1, 1) := by decide +kernel
theorem dX12_wages_2 : decode cX12_wages 2 = .ok (.iload_n 1, 1) := by decide +kernel
theorem dX12_wages_3 : decode cX12_wages 3 = .ok (.iconst 2, 1) := by decide +kernel
theorem dX12_wages_4 : decode cX12_wages 4 = .ok (.if_icmp .ge 31, 3) := by decide +kernel
theorem dX12_wages_7 : decode cX12_wages 7 = .ok (.aload_n 0, 1) := by decide +kernel
theorem dX12_wages_8 : decode cX12_wages 8 = .ok (.iload_n 1, 1) := by decide +kernel
theorem dX12_wages_9 : decode cX12_wages 9 = .ok (.invokevirtual 385, 3) := by decide +kernel
theorem dX12_wages_12 : decode cX12_wages 12 = .ok (.aload_n 0, 1) := by decide +kernel
theorem dX12_wages_13 : decode cX12_wages 13 = .ok (.getfield 7, 3) := by decide +kernel
theorem dX12_wages_16 : decode cX12_wages 16 = .ok (.bipush 82, 2) := by decide +kernel
theorem dX12_wages_18 : decode cX12_wages 18 = .ok (.iload_n 1, 1) := by decide +kernel
theorem dX12_wages_19 : decode cX12_wages 19 = .ok (.iadd, 1) := by decide +kernel
theorem dX12_wages_20 : decode cX12_wages 20 = .ok (.iaload, 1) := by decide +kernel
theorem dX12_wages_21 : decode cX12_wages 21 = .ok (.if_icmp .ge 8, 3) := by decide +kernel
theorem dX12_wages_24 : decode cX12_wages 24 = .ok (.aload_n 0, 1) := by decide +kernel
theorem dX12_wages_25 : decode cX12_wages 25 = .ok (.iload_n 1, 1) := by decide +kernel
theorem dX12_wages_26 : decode cX12_wages 26 = .ok (.invokevirtual 388, 3) := by decide +kernel
theorem dX12_wages_29 : decode cX12_wages 29 = .ok (.iinc 1 1, 3) := by decide +kernel
theorem dX12_wages_32 : decode cX12_wages 32 = .ok (.goto (-30), 3) := by decide +kernel
theorem dX12_wages_35 : decode cX12_wages 35 = .ok (.iconst 0, 1) := by decide +kernel
theorem dX12_wages_36 : decode cX12_wages 36 = .ok (.istore_n 1, 1) := by decide +kernel
theorem dX12_wages_37 : decode cX12_wages 37 = .ok (.iload_n 1, 1) := by decide +kernel
theorem dX12_wages_38 : decode cX12_wages 38 = .ok (.aload_n 0, 1) := by decide +kernel
theorem dX12_wages_39 : decode cX12_wages 39 = .ok (.getfield 7, 3) := by decide +kernel
theorem dX12_wages_42 : decode cX12_wages 42 = .ok (.bipush 78, 2) := by decide +kernel
theorem dX12_wages_44 : decode cX12_wages 44 = .ok (.iaload, 1) := by decide +kernel
theorem dX12_wages_45 : decode cX12_wages 45 = .ok (.if_icmp .ge 14, 3) := by decide +kernel
theorem dX12_wages_48 : decode cX12_wages 48 = .ok (.aload_n 0, 1) := by decide +kernel
theorem dX12_wages_49 : decode cX12_wages 49 = .ok (.iload_n 1, 1) := by decide +kernel
theorem dX12_wages_50 : decode cX12_wages 50 = .ok (.invokevirtual 391, 3) := by decide +kernel
theorem dX12_wages_53 : decode cX12_wages 53 = .ok (.iinc 1 1, 3) := by decide +kernel
theorem dX12_wages_56 : decode cX12_wages 56 = .ok (.goto (-19), 3) := by decide +kernel
theorem dX12_wages_59 : decode cX12_wages 59 = .ok (.iconst 0, 1) := by decide +kernel
theorem dX12_wages_60 : decode cX12_wages 60 = .ok (.istore_n 1, 1) := by decide +kernel
theorem dX12_wages_61 : decode cX12_wages 61 = .ok (.iload_n 1, 1) := by decide +kernel
theorem dX12_wages_62 : decode cX12_wages 62 = .ok (.bipush 16, 2) := by decide +kernel
theorem dX12_wages_64 : decode cX12_wages 64 = .ok (.if_icmp .ge 14, 3) := by decide +kernel
theorem dX12_wages_67 : decode cX12_wages 67 = .ok (.aload_n 0, 1) := by decide +kernel
theorem dX12_wages_68 : decode cX12_wages 68 = .ok (.iload_n 1, 1) := by decide +kernel
theorem dX12_wages_69 : decode cX12_wages 69 = .ok (.invokevirtual 394, 3) := by decide +kernel
theorem dX12_wages_72 : decode cX12_wages 72 = .ok (.iinc 1 1, 3) := by decide +kernel
theorem dX12_wages_75 : decode cX12_wages 75 = .ok (.goto (-14), 3) := by decide +kernel
theorem dX12_wages_78 : decode cX12_wages 78 = .ok (.aload_n 0, 1) := by decide +kernel
theorem dX12_wages_79 : decode cX12_wages 79 = .ok (.iconst 0, 1) := by decide +kernel
theorem dX12_wages_80 : decode cX12_wages 80 = .ok (.invokevirtual 397, 3) := by decide +kernel
theorem dX12_wages_83 : decode cX12_wages 83 = .ok (.ifCond .ne 11, 3) := by decide +kernel
theorem dX12_wages_86 : decode cX12_wages 86 = .ok (.aload_n 0, 1) := by decide +kernel
theorem dX12_wages_87 : decode cX12_wages 87 = .ok (.iconst 1, 1) := by decide +kernel
theorem dX12_wages_88 : decode cX12_wages 88 = .ok (.invokevirtual 397, 3) := by decide +kernel
theorem dX12_wages_91 : decode cX12_wages 91 = .ok (.ifCond .eq 10, 3) := by decide +kernel
theorem dX12_wages_94 : decode cX12_wages 94 = .ok (.aload_n 0, 1) := by decide +kernel
theorem dX12_wages_95 : decode cX12_wages 95 = .ok (.getfield 7, 3) := by decide +kernel
theorem dX12_wages_98 : decode cX12_wages 98 = .ok (.iconst 1, 1) := by decide +kernel
theorem dX12_wages_99 : decode cX12_wages 99 = .ok (.iconst 0, 1) := by decide +kernel
theorem dX12_wages_100 : decode cX12_wages 100 = .ok (.iastore, 1) := by decide +kernel
theorem dX12_wages_101 : decode cX12_wages 101 = .ok (.return_, 1) := by decide +kernel
theorem dX12_weighWord_0 : decode cX12_weighWord 0 = .ok (.aload_n 0, 1) := by decide +kernel
theorem dX12_weighWord_1 : decode cX12_weighWord 1 = .ok (.ldc 141, 2) := by decide +kernel
theorem dX12_weighWord_3 : decode cX12_weighWord 3 = .ok (.invokevirtual 101, 3) := by decide +kernel
theorem dX12_weighWord_6 : decode cX12_weighWord 6 = .ok (.ifCond .eq 6, 3) := by decide +kernel
theorem dX12_weighWord_9 : decode cX12_weighWord 9 = .ok (.bipush 8, 2) := by decide +kernel
theorem dX12_weighWord_11 : decode cX12_weighWord 11 = .ok (.ireturn, 1) := by decide +kernel
theorem dX12_weighWord_12 : decode cX12_weighWord 12 = .ok (.aload_n 0, 1) := by decide +kernel
theorem dX12_weighWord_13 : decode cX12_weighWord 13 = .ok (.ldc 143, 2) := by decide +kernel
theorem dX12_weighWord_15 : decode cX12_weighWord 15 = .ok (.invokevirtual 101, 3) := by decide +kernel
theorem dX12_weighWord_18 : decode cX12_weighWord 18 = .ok (.ifCond .eq 8, 3) := by decide +kernel
theorem dX12_weighWord_21 : decode cX12_weighWord 21 = .ok (.bipush 9, 2) := by decide +kernel
theorem dX12_weighWord_23 : decode cX12_weighWord 23 = .ok (.goto 4, 3) := by decide +kernel
theorem dX12_weighWord_26 : decode cX12_weighWord 26 = .ok (.iconst 1, 1) := by decide +kernel
theorem dX12_weighWord_27 : decode cX12_weighWord 27 = .ok (.ireturn, 1) := by decide +kernel
theorem dX12_weight_0 : decode cX12_weight 0 = .ok (.iload_n 1, 1) := by decide +kernel
theorem dX12_weight_1 : decode cX12_weight 1 = .ok (.iconst 0, 1) := by decide +kernel
theorem dX12_weight_2 : decode cX12_weight 2 = .ok (.bipush 7, 2) := by decide +kernel
theorem dX12_weight_4 : decode cX12_weight 4 = .ok (.invokestatic 54, 3) := by decide +kernel
theorem dX12_weight_7 : decode cX12_weight 7 = .ok (.ifCond .eq 11, 3) := by decide +kernel
theorem dX12_weight_10 : decode cX12_weight 10 = .ok (.aload_n 0, 1) := by decide +kernel
theorem dX12_weight_11 : decode cX12_weight 11 = .ok (.iload_n 1, 1) := by decide +kernel
theorem dX12_weight_12 : decode cX12_weight 12 = .ok (.invokevirtual 310, 3) := by decide +kernel
theorem dX12_weight_15 : decode cX12_weight 15 = .ok (.goto 4, 3) := by decide +kernel
theorem dX12_weight_18 : decode cX12_weight 18 = .ok (.iconst (-1), 1) := by decide +kernel
theorem dX12_weight_19 : decode cX12_weight 19 = .ok (.ireturn, 1) := by decide +kernel
theorem dX12_weightOf_0 : decode cX12_weightOf 0 = .ok (.iconst 1, 1) := by decide +kernel
theorem dX12_weightOf_1 : decode cX12_weightOf 1 = .ok (.istore_n 2, 1) := by decide +kernel
theorem dX12_weightOf_2 : decode cX12_weightOf 2 = .ok (.iconst 0, 1) := by decide +kernel
theorem dX12_weightOf_3 : decode cX12_weightOf 3 = .ok (.istore_n 3, 1) := by decide +kernel
theorem dX12_weightOf_4 : decode cX12_weightOf 4 = .ok (.iload_n 3, 1) := by decide +kernel
theorem dX12_weightOf_5 : decode cX12_weightOf 5 = .ok (.aload_n 0, 1) := by decide +kernel
theorem dX12_weightOf_6 : decode cX12_weightOf 6 = .ok (.getfield 7, 3) := by decide +kernel
theorem dX12_weightOf_9 : decode cX12_weightOf 9 = .ok (.bipush 86, 2) := by decide +kernel
theorem dX12_weightOf_11 : decode cX12_weightOf 11 = .ok (.iaload, 1) := by decide +kernel
theorem dX12_weightOf_12 : decode cX12_weightOf 12 = .ok (.if_icmp .ge 40, 3) := by decide +kernel
theorem dX12_weightOf_15 : decode cX12_weightOf 15 = .ok (.aload_n 0, 1) := by decide +kernel
theorem dX12_weightOf_16 : decode cX12_weightOf 16 = .ok (.getfield 7, 3) := by decide +kernel
theorem dX12_weightOf_19 : decode cX12_weightOf 19 = .ok (.sipush 190, 3) := by decide +kernel
theorem dX12_weightOf_22 : decode cX12_weightOf 22 = .ok (.iconst 2, 1) := by decide +kernel
theorem dX12_weightOf_23 : decode cX12_weightOf 23 = .ok (.iload_n 3, 1) := by decide +kernel
theorem dX12_weightOf_24 : decode cX12_weightOf 24 = .ok (.imul, 1) := by decide +kernel
theorem dX12_weightOf_25 : decode cX12_weightOf 25 = .ok (.iadd, 1) := by decide +kernel
theorem dX12_weightOf_26 : decode cX12_weightOf 26 = .ok (.iaload, 1) := by decide +kernel
theorem dX12_weightOf_27 : decode cX12_weightOf 27 = .ok (.iload_n 1, 1) := by decide +kernel
theorem dX12_weightOf_28 : decode cX12_weightOf 28 = .ok (.if_icmp .ne 18, 3) := by decide +kernel
theorem dX12_weightOf_31 : decode cX12_weightOf 31 = .ok (.aload_n 0, 1) := by decide +kernel
theorem dX12_weightOf_32 : decode cX12_weightOf 32 = .ok (.getfield 7, 3) := by decide +kernel
theorem dX12_weightOf_35 : decode cX12_weightOf 35 = .ok (.sipush 190, 3) := by decide +kernel
theorem dX12_weightOf_38 : decode cX12_weightOf 38 = .ok (.iconst 2, 1) := by decide +kernel
theorem dX12_weightOf_39 : decode cX12_weightOf 39 = .ok (.iload_n 3, 1) := by decide +kernel
theorem dX12_weightOf_40 : decode cX12_weightOf 40 = .ok (.imul, 1) := by decide +kernel
theorem dX12_weightOf_41 : decode cX12_weightOf 41 = .ok (.iadd, 1) := by decide +kernel
theorem dX12_weightOf_42 : decode cX12_weightOf 42 = .ok (.iconst 1, 1) := by decide +kernel
theorem dX12_weightOf_43 : decode cX12_weightOf 43 = .ok (.iadd, 1) := by decide +kernel
theorem dX12_weightOf_44 : decode cX12_weightOf 44 = .ok (.iaload, 1) := by decide +kernel
theorem dX12_weightOf_45 : decode cX12_weightOf 45 = .ok (.istore_n 2, 1) := by decide +kernel
theorem dX12_weightOf_46 : decode cX12_weightOf 46 = .ok (.iinc 3 1, 3) := by decide +kernel
theorem dX12_weightOf_49 : decode cX12_weightOf 49 = .ok (.goto (-45), 3) := by decide +kernel
theorem dX12_weightOf_52 : decode cX12_weightOf 52 = .ok (.iload_n 2, 1) := by decide +kernel
theorem dX12_weightOf_53 : decode cX12_weightOf 53 = .ok (.ireturn, 1) := by decide +kernel
theorem dX12_weightOfSet_0 : decode cX12_weightOfSet 0 = .ok (.iconst 0, 1) := by decide +kernel
theorem dX12_weightOfSet_1 : decode cX12_weightOfSet 1 = .ok (.istore_n 2, 1) := by decide +kernel
theorem dX12_weightOfSet_2 : decode cX12_weightOfSet 2 = .ok (.iconst 0, 1) := by decide +kernel
theorem dX12_weightOfSet_3 : decode cX12_weightOfSet 3 = .ok (.istore_n 3, 1) := by decide +kernel
theorem dX12_weightOfSet_4 : decode cX12_weightOfSet 4 = .ok (.iload_n 3, 1) := by decide +kernel
theorem dX12_weightOfSet_5 : decode cX12_weightOfSet 5 = .ok (.bipush 8, 2) := by decide +kernel
theorem dX12_weightOfSet_7 : decode cX12_weightOfSet 7 = .ok (.if_icmp .ge 30, 3) := by decide +kernel
theorem dX12_weightOfSet_10 : decode cX12_weightOfSet 10 = .ok (.iload_n 2, 1) := by decide +kernel
theorem dX12_weightOfSet_11 : decode cX12_weightOfSet 11 = .ok (.iload_n 1, 1) := by decide +kernel
theorem dX12_weightOfSet_12 : decode cX12_weightOfSet 12 = .ok (.iload_n 3, 1) := by decide +kernel
theorem dX12_weightOfSet_13 : decode cX12_weightOfSet 13 = .ok (.ishr, 1) := by decide +kernel
theorem dX12_weightOfSet_14 : decode cX12_weightOfSet 14 = .ok (.iconst 1, 1) := by decide +kernel
theorem dX12_weightOfSet_15 : decode cX12_weightOfSet 15 = .ok (.iand, 1) := by decide +kernel
theorem dX12_weightOfSet_16 : decode cX12_weightOfSet 16 = .ok (.iconst 1, 1) := by decide +kernel
theorem dX12_weightOfSet_17 : decode cX12_weightOfSet 17 = .ok (.if_icmp .ne 11, 3) := by decide +kernel
theorem dX12_weightOfSet_20 : decode cX12_weightOfSet 20 = .ok (.aload_n 0, 1) := by decide +kernel
theorem dX12_weightOfSet_21 : decode cX12_weightOfSet 21 = .ok (.iload_n 3, 1) := by decide +kernel
theorem dX12_weightOfSet_22 : decode cX12_weightOfSet 22 = .ok (.invokevirtual 310, 3) := by decide +kernel
theorem dX12_weightOfSet_25 : decode cX12_weightOfSet 25 = .ok (.goto 4, 3) := by decide +kernel
theorem dX12_weightOfSet_28 : decode cX12_weightOfSet 28 = .ok (.iconst 0, 1) := by decide +kernel
theorem dX12_weightOfSet_29 : decode cX12_weightOfSet 29 = .ok (.iadd, 1) := by decide +kernel
theorem dX12_weightOfSet_30 : decode cX12_weightOfSet 30 = .ok (.istore_n 2, 1) := by decide +kernel
theorem dX12_weightOfSet_31 : decode cX12_weightOfSet 31 = .ok (.iinc 3 1, 3) := by decide +kernel
theorem dX12_weightOfSet_34 : decode cX12_weightOfSet 34 = .ok (.goto (-30), 3) := by decide +kernel
theorem dX12_weightOfSet_37 : decode cX12_weightOfSet 37 = .ok (.iload_n 2, 1) := by decide +kernel
theorem dX12_weightOfSet_38 : decode cX12_weightOfSet 38 = .ok (.ireturn, 1) := by decide +kernel
theorem dX12_word_0 : decode cX12_word 0 = .ok (.aload_n 0, 1) := by decide +kernel
theorem dX12_word_1 : decode cX12_word 1 = .ok (.getfield 151, 3) := by decide +kernel
theorem dX12_word_4 : decode cX12_word 4 = .ok (.tableswitch 43 0 2 #[28, 33, 38], 28) := by decide +kernel
theorem dX12_word_32 : decode cX12_word 32 = .ok (.aload_n 0, 1) := by decide +kernel
theorem dX12_word_33 : decode cX12_word 33 = .ok (.invokevirtual 154, 3) := by decide +kernel
theorem dX12_word_36 : decode cX12_word 36 = .ok (.ireturn, 1) := by decide +kernel
theorem dX12_word_37 : decode cX12_word 37 = .ok (.aload_n 0, 1) := by decide +kernel
theorem dX12_word_38 : decode cX12_word 38 = .ok (.invokevirtual 157, 3) := by decide +kernel
theorem dX12_word_41 : decode cX12_word 41 = .ok (.ireturn, 1) := by decide +kernel
theorem dX12_word_42 : decode cX12_word 42 = .ok (.aload_n 0, 1) := by decide +kernel
theorem dX12_word_43 : decode cX12_word 43 = .ok (.invokevirtual 160, 3) := by decide +kernel
theorem dX12_word_46 : decode cX12_word 46 = .ok (.ireturn, 1) := by decide +kernel
theorem dX12_word_47 : decode cX12_word 47 = .ok (.aload_n 0, 1) := by decide +kernel
theorem dX12_word_48 : decode cX12_word 48 = .ok (.invokevirtual 163, 3) := by decide +kernel
theorem dX12_word_51 : decode cX12_word 51 = .ok (.ireturn, 1) := by decide +kernel
theorem dX12_youngestAt_0 : decode cX12_youngestAt 0 = .ok (.iconst (-1), 1) := by decide +kernel
theorem dX12_youngestAt_1 : decode cX12_youngestAt 1 = .ok (.istore_n 3, 1) := by decide +kernel
theorem dX12_youngestAt_2 : decode cX12_youngestAt 2 = .ok (.iconst 0, 1) := by decide +kernel
theorem dX12_youngestAt_3 : decode cX12_youngestAt 3 = .ok (.istore 4, 2) := by decide +kernel
theorem dX12_youngestAt_5 : decode cX12_youngestAt 5 = .ok (.iload 4, 2) := by decide +kernel
theorem dX12_youngestAt_7 : decode cX12_youngestAt 7 = .ok (.aload_n 0, 1) := by decide +kernel
theorem dX12_youngestAt_8 : decode cX12_youngestAt 8 = .ok (.getfield 7, 3) := by decide +kernel
theorem dX12_youngestAt_11 : decode cX12_youngestAt 11 = .ok (.bipush 78, 2) := by decide +kernel
theorem dX12_youngestAt_13 : decode cX12_youngestAt 13 = .ok (.iaload, 1) := by decide +kernel
theorem dX12_youngestAt_14 : decode cX12_youngestAt 14 = .ok (.if_icmp .ge 64, 3) := by decide +kernel
theorem dX12_youngestAt_17 : decode cX12_youngestAt 17 = .ok (.aload_n 0, 1) := by decide +kernel
theorem dX12_youngestAt_18 : decode cX12_youngestAt 18 = .ok (.iload 4, 2) := by decide +kernel
theorem dX12_youngestAt_20 : decode cX12_youngestAt 20 = .ok (.iload_n 1, 1) := by decide +kernel
theorem dX12_youngestAt_21 : decode cX12_youngestAt 21 = .ok (.iconst 1, 1) := by decide +kernel
theorem dX12_youngestAt_22 : decode cX12_youngestAt 22 = .ok (.invokevirtual 320, 3) := by decide +kernel
theorem dX12_youngestAt_25 : decode cX12_youngestAt 25 = .ok (.ifCond .eq 47, 3) := by decide +kernel
theorem dX12_youngestAt_28 : decode cX12_youngestAt 28 = .ok (.aload_n 0, 1) := by decide +kernel
theorem dX12_youngestAt_29 : decode cX12_youngestAt 29 = .ok (.getfield 7, 3) := by decide +kernel
theorem dX12_youngestAt_32 : decode cX12_youngestAt 32 = .ok (.bipush 52, 2) := by decide +kernel
theorem dX12_youngestAt_34 : decode cX12_youngestAt 34 = .ok (.iload 4, 2) := by decide +kernel
theorem dX12_youngestAt_36 : decode cX12_youngestAt 36 = .ok (.iadd, 1) := by decide +kernel
theorem dX12_youngestAt_37 : decode cX12_youngestAt 37 = .ok (.iaload, 1) := by decide +kernel
theorem dX12_youngestAt_38 : decode cX12_youngestAt 38 = .ok (.iload_n 2, 1) := by decide +kernel
theorem dX12_youngestAt_39 : decode cX12_youngestAt 39 = .ok (.if_icmp .ne 33, 3) := by decide +kernel
theorem dX12_youngestAt_42 : decode cX12_youngestAt 42 = .ok (.iload_n 3, 1) := by decide +kernel
theorem dX12_youngestAt_43 : decode cX12_youngestAt 43 = .ok (.iconst (-1), 1) := by decide +kernel
theorem dX12_youngestAt_44 : decode cX12_youngestAt 44 = .ok (.if_icmp .eq 25, 3) := by decide +kernel
theorem dX12_youngestAt_47 : decode cX12_youngestAt 47 = .ok (.aload_n 0, 1) := by decide +kernel
theorem dX12_youngestAt_48 : decode cX12_youngestAt 48 = .ok (.getfield 7, 3) := by decide +kernel
theorem dX12_youngestAt_51 : decode cX12_youngestAt 51 = .ok (.bipush 102, 2) := by decide +kernel
theorem dX12_youngestAt_53 : decode cX12_youngestAt 53 = .ok (.iload 4, 2) := by decide +kernel
theorem dX12_youngestAt_55 : decode cX12_youngestAt 55 = .ok (.iadd, 1) := by decide +kernel
theorem dX12_youngestAt_56 : decode cX12_youngestAt 56 = .ok (.iaload, 1) := by decide +kernel
theorem dX12_youngestAt_57 : decode cX12_youngestAt 57 = .ok (.aload_n 0, 1) := by decide +kernel
theorem dX12_youngestAt_58 : decode cX12_youngestAt 58 = .ok (.getfield 7, 3) := by decide +kernel
theorem dX12_youngestAt_61 : decode cX12_youngestAt 61 = .ok (.bipush 102, 2) := by decide +kernel
theorem dX12_youngestAt_63 : decode cX12_youngestAt 63 = .ok (.iload_n 3, 1) := by decide +kernel
theorem dX12_youngestAt_64 : decode cX12_youngestAt 64 = .ok (.iadd, 1) := by decide +kernel
theorem dX12_youngestAt_65 : decode cX12_youngestAt 65 = .ok (.iaload, 1) := by decide +kernel
theorem dX12_youngestAt_66 : decode cX12_youngestAt 66 = .ok (.if_icmp .ge 6, 3) := by decide +kernel
theorem dX12_youngestAt_69 : decode cX12_youngestAt 69 = .ok (.iload 4, 2) := by decide +kernel
theorem dX12_youngestAt_71 : decode cX12_youngestAt 71 = .ok (.istore_n 3, 1) := by decide +kernel
theorem dX12_youngestAt_72 : decode cX12_youngestAt 72 = .ok (.iinc 4 1, 3) := by decide +kernel
theorem dX12_youngestAt_75 : decode cX12_youngestAt 75 = .ok (.goto (-70), 3) := by decide +kernel
theorem dX12_youngestAt_78 : decode cX12_youngestAt 78 = .ok (.iload_n 3, 1) := by decide +kernel
theorem dX12_youngestAt_79 : decode cX12_youngestAt 79 = .ok (.ireturn, 1) := by decide +kernel
theorem dX1_become_0 : decode cX1_become 0 = .ok (.aload_n 1, 1) := by decide +kernel
theorem dX1_become_1 : decode cX1_become 1 = .ok (.getfield 11, 3) := by decide +kernel
theorem dX1_become_4 : decode cX1_become 4 = .ok (.aload_n 0, 1) := by decide +kernel
theorem dX1_become_5 : decode cX1_become 5 = .ok (.getfield 11, 3) := by decide +kernel
theorem dX1_become_8 : decode cX1_become 8 = .ok (.invokestatic 15, 3) := by decide +kernel
theorem dX1_become_11 : decode cX1_become 11 = .ok (.return_, 1) := by decide +kernel
theorem dX1_init_0 : decode cX1_init 0 = .ok (.aload_n 0, 1) := by decide +kernel
theorem dX1_init_1 : decode cX1_init 1 = .ok (.invokespecial 3, 3) := by decide +kernel
theorem dX1_init_4 : decode cX1_init 4 = .ok (.aload_n 0, 1) := by decide +kernel
theorem dX1_init_5 : decode cX1_init 5 = .ok (.sipush 600, 3) := by decide +kernel
theorem dX1_init_8 : decode cX1_init 8 = .ok (.newarray .int, 2) := by decide +kernel
theorem dX1_init_10 : decode cX1_init 10 = .ok (.putfield 11, 3) := by decide +kernel
theorem dX1_init_13 : decode cX1_init 13 = .ok (.return_, 1) := by decide +kernel
theorem dX1_part_0 : decode cX1_part 0 = .ok (.iload_n 1, 1) := by decide +kernel
theorem dX1_part_1 : decode cX1_part 1 = .ok (.ifCond .lt 23, 3) := by decide +kernel
theorem dX1_part_4 : decode cX1_part 4 = .ok (.iload_n 1, 1) := by decide +kernel
theorem dX1_part_5 : decode cX1_part 5 = .ok (.sipush 150, 3) := by decide +kernel
theorem dX1_part_8 : decode cX1_part 8 = .ok (.if_icmp .ge 16, 3) := by decide +kernel
theorem dX1_part_11 : decode cX1_part 11 = .ok (.iload_n 2, 1) := by decide +kernel
theorem dX1_part_12 : decode cX1_part 12 = .ok (.ifCond .lt 12, 3) := by decide +kernel
theorem dX1_part_15 : decode cX1_part 15 = .ok (.iload_n 2, 1) := by decide +kernel
theorem dX1_part_16 : decode cX1_part 16 = .ok (.iconst 4, 1) := by decide +kernel
theorem dX1_part_17 : decode cX1_part 17 = .ok (.if_icmp .ge 7, 3) := by decide +kernel
theorem dX1_part_20 : decode cX1_part 20 = .ok (.iconst 1, 1) := by decide +kernel
theorem dX1_part_21 : decode cX1_part 21 = .ok (.goto 4, 3) := by decide +kernel
theorem dX1_part_24 : decode cX1_part 24 = .ok (.iconst 0, 1) := by decide +kernel
theorem dX1_part_25 : decode cX1_part 25 = .ok (.istore_n 3, 1) := by decide +kernel
theorem dX1_part_26 : decode cX1_part 26 = .ok (.iload_n 3, 1) := by decide +kernel
theorem dX1_part_27 : decode cX1_part 27 = .ok (.ifCond .eq 16, 3) := by decide +kernel
theorem dX1_part_30 : decode cX1_part 30 = .ok (.aload_n 0, 1) := by decide +kernel
theorem dX1_part_31 : decode cX1_part 31 = .ok (.getfield 11, 3) := by decide +kernel
theorem dX1_part_34 : decode cX1_part 34 = .ok (.iload_n 1, 1) := by decide +kernel
theorem dX1_part_35 : decode cX1_part 35 = .ok (.iconst 4, 1) := by decide +kernel
theorem dX1_part_36 : decode cX1_part 36 = .ok (.imul, 1) := by decide +kernel
theorem dX1_part_37 : decode cX1_part 37 = .ok (.iload_n 2, 1) := by decide +kernel
theorem dX1_part_38 : decode cX1_part 38 = .ok (.iadd, 1) := by decide +kernel
theorem dX1_part_39 : decode cX1_part 39 = .ok (.iaload, 1) := by decide +kernel
theorem dX1_part_40 : decode cX1_part 40 = .ok (.goto 4, 3) := by decide +kernel
theorem dX1_part_43 : decode cX1_part 43 = .ok (.iconst (-1), 1) := by decide +kernel
theorem dX1_part_44 : decode cX1_part 44 = .ok (.ireturn, 1) := by decide +kernel
theorem dX1_write_0 : decode cX1_write 0 = .ok (.iload_n 1, 1) := by decide +kernel
theorem dX1_write_1 : decode cX1_write 1 = .ok (.ifCond .lt 54, 3) := by decide +kernel
theorem dX1_write_4 : decode cX1_write 4 = .ok (.iload_n 1, 1) := by decide +kernel
theorem dX1_write_5 : decode cX1_write 5 = .ok (.sipush 150, 3) := by decide +kernel
theorem dX1_write_8 : decode cX1_write 8 = .ok (.if_icmp .ge 47, 3) := by decide +kernel
theorem dX1_write_11 : decode cX1_write 11 = .ok (.aload_n 0, 1) := by decide +kernel
theorem dX1_write_12 : decode cX1_write 12 = .ok (.getfield 11, 3) := by decide +kernel
theorem dX1_write_15 : decode cX1_write 15 = .ok (.iload_n 1, 1) := by decide +kernel
theorem dX1_write_16 : decode cX1_write 16 = .ok (.iconst 4, 1) := by decide +kernel
theorem dX1_write_17 : decode cX1_write 17 = .ok (.imul, 1) := by decide +kernel
theorem dX1_write_18 : decode cX1_write 18 = .ok (.iload_n 2, 1) := by decide +kernel
theorem dX1_write_19 : decode cX1_write 19 = .ok (.iastore, 1) := by decide +kernel
theorem dX1_write_20 : decode cX1_write 20 = .ok (.aload_n 0, 1) := by decide +kernel
theorem dX1_write_21 : decode cX1_write 21 = .ok (.getfield 11, 3) := by decide +kernel
theorem dX1_write_24 : decode cX1_write 24 = .ok (.iload_n 1, 1) := by decide +kernel
theorem dX1_write_25 : decode cX1_write 25 = .ok (.iconst 4, 1) := by decide +kernel
theorem dX1_write_26 : decode cX1_write 26 = .ok (.imul, 1) := by decide +kernel
theorem dX1_write_27 : decode cX1_write 27 = .ok (.iconst 1, 1) := by decide +kernel
theorem dX1_write_28 : decode cX1_write 28 = .ok (.iadd, 1) := by decide +kernel
theorem dX1_write_29 : decode cX1_write 29 = .ok (.iload_n 3, 1) := by decide +kernel
theorem dX1_write_30 : decode cX1_write 30 = .ok (.iastore, 1) := by decide +kernel
theorem dX1_write_31 : decode cX1_write 31 = .ok (.aload_n 0, 1) := by decide +kernel
theorem dX1_write_32 : decode cX1_write 32 = .ok (.getfield 11, 3) := by decide +kernel
theorem dX1_write_35 : decode cX1_write 35 = .ok (.iload_n 1, 1) := by decide +kernel
theorem dX1_write_36 : decode cX1_write 36 = .ok (.iconst 4, 1) := by decide +kernel
theorem dX1_write_37 : decode cX1_write 37 = .ok (.imul, 1) := by decide +kernel
theorem dX1_write_38 : decode cX1_write 38 = .ok (.iconst 2, 1) := by decide +kernel
theorem dX1_write_39 : decode cX1_write 39 = .ok (.iadd, 1) := by decide +kernel
theorem dX1_write_40 : decode cX1_write 40 = .ok (.iload 4, 2) := by decide +kernel
theorem dX1_write_42 : decode cX1_write 42 = .ok (.iastore, 1) := by decide +kernel
theorem dX1_write_43 : decode cX1_write 43 = .ok (.aload_n 0, 1) := by decide +kernel
theorem dX1_write_44 : decode cX1_write 44 = .ok (.getfield 11, 3) := by decide +kernel
theorem dX1_write_47 : decode cX1_write 47 = .ok (.iload_n 1, 1) := by decide +kernel
theorem dX1_write_48 : decode cX1_write 48 = .ok (.iconst 4, 1) := by decide +kernel
theorem dX1_write_49 : decode cX1_write 49 = .ok (.imul, 1) := by decide +kernel
theorem dX1_write_50 : decode cX1_write 50 = .ok (.iconst 3, 1) := by decide +kernel
theorem dX1_write_51 : decode cX1_write 51 = .ok (.iadd, 1) := by decide +kernel
theorem dX1_write_52 : decode cX1_write 52 = .ok (.iload 5, 2) := by decide +kernel
theorem dX1_write_54 : decode cX1_write 54 = .ok (.iastore, 1) := by decide +kernel
theorem dX1_write_55 : decode cX1_write 55 = .ok (.return_, 1) := by decide +kernel
theorem dX2_answer_0 : decode cX2_answer 0 = .ok (.iload_n 1, 1) := by decide +kernel
theorem dX2_answer_1 : decode cX2_answer 1 = .ok (.ifCond .eq 11, 3) := by decide +kernel
theorem dX2_answer_4 : decode cX2_answer 4 = .ok (.aload_n 0, 1) := by decide +kernel
theorem dX2_answer_5 : decode cX2_answer 5 = .ok (.getfield 49, 3) := by decide +kernel
theorem dX2_answer_8 : decode cX2_answer 8 = .ok (.iconst (-1), 1) := by decide +kernel
theorem dX2_answer_9 : decode cX2_answer 9 = .ok (.if_icmp .ne 10, 3) := by decide +kernel
theorem dX2_answer_12 : decode cX2_answer 12 = .ok (.aload_n 0, 1) := by decide +kernel
theorem dX2_answer_13 : decode cX2_answer 13 = .ok (.getfield 49, 3) := by decide +kernel
theorem dX2_answer_16 : decode cX2_answer 16 = .ok (.goto 7, 3) := by decide +kernel
theorem dX2_answer_19 : decode cX2_answer 19 = .ok (.aload_n 0, 1) := by decide +kernel
theorem dX2_answer_20 : decode cX2_answer 20 = .ok (.getfield 52, 3) := by decide +kernel
theorem dX2_answer_23 : decode cX2_answer 23 = .ok (.ireturn, 1) := by decide +kernel
theorem dX2_chooseAge_0 : decode cX2_chooseAge 0 = .ok (.aload_n 0, 1) := by decide +kernel
theorem dX2_chooseAge_1 : decode cX2_chooseAge 1 = .ok (.iconst (-1), 1) := by decide +kernel
theorem dX2_chooseAge_2 : decode cX2_chooseAge 2 = .ok (.putfield 49, 3) := by decide +kernel
theorem dX2_chooseAge_5 : decode cX2_chooseAge 5 = .ok (.aload_n 0, 1) := by decide +kernel
theorem dX2_chooseAge_6 : decode cX2_chooseAge 6 = .ok (.bipush 100, 2) := by decide +kernel
theorem dX2_chooseAge_8 : decode cX2_chooseAge 8 = .ok (.putfield 52, 3) := by decide +kernel
theorem dX2_chooseAge_11 : decode cX2_chooseAge 11 = .ok (.bipush 120, 2) := by decide +kernel
theorem dX2_chooseAge_13 : decode cX2_chooseAge 13 = .ok (.istore_n 1, 1) := by decide +kernel
theorem dX2_chooseAge_14 : decode cX2_chooseAge 14 = .ok (.iload_n 1, 1) := by decide +kernel
theorem dX2_chooseAge_15 : decode cX2_chooseAge 15 = .ok (.ifCond .lt 29, 3) := by decide +kernel
theorem dX2_chooseAge_18 : decode cX2_chooseAge 18 = .ok (.aload_n 0, 1) := by decide +kernel
theorem dX2_chooseAge_19 : decode cX2_chooseAge 19 = .ok (.iload_n 1, 1) := by decide +kernel
theorem dX2_chooseAge_20 : decode cX2_chooseAge 20 = .ok (.invokevirtual 34, 3) := by decide +kernel
theorem dX2_chooseAge_23 : decode cX2_chooseAge 23 = .ok (.aload_n 0, 1) := by decide +kernel
theorem dX2_chooseAge_24 : decode cX2_chooseAge 24 = .ok (.iload_n 1, 1) := by decide +kernel
theorem dX2_chooseAge_25 : decode cX2_chooseAge 25 = .ok (.aload_n 0, 1) := by decide +kernel
theorem dX2_chooseAge_26 : decode cX2_chooseAge 26 = .ok (.aload_n 0, 1) := by decide +kernel
theorem dX2_chooseAge_27 : decode cX2_chooseAge 27 = .ok (.getfield 52, 3) := by decide +kernel
theorem dX2_chooseAge_30 : decode cX2_chooseAge 30 = .ok (.iconst 1, 1) := by decide +kernel
theorem dX2_chooseAge_31 : decode cX2_chooseAge 31 = .ok (.isub, 1) := by decide +kernel
theorem dX2_chooseAge_32 : decode cX2_chooseAge 32 = .ok (.invokevirtual 38, 3) := by decide +kernel
theorem dX2_chooseAge_35 : decode cX2_chooseAge 35 = .ok (.invokevirtual 73, 3) := by decide +kernel
theorem dX2_chooseAge_38 : decode cX2_chooseAge 38 = .ok (.iinc 1 (-10), 3) := by decide +kernel
theorem dX2_chooseAge_41 : decode cX2_chooseAge 41 = .ok (.goto (-27), 3) := by decide +kernel
theorem dX2_chooseAge_44 : decode cX2_chooseAge 44 = .ok (.return_, 1) := by decide +kernel
theorem dX2_chooseMan_0 : decode cX2_chooseMan 0 = .ok (.aload_n 0, 1) := by decide +kernel
theorem dX2_chooseMan_1 : decode cX2_chooseMan 1 = .ok (.iconst (-1), 1) := by decide +kernel
theorem dX2_chooseMan_2 : decode cX2_chooseMan 2 = .ok (.putfield 49, 3) := by decide +kernel
theorem dX2_chooseMan_5 : decode cX2_chooseMan 5 = .ok (.aload_n 0, 1) := by decide +kernel
theorem dX2_chooseMan_6 : decode cX2_chooseMan 6 = .ok (.bipush 100, 2) := by decide +kernel
theorem dX2_chooseMan_8 : decode cX2_chooseMan 8 = .ok (.putfield 52, 3) := by decide +kernel
theorem dX2_chooseMan_11 : decode cX2_chooseMan 11 = .ok (.iconst 0, 1) := by decide +kernel
theorem dX2_chooseMan_12 : decode cX2_chooseMan 12 = .ok (.istore_n 2, 1) := by decide +kernel
theorem dX2_chooseMan_13 : decode cX2_chooseMan 13 = .ok (.iload_n 2, 1) := by decide +kernel
theorem dX2_chooseMan_14 : decode cX2_chooseMan 14 = .ok (.bipush 12, 2) := by decide +kernel
theorem dX2_chooseMan_16 : decode cX2_chooseMan 16 = .ok (.if_icmp .ge 91, 3) := by decide +kernel
theorem dX2_chooseMan_19 : decode cX2_chooseMan 19 = .ok (.iload_n 2, 1) := by decide +kernel
theorem dX2_chooseMan_20 : decode cX2_chooseMan 20 = .ok (.aload_n 0, 1) := by decide +kernel
theorem dX2_chooseMan_21 : decode cX2_chooseMan 21 = .ok (.getfield 18, 3) := by decide +kernel
theorem dX2_chooseMan_24 : decode cX2_chooseMan 24 = .ok (.getfield 55, 3) := by decide +kernel
theorem dX2_chooseMan_27 : decode cX2_chooseMan 27 = .ok (.if_icmp .ge 80, 3) := by decide +kernel
theorem dX2_chooseMan_30 : decode cX2_chooseMan 30 = .ok (.aload_n 0, 1) := by decide +kernel
theorem dX2_chooseMan_31 : decode cX2_chooseMan 31 = .ok (.getfield 18, 3) := by decide +kernel
theorem dX2_chooseMan_34 : decode cX2_chooseMan 34 = .ok (.getfield 60, 3) := by decide +kernel
theorem dX2_chooseMan_37 : decode cX2_chooseMan 37 = .ok (.iload_n 2, 1) := by decide +kernel
theorem dX2_chooseMan_38 : decode cX2_chooseMan 38 = .ok (.iaload, 1) := by decide +kernel
theorem dX2_chooseMan_39 : decode cX2_chooseMan 39 = .ok (.iload_n 1, 1) := by decide +kernel
theorem dX2_chooseMan_40 : decode cX2_chooseMan 40 = .ok (.if_icmp .ne 61, 3) := by decide +kernel
theorem dX2_chooseMan_43 : decode cX2_chooseMan 43 = .ok (.aload_n 0, 1) := by decide +kernel
theorem dX2_chooseMan_44 : decode cX2_chooseMan 44 = .ok (.getfield 22, 3) := by decide +kernel
theorem dX2_chooseMan_47 : decode cX2_chooseMan 47 = .ok (.getfield 64, 3) := by decide +kernel
theorem dX2_chooseMan_50 : decode cX2_chooseMan 50 = .ok (.iload_n 2, 1) := by decide +kernel
theorem dX2_chooseMan_51 : decode cX2_chooseMan 51 = .ok (.iaload, 1) := by decide +kernel
theorem dX2_chooseMan_52 : decode cX2_chooseMan 52 = .ok (.ifCond .eq 6, 3) := by decide +kernel
theorem dX2_chooseMan_55 : decode cX2_chooseMan 55 = .ok (.goto 46, 3) := by decide +kernel
theorem dX2_chooseMan_58 : decode cX2_chooseMan 58 = .ok (.aload_n 0, 1) := by decide +kernel
theorem dX2_chooseMan_59 : decode cX2_chooseMan 59 = .ok (.iconst 0, 1) := by decide +kernel
theorem dX2_chooseMan_60 : decode cX2_chooseMan 60 = .ok (.invokevirtual 34, 3) := by decide +kernel
theorem dX2_chooseMan_63 : decode cX2_chooseMan 63 = .ok (.aload_n 0, 1) := by decide +kernel
theorem dX2_chooseMan_64 : decode cX2_chooseMan 64 = .ok (.getfield 12, 3) := by decide +kernel
theorem dX2_chooseMan_67 : decode cX2_chooseMan 67 = .ok (.getfield 64, 3) := by decide +kernel
theorem dX2_chooseMan_70 : decode cX2_chooseMan 70 = .ok (.iload_n 2, 1) := by decide +kernel
theorem dX2_chooseMan_71 : decode cX2_chooseMan 71 = .ok (.iconst 1, 1) := by decide +kernel
theorem dX2_chooseMan_72 : decode cX2_chooseMan 72 = .ok (.iastore, 1) := by decide +kernel
theorem dX2_chooseMan_73 : decode cX2_chooseMan 73 = .ok (.aload_n 0, 1) := by decide +kernel
theorem dX2_chooseMan_74 : decode cX2_chooseMan 74 = .ok (.getfield 12, 3) := by decide +kernel
theorem dX2_chooseMan_77 : decode cX2_chooseMan 77 = .ok (.getfield 67, 3) := by decide +kernel
theorem dX2_chooseMan_80 : decode cX2_chooseMan 80 = .ok (.iload_n 2, 1) := by decide +kernel
theorem dX2_chooseMan_81 : decode cX2_chooseMan 81 = .ok (.iload_n 1, 1) := by decide +kernel
theorem dX2_chooseMan_82 : decode cX2_chooseMan 82 = .ok (.invokestatic 70, 3) := by decide +kernel
theorem dX2_chooseMan_85 : decode cX2_chooseMan 85 = .ok (.iastore, 1) := by decide +kernel
theorem dX2_chooseMan_86 : decode cX2_chooseMan 86 = .ok (.aload_n 0, 1) := by decide +kernel
theorem dX2_chooseMan_87 : decode cX2_chooseMan 87 = .ok (.iload_n 2, 1) := by decide +kernel
theorem dX2_chooseMan_88 : decode cX2_chooseMan 88 = .ok (.aload_n 0, 1) := by decide +kernel
theorem dX2_chooseMan_89 : decode cX2_chooseMan 89 = .ok (.aload_n 0, 1) := by decide +kernel
theorem dX2_chooseMan_90 : decode cX2_chooseMan 90 = .ok (.getfield 52, 3) := by decide +kernel
theorem dX2_chooseMan_93 : decode cX2_chooseMan 93 = .ok (.iconst 1, 1) := by decide +kernel
theorem dX2_chooseMan_94 : decode cX2_chooseMan 94 = .ok (.isub, 1) := by decide +kernel
theorem dX2_chooseMan_95 : decode cX2_chooseMan 95 = .ok (.invokevirtual 38, 3) := by decide +kernel
theorem dX2_chooseMan_98 : decode cX2_chooseMan 98 = .ok (.invokevirtual 73, 3) := by decide +kernel
theorem dX2_chooseMan_101 : decode cX2_chooseMan 101 = .ok (.iinc 2 1, 3) := by decide +kernel
theorem dX2_chooseMan_104 : decode cX2_chooseMan 104 = .ok (.goto (-91), 3) := by decide +kernel
theorem dX2_chooseMan_107 : decode cX2_chooseMan 107 = .ok (.return_, 1) := by decide +kernel
theorem dX2_imagine_0 : decode cX2_imagine 0 = .ok (.aload_n 0, 1) := by decide +kernel
theorem dX2_imagine_1 : decode cX2_imagine 1 = .ok (.getfield 12, 3) := by decide +kernel
theorem dX2_imagine_4 : decode cX2_imagine 4 = .ok (.aload_n 0, 1) := by decide +kernel
theorem dX2_imagine_5 : decode cX2_imagine 5 = .ok (.getfield 22, 3) := by decide +kernel
theorem dX2_imagine_8 : decode cX2_imagine 8 = .ok (.invokevirtual 77, 3) := by decide +kernel
theorem dX2_imagine_11 : decode cX2_imagine 11 = .ok (.aload_n 0, 1) := by decide +kernel
theorem dX2_imagine_12 : decode cX2_imagine 12 = .ok (.getfield 30, 3) := by decide +kernel
theorem dX2_imagine_15 : decode cX2_imagine 15 = .ok (.iload_n 1, 1) := by decide +kernel
theorem dX2_imagine_16 : decode cX2_imagine 16 = .ok (.putfield 81, 3) := by decide +kernel
theorem dX2_imagine_19 : decode cX2_imagine 19 = .ok (.aload_n 0, 1) := by decide +kernel
theorem dX2_imagine_20 : decode cX2_imagine 20 = .ok (.getfield 30, 3) := by decide +kernel
theorem dX2_imagine_23 : decode cX2_imagine 23 = .ok (.iconst 0, 1) := by decide +kernel
theorem dX2_imagine_24 : decode cX2_imagine 24 = .ok (.putfield 42, 3) := by decide +kernel
theorem dX2_imagine_27 : decode cX2_imagine 27 = .ok (.return_, 1) := by decide +kernel
theorem dX2_init_0 : decode cX2_init 0 = .ok (.aload_n 0, 1) := by decide +kernel
theorem dX2_init_1 : decode cX2_init 1 = .ok (.invokespecial 3, 3) := by decide +kernel
theorem dX2_init_4 : decode cX2_init 4 = .ok (.aload_n 0, 1) := by decide +kernel
theorem dX2_init_5 : decode cX2_init 5 = .ok (.new 9, 3) := by decide +kernel
theorem dX2_init_8 : decode cX2_init 8 = .ok (.dup, 1) := by decide +kernel
theorem dX2_init_9 : decode cX2_init 9 = .ok (.invokespecial 11, 3) := by decide +kernel
theorem dX2_init_12 : decode cX2_init 12 = .ok (.putfield 12, 3) := by decide +kernel
theorem dX2_init_15 : decode cX2_init 15 = .ok (.aload_n 0, 1) := by decide +kernel
theorem dX2_init_16 : decode cX2_init 16 = .ok (.aload_n 1, 1) := by decide +kernel
theorem dX2_init_17 : decode cX2_init 17 = .ok (.putfield 18, 3) := by decide +kernel
theorem dX2_init_20 : decode cX2_init 20 = .ok (.aload_n 0, 1) := by decide +kernel
theorem dX2_init_21 : decode cX2_init 21 = .ok (.aload_n 2, 1) := by decide +kernel
theorem dX2_init_22 : decode cX2_init 22 = .ok (.putfield 22, 3) := by decide +kernel
theorem dX2_init_25 : decode cX2_init 25 = .ok (.aload_n 0, 1) := by decide +kernel
theorem dX2_init_26 : decode cX2_init 26 = .ok (.new 25, 3) := by decide +kernel
theorem dX2_init_29 : decode cX2_init 29 = .ok (.dup, 1) := by decide +kernel
theorem dX2_init_30 : decode cX2_init 30 = .ok (.aload_n 1, 1) := by decide +kernel
theorem dX2_init_31 : decode cX2_init 31 = .ok (.aload_n 0, 1) := by decide +kernel
theorem dX2_init_32 : decode cX2_init 32 = .ok (.getfield 12, 3) := by decide +kernel
theorem dX2_init_35 : decode cX2_init 35 = .ok (.aload_n 3, 1) := by decide +kernel
theorem dX2_init_36 : decode cX2_init 36 = .ok (.iconst 0, 1) := by decide +kernel
theorem dX2_init_37 : decode cX2_init 37 = .ok (.invokespecial 27, 3) := by decide +kernel
theorem dX2_init_40 : decode cX2_init 40 = .ok (.putfield 30, 3) := by decide +kernel
theorem dX2_init_43 : decode cX2_init 43 = .ok (.return_, 1) := by decide +kernel
theorem dX2_lasting_0 : decode cX2_lasting 0 = .ok (.aload_n 0, 1) := by decide +kernel
theorem dX2_lasting_1 : decode cX2_lasting 1 = .ok (.iconst 0, 1) := by decide +kernel
theorem dX2_lasting_2 : decode cX2_lasting 2 = .ok (.invokevirtual 34, 3) := by decide +kernel
theorem dX2_lasting_5 : decode cX2_lasting 5 = .ok (.aload_n 0, 1) := by decide +kernel
theorem dX2_lasting_6 : decode cX2_lasting 6 = .ok (.bipush 99, 2) := by decide +kernel
theorem dX2_lasting_8 : decode cX2_lasting 8 = .ok (.invokevirtual 38, 3) := by decide +kernel
theorem dX2_lasting_11 : decode cX2_lasting 11 = .ok (.istore_n 2, 1) := by decide +kernel
theorem dX2_lasting_12 : decode cX2_lasting 12 = .ok (.iload_n 1, 1) := by decide +kernel
theorem dX2_lasting_13 : decode cX2_lasting 13 = .ok (.lookupswitch 37 #[(0, 27), (1, 29)], 27) := by decide +kernel
theorem dX2_lasting_40 : decode cX2_lasting 40 = .ok (.iload_n 2, 1) := by decide +kernel
theorem dX2_lasting_41 : decode cX2_lasting 41 = .ok (.ireturn, 1) := by decide +kernel
theorem dX2_lasting_42 : decode cX2_lasting 42 = .ok (.aload_n 0, 1) := by decide +kernel
theorem dX2_lasting_43 : decode cX2_lasting 43 = .ok (.getfield 30, 3) := by decide +kernel
theorem dX2_lasting_46 : decode cX2_lasting 46 = .ok (.getfield 42, 3) := by decide +kernel
theorem dX2_lasting_49 : decode cX2_lasting 49 = .ok (.ireturn, 1) := by decide +kernel
theorem dX2_lasting_50 : decode cX2_lasting 50 = .ok (.aload_n 0, 1) := by decide +kernel
theorem dX2_lasting_51 : decode cX2_lasting 51 = .ok (.getfield 30, 3) := by decide +kernel
theorem dX2_lasting_54 : decode cX2_lasting 54 = .ok (.iload_n 1, 1) := by decide +kernel
theorem dX2_lasting_55 : decode cX2_lasting 55 = .ok (.iconst 2, 1) := by decide +kernel
theorem dX2_lasting_56 : decode cX2_lasting 56 = .ok (.isub, 1) := by decide +kernel
theorem dX2_lasting_57 : decode cX2_lasting 57 = .ok (.invokevirtual 46, 3) := by decide +kernel
theorem dX2_lasting_60 : decode cX2_lasting 60 = .ok (.ireturn, 1) := by decide +kernel
theorem dX2_take_0 : decode cX2_take 0 = .ok (.iload_n 2, 1) := by decide +kernel
theorem dX2_take_1 : decode cX2_take 1 = .ok (.iconst (-1), 1) := by decide +kernel
theorem dX2_take_2 : decode cX2_take 2 = .ok (.if_icmp .eq 21, 3) := by decide +kernel
theorem dX2_take_5 : decode cX2_take 5 = .ok (.iload_n 2, 1) := by decide +kernel
theorem dX2_take_6 : decode cX2_take 6 = .ok (.aload_n 0, 1) := by decide +kernel
theorem dX2_take_7 : decode cX2_take 7 = .ok (.getfield 52, 3) := by decide +kernel
theorem dX2_take_10 : decode cX2_take 10 = .ok (.if_icmp .ge 13, 3) := by decide +kernel
theorem dX2_take_13 : decode cX2_take 13 = .ok (.aload_n 0, 1) := by decide +kernel
theorem dX2_take_14 : decode cX2_take 14 = .ok (.iload_n 1, 1) := by decide +kernel
theorem dX2_take_15 : decode cX2_take 15 = .ok (.putfield 49, 3) := by decide +kernel
theorem dX2_take_18 : decode cX2_take 18 = .ok (.aload_n 0, 1) := by decide +kernel
theorem dX2_take_19 : decode cX2_take 19 = .ok (.iload_n 2, 1) := by decide +kernel
theorem dX2_take_20 : decode cX2_take 20 = .ok (.putfield 52, 3) := by decide +kernel
theorem dX2_take_23 : decode cX2_take 23 = .ok (.return_, 1) := by decide +kernel
theorem dX2_until_0 : decode cX2_until 0 = .ok (.iconst 0, 1) := by decide +kernel
theorem dX2_until_1 : decode cX2_until 1 = .ok (.istore_n 2, 1) := by decide +kernel
theorem dX2_until_2 : decode cX2_until 2 = .ok (.iload_n 2, 1) := by decide +kernel
theorem dX2_until_3 : decode cX2_until 3 = .ok (.iload_n 1, 1) := by decide +kernel
theorem dX2_until_4 : decode cX2_until 4 = .ok (.if_icmp .ge 27, 3) := by decide +kernel
theorem dX2_until_7 : decode cX2_until 7 = .ok (.aload_n 0, 1) := by decide +kernel
theorem dX2_until_8 : decode cX2_until 8 = .ok (.getfield 12, 3) := by decide +kernel
theorem dX2_until_11 : decode cX2_until 11 = .ok (.getfield 84, 3) := by decide +kernel
theorem dX2_until_14 : decode cX2_until 14 = .ok (.iconst 1, 1) := by decide +kernel
theorem dX2_until_15 : decode cX2_until 15 = .ok (.if_icmp .ne 16, 3) := by decide +kernel
theorem dX2_until_18 : decode cX2_until 18 = .ok (.aload_n 0, 1) := by decide +kernel
theorem dX2_until_19 : decode cX2_until 19 = .ok (.getfield 30, 3) := by decide +kernel
theorem dX2_until_22 : decode cX2_until 22 = .ok (.invokevirtual 87, 3) := by decide +kernel
theorem dX2_until_25 : decode cX2_until 25 = .ok (.iinc 2 1, 3) := by decide +kernel
theorem dX2_until_28 : decode cX2_until 28 = .ok (.goto (-26), 3) := by decide +kernel
theorem dX2_until_31 : decode cX2_until 31 = .ok (.aload_n 0, 1) := by decide +kernel
theorem dX2_until_32 : decode cX2_until 32 = .ok (.getfield 12, 3) := by decide +kernel
theorem dX2_until_35 : decode cX2_until 35 = .ok (.getfield 84, 3) := by decide +kernel
theorem dX2_until_38 : decode cX2_until 38 = .ok (.ifCond .ne 7, 3) := by decide +kernel
theorem dX2_until_41 : decode cX2_until 41 = .ok (.iload_n 2, 1) := by decide +kernel
theorem dX2_until_42 : decode cX2_until 42 = .ok (.goto 4, 3) := by decide +kernel
theorem dX2_until_45 : decode cX2_until 45 = .ok (.iconst (-1), 1) := by decide +kernel
theorem dX2_until_46 : decode cX2_until 46 = .ok (.ireturn, 1) := by decide +kernel
theorem dX3_arrive_0 : decode cX3_arrive 0 = .ok (.aload_n 0, 1) := by decide +kernel
theorem dX3_arrive_1 : decode cX3_arrive 1 = .ok (.iconst 0, 1) := by decide +kernel
theorem dX3_arrive_2 : decode cX3_arrive 2 = .ok (.invokevirtual 171, 3) := by decide +kernel
theorem dX3_arrive_5 : decode cX3_arrive 5 = .ok (.istore_n 1, 1) := by decide +kernel
theorem dX3_arrive_6 : decode cX3_arrive 6 = .ok (.aload_n 0, 1) := by decide +kernel
theorem dX3_arrive_7 : decode cX3_arrive 7 = .ok (.iconst 1, 1) := by decide +kernel
theorem dX3_arrive_8 : decode cX3_arrive 8 = .ok (.invokevirtual 171, 3) := by decide +kernel
theorem dX3_arrive_11 : decode cX3_arrive 11 = .ok (.istore_n 2, 1) := by decide +kernel
theorem dX3_arrive_12 : decode cX3_arrive 12 = .ok (.iload_n 1, 1) := by decide +kernel
theorem dX3_arrive_13 : decode cX3_arrive 13 = .ok (.iconst 1, 1) := by decide +kernel
theorem dX3_arrive_14 : decode cX3_arrive 14 = .ok (.invokestatic 150, 3) := by decide +kernel
theorem dX3_arrive_17 : decode cX3_arrive 17 = .ok (.invokestatic 174, 3) := by decide +kernel
theorem dX3_arrive_20 : decode cX3_arrive 20 = .ok (.ifCond .eq 18, 3) := by decide +kernel
theorem dX3_arrive_23 : decode cX3_arrive 23 = .ok (.iload_n 2, 1) := by decide +kernel
theorem dX3_arrive_24 : decode cX3_arrive 24 = .ok (.iconst 1, 1) := by decide +kernel
theorem dX3_arrive_25 : decode cX3_arrive 25 = .ok (.invokestatic 150, 3) := by decide +kernel
theorem dX3_arrive_28 : decode cX3_arrive 28 = .ok (.invokestatic 174, 3) := by decide +kernel
theorem dX3_arrive_31 : decode cX3_arrive 31 = .ok (.ifCond .ne 7, 3) := by decide +kernel
theorem dX3_arrive_34 : decode cX3_arrive 34 = .ok (.iconst 1, 1) := by decide +kernel
theorem dX3_arrive_35 : decode cX3_arrive 35 = .ok (.goto 4, 3) := by decide +kernel
theorem dX3_arrive_38 : decode cX3_arrive 38 = .ok (.iconst 0, 1) := by decide +kernel
theorem dX3_arrive_39 : decode cX3_arrive 39 = .ok (.istore_n 3, 1) := by decide +kernel
theorem dX3_arrive_40 : decode cX3_arrive 40 = .ok (.iload_n 3, 1) := by decide +kernel
theorem dX3_arrive_41 : decode cX3_arrive 41 = .ok (.ifCond .ne 25, 3) := by decide +kernel
theorem dX3_arrive_44 : decode cX3_arrive 44 = .ok (.iload_n 2, 1) := by decide +kernel
theorem dX3_arrive_45 : decode cX3_arrive 45 = .ok (.iconst 0, 1) := by decide +kernel
theorem dX3_arrive_46 : decode cX3_arrive 46 = .ok (.invokestatic 150, 3) := by decide +kernel
theorem dX3_arrive_49 : decode cX3_arrive 49 = .ok (.invokestatic 174, 3) := by decide +kernel
theorem dX3_arrive_52 : decode cX3_arrive 52 = .ok (.ifCond .eq 22, 3) := by decide +kernel
theorem dX3_arrive_55 : decode cX3_arrive 55 = .ok (.iload_n 1, 1) := by decide +kernel
theorem dX3_arrive_56 : decode cX3_arrive 56 = .ok (.iconst 0, 1) := by decide +kernel
theorem dX3_arrive_57 : decode cX3_arrive 57 = .ok (.invokestatic 150, 3) := by decide +kernel
theorem dX3_arrive_60 : decode cX3_arrive 60 = .ok (.invokestatic 174, 3) := by decide +kernel
theorem dX3_arrive_63 : decode cX3_arrive 63 = .ok (.ifCond .ne 11, 3) := by decide +kernel
theorem dX3_arrive_66 : decode cX3_arrive 66 = .ok (.aload_n 0, 1) := by decide +kernel
theorem dX3_arrive_67 : decode cX3_arrive 67 = .ok (.getfield 21, 3) := by decide +kernel
theorem dX3_arrive_70 : decode cX3_arrive 70 = .ok (.iconst 0, 1) := by decide +kernel
theorem dX3_arrive_71 : decode cX3_arrive 71 = .ok (.putfield 33, 3) := by decide +kernel
theorem dX3_arrive_74 : decode cX3_arrive 74 = .ok (.return_, 1) := by decide +kernel
theorem dX3_asked_0 : decode cX3_asked 0 = .ok (.aload_n 0, 1) := by decide +kernel
theorem dX3_asked_1 : decode cX3_asked 1 = .ok (.getfield 17, 3) := by decide +kernel
theorem dX3_asked_4 : decode cX3_asked 4 = .ok (.iload_n 1, 1) := by decide +kernel
theorem dX3_asked_5 : decode cX3_asked 5 = .ok (.invokevirtual 64, 3) := by decide +kernel
theorem dX3_asked_8 : decode cX3_asked 8 = .ok (.ifCond .ne 5, 3) := by decide +kernel
theorem dX3_asked_11 : decode cX3_asked 11 = .ok (.iconst 0, 1) := by decide +kernel
theorem dX3_asked_12 : decode cX3_asked 12 = .ok (.ireturn, 1) := by decide +kernel
theorem dX3_asked_13 : decode cX3_asked 13 = .ok (.aload_n 0, 1) := by decide +kernel
theorem dX3_asked_14 : decode cX3_asked 14 = .ok (.getfield 21, 3) := by decide +kernel
theorem dX3_asked_17 : decode cX3_asked 17 = .ok (.getfield 70, 3) := by decide +kernel
theorem dX3_asked_20 : decode cX3_asked 20 = .ok (.iload_n 1, 1) := by decide +kernel
theorem dX3_asked_21 : decode cX3_asked 21 = .ok (.iaload, 1) := by decide +kernel
theorem dX3_asked_22 : decode cX3_asked 22 = .ok (.iconst 1, 1) := by decide +kernel
theorem dX3_asked_23 : decode cX3_asked 23 = .ok (.if_icmp .ne 7, 3) := by decide +kernel
theorem dX3_asked_26 : decode cX3_asked 26 = .ok (.iconst 1, 1) := by decide +kernel
theorem dX3_asked_27 : decode cX3_asked 27 = .ok (.goto 4, 3) := by decide +kernel
theorem dX3_asked_30 : decode cX3_asked 30 = .ok (.iconst 0, 1) := by decide +kernel
theorem dX3_asked_31 : decode cX3_asked 31 = .ok (.istore_n 3, 1) := by decide +kernel
theorem dX3_asked_32 : decode cX3_asked 32 = .ok (.aload_n 0, 1) := by decide +kernel
theorem dX3_asked_33 : decode cX3_asked 33 = .ok (.getfield 11, 3) := by decide +kernel
theorem dX3_asked_36 : decode cX3_asked 36 = .ok (.iconst 0, 1) := by decide +kernel
theorem dX3_asked_37 : decode cX3_asked 37 = .ok (.aload_n 0, 1) := by decide +kernel
theorem dX3_asked_38 : decode cX3_asked 38 = .ok (.getfield 17, 3) := by decide +kernel
theorem dX3_asked_41 : decode cX3_asked 41 = .ok (.getfield 73, 3) := by decide +kernel
theorem dX3_asked_44 : decode cX3_asked 44 = .ok (.iload_n 1, 1) := by decide +kernel
theorem dX3_asked_45 : decode cX3_asked 45 = .ok (.iaload, 1) := by decide +kernel
theorem dX3_asked_46 : decode cX3_asked 46 = .ok (.iastore, 1) := by decide +kernel
theorem dX3_asked_47 : decode cX3_asked 47 = .ok (.aload_n 0, 1) := by decide +kernel
theorem dX3_asked_48 : decode cX3_asked 48 = .ok (.getfield 11, 3) := by decide +kernel
theorem dX3_asked_51 : decode cX3_asked 51 = .ok (.iconst 1, 1) := by decide +kernel
theorem dX3_asked_52 : decode cX3_asked 52 = .ok (.aload_n 0, 1) := by decide +kernel
theorem dX3_asked_53 : decode cX3_asked 53 = .ok (.getfield 17, 3) := by decide +kernel
theorem dX3_asked_56 : decode cX3_asked 56 = .ok (.getfield 76, 3) := by decide +kernel
theorem dX3_asked_59 : decode cX3_asked 59 = .ok (.iload_n 1, 1) := by decide +kernel
theorem dX3_asked_60 : decode cX3_asked 60 = .ok (.iaload, 1) := by decide +kernel
theorem dX3_asked_61 : decode cX3_asked 61 = .ok (.iastore, 1) := by decide +kernel
theorem dX3_asked_62 : decode cX3_asked 62 = .ok (.aload_n 0, 1) := by decide +kernel
theorem dX3_asked_63 : decode cX3_asked 63 = .ok (.getfield 11, 3) := by decide +kernel
theorem dX3_asked_66 : decode cX3_asked 66 = .ok (.iconst 2, 1) := by decide +kernel
theorem dX3_asked_67 : decode cX3_asked 67 = .ok (.aload_n 0, 1) := by decide +kernel
theorem dX3_asked_68 : decode cX3_asked 68 = .ok (.getfield 17, 3) := by decide +kernel
theorem dX3_asked_71 : decode cX3_asked 71 = .ok (.getfield 79, 3) := by decide +kernel
theorem dX3_asked_74 : decode cX3_asked 74 = .ok (.iload_n 1, 1) := by decide +kernel
theorem dX3_asked_75 : decode cX3_asked 75 = .ok (.iaload, 1) := by decide +kernel
theorem dX3_asked_76 : decode cX3_asked 76 = .ok (.iastore, 1) := by decide +kernel
theorem dX3_asked_77 : decode cX3_asked 77 = .ok (.aload_n 0, 1) := by decide +kernel
theorem dX3_asked_78 : decode cX3_asked 78 = .ok (.getfield 11, 3) := by decide +kernel
theorem dX3_asked_81 : decode cX3_asked 81 = .ok (.iconst 3, 1) := by decide +kernel
theorem dX3_asked_82 : decode cX3_asked 82 = .ok (.aload_n 0, 1) := by decide +kernel
theorem dX3_asked_83 : decode cX3_asked 83 = .ok (.getfield 21, 3) := by decide +kernel
theorem dX3_asked_86 : decode cX3_asked 86 = .ok (.getfield 82, 3) := by decide +kernel
theorem dX3_asked_89 : decode cX3_asked 89 = .ok (.iload_n 1, 1) := by decide +kernel
theorem dX3_asked_90 : decode cX3_asked 90 = .ok (.iaload, 1) := by decide +kernel
theorem dX3_asked_91 : decode cX3_asked 91 = .ok (.iastore, 1) := by decide +kernel
theorem dX3_asked_92 : decode cX3_asked 92 = .ok (.aload_n 0, 1) := by decide +kernel
theorem dX3_asked_93 : decode cX3_asked 93 = .ok (.getfield 11, 3) := by decide +kernel
theorem dX3_asked_96 : decode cX3_asked 96 = .ok (.iconst 4, 1) := by decide +kernel
theorem dX3_asked_97 : decode cX3_asked 97 = .ok (.aload_n 0, 1) := by decide +kernel
theorem dX3_asked_98 : decode cX3_asked 98 = .ok (.getfield 21, 3) := by decide +kernel
theorem dX3_asked_101 : decode cX3_asked 101 = .ok (.getfield 85, 3) := by decide +kernel
theorem dX3_asked_104 : decode cX3_asked 104 = .ok (.iload_n 1, 1) := by decide +kernel
theorem dX3_asked_105 : decode cX3_asked 105 = .ok (.iaload, 1) := by decide +kernel
theorem dX3_asked_106 : decode cX3_asked 106 = .ok (.invokestatic 88, 3) := by decide +kernel
theorem dX3_asked_109 : decode cX3_asked 109 = .ok (.iastore, 1) := by decide +kernel
theorem dX3_asked_110 : decode cX3_asked 110 = .ok (.aload_n 0, 1) := by decide +kernel
theorem dX3_asked_111 : decode cX3_asked 111 = .ok (.getfield 11, 3) := by decide +kernel
theorem dX3_asked_114 : decode cX3_asked 114 = .ok (.iconst 5, 1) := by decide +kernel
theorem dX3_asked_115 : decode cX3_asked 115 = .ok (.iload_n 3, 1) := by decide +kernel
theorem dX3_asked_116 : decode cX3_asked 116 = .ok (.ifCond .eq 15, 3) := by decide +kernel
theorem dX3_asked_119 : decode cX3_asked 119 = .ok (.aload_n 0, 1) := by decide +kernel
theorem dX3_asked_120 : decode cX3_asked 120 = .ok (.getfield 21, 3) := by decide +kernel
theorem dX3_asked_123 : decode cX3_asked 123 = .ok (.getfield 94, 3) := by decide +kernel
theorem dX3_asked_126 : decode cX3_asked 126 = .ok (.iload_n 1, 1) := by decide +kernel
theorem dX3_asked_127 : decode cX3_asked 127 = .ok (.iaload, 1) := by decide +kernel
theorem dX3_asked_128 : decode cX3_asked 128 = .ok (.goto 4, 3) := by decide +kernel
theorem dX3_asked_131 : decode cX3_asked 131 = .ok (.iconst 0, 1) := by decide +kernel
theorem dX3_asked_132 : decode cX3_asked 132 = .ok (.iastore, 1) := by decide +kernel
theorem dX3_asked_133 : decode cX3_asked 133 = .ok (.aload_n 0, 1) := by decide +kernel
theorem dX3_asked_134 : decode cX3_asked 134 = .ok (.getfield 11, 3) := by decide +kernel
theorem dX3_asked_137 : decode cX3_asked 137 = .ok (.bipush 6, 2) := by decide +kernel
theorem dX3_asked_139 : decode cX3_asked 139 = .ok (.aload_n 0, 1) := by decide +kernel
theorem dX3_asked_140 : decode cX3_asked 140 = .ok (.getfield 21, 3) := by decide +kernel
theorem dX3_asked_143 : decode cX3_asked 143 = .ok (.getfield 52, 3) := by decide +kernel
theorem dX3_asked_146 : decode cX3_asked 146 = .ok (.iastore, 1) := by decide +kernel
theorem dX3_asked_147 : decode cX3_asked 147 = .ok (.aload_n 0, 1) := by decide +kernel
theorem dX3_asked_148 : decode cX3_asked 148 = .ok (.getfield 11, 3) := by decide +kernel
theorem dX3_asked_151 : decode cX3_asked 151 = .ok (.bipush 7, 2) := by decide +kernel
theorem dX3_asked_153 : decode cX3_asked 153 = .ok (.aload_n 0, 1) := by decide +kernel
theorem dX3_asked_154 : decode cX3_asked 154 = .ok (.getfield 17, 3) := by decide +kernel
theorem dX3_asked_157 : decode cX3_asked 157 = .ok (.getfield 97, 3) := by decide +kernel
theorem dX3_asked_160 : decode cX3_asked 160 = .ok (.iastore, 1) := by decide +kernel
theorem dX3_asked_161 : decode cX3_asked 161 = .ok (.aload_n 0, 1) := by decide +kernel
theorem dX3_asked_162 : decode cX3_asked 162 = .ok (.getfield 11, 3) := by decide +kernel
theorem dX3_asked_165 : decode cX3_asked 165 = .ok (.bipush 8, 2) := by decide +kernel
theorem dX3_asked_167 : decode cX3_asked 167 = .ok (.iload_n 3, 1) := by decide +kernel
theorem dX3_asked_168 : decode cX3_asked 168 = .ok (.ifCond .eq 26, 3) := by decide +kernel
theorem dX3_asked_171 : decode cX3_asked 171 = .ok (.aload_n 0, 1) := by decide +kernel
theorem dX3_asked_172 : decode cX3_asked 172 = .ok (.getfield 17, 3) := by decide +kernel
theorem dX3_asked_175 : decode cX3_asked 175 = .ok (.aload_n 0, 1) := by decide +kernel
theorem dX3_asked_176 : decode cX3_asked 176 = .ok (.getfield 21, 3) := by decide +kernel
theorem dX3_asked_179 : decode cX3_asked 179 = .ok (.getfield 94, 3) := by decide +kernel
theorem dX3_asked_182 : decode cX3_asked 182 = .ok (.iload_n 1, 1) := by decide +kernel
theorem dX3_asked_183 : decode cX3_asked 183 = .ok (.iaload, 1) := by decide +kernel
theorem dX3_asked_184 : decode cX3_asked 184 = .ok (.invokevirtual 100, 3) := by decide +kernel
theorem dX3_asked_187 : decode cX3_asked 187 = .ok (.ifCond .eq 7, 3) := by decide +kernel
theorem dX3_asked_190 : decode cX3_asked 190 = .ok (.iconst 1, 1) := by decide +kernel
theorem dX3_asked_191 : decode cX3_asked 191 = .ok (.goto 4, 3) := by decide +kernel
theorem dX3_asked_194 : decode cX3_asked 194 = .ok (.iconst 0, 1) := by decide +kernel
theorem dX3_asked_195 : decode cX3_asked 195 = .ok (.iastore, 1) := by decide +kernel
theorem dX3_asked_196 : decode cX3_asked 196 = .ok (.iload_n 2, 1) := by decide +kernel
theorem dX3_asked_197 : decode cX3_asked 197 = .ok (.tableswitch 112 0 2 #[27, 60, 90], 27) := by decide +kernel
theorem dX3_asked_224 : decode cX3_asked 224 = .ok (.aload_n 0, 1) := by decide +kernel
theorem dX3_asked_225 : decode cX3_asked 225 = .ok (.getfield 17, 3) := by decide +kernel
theorem dX3_asked_228 : decode cX3_asked 228 = .ok (.getfield 103, 3) := by decide +kernel
theorem dX3_asked_231 : decode cX3_asked 231 = .ok (.iconst 0, 1) := by decide +kernel
theorem dX3_asked_232 : decode cX3_asked 232 = .ok (.aload_n 0, 1) := by decide +kernel
theorem dX3_asked_233 : decode cX3_asked 233 = .ok (.getfield 11, 3) := by decide +kernel
theorem dX3_asked_236 : decode cX3_asked 236 = .ok (.aload_n 0, 1) := by decide +kernel
theorem dX3_asked_237 : decode cX3_asked 237 = .ok (.getfield 17, 3) := by decide +kernel
theorem dX3_asked_240 : decode cX3_asked 240 = .ok (.getfield 76, 3) := by decide +kernel
theorem dX3_asked_243 : decode cX3_asked 243 = .ok (.iload_n 1, 1) := by decide +kernel
theorem dX3_asked_244 : decode cX3_asked 244 = .ok (.iaload, 1) := by decide +kernel
theorem dX3_asked_245 : decode cX3_asked 245 = .ok (.bipush 59, 2) := by decide +kernel
theorem dX3_asked_247 : decode cX3_asked 247 = .ok (.isub, 1) := by decide +kernel
theorem dX3_asked_248 : decode cX3_asked 248 = .ok (.invokevirtual 107, 3) := by decide +kernel
theorem dX3_asked_251 : decode cX3_asked 251 = .ok (.bipush 120, 2) := by decide +kernel
theorem dX3_asked_253 : decode cX3_asked 253 = .ok (.invokestatic 111, 3) := by decide +kernel
theorem dX3_asked_256 : decode cX3_asked 256 = .ok (.ireturn, 1) := by decide +kernel
theorem dX3_asked_257 : decode cX3_asked 257 = .ok (.aload_n 0, 1) := by decide +kernel
theorem dX3_asked_258 : decode cX3_asked 258 = .ok (.getfield 17, 3) := by decide +kernel
theorem dX3_asked_261 : decode cX3_asked 261 = .ok (.getfield 103, 3) := by decide +kernel
theorem dX3_asked_264 : decode cX3_asked 264 = .ok (.iconst 1, 1) := by decide +kernel
theorem dX3_asked_265 : decode cX3_asked 265 = .ok (.aload_n 0, 1) := by decide +kernel
theorem dX3_asked_266 : decode cX3_asked 266 = .ok (.getfield 11, 3) := by decide +kernel
theorem dX3_asked_269 : decode cX3_asked 269 = .ok (.aload_n 0, 1) := by decide +kernel
theorem dX3_asked_270 : decode cX3_asked 270 = .ok (.getfield 17, 3) := by decide +kernel
theorem dX3_asked_273 : decode cX3_asked 273 = .ok (.getfield 79, 3) := by decide +kernel
theorem dX3_asked_276 : decode cX3_asked 276 = .ok (.iload_n 1, 1) := by decide +kernel
theorem dX3_asked_277 : decode cX3_asked 277 = .ok (.iaload, 1) := by decide +kernel
theorem dX3_asked_278 : decode cX3_asked 278 = .ok (.invokevirtual 107, 3) := by decide +kernel
theorem dX3_asked_281 : decode cX3_asked 281 = .ok (.bipush 9, 2) := by decide +kernel
theorem dX3_asked_283 : decode cX3_asked 283 = .ok (.invokestatic 111, 3) := by decide +kernel
theorem dX3_asked_286 : decode cX3_asked 286 = .ok (.ireturn, 1) := by decide +kernel
theorem dX3_asked_287 : decode cX3_asked 287 = .ok (.aload_n 0, 1) := by decide +kernel
theorem dX3_asked_288 : decode cX3_asked 288 = .ok (.getfield 17, 3) := by decide +kernel
theorem dX3_asked_291 : decode cX3_asked 291 = .ok (.getfield 103, 3) := by decide +kernel
theorem dX3_asked_294 : decode cX3_asked 294 = .ok (.iconst 2, 1) := by decide +kernel
theorem dX3_asked_295 : decode cX3_asked 295 = .ok (.aload_n 0, 1) := by decide +kernel
theorem dX3_asked_296 : decode cX3_asked 296 = .ok (.getfield 11, 3) := by decide +kernel
theorem dX3_asked_299 : decode cX3_asked 299 = .ok (.iconst 0, 1) := by decide +kernel
theorem dX3_asked_300 : decode cX3_asked 300 = .ok (.invokevirtual 107, 3) := by decide +kernel
theorem dX3_asked_303 : decode cX3_asked 303 = .ok (.bipush 99, 2) := by decide +kernel
theorem dX3_asked_305 : decode cX3_asked 305 = .ok (.invokestatic 111, 3) := by decide +kernel
theorem dX3_asked_308 : decode cX3_asked 308 = .ok (.ireturn, 1) := by decide +kernel
theorem dX3_asked_309 : decode cX3_asked 309 = .ok (.aload_n 0, 1) := by decide +kernel
theorem dX3_asked_310 : decode cX3_asked 310 = .ok (.getfield 17, 3) := by decide +kernel
theorem dX3_asked_313 : decode cX3_asked 313 = .ok (.getfield 103, 3) := by decide +kernel
theorem dX3_asked_316 : decode cX3_asked 316 = .ok (.iconst 3, 1) := by decide +kernel
theorem dX3_asked_317 : decode cX3_asked 317 = .ok (.aload_n 0, 1) := by decide +kernel
theorem dX3_asked_318 : decode cX3_asked 318 = .ok (.getfield 11, 3) := by decide +kernel
theorem dX3_asked_321 : decode cX3_asked 321 = .ok (.bipush 50, 2) := by decide +kernel
theorem dX3_asked_323 : decode cX3_asked 323 = .ok (.invokevirtual 107, 3) := by decide +kernel
theorem dX3_asked_326 : decode cX3_asked 326 = .ok (.sipush 1000, 3) := by decide +kernel
theorem dX3_asked_329 : decode cX3_asked 329 = .ok (.invokestatic 111, 3) := by decide +kernel
theorem dX3_asked_332 : decode cX3_asked 332 = .ok (.ireturn, 1) := by decide +kernel
theorem dX3_beat_0 : decode cX3_beat 0 = .ok (.iconst 0, 1) := by decide +kernel
theorem dX3_beat_1 : decode cX3_beat 1 = .ok (.istore_n 3, 1) := by decide +kernel
theorem dX3_beat_2 : decode cX3_beat 2 = .ok (.iload_n 3, 1) := by decide +kernel
theorem dX3_beat_3 : decode cX3_beat 3 = .ok (.bipush 12, 2) := by decide +kernel
theorem dX3_beat_5 : decode cX3_beat 5 = .ok (.if_icmp .ge 103, 3) := by decide +kernel
theorem dX3_beat_8 : decode cX3_beat 8 = .ok (.iload_n 3, 1) := by decide +kernel
theorem dX3_beat_9 : decode cX3_beat 9 = .ok (.aload_n 0, 1) := by decide +kernel
theorem dX3_beat_10 : decode cX3_beat 10 = .ok (.getfield 17, 3) := by decide +kernel
theorem dX3_beat_13 : decode cX3_beat 13 = .ok (.getfield 123, 3) := by decide +kernel
theorem dX3_beat_16 : decode cX3_beat 16 = .ok (.if_icmp .ge 92, 3) := by decide +kernel
theorem dX3_beat_19 : decode cX3_beat 19 = .ok (.aload_n 0, 1) := by decide +kernel
theorem dX3_beat_20 : decode cX3_beat 20 = .ok (.iload_n 3, 1) := by decide +kernel
theorem dX3_beat_21 : decode cX3_beat 21 = .ok (.iload_n 2, 1) := by decide +kernel
theorem dX3_beat_22 : decode cX3_beat 22 = .ok (.invokevirtual 189, 3) := by decide +kernel
theorem dX3_beat_25 : decode cX3_beat 25 = .ok (.ifCond .ne 6, 3) := by decide +kernel
theorem dX3_beat_28 : decode cX3_beat 28 = .ok (.goto 74, 3) := by decide +kernel
theorem dX3_beat_31 : decode cX3_beat 31 = .ok (.aload_n 0, 1) := by decide +kernel
theorem dX3_beat_32 : decode cX3_beat 32 = .ok (.getfield 17, 3) := by decide +kernel
theorem dX3_beat_35 : decode cX3_beat 35 = .ok (.getfield 73, 3) := by decide +kernel
theorem dX3_beat_38 : decode cX3_beat 38 = .ok (.iload_n 3, 1) := by decide +kernel
theorem dX3_beat_39 : decode cX3_beat 39 = .ok (.iaload, 1) := by decide +kernel
theorem dX3_beat_40 : decode cX3_beat 40 = .ok (.iload_n 1, 1) := by decide +kernel
theorem dX3_beat_41 : decode cX3_beat 41 = .ok (.if_icmp .eq 31, 3) := by decide +kernel
theorem dX3_beat_44 : decode cX3_beat 44 = .ok (.aload_n 0, 1) := by decide +kernel
theorem dX3_beat_45 : decode cX3_beat 45 = .ok (.getfield 21, 3) := by decide +kernel
theorem dX3_beat_48 : decode cX3_beat 48 = .ok (.getfield 82, 3) := by decide +kernel
theorem dX3_beat_51 : decode cX3_beat 51 = .ok (.iload_n 3, 1) := by decide +kernel
theorem dX3_beat_52 : decode cX3_beat 52 = .ok (.iconst 0, 1) := by decide +kernel
theorem dX3_beat_53 : decode cX3_beat 53 = .ok (.aload_n 0, 1) := by decide +kernel
theorem dX3_beat_54 : decode cX3_beat 54 = .ok (.getfield 21, 3) := by decide +kernel
theorem dX3_beat_57 : decode cX3_beat 57 = .ok (.getfield 82, 3) := by decide +kernel
theorem dX3_beat_60 : decode cX3_beat 60 = .ok (.iload_n 3, 1) := by decide +kernel
theorem dX3_beat_61 : decode cX3_beat 61 = .ok (.iaload, 1) := by decide +kernel
theorem dX3_beat_62 : decode cX3_beat 62 = .ok (.bipush 10, 2) := by decide +kernel
theorem dX3_beat_64 : decode cX3_beat 64 = .ok (.isub, 1) := by decide +kernel
theorem dX3_beat_65 : decode cX3_beat 65 = .ok (.invokestatic 120, 3) := by decide +kernel
theorem dX3_beat_68 : decode cX3_beat 68 = .ok (.iastore, 1) := by decide +kernel
theorem dX3_beat_69 : decode cX3_beat 69 = .ok (.goto 33, 3) := by decide +kernel
theorem dX3_beat_72 : decode cX3_beat 72 = .ok (.aload_n 0, 1) := by decide +kernel
theorem dX3_beat_73 : decode cX3_beat 73 = .ok (.getfield 21, 3) := by decide +kernel
theorem dX3_beat_76 : decode cX3_beat 76 = .ok (.getfield 70, 3) := by decide +kernel
theorem dX3_beat_79 : decode cX3_beat 79 = .ok (.iload_n 3, 1) := by decide +kernel
theorem dX3_beat_80 : decode cX3_beat 80 = .ok (.iconst 0, 1) := by decide +kernel
theorem dX3_beat_81 : decode cX3_beat 81 = .ok (.iastore, 1) := by decide +kernel
theorem dX3_beat_82 : decode cX3_beat 82 = .ok (.aload_n 0, 1) := by decide +kernel
theorem dX3_beat_83 : decode cX3_beat 83 = .ok (.getfield 21, 3) := by decide +kernel
theorem dX3_beat_86 : decode cX3_beat 86 = .ok (.getfield 82, 3) := by decide +kernel
theorem dX3_beat_89 : decode cX3_beat 89 = .ok (.iload_n 3, 1) := by decide +kernel
theorem dX3_beat_90 : decode cX3_beat 90 = .ok (.dup2, 1) := by decide +kernel
theorem dX3_beat_91 : decode cX3_beat 91 = .ok (.iaload, 1) := by decide +kernel
theorem dX3_beat_92 : decode cX3_beat 92 = .ok (.iconst 2, 1) := by decide +kernel
theorem dX3_beat_93 : decode cX3_beat 93 = .ok (.idiv, 1) := by decide +kernel
theorem dX3_beat_94 : decode cX3_beat 94 = .ok (.iastore, 1) := by decide +kernel
theorem dX3_beat_95 : decode cX3_beat 95 = .ok (.aload_n 0, 1) := by decide +kernel
theorem dX3_beat_96 : decode cX3_beat 96 = .ok (.iconst 2, 1) := by decide +kernel
theorem dX3_beat_97 : decode cX3_beat 97 = .ok (.iload_n 3, 1) := by decide +kernel
theorem dX3_beat_98 : decode cX3_beat 98 = .ok (.iload_n 2, 1) := by decide +kernel
theorem dX3_beat_99 : decode cX3_beat 99 = .ok (.invokevirtual 153, 3) := by decide +kernel
theorem dX3_beat_102 : decode cX3_beat 102 = .ok (.iinc 3 1, 3) := by decide +kernel
theorem dX3_beat_105 : decode cX3_beat 105 = .ok (.goto (-103), 3) := by decide +kernel
theorem dX3_beat_108 : decode cX3_beat 108 = .ok (.return_, 1) := by decide +kernel
theorem dX3_breathAt_0 : decode cX3_breathAt 0 = .ok (.iconst 0, 1) := by decide +kernel
theorem dX3_breathAt_1 : decode cX3_breathAt 1 = .ok (.istore_n 3, 1) := by decide +kernel
theorem dX3_breathAt_2 : decode cX3_breathAt 2 = .ok (.iconst 0, 1) := by decide +kernel
theorem dX3_breathAt_3 : decode cX3_breathAt 3 = .ok (.istore 4, 2) := by decide +kernel
theorem dX3_breathAt_5 : decode cX3_breathAt 5 = .ok (.iload 4, 2) := by decide +kernel
theorem dX3_breathAt_7 : decode cX3_breathAt 7 = .ok (.bipush 12, 2) := by decide +kernel
theorem dX3_breathAt_9 : decode cX3_breathAt 9 = .ok (.if_icmp .ge 62, 3) := by decide +kernel
theorem dX3_breathAt_12 : decode cX3_breathAt 12 = .ok (.iload 4, 2) := by decide +kernel
theorem dX3_breathAt_14 : decode cX3_breathAt 14 = .ok (.aload_n 0, 1) := by decide +kernel
theorem dX3_breathAt_15 : decode cX3_breathAt 15 = .ok (.getfield 17, 3) := by decide +kernel
theorem dX3_breathAt_18 : decode cX3_breathAt 18 = .ok (.getfield 123, 3) := by decide +kernel
theorem dX3_breathAt_21 : decode cX3_breathAt 21 = .ok (.if_icmp .ge 50, 3) := by decide +kernel
theorem dX3_breathAt_24 : decode cX3_breathAt 24 = .ok (.iload_n 3, 1) := by decide +kernel
theorem dX3_breathAt_25 : decode cX3_breathAt 25 = .ok (.aload_n 0, 1) := by decide +kernel
theorem dX3_breathAt_26 : decode cX3_breathAt 26 = .ok (.getfield 17, 3) := by decide +kernel
theorem dX3_breathAt_29 : decode cX3_breathAt 29 = .ok (.getfield 73, 3) := by decide +kernel
theorem dX3_breathAt_32 : decode cX3_breathAt 32 = .ok (.iload 4, 2) := by decide +kernel
theorem dX3_breathAt_34 : decode cX3_breathAt 34 = .ok (.iaload, 1) := by decide +kernel
theorem dX3_breathAt_35 : decode cX3_breathAt 35 = .ok (.iload_n 1, 1) := by decide +kernel
theorem dX3_breathAt_36 : decode cX3_breathAt 36 = .ok (.if_icmp .ne 26, 3) := by decide +kernel
theorem dX3_breathAt_39 : decode cX3_breathAt 39 = .ok (.aload_n 0, 1) := by decide +kernel
theorem dX3_breathAt_40 : decode cX3_breathAt 40 = .ok (.iload 4, 2) := by decide +kernel
theorem dX3_breathAt_42 : decode cX3_breathAt 42 = .ok (.iload_n 2, 1) := by decide +kernel
theorem dX3_breathAt_43 : decode cX3_breathAt 43 = .ok (.invokevirtual 189, 3) := by decide +kernel
theorem dX3_breathAt_46 : decode cX3_breathAt 46 = .ok (.ifCond .eq 16, 3) := by decide +kernel
theorem dX3_breathAt_49 : decode cX3_breathAt 49 = .ok (.aload_n 0, 1) := by decide +kernel
theorem dX3_breathAt_50 : decode cX3_breathAt 50 = .ok (.getfield 21, 3) := by decide +kernel
theorem dX3_breathAt_53 : decode cX3_breathAt 53 = .ok (.getfield 82, 3) := by decide +kernel
theorem dX3_breathAt_56 : decode cX3_breathAt 56 = .ok (.iload 4, 2) := by decide +kernel
theorem dX3_breathAt_58 : decode cX3_breathAt 58 = .ok (.iaload, 1) := by decide +kernel
theorem dX3_breathAt_59 : decode cX3_breathAt 59 = .ok (.goto 4, 3) := by decide +kernel
theorem dX3_breathAt_62 : decode cX3_breathAt 62 = .ok (.iconst 0, 1) := by decide +kernel
theorem dX3_breathAt_63 : decode cX3_breathAt 63 = .ok (.iadd, 1) := by decide +kernel
theorem dX3_breathAt_64 : decode cX3_breathAt 64 = .ok (.istore_n 3, 1) := by decide +kernel
theorem dX3_breathAt_65 : decode cX3_breathAt 65 = .ok (.iinc 4 1, 3) := by decide +kernel
theorem dX3_breathAt_68 : decode cX3_breathAt 68 = .ok (.goto (-63), 3) := by decide +kernel
theorem dX3_breathAt_71 : decode cX3_breathAt 71 = .ok (.iload_n 3, 1) := by decide +kernel
theorem dX3_breathAt_72 : decode cX3_breathAt 72 = .ok (.ireturn, 1) := by decide +kernel
theorem dX3_breathOf_0 : decode cX3_breathOf 0 = .ok (.iconst 0, 1) := by decide +kernel
theorem dX3_breathOf_1 : decode cX3_breathOf 1 = .ok (.istore_n 2, 1) := by decide +kernel
theorem dX3_breathOf_2 : decode cX3_breathOf 2 = .ok (.iconst 0, 1) := by decide +kernel
theorem dX3_breathOf_3 : decode cX3_breathOf 3 = .ok (.istore_n 3, 1) := by decide +kernel
theorem dX3_breathOf_4 : decode cX3_breathOf 4 = .ok (.iload_n 3, 1) := by decide +kernel
theorem dX3_breathOf_5 : decode cX3_breathOf 5 = .ok (.bipush 12, 2) := by decide +kernel
theorem dX3_breathOf_7 : decode cX3_breathOf 7 = .ok (.if_icmp .ge 49, 3) := by decide +kernel
theorem dX3_breathOf_10 : decode cX3_breathOf 10 = .ok (.iload_n 3, 1) := by decide +kernel
theorem dX3_breathOf_11 : decode cX3_breathOf 11 = .ok (.aload_n 0, 1) := by decide +kernel
theorem dX3_breathOf_12 : decode cX3_breathOf 12 = .ok (.getfield 17, 3) := by decide +kernel
theorem dX3_breathOf_15 : decode cX3_breathOf 15 = .ok (.getfield 123, 3) := by decide +kernel
theorem dX3_breathOf_18 : decode cX3_breathOf 18 = .ok (.if_icmp .ge 38, 3) := by decide +kernel
theorem dX3_breathOf_21 : decode cX3_breathOf 21 = .ok (.iload_n 2, 1) := by decide +kernel
theorem dX3_breathOf_22 : decode cX3_breathOf 22 = .ok (.aload_n 0, 1) := by decide +kernel
theorem dX3_breathOf_23 : decode cX3_breathOf 23 = .ok (.getfield 17, 3) := by decide +kernel
theorem dX3_breathOf_26 : decode cX3_breathOf 26 = .ok (.getfield 73, 3) := by decide +kernel
theorem dX3_breathOf_29 : decode cX3_breathOf 29 = .ok (.iload_n 3, 1) := by decide +kernel
theorem dX3_breathOf_30 : decode cX3_breathOf 30 = .ok (.iaload, 1) := by decide +kernel
theorem dX3_breathOf_31 : decode cX3_breathOf 31 = .ok (.iload_n 1, 1) := by decide +kernel
theorem dX3_breathOf_32 : decode cX3_breathOf 32 = .ok (.if_icmp .ne 15, 3) := by decide +kernel
theorem dX3_breathOf_35 : decode cX3_breathOf 35 = .ok (.aload_n 0, 1) := by decide +kernel
theorem dX3_breathOf_36 : decode cX3_breathOf 36 = .ok (.getfield 21, 3) := by decide +kernel
theorem dX3_breathOf_39 : decode cX3_breathOf 39 = .ok (.getfield 82, 3) := by decide +kernel
theorem dX3_breathOf_42 : decode cX3_breathOf 42 = .ok (.iload_n 3, 1) := by decide +kernel
theorem dX3_breathOf_43 : decode cX3_breathOf 43 = .ok (.iaload, 1) := by decide +kernel
theorem dX3_breathOf_44 : decode cX3_breathOf 44 = .ok (.goto 4, 3) := by decide +kernel
theorem dX3_breathOf_47 : decode cX3_breathOf 47 = .ok (.iconst 0, 1) := by decide +kernel
theorem dX3_breathOf_48 : decode cX3_breathOf 48 = .ok (.iadd, 1) := by decide +kernel
theorem dX3_breathOf_49 : decode cX3_breathOf 49 = .ok (.istore_n 2, 1) := by decide +kernel
theorem dX3_breathOf_50 : decode cX3_breathOf 50 = .ok (.iinc 3 1, 3) := by decide +kernel
theorem dX3_breathOf_53 : decode cX3_breathOf 53 = .ok (.goto (-49), 3) := by decide +kernel
theorem dX3_breathOf_56 : decode cX3_breathOf 56 = .ok (.iload_n 2, 1) := by decide +kernel
theorem dX3_breathOf_57 : decode cX3_breathOf 57 = .ok (.ireturn, 1) := by decide +kernel
theorem dX3_callUp_0 : decode cX3_callUp 0 = .ok (.iload_n 1, 1) := by decide +kernel
theorem dX3_callUp_1 : decode cX3_callUp 1 = .ok (.invokestatic 135, 3) := by decide +kernel
theorem dX3_callUp_4 : decode cX3_callUp 4 = .ok (.ifCond .eq 20, 3) := by decide +kernel
theorem dX3_callUp_7 : decode cX3_callUp 7 = .ok (.aload_n 0, 1) := by decide +kernel
theorem dX3_callUp_8 : decode cX3_callUp 8 = .ok (.iload_n 1, 1) := by decide +kernel
theorem dX3_callUp_9 : decode cX3_callUp 9 = .ok (.invokevirtual 138, 3) := by decide +kernel
theorem dX3_callUp_12 : decode cX3_callUp 12 = .ok (.aload_n 0, 1) := by decide +kernel
theorem dX3_callUp_13 : decode cX3_callUp 13 = .ok (.getfield 17, 3) := by decide +kernel
theorem dX3_callUp_16 : decode cX3_callUp 16 = .ok (.getfield 141, 3) := by decide +kernel
theorem dX3_callUp_19 : decode cX3_callUp 19 = .ok (.iload_n 1, 1) := by decide +kernel
theorem dX3_callUp_20 : decode cX3_callUp 20 = .ok (.iaload, 1) := by decide +kernel
theorem dX3_callUp_21 : decode cX3_callUp 21 = .ok (.if_icmp .lt 4, 3) := by decide +kernel
theorem dX3_callUp_24 : decode cX3_callUp 24 = .ok (.return_, 1) := by decide +kernel
theorem dX3_callUp_25 : decode cX3_callUp 25 = .ok (.iconst (-1), 1) := by decide +kernel
theorem dX3_callUp_26 : decode cX3_callUp 26 = .ok (.istore_n 2, 1) := by decide +kernel
theorem dX3_callUp_27 : decode cX3_callUp 27 = .ok (.iconst 0, 1) := by decide +kernel
theorem dX3_callUp_28 : decode cX3_callUp 28 = .ok (.istore_n 3, 1) := by decide +kernel
theorem dX3_callUp_29 : decode cX3_callUp 29 = .ok (.iconst 0, 1) := by decide +kernel
theorem dX3_callUp_30 : decode cX3_callUp 30 = .ok (.istore 4, 2) := by decide +kernel
theorem dX3_callUp_32 : decode cX3_callUp 32 = .ok (.iload 4, 2) := by decide +kernel
theorem dX3_callUp_34 : decode cX3_callUp 34 = .ok (.bipush 12, 2) := by decide +kernel
theorem dX3_callUp_36 : decode cX3_callUp 36 = .ok (.if_icmp .ge 139, 3) := by decide +kernel
theorem dX3_callUp_39 : decode cX3_callUp 39 = .ok (.iload 4, 2) := by decide +kernel
theorem dX3_callUp_41 : decode cX3_callUp 41 = .ok (.aload_n 0, 1) := by decide +kernel
theorem dX3_callUp_42 : decode cX3_callUp 42 = .ok (.getfield 17, 3) := by decide +kernel
theorem dX3_callUp_45 : decode cX3_callUp 45 = .ok (.getfield 123, 3) := by decide +kernel
theorem dX3_callUp_48 : decode cX3_callUp 48 = .ok (.if_icmp .ge 127, 3) := by decide +kernel
theorem dX3_callUp_51 : decode cX3_callUp 51 = .ok (.aload_n 0, 1) := by decide +kernel
theorem dX3_callUp_52 : decode cX3_callUp 52 = .ok (.getfield 17, 3) := by decide +kernel
theorem dX3_callUp_55 : decode cX3_callUp 55 = .ok (.getfield 73, 3) := by decide +kernel
theorem dX3_callUp_58 : decode cX3_callUp 58 = .ok (.iload 4, 2) := by decide +kernel
theorem dX3_callUp_60 : decode cX3_callUp 60 = .ok (.iaload, 1) := by decide +kernel
theorem dX3_callUp_61 : decode cX3_callUp 61 = .ok (.iload_n 1, 1) := by decide +kernel
theorem dX3_callUp_62 : decode cX3_callUp 62 = .ok (.if_icmp .ne 107, 3) := by decide +kernel
theorem dX3_callUp_65 : decode cX3_callUp 65 = .ok (.aload_n 0, 1) := by decide +kernel
theorem dX3_callUp_66 : decode cX3_callUp 66 = .ok (.getfield 21, 3) := by decide +kernel
theorem dX3_callUp_69 : decode cX3_callUp 69 = .ok (.getfield 70, 3) := by decide +kernel
theorem dX3_callUp_72 : decode cX3_callUp 72 = .ok (.iload 4, 2) := by decide +kernel
theorem dX3_callUp_74 : decode cX3_callUp 74 = .ok (.iaload, 1) := by decide +kernel
theorem dX3_callUp_75 : decode cX3_callUp 75 = .ok (.ifCond .ne 94, 3) := by decide +kernel
theorem dX3_callUp_78 : decode cX3_callUp 78 = .ok (.aload_n 0, 1) := by decide +kernel
theorem dX3_callUp_79 : decode cX3_callUp 79 = .ok (.getfield 17, 3) := by decide +kernel
theorem dX3_callUp_82 : decode cX3_callUp 82 = .ok (.getfield 76, 3) := by decide +kernel
theorem dX3_callUp_85 : decode cX3_callUp 85 = .ok (.iload 4, 2) := by decide +kernel
theorem dX3_callUp_87 : decode cX3_callUp 87 = .ok (.iaload, 1) := by decide +kernel
theorem dX3_callUp_88 : decode cX3_callUp 88 = .ok (.aload_n 0, 1) := by decide +kernel
theorem dX3_callUp_89 : decode cX3_callUp 89 = .ok (.getfield 144, 3) := by decide +kernel
theorem dX3_callUp_92 : decode cX3_callUp 92 = .ok (.if_icmp .ge 6, 3) := by decide +kernel
theorem dX3_callUp_95 : decode cX3_callUp 95 = .ok (.goto 74, 3) := by decide +kernel
theorem dX3_callUp_98 : decode cX3_callUp 98 = .ok (.aload_n 0, 1) := by decide +kernel
theorem dX3_callUp_99 : decode cX3_callUp 99 = .ok (.iload 4, 2) := by decide +kernel
theorem dX3_callUp_101 : decode cX3_callUp 101 = .ok (.iconst 0, 1) := by decide +kernel
theorem dX3_callUp_102 : decode cX3_callUp 102 = .ok (.invokevirtual 147, 3) := by decide +kernel
theorem dX3_callUp_105 : decode cX3_callUp 105 = .ok (.istore 5, 2) := by decide +kernel
theorem dX3_callUp_107 : decode cX3_callUp 107 = .ok (.iload_n 2, 1) := by decide +kernel
theorem dX3_callUp_108 : decode cX3_callUp 108 = .ok (.iconst (-1), 1) := by decide +kernel
theorem dX3_callUp_109 : decode cX3_callUp 109 = .ok (.if_icmp .eq 29, 3) := by decide +kernel
theorem dX3_callUp_112 : decode cX3_callUp 112 = .ok (.aload_n 0, 1) := by decide +kernel
theorem dX3_callUp_113 : decode cX3_callUp 113 = .ok (.getfield 17, 3) := by decide +kernel
theorem dX3_callUp_116 : decode cX3_callUp 116 = .ok (.getfield 76, 3) := by decide +kernel
theorem dX3_callUp_119 : decode cX3_callUp 119 = .ok (.iload 4, 2) := by decide +kernel
theorem dX3_callUp_121 : decode cX3_callUp 121 = .ok (.iaload, 1) := by decide +kernel
theorem dX3_callUp_122 : decode cX3_callUp 122 = .ok (.aload_n 0, 1) := by decide +kernel
theorem dX3_callUp_123 : decode cX3_callUp 123 = .ok (.getfield 17, 3) := by decide +kernel
theorem dX3_callUp_126 : decode cX3_callUp 126 = .ok (.getfield 76, 3) := by decide +kernel
theorem dX3_callUp_129 : decode cX3_callUp 129 = .ok (.iload_n 2, 1) := by decide +kernel
theorem dX3_callUp_130 : decode cX3_callUp 130 = .ok (.iaload, 1) := by decide +kernel
theorem dX3_callUp_131 : decode cX3_callUp 131 = .ok (.if_icmp .le 7, 3) := by decide +kernel
theorem dX3_callUp_134 : decode cX3_callUp 134 = .ok (.iconst 1, 1) := by decide +kernel
theorem dX3_callUp_135 : decode cX3_callUp 135 = .ok (.goto 4, 3) := by decide +kernel
theorem dX3_callUp_138 : decode cX3_callUp 138 = .ok (.iconst 0, 1) := by decide +kernel
theorem dX3_callUp_139 : decode cX3_callUp 139 = .ok (.istore 6, 2) := by decide +kernel
theorem dX3_callUp_141 : decode cX3_callUp 141 = .ok (.iload 5, 2) := by decide +kernel
theorem dX3_callUp_143 : decode cX3_callUp 143 = .ok (.iload_n 3, 1) := by decide +kernel
theorem dX3_callUp_144 : decode cX3_callUp 144 = .ok (.if_icmp .gt 19, 3) := by decide +kernel
theorem dX3_callUp_147 : decode cX3_callUp 147 = .ok (.iload_n 2, 1) := by decide +kernel
theorem dX3_callUp_148 : decode cX3_callUp 148 = .ok (.iconst (-1), 1) := by decide +kernel
theorem dX3_callUp_149 : decode cX3_callUp 149 = .ok (.if_icmp .eq 20, 3) := by decide +kernel
theorem dX3_callUp_152 : decode cX3_callUp 152 = .ok (.iload 5, 2) := by decide +kernel
theorem dX3_callUp_154 : decode cX3_callUp 154 = .ok (.iload_n 3, 1) := by decide +kernel
theorem dX3_callUp_155 : decode cX3_callUp 155 = .ok (.if_icmp .ne 14, 3) := by decide +kernel
theorem dX3_callUp_158 : decode cX3_callUp 158 = .ok (.iload 6, 2) := by decide +kernel
theorem dX3_callUp_160 : decode cX3_callUp 160 = .ok (.ifCond .eq 9, 3) := by decide +kernel
theorem dX3_callUp_163 : decode cX3_callUp 163 = .ok (.iload 4, 2) := by decide +kernel
theorem dX3_callUp_165 : decode cX3_callUp 165 = .ok (.istore_n 2, 1) := by decide +kernel
theorem dX3_callUp_166 : decode cX3_callUp 166 = .ok (.iload 5, 2) := by decide +kernel
theorem dX3_callUp_168 : decode cX3_callUp 168 = .ok (.istore_n 3, 1) := by decide +kernel
theorem dX3_callUp_169 : decode cX3_callUp 169 = .ok (.iinc 4 1, 3) := by decide +kernel
theorem dX3_callUp_172 : decode cX3_callUp 172 = .ok (.goto (-140), 3) := by decide +kernel
theorem dX3_callUp_175 : decode cX3_callUp 175 = .ok (.iload_n 2, 1) := by decide +kernel
theorem dX3_callUp_176 : decode cX3_callUp 176 = .ok (.iconst (-1), 1) := by decide +kernel
theorem dX3_callUp_177 : decode cX3_callUp 177 = .ok (.if_icmp .eq 36, 3) := by decide +kernel
theorem dX3_callUp_180 : decode cX3_callUp 180 = .ok (.aload_n 0, 1) := by decide +kernel
theorem dX3_callUp_181 : decode cX3_callUp 181 = .ok (.getfield 21, 3) := by decide +kernel
theorem dX3_callUp_184 : decode cX3_callUp 184 = .ok (.getfield 70, 3) := by decide +kernel
theorem dX3_callUp_187 : decode cX3_callUp 187 = .ok (.iload_n 2, 1) := by decide +kernel
theorem dX3_callUp_188 : decode cX3_callUp 188 = .ok (.iconst 1, 1) := by decide +kernel
theorem dX3_callUp_189 : decode cX3_callUp 189 = .ok (.iastore, 1) := by decide +kernel
theorem dX3_callUp_190 : decode cX3_callUp 190 = .ok (.aload_n 0, 1) := by decide +kernel
theorem dX3_callUp_191 : decode cX3_callUp 191 = .ok (.getfield 21, 3) := by decide +kernel
theorem dX3_callUp_194 : decode cX3_callUp 194 = .ok (.getfield 94, 3) := by decide +kernel
theorem dX3_callUp_197 : decode cX3_callUp 197 = .ok (.iload_n 2, 1) := by decide +kernel
theorem dX3_callUp_198 : decode cX3_callUp 198 = .ok (.iload_n 1, 1) := by decide +kernel
theorem dX3_callUp_199 : decode cX3_callUp 199 = .ok (.invokestatic 150, 3) := by decide +kernel
theorem dX3_callUp_202 : decode cX3_callUp 202 = .ok (.iastore, 1) := by decide +kernel
theorem dX3_callUp_203 : decode cX3_callUp 203 = .ok (.aload_n 0, 1) := by decide +kernel
theorem dX3_callUp_204 : decode cX3_callUp 204 = .ok (.iconst 0, 1) := by decide +kernel
theorem dX3_callUp_205 : decode cX3_callUp 205 = .ok (.iload_n 2, 1) := by decide +kernel
theorem dX3_callUp_206 : decode cX3_callUp 206 = .ok (.iload_n 1, 1) := by decide +kernel
theorem dX3_callUp_207 : decode cX3_callUp 207 = .ok (.invokestatic 150, 3) := by decide +kernel
theorem dX3_callUp_210 : decode cX3_callUp 210 = .ok (.invokevirtual 153, 3) := by decide +kernel
theorem dX3_callUp_213 : decode cX3_callUp 213 = .ok (.return_, 1) := by decide +kernel
theorem dX3_catchYoungest_0 : decode cX3_catchYoungest 0 = .ok (.iconst (-1), 1) := by decide +kernel
theorem dX3_catchYoungest_1 : decode cX3_catchYoungest 1 = .ok (.istore_n 3, 1) := by decide +kernel
theorem dX3_catchYoungest_2 : decode cX3_catchYoungest 2 = .ok (.iconst 0, 1) := by decide +kernel
theorem dX3_catchYoungest_3 : decode cX3_catchYoungest 3 = .ok (.istore 4, 2) := by decide +kernel
theorem dX3_catchYoungest_5 : decode cX3_catchYoungest 5 = .ok (.iload 4, 2) := by decide +kernel
theorem dX3_catchYoungest_7 : decode cX3_catchYoungest 7 = .ok (.bipush 12, 2) := by decide +kernel
theorem dX3_catchYoungest_9 : decode cX3_catchYoungest 9 = .ok (.if_icmp .ge 87, 3) := by decide +kernel
theorem dX3_catchYoungest_12 : decode cX3_catchYoungest 12 = .ok (.iload 4, 2) := by decide +kernel
theorem dX3_catchYoungest_14 : decode cX3_catchYoungest 14 = .ok (.aload_n 0, 1) := by decide +kernel
theorem dX3_catchYoungest_15 : decode cX3_catchYoungest 15 = .ok (.getfield 17, 3) := by decide +kernel
theorem dX3_catchYoungest_18 : decode cX3_catchYoungest 18 = .ok (.getfield 123, 3) := by decide +kernel
theorem dX3_catchYoungest_21 : decode cX3_catchYoungest 21 = .ok (.if_icmp .ge 75, 3) := by decide +kernel
theorem dX3_catchYoungest_24 : decode cX3_catchYoungest 24 = .ok (.aload_n 0, 1) := by decide +kernel
theorem dX3_catchYoungest_25 : decode cX3_catchYoungest 25 = .ok (.getfield 17, 3) := by decide +kernel
theorem dX3_catchYoungest_28 : decode cX3_catchYoungest 28 = .ok (.getfield 73, 3) := by decide +kernel
theorem dX3_catchYoungest_31 : decode cX3_catchYoungest 31 = .ok (.iload 4, 2) := by decide +kernel
theorem dX3_catchYoungest_33 : decode cX3_catchYoungest 33 = .ok (.iaload, 1) := by decide +kernel
theorem dX3_catchYoungest_34 : decode cX3_catchYoungest 34 = .ok (.iload_n 1, 1) := by decide +kernel
theorem dX3_catchYoungest_35 : decode cX3_catchYoungest 35 = .ok (.if_icmp .ne 17, 3) := by decide +kernel
theorem dX3_catchYoungest_38 : decode cX3_catchYoungest 38 = .ok (.aload_n 0, 1) := by decide +kernel
theorem dX3_catchYoungest_39 : decode cX3_catchYoungest 39 = .ok (.iload 4, 2) := by decide +kernel
theorem dX3_catchYoungest_41 : decode cX3_catchYoungest 41 = .ok (.iload_n 2, 1) := by decide +kernel
theorem dX3_catchYoungest_42 : decode cX3_catchYoungest 42 = .ok (.invokevirtual 189, 3) := by decide +kernel
theorem dX3_catchYoungest_45 : decode cX3_catchYoungest 45 = .ok (.ifCond .eq 7, 3) := by decide +kernel
theorem dX3_catchYoungest_48 : decode cX3_catchYoungest 48 = .ok (.iconst 1, 1) := by decide +kernel
theorem dX3_catchYoungest_49 : decode cX3_catchYoungest 49 = .ok (.goto 4, 3) := by decide +kernel
theorem dX3_catchYoungest_52 : decode cX3_catchYoungest 52 = .ok (.iconst 0, 1) := by decide +kernel
theorem dX3_catchYoungest_53 : decode cX3_catchYoungest 53 = .ok (.istore 5, 2) := by decide +kernel
theorem dX3_catchYoungest_55 : decode cX3_catchYoungest 55 = .ok (.iload 5, 2) := by decide +kernel
theorem dX3_catchYoungest_57 : decode cX3_catchYoungest 57 = .ok (.ifCond .eq 33, 3) := by decide +kernel
theorem dX3_catchYoungest_60 : decode cX3_catchYoungest 60 = .ok (.iload_n 3, 1) := by decide +kernel
theorem dX3_catchYoungest_61 : decode cX3_catchYoungest 61 = .ok (.iconst (-1), 1) := by decide +kernel
theorem dX3_catchYoungest_62 : decode cX3_catchYoungest 62 = .ok (.if_icmp .eq 25, 3) := by decide +kernel
theorem dX3_catchYoungest_65 : decode cX3_catchYoungest 65 = .ok (.aload_n 0, 1) := by decide +kernel
theorem dX3_catchYoungest_66 : decode cX3_catchYoungest 66 = .ok (.getfield 17, 3) := by decide +kernel
theorem dX3_catchYoungest_69 : decode cX3_catchYoungest 69 = .ok (.getfield 76, 3) := by decide +kernel
theorem dX3_catchYoungest_72 : decode cX3_catchYoungest 72 = .ok (.iload 4, 2) := by decide +kernel
theorem dX3_catchYoungest_74 : decode cX3_catchYoungest 74 = .ok (.iaload, 1) := by decide +kernel
theorem dX3_catchYoungest_75 : decode cX3_catchYoungest 75 = .ok (.aload_n 0, 1) := by decide +kernel
theorem dX3_catchYoungest_76 : decode cX3_catchYoungest 76 = .ok (.getfield 17, 3) := by decide +kernel
theorem dX3_catchYoungest_79 : decode cX3_catchYoungest 79 = .ok (.getfield 76, 3) := by decide +kernel
theorem dX3_catchYoungest_82 : decode cX3_catchYoungest 82 = .ok (.iload_n 3, 1) := by decide +kernel
theorem dX3_catchYoungest_83 : decode cX3_catchYoungest 83 = .ok (.iaload, 1) := by decide +kernel
theorem dX3_catchYoungest_84 : decode cX3_catchYoungest 84 = .ok (.if_icmp .ge 6, 3) := by decide +kernel
theorem dX3_catchYoungest_87 : decode cX3_catchYoungest 87 = .ok (.iload 4, 2) := by decide +kernel
theorem dX3_catchYoungest_89 : decode cX3_catchYoungest 89 = .ok (.istore_n 3, 1) := by decide +kernel
theorem dX3_catchYoungest_90 : decode cX3_catchYoungest 90 = .ok (.iinc 4 1, 3) := by decide +kernel
theorem dX3_catchYoungest_93 : decode cX3_catchYoungest 93 = .ok (.goto (-88), 3) := by decide +kernel
theorem dX3_catchYoungest_96 : decode cX3_catchYoungest 96 = .ok (.iload_n 3, 1) := by decide +kernel
theorem dX3_catchYoungest_97 : decode cX3_catchYoungest 97 = .ok (.iconst (-1), 1) := by decide +kernel
theorem dX3_catchYoungest_98 : decode cX3_catchYoungest 98 = .ok (.if_icmp .eq 46, 3) := by decide +kernel
theorem dX3_catchYoungest_101 : decode cX3_catchYoungest 101 = .ok (.aload_n 0, 1) := by decide +kernel
theorem dX3_catchYoungest_102 : decode cX3_catchYoungest 102 = .ok (.getfield 21, 3) := by decide +kernel
theorem dX3_catchYoungest_105 : decode cX3_catchYoungest 105 = .ok (.getfield 70, 3) := by decide +kernel
theorem dX3_catchYoungest_108 : decode cX3_catchYoungest 108 = .ok (.iload_n 3, 1) := by decide +kernel
theorem dX3_catchYoungest_109 : decode cX3_catchYoungest 109 = .ok (.iconst 2, 1) := by decide +kernel
theorem dX3_catchYoungest_110 : decode cX3_catchYoungest 110 = .ok (.iastore, 1) := by decide +kernel
theorem dX3_catchYoungest_111 : decode cX3_catchYoungest 111 = .ok (.aload_n 0, 1) := by decide +kernel
theorem dX3_catchYoungest_112 : decode cX3_catchYoungest 112 = .ok (.getfield 21, 3) := by decide +kernel
theorem dX3_catchYoungest_115 : decode cX3_catchYoungest 115 = .ok (.getfield 192, 3) := by decide +kernel
theorem dX3_catchYoungest_118 : decode cX3_catchYoungest 118 = .ok (.iload_n 3, 1) := by decide +kernel
theorem dX3_catchYoungest_119 : decode cX3_catchYoungest 119 = .ok (.aload_n 0, 1) := by decide +kernel
theorem dX3_catchYoungest_120 : decode cX3_catchYoungest 120 = .ok (.getfield 21, 3) := by decide +kernel
theorem dX3_catchYoungest_123 : decode cX3_catchYoungest 123 = .ok (.getfield 52, 3) := by decide +kernel
theorem dX3_catchYoungest_126 : decode cX3_catchYoungest 126 = .ok (.iastore, 1) := by decide +kernel
theorem dX3_catchYoungest_127 : decode cX3_catchYoungest 127 = .ok (.aload_n 0, 1) := by decide +kernel
theorem dX3_catchYoungest_128 : decode cX3_catchYoungest 128 = .ok (.dup, 1) := by decide +kernel
theorem dX3_catchYoungest_129 : decode cX3_catchYoungest 129 = .ok (.getfield 195, 3) := by decide +kernel
theorem dX3_catchYoungest_132 : decode cX3_catchYoungest 132 = .ok (.iconst 1, 1) := by decide +kernel
theorem dX3_catchYoungest_133 : decode cX3_catchYoungest 133 = .ok (.iadd, 1) := by decide +kernel
theorem dX3_catchYoungest_134 : decode cX3_catchYoungest 134 = .ok (.putfield 195, 3) := by decide +kernel
theorem dX3_catchYoungest_137 : decode cX3_catchYoungest 137 = .ok (.aload_n 0, 1) := by decide +kernel
theorem dX3_catchYoungest_138 : decode cX3_catchYoungest 138 = .ok (.iconst 1, 1) := by decide +kernel
theorem dX3_catchYoungest_139 : decode cX3_catchYoungest 139 = .ok (.iload_n 3, 1) := by decide +kernel
theorem dX3_catchYoungest_140 : decode cX3_catchYoungest 140 = .ok (.iload_n 2, 1) := by decide +kernel
theorem dX3_catchYoungest_141 : decode cX3_catchYoungest 141 = .ok (.invokevirtual 153, 3) := by decide +kernel
theorem dX3_catchYoungest_144 : decode cX3_catchYoungest 144 = .ok (.return_, 1) := by decide +kernel
theorem dX3_cellsOf_0 : decode cX3_cellsOf 0 = .ok (.iconst 0, 1) := by decide +kernel
theorem dX3_cellsOf_1 : decode cX3_cellsOf 1 = .ok (.istore_n 2, 1) := by decide +kernel
theorem dX3_cellsOf_2 : decode cX3_cellsOf 2 = .ok (.iconst 0, 1) := by decide +kernel
theorem dX3_cellsOf_3 : decode cX3_cellsOf 3 = .ok (.istore_n 3, 1) := by decide +kernel
theorem dX3_cellsOf_4 : decode cX3_cellsOf 4 = .ok (.iload_n 3, 1) := by decide +kernel
theorem dX3_cellsOf_5 : decode cX3_cellsOf 5 = .ok (.bipush 12, 2) := by decide +kernel
theorem dX3_cellsOf_7 : decode cX3_cellsOf 7 = .ok (.if_icmp .ge 64, 3) := by decide +kernel
theorem dX3_cellsOf_10 : decode cX3_cellsOf 10 = .ok (.iload_n 3, 1) := by decide +kernel
theorem dX3_cellsOf_11 : decode cX3_cellsOf 11 = .ok (.aload_n 0, 1) := by decide +kernel
theorem dX3_cellsOf_12 : decode cX3_cellsOf 12 = .ok (.getfield 17, 3) := by decide +kernel
theorem dX3_cellsOf_15 : decode cX3_cellsOf 15 = .ok (.getfield 123, 3) := by decide +kernel
theorem dX3_cellsOf_18 : decode cX3_cellsOf 18 = .ok (.if_icmp .ge 53, 3) := by decide +kernel
theorem dX3_cellsOf_21 : decode cX3_cellsOf 21 = .ok (.iload_n 2, 1) := by decide +kernel
theorem dX3_cellsOf_22 : decode cX3_cellsOf 22 = .ok (.aload_n 0, 1) := by decide +kernel
theorem dX3_cellsOf_23 : decode cX3_cellsOf 23 = .ok (.getfield 17, 3) := by decide +kernel
theorem dX3_cellsOf_26 : decode cX3_cellsOf 26 = .ok (.getfield 73, 3) := by decide +kernel
theorem dX3_cellsOf_29 : decode cX3_cellsOf 29 = .ok (.iload_n 3, 1) := by decide +kernel
theorem dX3_cellsOf_30 : decode cX3_cellsOf 30 = .ok (.iaload, 1) := by decide +kernel
theorem dX3_cellsOf_31 : decode cX3_cellsOf 31 = .ok (.iload_n 1, 1) := by decide +kernel
theorem dX3_cellsOf_32 : decode cX3_cellsOf 32 = .ok (.if_icmp .ne 30, 3) := by decide +kernel
theorem dX3_cellsOf_35 : decode cX3_cellsOf 35 = .ok (.aload_n 0, 1) := by decide +kernel
theorem dX3_cellsOf_36 : decode cX3_cellsOf 36 = .ok (.getfield 21, 3) := by decide +kernel
theorem dX3_cellsOf_39 : decode cX3_cellsOf 39 = .ok (.getfield 70, 3) := by decide +kernel
theorem dX3_cellsOf_42 : decode cX3_cellsOf 42 = .ok (.iload_n 3, 1) := by decide +kernel
theorem dX3_cellsOf_43 : decode cX3_cellsOf 43 = .ok (.iaload, 1) := by decide +kernel
theorem dX3_cellsOf_44 : decode cX3_cellsOf 44 = .ok (.iconst 1, 1) := by decide +kernel
theorem dX3_cellsOf_45 : decode cX3_cellsOf 45 = .ok (.if_icmp .ne 17, 3) := by decide +kernel
theorem dX3_cellsOf_48 : decode cX3_cellsOf 48 = .ok (.iconst 1, 1) := by decide +kernel
theorem dX3_cellsOf_49 : decode cX3_cellsOf 49 = .ok (.aload_n 0, 1) := by decide +kernel
theorem dX3_cellsOf_50 : decode cX3_cellsOf 50 = .ok (.getfield 21, 3) := by decide +kernel
theorem dX3_cellsOf_53 : decode cX3_cellsOf 53 = .ok (.getfield 94, 3) := by decide +kernel
theorem dX3_cellsOf_56 : decode cX3_cellsOf 56 = .ok (.iload_n 3, 1) := by decide +kernel
theorem dX3_cellsOf_57 : decode cX3_cellsOf 57 = .ok (.iaload, 1) := by decide +kernel
theorem dX3_cellsOf_58 : decode cX3_cellsOf 58 = .ok (.ishl, 1) := by decide +kernel
theorem dX3_cellsOf_59 : decode cX3_cellsOf 59 = .ok (.goto 4, 3) := by decide +kernel
theorem dX3_cellsOf_62 : decode cX3_cellsOf 62 = .ok (.iconst 0, 1) := by decide +kernel
theorem dX3_cellsOf_63 : decode cX3_cellsOf 63 = .ok (.ior, 1) := by decide +kernel
theorem dX3_cellsOf_64 : decode cX3_cellsOf 64 = .ok (.istore_n 2, 1) := by decide +kernel
theorem dX3_cellsOf_65 : decode cX3_cellsOf 65 = .ok (.iinc 3 1, 3) := by decide +kernel
theorem dX3_cellsOf_68 : decode cX3_cellsOf 68 = .ok (.goto (-64), 3) := by decide +kernel
theorem dX3_cellsOf_71 : decode cX3_cellsOf 71 = .ok (.iload_n 2, 1) := by decide +kernel
theorem dX3_cellsOf_72 : decode cX3_cellsOf 72 = .ok (.ireturn, 1) := by decide +kernel
theorem dX3_endDay_0 : decode cX3_endDay 0 = .ok (.aload_n 0, 1) := by decide +kernel
theorem dX3_endDay_1 : decode cX3_endDay 1 = .ok (.getfield 17, 3) := by decide +kernel
theorem dX3_endDay_4 : decode cX3_endDay 4 = .ok (.aload_n 0, 1) := by decide +kernel
theorem dX3_endDay_5 : decode cX3_endDay 5 = .ok (.iconst 0, 1) := by decide +kernel
theorem dX3_endDay_6 : decode cX3_endDay 6 = .ok (.invokevirtual 207, 3) := by decide +kernel
theorem dX3_endDay_9 : decode cX3_endDay 9 = .ok (.invokevirtual 210, 3) := by decide +kernel
theorem dX3_endDay_12 : decode cX3_endDay 12 = .ok (.aload_n 0, 1) := by decide +kernel
theorem dX3_endDay_13 : decode cX3_endDay 13 = .ok (.getfield 17, 3) := by decide +kernel
theorem dX3_endDay_16 : decode cX3_endDay 16 = .ok (.getfield 213, 3) := by decide +kernel
theorem dX3_endDay_19 : decode cX3_endDay 19 = .ok (.if_icmp .lt 25, 3) := by decide +kernel
theorem dX3_endDay_22 : decode cX3_endDay 22 = .ok (.aload_n 0, 1) := by decide +kernel
theorem dX3_endDay_23 : decode cX3_endDay 23 = .ok (.getfield 17, 3) := by decide +kernel
theorem dX3_endDay_26 : decode cX3_endDay 26 = .ok (.aload_n 0, 1) := by decide +kernel
theorem dX3_endDay_27 : decode cX3_endDay 27 = .ok (.iconst 1, 1) := by decide +kernel
theorem dX3_endDay_28 : decode cX3_endDay 28 = .ok (.invokevirtual 207, 3) := by decide +kernel
theorem dX3_endDay_31 : decode cX3_endDay 31 = .ok (.invokevirtual 210, 3) := by decide +kernel
theorem dX3_endDay_34 : decode cX3_endDay 34 = .ok (.aload_n 0, 1) := by decide +kernel
theorem dX3_endDay_35 : decode cX3_endDay 35 = .ok (.getfield 17, 3) := by decide +kernel
theorem dX3_endDay_38 : decode cX3_endDay 38 = .ok (.getfield 213, 3) := by decide +kernel
theorem dX3_endDay_41 : decode cX3_endDay 41 = .ok (.if_icmp .ge 11, 3) := by decide +kernel
theorem dX3_endDay_44 : decode cX3_endDay 44 = .ok (.aload_n 0, 1) := by decide +kernel
theorem dX3_endDay_45 : decode cX3_endDay 45 = .ok (.getfield 21, 3) := by decide +kernel
theorem dX3_endDay_48 : decode cX3_endDay 48 = .ok (.iconst 0, 1) := by decide +kernel
theorem dX3_endDay_49 : decode cX3_endDay 49 = .ok (.putfield 33, 3) := by decide +kernel
theorem dX3_endDay_52 : decode cX3_endDay 52 = .ok (.iconst 0, 1) := by decide +kernel
theorem dX3_endDay_53 : decode cX3_endDay 53 = .ok (.istore_n 1, 1) := by decide +kernel
theorem dX3_endDay_54 : decode cX3_endDay 54 = .ok (.iload_n 1, 1) := by decide +kernel
theorem dX3_endDay_55 : decode cX3_endDay 55 = .ok (.bipush 12, 2) := by decide +kernel
theorem dX3_endDay_57 : decode cX3_endDay 57 = .ok (.if_icmp .ge 77, 3) := by decide +kernel
theorem dX3_endDay_60 : decode cX3_endDay 60 = .ok (.iload_n 1, 1) := by decide +kernel
theorem dX3_endDay_61 : decode cX3_endDay 61 = .ok (.aload_n 0, 1) := by decide +kernel
theorem dX3_endDay_62 : decode cX3_endDay 62 = .ok (.getfield 17, 3) := by decide +kernel
theorem dX3_endDay_65 : decode cX3_endDay 65 = .ok (.getfield 123, 3) := by decide +kernel
theorem dX3_endDay_68 : decode cX3_endDay 68 = .ok (.if_icmp .ge 66, 3) := by decide +kernel
theorem dX3_endDay_71 : decode cX3_endDay 71 = .ok (.aload_n 0, 1) := by decide +kernel
theorem dX3_endDay_72 : decode cX3_endDay 72 = .ok (.getfield 21, 3) := by decide +kernel
theorem dX3_endDay_75 : decode cX3_endDay 75 = .ok (.getfield 70, 3) := by decide +kernel
theorem dX3_endDay_78 : decode cX3_endDay 78 = .ok (.iload_n 1, 1) := by decide +kernel
theorem dX3_endDay_79 : decode cX3_endDay 79 = .ok (.iaload, 1) := by decide +kernel
theorem dX3_endDay_80 : decode cX3_endDay 80 = .ok (.iconst 2, 1) := by decide +kernel
theorem dX3_endDay_81 : decode cX3_endDay 81 = .ok (.if_icmp .ne 47, 3) := by decide +kernel
theorem dX3_endDay_84 : decode cX3_endDay 84 = .ok (.aload_n 0, 1) := by decide +kernel
theorem dX3_endDay_85 : decode cX3_endDay 85 = .ok (.getfield 21, 3) := by decide +kernel
theorem dX3_endDay_88 : decode cX3_endDay 88 = .ok (.getfield 52, 3) := by decide +kernel
theorem dX3_endDay_91 : decode cX3_endDay 91 = .ok (.aload_n 0, 1) := by decide +kernel
theorem dX3_endDay_92 : decode cX3_endDay 92 = .ok (.getfield 21, 3) := by decide +kernel
theorem dX3_endDay_95 : decode cX3_endDay 95 = .ok (.getfield 192, 3) := by decide +kernel
theorem dX3_endDay_98 : decode cX3_endDay 98 = .ok (.iload_n 1, 1) := by decide +kernel
theorem dX3_endDay_99 : decode cX3_endDay 99 = .ok (.iaload, 1) := by decide +kernel
theorem dX3_endDay_100 : decode cX3_endDay 100 = .ok (.isub, 1) := by decide +kernel
theorem dX3_endDay_101 : decode cX3_endDay 101 = .ok (.aload_n 0, 1) := by decide +kernel
theorem dX3_endDay_102 : decode cX3_endDay 102 = .ok (.getfield 17, 3) := by decide +kernel
theorem dX3_endDay_105 : decode cX3_endDay 105 = .ok (.getfield 216, 3) := by decide +kernel
theorem dX3_endDay_108 : decode cX3_endDay 108 = .ok (.if_icmp .lt 20, 3) := by decide +kernel
theorem dX3_endDay_111 : decode cX3_endDay 111 = .ok (.aload_n 0, 1) := by decide +kernel
theorem dX3_endDay_112 : decode cX3_endDay 112 = .ok (.getfield 21, 3) := by decide +kernel
theorem dX3_endDay_115 : decode cX3_endDay 115 = .ok (.getfield 70, 3) := by decide +kernel
theorem dX3_endDay_118 : decode cX3_endDay 118 = .ok (.iload_n 1, 1) := by decide +kernel
theorem dX3_endDay_119 : decode cX3_endDay 119 = .ok (.iconst 0, 1) := by decide +kernel
theorem dX3_endDay_120 : decode cX3_endDay 120 = .ok (.iastore, 1) := by decide +kernel
theorem dX3_endDay_121 : decode cX3_endDay 121 = .ok (.aload_n 0, 1) := by decide +kernel
theorem dX3_endDay_122 : decode cX3_endDay 122 = .ok (.iconst 5, 1) := by decide +kernel
theorem dX3_endDay_123 : decode cX3_endDay 123 = .ok (.iload_n 1, 1) := by decide +kernel
theorem dX3_endDay_124 : decode cX3_endDay 124 = .ok (.iconst 0, 1) := by decide +kernel
theorem dX3_endDay_125 : decode cX3_endDay 125 = .ok (.invokevirtual 153, 3) := by decide +kernel
theorem dX3_endDay_128 : decode cX3_endDay 128 = .ok (.iinc 1 1, 3) := by decide +kernel
theorem dX3_endDay_131 : decode cX3_endDay 131 = .ok (.goto (-77), 3) := by decide +kernel
theorem dX3_endDay_134 : decode cX3_endDay 134 = .ok (.aload_n 0, 1) := by decide +kernel
theorem dX3_endDay_135 : decode cX3_endDay 135 = .ok (.getfield 21, 3) := by decide +kernel
theorem dX3_endDay_138 : decode cX3_endDay 138 = .ok (.getfield 33, 3) := by decide +kernel
theorem dX3_endDay_141 : decode cX3_endDay 141 = .ok (.ifCond .ne 21, 3) := by decide +kernel
theorem dX3_endDay_144 : decode cX3_endDay 144 = .ok (.aload_n 0, 1) := by decide +kernel
theorem dX3_endDay_145 : decode cX3_endDay 145 = .ok (.getfield 21, 3) := by decide +kernel
theorem dX3_endDay_148 : decode cX3_endDay 148 = .ok (.getfield 70, 3) := by decide +kernel
theorem dX3_endDay_151 : decode cX3_endDay 151 = .ok (.iconst 0, 1) := by decide +kernel
theorem dX3_endDay_152 : decode cX3_endDay 152 = .ok (.invokestatic 219, 3) := by decide +kernel
theorem dX3_endDay_155 : decode cX3_endDay 155 = .ok (.aload_n 0, 1) := by decide +kernel
theorem dX3_endDay_156 : decode cX3_endDay 156 = .ok (.iconst 4, 1) := by decide +kernel
theorem dX3_endDay_157 : decode cX3_endDay 157 = .ok (.iconst (-1), 1) := by decide +kernel
theorem dX3_endDay_158 : decode cX3_endDay 158 = .ok (.iconst 0, 1) := by decide +kernel
theorem dX3_endDay_159 : decode cX3_endDay 159 = .ok (.invokevirtual 153, 3) := by decide +kernel
theorem dX3_endDay_162 : decode cX3_endDay 162 = .ok (.return_, 1) := by decide +kernel
theorem dX3_fade_0 : decode cX3_fade 0 = .ok (.iconst 0, 1) := by decide +kernel
theorem dX3_fade_1 : decode cX3_fade 1 = .ok (.istore_n 1, 1) := by decide +kernel
theorem dX3_fade_2 : decode cX3_fade 2 = .ok (.iload_n 1, 1) := by decide +kernel
theorem dX3_fade_3 : decode cX3_fade 3 = .ok (.bipush 12, 2) := by decide +kernel
theorem dX3_fade_5 : decode cX3_fade 5 = .ok (.if_icmp .ge 88, 3) := by decide +kernel
theorem dX3_fade_8 : decode cX3_fade 8 = .ok (.iload_n 1, 1) := by decide +kernel
theorem dX3_fade_9 : decode cX3_fade 9 = .ok (.aload_n 0, 1) := by decide +kernel
theorem dX3_fade_10 : decode cX3_fade 10 = .ok (.getfield 17, 3) := by decide +kernel
theorem dX3_fade_13 : decode cX3_fade 13 = .ok (.getfield 123, 3) := by decide +kernel
theorem dX3_fade_16 : decode cX3_fade 16 = .ok (.if_icmp .ge 77, 3) := by decide +kernel
theorem dX3_fade_19 : decode cX3_fade 19 = .ok (.aload_n 0, 1) := by decide +kernel
theorem dX3_fade_20 : decode cX3_fade 20 = .ok (.getfield 21, 3) := by decide +kernel
theorem dX3_fade_23 : decode cX3_fade 23 = .ok (.getfield 85, 3) := by decide +kernel
theorem dX3_fade_26 : decode cX3_fade 26 = .ok (.iload_n 1, 1) := by decide +kernel
theorem dX3_fade_27 : decode cX3_fade 27 = .ok (.iaload, 1) := by decide +kernel
theorem dX3_fade_28 : decode cX3_fade 28 = .ok (.ifCond .eq 59, 3) := by decide +kernel
theorem dX3_fade_31 : decode cX3_fade 31 = .ok (.aload_n 0, 1) := by decide +kernel
theorem dX3_fade_32 : decode cX3_fade 32 = .ok (.getfield 21, 3) := by decide +kernel
theorem dX3_fade_35 : decode cX3_fade 35 = .ok (.sipush 1000, 3) := by decide +kernel
theorem dX3_fade_38 : decode cX3_fade 38 = .ok (.invokevirtual 201, 3) := by decide +kernel
theorem dX3_fade_41 : decode cX3_fade 41 = .ok (.aload_n 0, 1) := by decide +kernel
theorem dX3_fade_42 : decode cX3_fade 42 = .ok (.iload_n 1, 1) := by decide +kernel
theorem dX3_fade_43 : decode cX3_fade 43 = .ok (.iconst 3, 1) := by decide +kernel
theorem dX3_fade_44 : decode cX3_fade 44 = .ok (.invokevirtual 147, 3) := by decide +kernel
theorem dX3_fade_47 : decode cX3_fade 47 = .ok (.if_icmp .ge 40, 3) := by decide +kernel
theorem dX3_fade_50 : decode cX3_fade 50 = .ok (.aload_n 0, 1) := by decide +kernel
theorem dX3_fade_51 : decode cX3_fade 51 = .ok (.getfield 21, 3) := by decide +kernel
theorem dX3_fade_54 : decode cX3_fade 54 = .ok (.getfield 85, 3) := by decide +kernel
theorem dX3_fade_57 : decode cX3_fade 57 = .ok (.iload_n 1, 1) := by decide +kernel
theorem dX3_fade_58 : decode cX3_fade 58 = .ok (.iaload, 1) := by decide +kernel
theorem dX3_fade_59 : decode cX3_fade 59 = .ok (.invokestatic 204, 3) := by decide +kernel
theorem dX3_fade_62 : decode cX3_fade 62 = .ok (.istore_n 2, 1) := by decide +kernel
theorem dX3_fade_63 : decode cX3_fade 63 = .ok (.aload_n 0, 1) := by decide +kernel
theorem dX3_fade_64 : decode cX3_fade 64 = .ok (.getfield 21, 3) := by decide +kernel
theorem dX3_fade_67 : decode cX3_fade 67 = .ok (.getfield 85, 3) := by decide +kernel
theorem dX3_fade_70 : decode cX3_fade 70 = .ok (.iload_n 1, 1) := by decide +kernel
theorem dX3_fade_71 : decode cX3_fade 71 = .ok (.dup2, 1) := by decide +kernel
theorem dX3_fade_72 : decode cX3_fade 72 = .ok (.iaload, 1) := by decide +kernel
theorem dX3_fade_73 : decode cX3_fade 73 = .ok (.iconst 1, 1) := by decide +kernel
theorem dX3_fade_74 : decode cX3_fade 74 = .ok (.iload_n 2, 1) := by decide +kernel
theorem dX3_fade_75 : decode cX3_fade 75 = .ok (.ishl, 1) := by decide +kernel
theorem dX3_fade_76 : decode cX3_fade 76 = .ok (.iconst (-1), 1) := by decide +kernel
theorem dX3_fade_77 : decode cX3_fade 77 = .ok (.ixor, 1) := by decide +kernel
theorem dX3_fade_78 : decode cX3_fade 78 = .ok (.iand, 1) := by decide +kernel
theorem dX3_fade_79 : decode cX3_fade 79 = .ok (.iastore, 1) := by decide +kernel
theorem dX3_fade_80 : decode cX3_fade 80 = .ok (.aload_n 0, 1) := by decide +kernel
theorem dX3_fade_81 : decode cX3_fade 81 = .ok (.iconst 3, 1) := by decide +kernel
theorem dX3_fade_82 : decode cX3_fade 82 = .ok (.iload_n 1, 1) := by decide +kernel
theorem dX3_fade_83 : decode cX3_fade 83 = .ok (.iload_n 2, 1) := by decide +kernel
theorem dX3_fade_84 : decode cX3_fade 84 = .ok (.invokevirtual 153, 3) := by decide +kernel
theorem dX3_fade_87 : decode cX3_fade 87 = .ok (.iinc 1 1, 3) := by decide +kernel
theorem dX3_fade_90 : decode cX3_fade 90 = .ok (.goto (-88), 3) := by decide +kernel
theorem dX3_fade_93 : decode cX3_fade 93 = .ok (.return_, 1) := by decide +kernel
theorem dX3_fight_0 : decode cX3_fight 0 = .ok (.aload_n 0, 1) := by decide +kernel
theorem dX3_fight_1 : decode cX3_fight 1 = .ok (.iconst 0, 1) := by decide +kernel
theorem dX3_fight_2 : decode cX3_fight 2 = .ok (.invokevirtual 171, 3) := by decide +kernel
theorem dX3_fight_5 : decode cX3_fight 5 = .ok (.aload_n 0, 1) := by decide +kernel
theorem dX3_fight_6 : decode cX3_fight 6 = .ok (.iconst 1, 1) := by decide +kernel
theorem dX3_fight_7 : decode cX3_fight 7 = .ok (.invokevirtual 171, 3) := by decide +kernel
theorem dX3_fight_10 : decode cX3_fight 10 = .ok (.iand, 1) := by decide +kernel
theorem dX3_fight_11 : decode cX3_fight 11 = .ok (.istore_n 1, 1) := by decide +kernel
theorem dX3_fight_12 : decode cX3_fight 12 = .ok (.iconst 0, 1) := by decide +kernel
theorem dX3_fight_13 : decode cX3_fight 13 = .ok (.istore_n 2, 1) := by decide +kernel
theorem dX3_fight_14 : decode cX3_fight 14 = .ok (.iload_n 2, 1) := by decide +kernel
theorem dX3_fight_15 : decode cX3_fight 15 = .ok (.bipush 16, 2) := by decide +kernel
theorem dX3_fight_17 : decode cX3_fight 17 = .ok (.if_icmp .ge 74, 3) := by decide +kernel
theorem dX3_fight_20 : decode cX3_fight 20 = .ok (.iload_n 1, 1) := by decide +kernel
theorem dX3_fight_21 : decode cX3_fight 21 = .ok (.iload_n 2, 1) := by decide +kernel
theorem dX3_fight_22 : decode cX3_fight 22 = .ok (.invokestatic 174, 3) := by decide +kernel
theorem dX3_fight_25 : decode cX3_fight 25 = .ok (.ifCond .ne 6, 3) := by decide +kernel
theorem dX3_fight_28 : decode cX3_fight 28 = .ok (.goto 57, 3) := by decide +kernel
theorem dX3_fight_31 : decode cX3_fight 31 = .ok (.aload_n 0, 1) := by decide +kernel
theorem dX3_fight_32 : decode cX3_fight 32 = .ok (.iconst 0, 1) := by decide +kernel
theorem dX3_fight_33 : decode cX3_fight 33 = .ok (.iload_n 2, 1) := by decide +kernel
theorem dX3_fight_34 : decode cX3_fight 34 = .ok (.invokevirtual 177, 3) := by decide +kernel
theorem dX3_fight_37 : decode cX3_fight 37 = .ok (.aload_n 0, 1) := by decide +kernel
theorem dX3_fight_38 : decode cX3_fight 38 = .ok (.iconst 1, 1) := by decide +kernel
theorem dX3_fight_39 : decode cX3_fight 39 = .ok (.iload_n 2, 1) := by decide +kernel
theorem dX3_fight_40 : decode cX3_fight 40 = .ok (.invokevirtual 177, 3) := by decide +kernel
theorem dX3_fight_43 : decode cX3_fight 43 = .ok (.isub, 1) := by decide +kernel
theorem dX3_fight_44 : decode cX3_fight 44 = .ok (.istore_n 3, 1) := by decide +kernel
theorem dX3_fight_45 : decode cX3_fight 45 = .ok (.iload_n 3, 1) := by decide +kernel
theorem dX3_fight_46 : decode cX3_fight 46 = .ok (.ifCond .ne 11, 3) := by decide +kernel
theorem dX3_fight_49 : decode cX3_fight 49 = .ok (.aload_n 0, 1) := by decide +kernel
theorem dX3_fight_50 : decode cX3_fight 50 = .ok (.iload_n 2, 1) := by decide +kernel
theorem dX3_fight_51 : decode cX3_fight 51 = .ok (.invokevirtual 180, 3) := by decide +kernel
theorem dX3_fight_54 : decode cX3_fight 54 = .ok (.goto 31, 3) := by decide +kernel
theorem dX3_fight_57 : decode cX3_fight 57 = .ok (.aload_n 0, 1) := by decide +kernel
theorem dX3_fight_58 : decode cX3_fight 58 = .ok (.iload_n 3, 1) := by decide +kernel
theorem dX3_fight_59 : decode cX3_fight 59 = .ok (.ifCond .ge 7, 3) := by decide +kernel
theorem dX3_fight_62 : decode cX3_fight 62 = .ok (.iconst 0, 1) := by decide +kernel
theorem dX3_fight_63 : decode cX3_fight 63 = .ok (.goto 4, 3) := by decide +kernel
theorem dX3_fight_66 : decode cX3_fight 66 = .ok (.iconst 1, 1) := by decide +kernel
theorem dX3_fight_67 : decode cX3_fight 67 = .ok (.iload_n 2, 1) := by decide +kernel
theorem dX3_fight_68 : decode cX3_fight 68 = .ok (.invokevirtual 183, 3) := by decide +kernel
theorem dX3_fight_71 : decode cX3_fight 71 = .ok (.aload_n 0, 1) := by decide +kernel
theorem dX3_fight_72 : decode cX3_fight 72 = .ok (.iload_n 3, 1) := by decide +kernel
theorem dX3_fight_73 : decode cX3_fight 73 = .ok (.ifCond .ge 7, 3) := by decide +kernel
theorem dX3_fight_76 : decode cX3_fight 76 = .ok (.iconst 0, 1) := by decide +kernel
theorem dX3_fight_77 : decode cX3_fight 77 = .ok (.goto 4, 3) := by decide +kernel
theorem dX3_fight_80 : decode cX3_fight 80 = .ok (.iconst 1, 1) := by decide +kernel
theorem dX3_fight_81 : decode cX3_fight 81 = .ok (.iload_n 2, 1) := by decide +kernel
theorem dX3_fight_82 : decode cX3_fight 82 = .ok (.invokevirtual 186, 3) := by decide +kernel
theorem dX3_fight_85 : decode cX3_fight 85 = .ok (.iinc 2 1, 3) := by decide +kernel
theorem dX3_fight_88 : decode cX3_fight 88 = .ok (.goto (-74), 3) := by decide +kernel
theorem dX3_fight_91 : decode cX3_fight 91 = .ok (.return_, 1) := by decide +kernel
theorem dX3_goOn_0 : decode cX3_goOn 0 = .ok (.aload_n 0, 1) := by decide +kernel
theorem dX3_goOn_1 : decode cX3_goOn 1 = .ok (.getfield 17, 3) := by decide +kernel
theorem dX3_goOn_4 : decode cX3_goOn 4 = .ok (.getfield 157, 3) := by decide +kernel
theorem dX3_goOn_7 : decode cX3_goOn 7 = .ok (.aload_n 0, 1) := by decide +kernel
theorem dX3_goOn_8 : decode cX3_goOn 8 = .ok (.getfield 21, 3) := by decide +kernel
theorem dX3_goOn_11 : decode cX3_goOn 11 = .ok (.getfield 52, 3) := by decide +kernel
theorem dX3_goOn_14 : decode cX3_goOn 14 = .ok (.iconst 0, 1) := by decide +kernel
theorem dX3_goOn_15 : decode cX3_goOn 15 = .ok (.invokevirtual 161, 3) := by decide +kernel
theorem dX3_goOn_18 : decode cX3_goOn 18 = .ok (.istore_n 1, 1) := by decide +kernel
theorem dX3_goOn_19 : decode cX3_goOn 19 = .ok (.aload_n 0, 1) := by decide +kernel
theorem dX3_goOn_20 : decode cX3_goOn 20 = .ok (.getfield 17, 3) := by decide +kernel
theorem dX3_goOn_23 : decode cX3_goOn 23 = .ok (.getfield 157, 3) := by decide +kernel
theorem dX3_goOn_26 : decode cX3_goOn 26 = .ok (.aload_n 0, 1) := by decide +kernel
theorem dX3_goOn_27 : decode cX3_goOn 27 = .ok (.getfield 21, 3) := by decide +kernel
theorem dX3_goOn_30 : decode cX3_goOn 30 = .ok (.getfield 52, 3) := by decide +kernel
theorem dX3_goOn_33 : decode cX3_goOn 33 = .ok (.iconst 1, 1) := by decide +kernel
theorem dX3_goOn_34 : decode cX3_goOn 34 = .ok (.invokevirtual 161, 3) := by decide +kernel
theorem dX3_goOn_37 : decode cX3_goOn 37 = .ok (.istore_n 2, 1) := by decide +kernel
theorem dX3_goOn_38 : decode cX3_goOn 38 = .ok (.iconst 0, 1) := by decide +kernel
theorem dX3_goOn_39 : decode cX3_goOn 39 = .ok (.istore_n 3, 1) := by decide +kernel
theorem dX3_goOn_40 : decode cX3_goOn 40 = .ok (.iload_n 3, 1) := by decide +kernel
theorem dX3_goOn_41 : decode cX3_goOn 41 = .ok (.bipush 12, 2) := by decide +kernel
theorem dX3_goOn_43 : decode cX3_goOn 43 = .ok (.if_icmp .ge 118, 3) := by decide +kernel
theorem dX3_goOn_46 : decode cX3_goOn 46 = .ok (.iload_n 3, 1) := by decide +kernel
theorem dX3_goOn_47 : decode cX3_goOn 47 = .ok (.aload_n 0, 1) := by decide +kernel
theorem dX3_goOn_48 : decode cX3_goOn 48 = .ok (.getfield 17, 3) := by decide +kernel
theorem dX3_goOn_51 : decode cX3_goOn 51 = .ok (.getfield 123, 3) := by decide +kernel
theorem dX3_goOn_54 : decode cX3_goOn 54 = .ok (.if_icmp .ge 107, 3) := by decide +kernel
theorem dX3_goOn_57 : decode cX3_goOn 57 = .ok (.aload_n 0, 1) := by decide +kernel
theorem dX3_goOn_58 : decode cX3_goOn 58 = .ok (.getfield 21, 3) := by decide +kernel
theorem dX3_goOn_61 : decode cX3_goOn 61 = .ok (.getfield 70, 3) := by decide +kernel
theorem dX3_goOn_64 : decode cX3_goOn 64 = .ok (.iload_n 3, 1) := by decide +kernel
theorem dX3_goOn_65 : decode cX3_goOn 65 = .ok (.iaload, 1) := by decide +kernel
theorem dX3_goOn_66 : decode cX3_goOn 66 = .ok (.iconst 1, 1) := by decide +kernel
theorem dX3_goOn_67 : decode cX3_goOn 67 = .ok (.if_icmp .eq 6, 3) := by decide +kernel
theorem dX3_goOn_70 : decode cX3_goOn 70 = .ok (.goto 85, 3) := by decide +kernel
theorem dX3_goOn_73 : decode cX3_goOn 73 = .ok (.aload_n 0, 1) := by decide +kernel
theorem dX3_goOn_74 : decode cX3_goOn 74 = .ok (.getfield 17, 3) := by decide +kernel
theorem dX3_goOn_77 : decode cX3_goOn 77 = .ok (.getfield 73, 3) := by decide +kernel
theorem dX3_goOn_80 : decode cX3_goOn 80 = .ok (.iload_n 3, 1) := by decide +kernel
theorem dX3_goOn_81 : decode cX3_goOn 81 = .ok (.iaload, 1) := by decide +kernel
theorem dX3_goOn_82 : decode cX3_goOn 82 = .ok (.ifCond .ne 7, 3) := by decide +kernel
theorem dX3_goOn_85 : decode cX3_goOn 85 = .ok (.iload_n 1, 1) := by decide +kernel
theorem dX3_goOn_86 : decode cX3_goOn 86 = .ok (.goto 4, 3) := by decide +kernel
theorem dX3_goOn_89 : decode cX3_goOn 89 = .ok (.iload_n 2, 1) := by decide +kernel
theorem dX3_goOn_90 : decode cX3_goOn 90 = .ok (.istore 4, 2) := by decide +kernel
theorem dX3_goOn_92 : decode cX3_goOn 92 = .ok (.iload 4, 2) := by decide +kernel
theorem dX3_goOn_94 : decode cX3_goOn 94 = .ok (.ifCond .eq 8, 3) := by decide +kernel
theorem dX3_goOn_97 : decode cX3_goOn 97 = .ok (.bipush 10, 2) := by decide +kernel
theorem dX3_goOn_99 : decode cX3_goOn 99 = .ok (.goto 9, 3) := by decide +kernel
theorem dX3_goOn_102 : decode cX3_goOn 102 = .ok (.aload_n 0, 1) := by decide +kernel
theorem dX3_goOn_103 : decode cX3_goOn 103 = .ok (.iload_n 3, 1) := by decide +kernel
theorem dX3_goOn_104 : decode cX3_goOn 104 = .ok (.iconst 2, 1) := by decide +kernel
theorem dX3_goOn_105 : decode cX3_goOn 105 = .ok (.invokevirtual 147, 3) := by decide +kernel
theorem dX3_goOn_108 : decode cX3_goOn 108 = .ok (.istore 5, 2) := by decide +kernel
theorem dX3_goOn_110 : decode cX3_goOn 110 = .ok (.iload 5, 2) := by decide +kernel
theorem dX3_goOn_112 : decode cX3_goOn 112 = .ok (.ifCond .le 32, 3) := by decide +kernel
theorem dX3_goOn_115 : decode cX3_goOn 115 = .ok (.aload_n 0, 1) := by decide +kernel
theorem dX3_goOn_116 : decode cX3_goOn 116 = .ok (.getfield 21, 3) := by decide +kernel
theorem dX3_goOn_119 : decode cX3_goOn 119 = .ok (.getfield 82, 3) := by decide +kernel
theorem dX3_goOn_122 : decode cX3_goOn 122 = .ok (.iload_n 3, 1) := by decide +kernel
theorem dX3_goOn_123 : decode cX3_goOn 123 = .ok (.bipush 99, 2) := by decide +kernel
theorem dX3_goOn_125 : decode cX3_goOn 125 = .ok (.aload_n 0, 1) := by decide +kernel
theorem dX3_goOn_126 : decode cX3_goOn 126 = .ok (.getfield 21, 3) := by decide +kernel
theorem dX3_goOn_129 : decode cX3_goOn 129 = .ok (.getfield 82, 3) := by decide +kernel
theorem dX3_goOn_132 : decode cX3_goOn 132 = .ok (.iload_n 3, 1) := by decide +kernel
theorem dX3_goOn_133 : decode cX3_goOn 133 = .ok (.iaload, 1) := by decide +kernel
theorem dX3_goOn_134 : decode cX3_goOn 134 = .ok (.iload 5, 2) := by decide +kernel
theorem dX3_goOn_136 : decode cX3_goOn 136 = .ok (.iadd, 1) := by decide +kernel
theorem dX3_goOn_137 : decode cX3_goOn 137 = .ok (.invokestatic 115, 3) := by decide +kernel
theorem dX3_goOn_140 : decode cX3_goOn 140 = .ok (.iastore, 1) := by decide +kernel
theorem dX3_goOn_141 : decode cX3_goOn 141 = .ok (.goto 14, 3) := by decide +kernel
theorem dX3_goOn_144 : decode cX3_goOn 144 = .ok (.aload_n 0, 1) := by decide +kernel
theorem dX3_goOn_145 : decode cX3_goOn 145 = .ok (.iload_n 3, 1) := by decide +kernel
theorem dX3_goOn_146 : decode cX3_goOn 146 = .ok (.aload_n 0, 1) := by decide +kernel
theorem dX3_goOn_147 : decode cX3_goOn 147 = .ok (.iload_n 3, 1) := by decide +kernel
theorem dX3_goOn_148 : decode cX3_goOn 148 = .ok (.iconst 1, 1) := by decide +kernel
theorem dX3_goOn_149 : decode cX3_goOn 149 = .ok (.invokevirtual 147, 3) := by decide +kernel
theorem dX3_goOn_152 : decode cX3_goOn 152 = .ok (.invokevirtual 167, 3) := by decide +kernel
theorem dX3_goOn_155 : decode cX3_goOn 155 = .ok (.iinc 3 1, 3) := by decide +kernel
theorem dX3_goOn_158 : decode cX3_goOn 158 = .ok (.goto (-118), 3) := by decide +kernel
theorem dX3_goOn_161 : decode cX3_goOn 161 = .ok (.return_, 1) := by decide +kernel
theorem dX3_halve_0 : decode cX3_halve 0 = .ok (.iconst 0, 1) := by decide +kernel
theorem dX3_halve_1 : decode cX3_halve 1 = .ok (.istore_n 2, 1) := by decide +kernel
theorem dX3_halve_2 : decode cX3_halve 2 = .ok (.iload_n 2, 1) := by decide +kernel
theorem dX3_halve_3 : decode cX3_halve 3 = .ok (.bipush 12, 2) := by decide +kernel
theorem dX3_halve_5 : decode cX3_halve 5 = .ok (.if_icmp .ge 42, 3) := by decide +kernel
theorem dX3_halve_8 : decode cX3_halve 8 = .ok (.iload_n 2, 1) := by decide +kernel
theorem dX3_halve_9 : decode cX3_halve 9 = .ok (.aload_n 0, 1) := by decide +kernel
theorem dX3_halve_10 : decode cX3_halve 10 = .ok (.getfield 17, 3) := by decide +kernel
theorem dX3_halve_13 : decode cX3_halve 13 = .ok (.getfield 123, 3) := by decide +kernel
theorem dX3_halve_16 : decode cX3_halve 16 = .ok (.if_icmp .ge 31, 3) := by decide +kernel
theorem dX3_halve_19 : decode cX3_halve 19 = .ok (.aload_n 0, 1) := by decide +kernel
theorem dX3_halve_20 : decode cX3_halve 20 = .ok (.iload_n 2, 1) := by decide +kernel
theorem dX3_halve_21 : decode cX3_halve 21 = .ok (.iload_n 1, 1) := by decide +kernel
theorem dX3_halve_22 : decode cX3_halve 22 = .ok (.invokevirtual 189, 3) := by decide +kernel
theorem dX3_halve_25 : decode cX3_halve 25 = .ok (.ifCond .eq 16, 3) := by decide +kernel
theorem dX3_halve_28 : decode cX3_halve 28 = .ok (.aload_n 0, 1) := by decide +kernel
theorem dX3_halve_29 : decode cX3_halve 29 = .ok (.getfield 21, 3) := by decide +kernel
theorem dX3_halve_32 : decode cX3_halve 32 = .ok (.getfield 82, 3) := by decide +kernel
theorem dX3_halve_35 : decode cX3_halve 35 = .ok (.iload_n 2, 1) := by decide +kernel
theorem dX3_halve_36 : decode cX3_halve 36 = .ok (.dup2, 1) := by decide +kernel
theorem dX3_halve_37 : decode cX3_halve 37 = .ok (.iaload, 1) := by decide +kernel
theorem dX3_halve_38 : decode cX3_halve 38 = .ok (.iconst 2, 1) := by decide +kernel
theorem dX3_halve_39 : decode cX3_halve 39 = .ok (.idiv, 1) := by decide +kernel
theorem dX3_halve_40 : decode cX3_halve 40 = .ok (.iastore, 1) := by decide +kernel
theorem dX3_halve_41 : decode cX3_halve 41 = .ok (.iinc 2 1, 3) := by decide +kernel
theorem dX3_halve_44 : decode cX3_halve 44 = .ok (.goto (-42), 3) := by decide +kernel
theorem dX3_halve_47 : decode cX3_halve 47 = .ok (.return_, 1) := by decide +kernel
theorem dX3_held_0 : decode cX3_held 0 = .ok (.iconst 0, 1) := by decide +kernel
theorem dX3_held_1 : decode cX3_held 1 = .ok (.iload_n 0, 1) := by decide +kernel
theorem dX3_held_2 : decode cX3_held 2 = .ok (.iload_n 1, 1) := by decide +kernel
theorem dX3_held_3 : decode cX3_held 3 = .ok (.invokestatic 115, 3) := by decide +kernel
theorem dX3_held_6 : decode cX3_held 6 = .ok (.invokestatic 120, 3) := by decide +kernel
theorem dX3_held_9 : decode cX3_held 9 = .ok (.ireturn, 1) := by decide +kernel
theorem dX3_howManyInField_0 : decode cX3_howManyInField 0 = .ok (.iconst 0, 1) := by decide +kernel
theorem dX3_howManyInField_1 : decode cX3_howManyInField 1 = .ok (.istore_n 2, 1) := by decide +kernel
theorem dX3_howManyInField_2 : decode cX3_howManyInField 2 = .ok (.iconst 0, 1) := by decide +kernel
theorem dX3_howManyInField_3 : decode cX3_howManyInField 3 = .ok (.istore_n 3, 1) := by decide +kernel
theorem dX3_howManyInField_4 : decode cX3_howManyInField 4 = .ok (.iload_n 3, 1) := by decide +kernel
theorem dX3_howManyInField_5 : decode cX3_howManyInField 5 = .ok (.bipush 12, 2) := by decide +kernel
theorem dX3_howManyInField_7 : decode cX3_howManyInField 7 = .ok (.if_icmp .ge 54, 3) := by decide +kernel
theorem dX3_howManyInField_10 : decode cX3_howManyInField 10 = .ok (.iload_n 3, 1) := by decide +kernel
theorem dX3_howManyInField_11 : decode cX3_howManyInField 11 = .ok (.aload_n 0, 1) := by decide +kernel
theorem dX3_howManyInField_12 : decode cX3_howManyInField 12 = .ok (.getfield 17, 3) := by decide +kernel
theorem dX3_howManyInField_15 : decode cX3_howManyInField 15 = .ok (.getfield 123, 3) := by decide +kernel
theorem dX3_howManyInField_18 : decode cX3_howManyInField 18 = .ok (.if_icmp .ge 43, 3) := by decide +kernel
theorem dX3_howManyInField_21 : decode cX3_howManyInField 21 = .ok (.iload_n 2, 1) := by decide +kernel
theorem dX3_howManyInField_22 : decode cX3_howManyInField 22 = .ok (.aload_n 0, 1) := by decide +kernel
theorem dX3_howManyInField_23 : decode cX3_howManyInField 23 = .ok (.getfield 17, 3) := by decide +kernel
theorem dX3_howManyInField_26 : decode cX3_howManyInField 26 = .ok (.getfield 73, 3) := by decide +kernel
theorem dX3_howManyInField_29 : decode cX3_howManyInField 29 = .ok (.iload_n 3, 1) := by decide +kernel
theorem dX3_howManyInField_30 : decode cX3_howManyInField 30 = .ok (.iaload, 1) := by decide +kernel
theorem dX3_howManyInField_31 : decode cX3_howManyInField 31 = .ok (.iload_n 1, 1) := by decide +kernel
theorem dX3_howManyInField_32 : decode cX3_howManyInField 32 = .ok (.if_icmp .ne 20, 3) := by decide +kernel
theorem dX3_howManyInField_35 : decode cX3_howManyInField 35 = .ok (.aload_n 0, 1) := by decide +kernel
theorem dX3_howManyInField_36 : decode cX3_howManyInField 36 = .ok (.getfield 21, 3) := by decide +kernel
theorem dX3_howManyInField_39 : decode cX3_howManyInField 39 = .ok (.getfield 70, 3) := by decide +kernel
theorem dX3_howManyInField_42 : decode cX3_howManyInField 42 = .ok (.iload_n 3, 1) := by decide +kernel
theorem dX3_howManyInField_43 : decode cX3_howManyInField 43 = .ok (.iaload, 1) := by decide +kernel
theorem dX3_howManyInField_44 : decode cX3_howManyInField 44 = .ok (.iconst 1, 1) := by decide +kernel
theorem dX3_howManyInField_45 : decode cX3_howManyInField 45 = .ok (.if_icmp .ne 7, 3) := by decide +kernel
theorem dX3_howManyInField_48 : decode cX3_howManyInField 48 = .ok (.iconst 1, 1) := by decide +kernel
theorem dX3_howManyInField_49 : decode cX3_howManyInField 49 = .ok (.goto 4, 3) := by decide +kernel
theorem dX3_howManyInField_52 : decode cX3_howManyInField 52 = .ok (.iconst 0, 1) := by decide +kernel
theorem dX3_howManyInField_53 : decode cX3_howManyInField 53 = .ok (.iadd, 1) := by decide +kernel
theorem dX3_howManyInField_54 : decode cX3_howManyInField 54 = .ok (.istore_n 2, 1) := by decide +kernel
theorem dX3_howManyInField_55 : decode cX3_howManyInField 55 = .ok (.iinc 3 1, 3) := by decide +kernel
theorem dX3_howManyInField_58 : decode cX3_howManyInField 58 = .ok (.goto (-54), 3) := by decide +kernel
theorem dX3_howManyInField_61 : decode cX3_howManyInField 61 = .ok (.iload_n 2, 1) := by decide +kernel
theorem dX3_howManyInField_62 : decode cX3_howManyInField 62 = .ok (.ireturn, 1) := by decide +kernel
theorem dX3_init_0 : decode cX3_init 0 = .ok (.aload_n 0, 1) := by decide +kernel
theorem dX3_init_1 : decode cX3_init 1 = .ok (.invokespecial 3, 3) := by decide +kernel
theorem dX3_init_4 : decode cX3_init 4 = .ok (.aload_n 0, 1) := by decide +kernel
theorem dX3_init_5 : decode cX3_init 5 = .ok (.bipush 9, 2) := by decide +kernel
theorem dX3_init_7 : decode cX3_init 7 = .ok (.newarray .int, 2) := by decide +kernel
theorem dX3_init_9 : decode cX3_init 9 = .ok (.putfield 11, 3) := by decide +kernel
theorem dX3_init_12 : decode cX3_init 12 = .ok (.aload_n 0, 1) := by decide +kernel
theorem dX3_init_13 : decode cX3_init 13 = .ok (.aload_n 1, 1) := by decide +kernel
theorem dX3_init_14 : decode cX3_init 14 = .ok (.putfield 17, 3) := by decide +kernel
theorem dX3_init_17 : decode cX3_init 17 = .ok (.aload_n 0, 1) := by decide +kernel
theorem dX3_init_18 : decode cX3_init 18 = .ok (.aload_n 2, 1) := by decide +kernel
theorem dX3_init_19 : decode cX3_init 19 = .ok (.putfield 21, 3) := by decide +kernel
theorem dX3_init_22 : decode cX3_init 22 = .ok (.aload_n 0, 1) := by decide +kernel
theorem dX3_init_23 : decode cX3_init 23 = .ok (.aload_n 3, 1) := by decide +kernel
theorem dX3_init_24 : decode cX3_init 24 = .ok (.putfield 25, 3) := by decide +kernel
theorem dX3_init_27 : decode cX3_init 27 = .ok (.aload_n 0, 1) := by decide +kernel
theorem dX3_init_28 : decode cX3_init 28 = .ok (.iload 4, 2) := by decide +kernel
theorem dX3_init_30 : decode cX3_init 30 = .ok (.putfield 29, 3) := by decide +kernel
theorem dX3_init_33 : decode cX3_init 33 = .ok (.return_, 1) := by decide +kernel
theorem dX3_isAt_0 : decode cX3_isAt 0 = .ok (.aload_n 0, 1) := by decide +kernel
theorem dX3_isAt_1 : decode cX3_isAt 1 = .ok (.getfield 17, 3) := by decide +kernel
theorem dX3_isAt_4 : decode cX3_isAt 4 = .ok (.iload_n 1, 1) := by decide +kernel
theorem dX3_isAt_5 : decode cX3_isAt 5 = .ok (.invokevirtual 64, 3) := by decide +kernel
theorem dX3_isAt_8 : decode cX3_isAt 8 = .ok (.ifCond .eq 33, 3) := by decide +kernel
theorem dX3_isAt_11 : decode cX3_isAt 11 = .ok (.aload_n 0, 1) := by decide +kernel
theorem dX3_isAt_12 : decode cX3_isAt 12 = .ok (.getfield 21, 3) := by decide +kernel
theorem dX3_isAt_15 : decode cX3_isAt 15 = .ok (.getfield 70, 3) := by decide +kernel
theorem dX3_isAt_18 : decode cX3_isAt 18 = .ok (.iload_n 1, 1) := by decide +kernel
theorem dX3_isAt_19 : decode cX3_isAt 19 = .ok (.iaload, 1) := by decide +kernel
theorem dX3_isAt_20 : decode cX3_isAt 20 = .ok (.iconst 1, 1) := by decide +kernel
theorem dX3_isAt_21 : decode cX3_isAt 21 = .ok (.if_icmp .ne 20, 3) := by decide +kernel
theorem dX3_isAt_24 : decode cX3_isAt 24 = .ok (.aload_n 0, 1) := by decide +kernel
theorem dX3_isAt_25 : decode cX3_isAt 25 = .ok (.getfield 21, 3) := by decide +kernel
theorem dX3_isAt_28 : decode cX3_isAt 28 = .ok (.getfield 94, 3) := by decide +kernel
theorem dX3_isAt_31 : decode cX3_isAt 31 = .ok (.iload_n 1, 1) := by decide +kernel
theorem dX3_isAt_32 : decode cX3_isAt 32 = .ok (.iaload, 1) := by decide +kernel
theorem dX3_isAt_33 : decode cX3_isAt 33 = .ok (.iload_n 2, 1) := by decide +kernel
theorem dX3_isAt_34 : decode cX3_isAt 34 = .ok (.if_icmp .ne 7, 3) := by decide +kernel
theorem dX3_isAt_37 : decode cX3_isAt 37 = .ok (.iconst 1, 1) := by decide +kernel
theorem dX3_isAt_38 : decode cX3_isAt 38 = .ok (.goto 4, 3) := by decide +kernel
theorem dX3_isAt_41 : decode cX3_isAt 41 = .ok (.iconst 0, 1) := by decide +kernel
theorem dX3_isAt_42 : decode cX3_isAt 42 = .ok (.ireturn, 1) := by decide +kernel
theorem dX3_known_0 : decode cX3_known 0 = .ok (.iconst 0, 1) := by decide +kernel
theorem dX3_known_1 : decode cX3_known 1 = .ok (.istore_n 2, 1) := by decide +kernel
theorem dX3_known_2 : decode cX3_known 2 = .ok (.iconst 0, 1) := by decide +kernel
theorem dX3_known_3 : decode cX3_known 3 = .ok (.istore_n 3, 1) := by decide +kernel
theorem dX3_known_4 : decode cX3_known 4 = .ok (.iload_n 3, 1) := by decide +kernel
theorem dX3_known_5 : decode cX3_known 5 = .ok (.bipush 12, 2) := by decide +kernel
theorem dX3_known_7 : decode cX3_known 7 = .ok (.if_icmp .ge 49, 3) := by decide +kernel
theorem dX3_known_10 : decode cX3_known 10 = .ok (.iload_n 3, 1) := by decide +kernel
theorem dX3_known_11 : decode cX3_known 11 = .ok (.aload_n 0, 1) := by decide +kernel
theorem dX3_known_12 : decode cX3_known 12 = .ok (.getfield 17, 3) := by decide +kernel
theorem dX3_known_15 : decode cX3_known 15 = .ok (.getfield 123, 3) := by decide +kernel
theorem dX3_known_18 : decode cX3_known 18 = .ok (.if_icmp .ge 38, 3) := by decide +kernel
theorem dX3_known_21 : decode cX3_known 21 = .ok (.iload_n 2, 1) := by decide +kernel
theorem dX3_known_22 : decode cX3_known 22 = .ok (.aload_n 0, 1) := by decide +kernel
theorem dX3_known_23 : decode cX3_known 23 = .ok (.getfield 17, 3) := by decide +kernel
theorem dX3_known_26 : decode cX3_known 26 = .ok (.getfield 73, 3) := by decide +kernel
theorem dX3_known_29 : decode cX3_known 29 = .ok (.iload_n 3, 1) := by decide +kernel
theorem dX3_known_30 : decode cX3_known 30 = .ok (.iaload, 1) := by decide +kernel
theorem dX3_known_31 : decode cX3_known 31 = .ok (.iload_n 1, 1) := by decide +kernel
theorem dX3_known_32 : decode cX3_known 32 = .ok (.if_icmp .ne 15, 3) := by decide +kernel
theorem dX3_known_35 : decode cX3_known 35 = .ok (.aload_n 0, 1) := by decide +kernel
theorem dX3_known_36 : decode cX3_known 36 = .ok (.getfield 21, 3) := by decide +kernel
theorem dX3_known_39 : decode cX3_known 39 = .ok (.getfield 85, 3) := by decide +kernel
theorem dX3_known_42 : decode cX3_known 42 = .ok (.iload_n 3, 1) := by decide +kernel
theorem dX3_known_43 : decode cX3_known 43 = .ok (.iaload, 1) := by decide +kernel
theorem dX3_known_44 : decode cX3_known 44 = .ok (.goto 4, 3) := by decide +kernel
theorem dX3_known_47 : decode cX3_known 47 = .ok (.iconst 0, 1) := by decide +kernel
theorem dX3_known_48 : decode cX3_known 48 = .ok (.ior, 1) := by decide +kernel
theorem dX3_known_49 : decode cX3_known 49 = .ok (.istore_n 2, 1) := by decide +kernel
theorem dX3_known_50 : decode cX3_known 50 = .ok (.iinc 3 1, 3) := by decide +kernel
theorem dX3_known_53 : decode cX3_known 53 = .ok (.goto (-49), 3) := by decide +kernel
theorem dX3_known_56 : decode cX3_known 56 = .ok (.iload_n 2, 1) := by decide +kernel
theorem dX3_known_57 : decode cX3_known 57 = .ok (.ireturn, 1) := by decide +kernel
theorem dX3_leastOf_0 : decode cX3_leastOf 0 = .ok (.iconst 0, 1) := by decide +kernel
theorem dX3_leastOf_1 : decode cX3_leastOf 1 = .ok (.istore_n 1, 1) := by decide +kernel
theorem dX3_leastOf_2 : decode cX3_leastOf 2 = .ok (.iload_n 1, 1) := by decide +kernel
theorem dX3_leastOf_3 : decode cX3_leastOf 3 = .ok (.bipush 7, 2) := by decide +kernel
theorem dX3_leastOf_5 : decode cX3_leastOf 5 = .ok (.if_icmp .ge 17, 3) := by decide +kernel
theorem dX3_leastOf_8 : decode cX3_leastOf 8 = .ok (.iload_n 0, 1) := by decide +kernel
theorem dX3_leastOf_9 : decode cX3_leastOf 9 = .ok (.iload_n 1, 1) := by decide +kernel
theorem dX3_leastOf_10 : decode cX3_leastOf 10 = .ok (.invokestatic 174, 3) := by decide +kernel
theorem dX3_leastOf_13 : decode cX3_leastOf 13 = .ok (.ifCond .ne 9, 3) := by decide +kernel
theorem dX3_leastOf_16 : decode cX3_leastOf 16 = .ok (.iinc 1 1, 3) := by decide +kernel
theorem dX3_leastOf_19 : decode cX3_leastOf 19 = .ok (.goto (-17), 3) := by decide +kernel
theorem dX3_leastOf_22 : decode cX3_leastOf 22 = .ok (.iload_n 1, 1) := by decide +kernel
theorem dX3_leastOf_23 : decode cX3_leastOf 23 = .ok (.ireturn, 1) := by decide +kernel
theorem dX3_note_0 : decode cX3_note 0 = .ok (.aload_n 0, 1) := by decide +kernel
theorem dX3_note_1 : decode cX3_note 1 = .ok (.getfield 29, 3) := by decide +kernel
theorem dX3_note_4 : decode cX3_note 4 = .ok (.ifCond .eq 53, 3) := by decide +kernel
theorem dX3_note_7 : decode cX3_note 7 = .ok (.aload_n 0, 1) := by decide +kernel
theorem dX3_note_8 : decode cX3_note 8 = .ok (.getfield 21, 3) := by decide +kernel
theorem dX3_note_11 : decode cX3_note 11 = .ok (.getfield 126, 3) := by decide +kernel
theorem dX3_note_14 : decode cX3_note 14 = .ok (.sipush 150, 3) := by decide +kernel
theorem dX3_note_17 : decode cX3_note 17 = .ok (.if_icmp .ge 40, 3) := by decide +kernel
theorem dX3_note_20 : decode cX3_note 20 = .ok (.aload_n 0, 1) := by decide +kernel
theorem dX3_note_21 : decode cX3_note 21 = .ok (.getfield 25, 3) := by decide +kernel
theorem dX3_note_24 : decode cX3_note 24 = .ok (.aload_n 0, 1) := by decide +kernel
theorem dX3_note_25 : decode cX3_note 25 = .ok (.getfield 21, 3) := by decide +kernel
theorem dX3_note_28 : decode cX3_note 28 = .ok (.getfield 126, 3) := by decide +kernel
theorem dX3_note_31 : decode cX3_note 31 = .ok (.aload_n 0, 1) := by decide +kernel
theorem dX3_note_32 : decode cX3_note 32 = .ok (.getfield 21, 3) := by decide +kernel
theorem dX3_note_35 : decode cX3_note 35 = .ok (.getfield 52, 3) := by decide +kernel
theorem dX3_note_38 : decode cX3_note 38 = .ok (.iload_n 1, 1) := by decide +kernel
theorem dX3_note_39 : decode cX3_note 39 = .ok (.iload_n 2, 1) := by decide +kernel
theorem dX3_note_40 : decode cX3_note 40 = .ok (.iload_n 3, 1) := by decide +kernel
theorem dX3_note_41 : decode cX3_note 41 = .ok (.invokevirtual 129, 3) := by decide +kernel
theorem dX3_note_44 : decode cX3_note 44 = .ok (.aload_n 0, 1) := by decide +kernel
theorem dX3_note_45 : decode cX3_note 45 = .ok (.getfield 21, 3) := by decide +kernel
theorem dX3_note_48 : decode cX3_note 48 = .ok (.dup, 1) := by decide +kernel
theorem dX3_note_49 : decode cX3_note 49 = .ok (.getfield 126, 3) := by decide +kernel
theorem dX3_note_52 : decode cX3_note 52 = .ok (.iconst 1, 1) := by decide +kernel
theorem dX3_note_53 : decode cX3_note 53 = .ok (.iadd, 1) := by decide +kernel
theorem dX3_note_54 : decode cX3_note 54 = .ok (.putfield 126, 3) := by decide +kernel
theorem dX3_note_57 : decode cX3_note 57 = .ok (.return_, 1) := by decide +kernel
theorem dX3_pass_0 : decode cX3_pass 0 = .ok (.aload_n 0, 1) := by decide +kernel
theorem dX3_pass_1 : decode cX3_pass 1 = .ok (.getfield 21, 3) := by decide +kernel
theorem dX3_pass_4 : decode cX3_pass 4 = .ok (.getfield 33, 3) := by decide +kernel
theorem dX3_pass_7 : decode cX3_pass 7 = .ok (.iconst 1, 1) := by decide +kernel
theorem dX3_pass_8 : decode cX3_pass 8 = .ok (.if_icmp .ne 7, 3) := by decide +kernel
theorem dX3_pass_11 : decode cX3_pass 11 = .ok (.iconst 1, 1) := by decide +kernel
theorem dX3_pass_12 : decode cX3_pass 12 = .ok (.goto 4, 3) := by decide +kernel
theorem dX3_pass_15 : decode cX3_pass 15 = .ok (.iconst 0, 1) := by decide +kernel
theorem dX3_pass_16 : decode cX3_pass 16 = .ok (.istore_n 1, 1) := by decide +kernel
theorem dX3_pass_17 : decode cX3_pass 17 = .ok (.iload_n 1, 1) := by decide +kernel
theorem dX3_pass_18 : decode cX3_pass 18 = .ok (.ifCond .eq 25, 3) := by decide +kernel
theorem dX3_pass_21 : decode cX3_pass 21 = .ok (.aload_n 0, 1) := by decide +kernel
theorem dX3_pass_22 : decode cX3_pass 22 = .ok (.iconst 0, 1) := by decide +kernel
theorem dX3_pass_23 : decode cX3_pass 23 = .ok (.invokevirtual 39, 3) := by decide +kernel
theorem dX3_pass_26 : decode cX3_pass 26 = .ok (.aload_n 0, 1) := by decide +kernel
theorem dX3_pass_27 : decode cX3_pass 27 = .ok (.iconst 1, 1) := by decide +kernel
theorem dX3_pass_28 : decode cX3_pass 28 = .ok (.invokevirtual 39, 3) := by decide +kernel
theorem dX3_pass_31 : decode cX3_pass 31 = .ok (.aload_n 0, 1) := by decide +kernel
theorem dX3_pass_32 : decode cX3_pass 32 = .ok (.invokevirtual 43, 3) := by decide +kernel
theorem dX3_pass_35 : decode cX3_pass 35 = .ok (.aload_n 0, 1) := by decide +kernel
theorem dX3_pass_36 : decode cX3_pass 36 = .ok (.invokevirtual 46, 3) := by decide +kernel
theorem dX3_pass_39 : decode cX3_pass 39 = .ok (.aload_n 0, 1) := by decide +kernel
theorem dX3_pass_40 : decode cX3_pass 40 = .ok (.invokevirtual 49, 3) := by decide +kernel
theorem dX3_pass_43 : decode cX3_pass 43 = .ok (.aload_n 0, 1) := by decide +kernel
theorem dX3_pass_44 : decode cX3_pass 44 = .ok (.getfield 21, 3) := by decide +kernel
theorem dX3_pass_47 : decode cX3_pass 47 = .ok (.getfield 52, 3) := by decide +kernel
theorem dX3_pass_50 : decode cX3_pass 50 = .ok (.bipush 7, 2) := by decide +kernel
theorem dX3_pass_52 : decode cX3_pass 52 = .ok (.irem, 1) := by decide +kernel
theorem dX3_pass_53 : decode cX3_pass 53 = .ok (.ifCond .ne 7, 3) := by decide +kernel
theorem dX3_pass_56 : decode cX3_pass 56 = .ok (.aload_n 0, 1) := by decide +kernel
theorem dX3_pass_57 : decode cX3_pass 57 = .ok (.invokevirtual 55, 3) := by decide +kernel
theorem dX3_pass_60 : decode cX3_pass 60 = .ok (.aload_n 0, 1) := by decide +kernel
theorem dX3_pass_61 : decode cX3_pass 61 = .ok (.getfield 29, 3) := by decide +kernel
theorem dX3_pass_64 : decode cX3_pass 64 = .ok (.ifCond .eq 7, 3) := by decide +kernel
theorem dX3_pass_67 : decode cX3_pass 67 = .ok (.aload_n 0, 1) := by decide +kernel
theorem dX3_pass_68 : decode cX3_pass 68 = .ok (.invokevirtual 58, 3) := by decide +kernel
theorem dX3_pass_71 : decode cX3_pass 71 = .ok (.iload_n 1, 1) := by decide +kernel
theorem dX3_pass_72 : decode cX3_pass 72 = .ok (.ifCond .eq 7, 3) := by decide +kernel
theorem dX3_pass_75 : decode cX3_pass 75 = .ok (.aload_n 0, 1) := by decide +kernel
theorem dX3_pass_76 : decode cX3_pass 76 = .ok (.invokevirtual 61, 3) := by decide +kernel
theorem dX3_pass_79 : decode cX3_pass 79 = .ok (.aload_n 0, 1) := by decide +kernel
theorem dX3_pass_80 : decode cX3_pass 80 = .ok (.getfield 21, 3) := by decide +kernel
theorem dX3_pass_83 : decode cX3_pass 83 = .ok (.dup, 1) := by decide +kernel
theorem dX3_pass_84 : decode cX3_pass 84 = .ok (.getfield 52, 3) := by decide +kernel
theorem dX3_pass_87 : decode cX3_pass 87 = .ok (.iconst 1, 1) := by decide +kernel
theorem dX3_pass_88 : decode cX3_pass 88 = .ok (.iadd, 1) := by decide +kernel
theorem dX3_pass_89 : decode cX3_pass 89 = .ok (.putfield 52, 3) := by decide +kernel
theorem dX3_pass_92 : decode cX3_pass 92 = .ok (.return_, 1) := by decide +kernel
theorem dX3_tellOn_0 : decode cX3_tellOn 0 = .ok (.iconst 0, 1) := by decide +kernel
theorem dX3_tellOn_1 : decode cX3_tellOn 1 = .ok (.istore_n 1, 1) := by decide +kernel
theorem dX3_tellOn_2 : decode cX3_tellOn 2 = .ok (.iload_n 1, 1) := by decide +kernel
theorem dX3_tellOn_3 : decode cX3_tellOn 3 = .ok (.bipush 12, 2) := by decide +kernel
theorem dX3_tellOn_5 : decode cX3_tellOn 5 = .ok (.if_icmp .ge 116, 3) := by decide +kernel
theorem dX3_tellOn_8 : decode cX3_tellOn 8 = .ok (.iload_n 1, 1) := by decide +kernel
theorem dX3_tellOn_9 : decode cX3_tellOn 9 = .ok (.aload_n 0, 1) := by decide +kernel
theorem dX3_tellOn_10 : decode cX3_tellOn 10 = .ok (.getfield 17, 3) := by decide +kernel
theorem dX3_tellOn_13 : decode cX3_tellOn 13 = .ok (.getfield 123, 3) := by decide +kernel
theorem dX3_tellOn_16 : decode cX3_tellOn 16 = .ok (.if_icmp .ge 105, 3) := by decide +kernel
theorem dX3_tellOn_19 : decode cX3_tellOn 19 = .ok (.iconst 0, 1) := by decide +kernel
theorem dX3_tellOn_20 : decode cX3_tellOn 20 = .ok (.istore_n 2, 1) := by decide +kernel
theorem dX3_tellOn_21 : decode cX3_tellOn 21 = .ok (.iload_n 2, 1) := by decide +kernel
theorem dX3_tellOn_22 : decode cX3_tellOn 22 = .ok (.bipush 12, 2) := by decide +kernel
theorem dX3_tellOn_24 : decode cX3_tellOn 24 = .ok (.if_icmp .ge 91, 3) := by decide +kernel
theorem dX3_tellOn_27 : decode cX3_tellOn 27 = .ok (.iload_n 2, 1) := by decide +kernel
theorem dX3_tellOn_28 : decode cX3_tellOn 28 = .ok (.aload_n 0, 1) := by decide +kernel
theorem dX3_tellOn_29 : decode cX3_tellOn 29 = .ok (.getfield 17, 3) := by decide +kernel
theorem dX3_tellOn_32 : decode cX3_tellOn 32 = .ok (.getfield 123, 3) := by decide +kernel
theorem dX3_tellOn_35 : decode cX3_tellOn 35 = .ok (.if_icmp .ge 80, 3) := by decide +kernel
theorem dX3_tellOn_38 : decode cX3_tellOn 38 = .ok (.aload_n 0, 1) := by decide +kernel
theorem dX3_tellOn_39 : decode cX3_tellOn 39 = .ok (.getfield 21, 3) := by decide +kernel
theorem dX3_tellOn_42 : decode cX3_tellOn 42 = .ok (.getfield 70, 3) := by decide +kernel
theorem dX3_tellOn_45 : decode cX3_tellOn 45 = .ok (.iload_n 1, 1) := by decide +kernel
theorem dX3_tellOn_46 : decode cX3_tellOn 46 = .ok (.iaload, 1) := by decide +kernel
theorem dX3_tellOn_47 : decode cX3_tellOn 47 = .ok (.ifCond .ne 19, 3) := by decide +kernel
theorem dX3_tellOn_50 : decode cX3_tellOn 50 = .ok (.aload_n 0, 1) := by decide +kernel
theorem dX3_tellOn_51 : decode cX3_tellOn 51 = .ok (.getfield 21, 3) := by decide +kernel
theorem dX3_tellOn_54 : decode cX3_tellOn 54 = .ok (.getfield 70, 3) := by decide +kernel
theorem dX3_tellOn_57 : decode cX3_tellOn 57 = .ok (.iload_n 2, 1) := by decide +kernel
theorem dX3_tellOn_58 : decode cX3_tellOn 58 = .ok (.iaload, 1) := by decide +kernel
theorem dX3_tellOn_59 : decode cX3_tellOn 59 = .ok (.ifCond .ne 7, 3) := by decide +kernel
theorem dX3_tellOn_62 : decode cX3_tellOn 62 = .ok (.iconst 1, 1) := by decide +kernel
theorem dX3_tellOn_63 : decode cX3_tellOn 63 = .ok (.goto 4, 3) := by decide +kernel
theorem dX3_tellOn_66 : decode cX3_tellOn 66 = .ok (.iconst 0, 1) := by decide +kernel
theorem dX3_tellOn_67 : decode cX3_tellOn 67 = .ok (.istore_n 3, 1) := by decide +kernel
theorem dX3_tellOn_68 : decode cX3_tellOn 68 = .ok (.iload_n 3, 1) := by decide +kernel
theorem dX3_tellOn_69 : decode cX3_tellOn 69 = .ok (.ifCond .eq 40, 3) := by decide +kernel
theorem dX3_tellOn_72 : decode cX3_tellOn 72 = .ok (.aload_n 0, 1) := by decide +kernel
theorem dX3_tellOn_73 : decode cX3_tellOn 73 = .ok (.getfield 17, 3) := by decide +kernel
theorem dX3_tellOn_76 : decode cX3_tellOn 76 = .ok (.getfield 198, 3) := by decide +kernel
theorem dX3_tellOn_79 : decode cX3_tellOn 79 = .ok (.iload_n 1, 1) := by decide +kernel
theorem dX3_tellOn_80 : decode cX3_tellOn 80 = .ok (.iaload, 1) := by decide +kernel
theorem dX3_tellOn_81 : decode cX3_tellOn 81 = .ok (.iload_n 2, 1) := by decide +kernel
theorem dX3_tellOn_82 : decode cX3_tellOn 82 = .ok (.invokestatic 174, 3) := by decide +kernel
theorem dX3_tellOn_85 : decode cX3_tellOn 85 = .ok (.ifCond .eq 24, 3) := by decide +kernel
theorem dX3_tellOn_88 : decode cX3_tellOn 88 = .ok (.aload_n 0, 1) := by decide +kernel
theorem dX3_tellOn_89 : decode cX3_tellOn 89 = .ok (.getfield 21, 3) := by decide +kernel
theorem dX3_tellOn_92 : decode cX3_tellOn 92 = .ok (.getfield 85, 3) := by decide +kernel
theorem dX3_tellOn_95 : decode cX3_tellOn 95 = .ok (.iload_n 2, 1) := by decide +kernel
theorem dX3_tellOn_96 : decode cX3_tellOn 96 = .ok (.dup2, 1) := by decide +kernel
theorem dX3_tellOn_97 : decode cX3_tellOn 97 = .ok (.iaload, 1) := by decide +kernel
theorem dX3_tellOn_98 : decode cX3_tellOn 98 = .ok (.aload_n 0, 1) := by decide +kernel
theorem dX3_tellOn_99 : decode cX3_tellOn 99 = .ok (.getfield 21, 3) := by decide +kernel
theorem dX3_tellOn_102 : decode cX3_tellOn 102 = .ok (.getfield 85, 3) := by decide +kernel
theorem dX3_tellOn_105 : decode cX3_tellOn 105 = .ok (.iload_n 1, 1) := by decide +kernel
theorem dX3_tellOn_106 : decode cX3_tellOn 106 = .ok (.iaload, 1) := by decide +kernel
theorem dX3_tellOn_107 : decode cX3_tellOn 107 = .ok (.ior, 1) := by decide +kernel
theorem dX3_tellOn_108 : decode cX3_tellOn 108 = .ok (.iastore, 1) := by decide +kernel
theorem dX3_tellOn_109 : decode cX3_tellOn 109 = .ok (.iinc 2 1, 3) := by decide +kernel
theorem dX3_tellOn_112 : decode cX3_tellOn 112 = .ok (.goto (-91), 3) := by decide +kernel
theorem dX3_tellOn_115 : decode cX3_tellOn 115 = .ok (.iinc 1 1, 3) := by decide +kernel
theorem dX3_tellOn_118 : decode cX3_tellOn 118 = .ok (.goto (-116), 3) := by decide +kernel
theorem dX3_tellOn_121 : decode cX3_tellOn 121 = .ok (.return_, 1) := by decide +kernel
theorem dX3_walk_0 : decode cX3_walk 0 = .ok (.aload_n 0, 1) := by decide +kernel
theorem dX3_walk_1 : decode cX3_walk 1 = .ok (.getfield 17, 3) := by decide +kernel
theorem dX3_walk_4 : decode cX3_walk 4 = .ok (.iload_n 1, 1) := by decide +kernel
theorem dX3_walk_5 : decode cX3_walk 5 = .ok (.invokevirtual 64, 3) := by decide +kernel
theorem dX3_walk_8 : decode cX3_walk 8 = .ok (.ifCond .ne 4, 3) := by decide +kernel
theorem dX3_walk_11 : decode cX3_walk 11 = .ok (.return_, 1) := by decide +kernel
theorem dX3_walk_12 : decode cX3_walk 12 = .ok (.aload_n 0, 1) := by decide +kernel
theorem dX3_walk_13 : decode cX3_walk 13 = .ok (.getfield 17, 3) := by decide +kernel
theorem dX3_walk_16 : decode cX3_walk 16 = .ok (.getfield 73, 3) := by decide +kernel
theorem dX3_walk_19 : decode cX3_walk 19 = .ok (.iload_n 1, 1) := by decide +kernel
theorem dX3_walk_20 : decode cX3_walk 20 = .ok (.iaload, 1) := by decide +kernel
theorem dX3_walk_21 : decode cX3_walk 21 = .ok (.istore_n 3, 1) := by decide +kernel
theorem dX3_walk_22 : decode cX3_walk 22 = .ok (.iload_n 3, 1) := by decide +kernel
theorem dX3_walk_23 : decode cX3_walk 23 = .ok (.ifCond .ne 7, 3) := by decide +kernel
theorem dX3_walk_26 : decode cX3_walk 26 = .ok (.iconst 1, 1) := by decide +kernel
theorem dX3_walk_27 : decode cX3_walk 27 = .ok (.goto 4, 3) := by decide +kernel
theorem dX3_walk_30 : decode cX3_walk 30 = .ok (.iconst (-1), 1) := by decide +kernel
theorem dX3_walk_31 : decode cX3_walk 31 = .ok (.istore 4, 2) := by decide +kernel
theorem dX3_walk_33 : decode cX3_walk 33 = .ok (.aload_n 0, 1) := by decide +kernel
theorem dX3_walk_34 : decode cX3_walk 34 = .ok (.iconst 1, 1) := by decide +kernel
theorem dX3_walk_35 : decode cX3_walk 35 = .ok (.iload_n 3, 1) := by decide +kernel
theorem dX3_walk_36 : decode cX3_walk 36 = .ok (.isub, 1) := by decide +kernel
theorem dX3_walk_37 : decode cX3_walk 37 = .ok (.invokevirtual 171, 3) := by decide +kernel
theorem dX3_walk_40 : decode cX3_walk 40 = .ok (.istore 5, 2) := by decide +kernel
theorem dX3_walk_42 : decode cX3_walk 42 = .ok (.iload_n 2, 1) := by decide +kernel
theorem dX3_walk_43 : decode cX3_walk 43 = .ok (.istore 6, 2) := by decide +kernel
theorem dX3_walk_45 : decode cX3_walk 45 = .ok (.iconst 0, 1) := by decide +kernel
theorem dX3_walk_46 : decode cX3_walk 46 = .ok (.istore 7, 2) := by decide +kernel
theorem dX3_walk_48 : decode cX3_walk 48 = .ok (.iload 7, 2) := by decide +kernel
theorem dX3_walk_50 : decode cX3_walk 50 = .ok (.bipush 16, 2) := by decide +kernel
theorem dX3_walk_52 : decode cX3_walk 52 = .ok (.if_icmp .ge 114, 3) := by decide +kernel
theorem dX3_walk_55 : decode cX3_walk 55 = .ok (.iload 6, 2) := by decide +kernel
theorem dX3_walk_57 : decode cX3_walk 57 = .ok (.ifCond .le 109, 3) := by decide +kernel
theorem dX3_walk_60 : decode cX3_walk 60 = .ok (.aload_n 0, 1) := by decide +kernel
theorem dX3_walk_61 : decode cX3_walk 61 = .ok (.getfield 21, 3) := by decide +kernel
theorem dX3_walk_64 : decode cX3_walk 64 = .ok (.getfield 94, 3) := by decide +kernel
theorem dX3_walk_67 : decode cX3_walk 67 = .ok (.iload_n 1, 1) := by decide +kernel
theorem dX3_walk_68 : decode cX3_walk 68 = .ok (.iaload, 1) := by decide +kernel
theorem dX3_walk_69 : decode cX3_walk 69 = .ok (.iload 4, 2) := by decide +kernel
theorem dX3_walk_71 : decode cX3_walk 71 = .ok (.iadd, 1) := by decide +kernel
theorem dX3_walk_72 : decode cX3_walk 72 = .ok (.istore 8, 2) := by decide +kernel
theorem dX3_walk_74 : decode cX3_walk 74 = .ok (.aload_n 0, 1) := by decide +kernel
theorem dX3_walk_75 : decode cX3_walk 75 = .ok (.getfield 17, 3) := by decide +kernel
theorem dX3_walk_78 : decode cX3_walk 78 = .ok (.iload 8, 2) := by decide +kernel
theorem dX3_walk_80 : decode cX3_walk 80 = .ok (.invokevirtual 100, 3) := by decide +kernel
theorem dX3_walk_83 : decode cX3_walk 83 = .ok (.ifCond .eq 7, 3) := by decide +kernel
theorem dX3_walk_86 : decode cX3_walk 86 = .ok (.iconst 2, 1) := by decide +kernel
theorem dX3_walk_87 : decode cX3_walk 87 = .ok (.goto 4, 3) := by decide +kernel
theorem dX3_walk_90 : decode cX3_walk 90 = .ok (.iconst 1, 1) := by decide +kernel
theorem dX3_walk_91 : decode cX3_walk 91 = .ok (.istore 9, 2) := by decide +kernel
theorem dX3_walk_93 : decode cX3_walk 93 = .ok (.iload 8, 2) := by decide +kernel
theorem dX3_walk_95 : decode cX3_walk 95 = .ok (.ifCond .lt 10, 3) := by decide +kernel
theorem dX3_walk_98 : decode cX3_walk 98 = .ok (.iload 8, 2) := by decide +kernel
theorem dX3_walk_100 : decode cX3_walk 100 = .ok (.bipush 16, 2) := by decide +kernel
theorem dX3_walk_102 : decode cX3_walk 102 = .ok (.if_icmp .lt 7, 3) := by decide +kernel
theorem dX3_walk_105 : decode cX3_walk 105 = .ok (.iconst 1, 1) := by decide +kernel
theorem dX3_walk_106 : decode cX3_walk 106 = .ok (.goto 4, 3) := by decide +kernel
theorem dX3_walk_109 : decode cX3_walk 109 = .ok (.iconst 0, 1) := by decide +kernel
theorem dX3_walk_110 : decode cX3_walk 110 = .ok (.istore 10, 2) := by decide +kernel
theorem dX3_walk_112 : decode cX3_walk 112 = .ok (.iload 10, 2) := by decide +kernel
theorem dX3_walk_114 : decode cX3_walk 114 = .ok (.ifCond .ne 27, 3) := by decide +kernel
theorem dX3_walk_117 : decode cX3_walk 117 = .ok (.iload 9, 2) := by decide +kernel
theorem dX3_walk_119 : decode cX3_walk 119 = .ok (.iload 6, 2) := by decide +kernel
theorem dX3_walk_121 : decode cX3_walk 121 = .ok (.if_icmp .gt 20, 3) := by decide +kernel
theorem dX3_walk_124 : decode cX3_walk 124 = .ok (.iload 5, 2) := by decide +kernel
theorem dX3_walk_126 : decode cX3_walk 126 = .ok (.aload_n 0, 1) := by decide +kernel
theorem dX3_walk_127 : decode cX3_walk 127 = .ok (.getfield 21, 3) := by decide +kernel
theorem dX3_walk_130 : decode cX3_walk 130 = .ok (.getfield 94, 3) := by decide +kernel
theorem dX3_walk_133 : decode cX3_walk 133 = .ok (.iload_n 1, 1) := by decide +kernel
theorem dX3_walk_134 : decode cX3_walk 134 = .ok (.iaload, 1) := by decide +kernel
theorem dX3_walk_135 : decode cX3_walk 135 = .ok (.invokestatic 174, 3) := by decide +kernel
theorem dX3_walk_138 : decode cX3_walk 138 = .ok (.ifCond .eq 4, 3) := by decide +kernel
theorem dX3_walk_141 : decode cX3_walk 141 = .ok (.return_, 1) := by decide +kernel
theorem dX3_walk_142 : decode cX3_walk 142 = .ok (.aload_n 0, 1) := by decide +kernel
theorem dX3_walk_143 : decode cX3_walk 143 = .ok (.getfield 21, 3) := by decide +kernel
theorem dX3_walk_146 : decode cX3_walk 146 = .ok (.getfield 94, 3) := by decide +kernel
theorem dX3_walk_149 : decode cX3_walk 149 = .ok (.iload_n 1, 1) := by decide +kernel
theorem dX3_walk_150 : decode cX3_walk 150 = .ok (.iload 8, 2) := by decide +kernel
theorem dX3_walk_152 : decode cX3_walk 152 = .ok (.iastore, 1) := by decide +kernel
theorem dX3_walk_153 : decode cX3_walk 153 = .ok (.iload 6, 2) := by decide +kernel
theorem dX3_walk_155 : decode cX3_walk 155 = .ok (.iload 9, 2) := by decide +kernel
theorem dX3_walk_157 : decode cX3_walk 157 = .ok (.isub, 1) := by decide +kernel
theorem dX3_walk_158 : decode cX3_walk 158 = .ok (.istore 6, 2) := by decide +kernel
theorem dX3_walk_160 : decode cX3_walk 160 = .ok (.iinc 7 1, 3) := by decide +kernel
theorem dX3_walk_163 : decode cX3_walk 163 = .ok (.goto (-115), 3) := by decide +kernel
theorem dX3_walk_166 : decode cX3_walk 166 = .ok (.return_, 1) := by decide +kernel
theorem dX4_become_0 : decode cX4_become 0 = .ok (.aload_n 1, 1) := by decide +kernel
theorem dX4_become_1 : decode cX4_become 1 = .ok (.getfield 9, 3) := by decide +kernel
theorem dX4_become_4 : decode cX4_become 4 = .ok (.aload_n 0, 1) := by decide +kernel
theorem dX4_become_5 : decode cX4_become 5 = .ok (.getfield 9, 3) := by decide +kernel
theorem dX4_become_8 : decode cX4_become 8 = .ok (.invokestatic 30, 3) := by decide +kernel
theorem dX4_become_11 : decode cX4_become 11 = .ok (.aload_n 1, 1) := by decide +kernel
theorem dX4_become_12 : decode cX4_become 12 = .ok (.getfield 15, 3) := by decide +kernel
theorem dX4_become_15 : decode cX4_become 15 = .ok (.aload_n 0, 1) := by decide +kernel
theorem dX4_become_16 : decode cX4_become 16 = .ok (.getfield 15, 3) := by decide +kernel
theorem dX4_become_19 : decode cX4_become 19 = .ok (.invokestatic 30, 3) := by decide +kernel
theorem dX4_become_22 : decode cX4_become 22 = .ok (.aload_n 1, 1) := by decide +kernel
theorem dX4_become_23 : decode cX4_become 23 = .ok (.getfield 18, 3) := by decide +kernel
theorem dX4_become_26 : decode cX4_become 26 = .ok (.aload_n 0, 1) := by decide +kernel
theorem dX4_become_27 : decode cX4_become 27 = .ok (.getfield 18, 3) := by decide +kernel
theorem dX4_become_30 : decode cX4_become 30 = .ok (.invokestatic 30, 3) := by decide +kernel
theorem dX4_become_33 : decode cX4_become 33 = .ok (.aload_n 1, 1) := by decide +kernel
theorem dX4_become_34 : decode cX4_become 34 = .ok (.getfield 21, 3) := by decide +kernel
theorem dX4_become_37 : decode cX4_become 37 = .ok (.aload_n 0, 1) := by decide +kernel
theorem dX4_become_38 : decode cX4_become 38 = .ok (.getfield 21, 3) := by decide +kernel
theorem dX4_become_41 : decode cX4_become 41 = .ok (.invokestatic 30, 3) := by decide +kernel
theorem dX4_become_44 : decode cX4_become 44 = .ok (.aload_n 1, 1) := by decide +kernel
theorem dX4_become_45 : decode cX4_become 45 = .ok (.getfield 24, 3) := by decide +kernel
theorem dX4_become_48 : decode cX4_become 48 = .ok (.aload_n 0, 1) := by decide +kernel
theorem dX4_become_49 : decode cX4_become 49 = .ok (.getfield 24, 3) := by decide +kernel
theorem dX4_become_52 : decode cX4_become 52 = .ok (.invokestatic 30, 3) := by decide +kernel
theorem dX4_become_55 : decode cX4_become 55 = .ok (.aload_n 0, 1) := by decide +kernel
theorem dX4_become_56 : decode cX4_become 56 = .ok (.aload_n 1, 1) := by decide +kernel
theorem dX4_become_57 : decode cX4_become 57 = .ok (.getfield 34, 3) := by decide +kernel
theorem dX4_become_60 : decode cX4_become 60 = .ok (.putfield 34, 3) := by decide +kernel
theorem dX4_become_63 : decode cX4_become 63 = .ok (.aload_n 0, 1) := by decide +kernel
theorem dX4_become_64 : decode cX4_become 64 = .ok (.aload_n 1, 1) := by decide +kernel
theorem dX4_become_65 : decode cX4_become 65 = .ok (.getfield 38, 3) := by decide +kernel
theorem dX4_become_68 : decode cX4_become 68 = .ok (.putfield 38, 3) := by decide +kernel
theorem dX4_become_71 : decode cX4_become 71 = .ok (.return_, 1) := by decide +kernel
theorem dX4_beginLine_0 : decode cX4_beginLine 0 = .ok (.aload_n 0, 1) := by decide +kernel
theorem dX4_beginLine_1 : decode cX4_beginLine 1 = .ok (.getfield 38, 3) := by decide +kernel
theorem dX4_beginLine_4 : decode cX4_beginLine 4 = .ok (.ifCond .lt 35, 3) := by decide +kernel
theorem dX4_beginLine_7 : decode cX4_beginLine 7 = .ok (.aload_n 0, 1) := by decide +kernel
theorem dX4_beginLine_8 : decode cX4_beginLine 8 = .ok (.getfield 38, 3) := by decide +kernel
theorem dX4_beginLine_11 : decode cX4_beginLine 11 = .ok (.bipush 16, 2) := by decide +kernel
theorem dX4_beginLine_13 : decode cX4_beginLine 13 = .ok (.if_icmp .ge 26, 3) := by decide +kernel
theorem dX4_beginLine_16 : decode cX4_beginLine 16 = .ok (.aload_n 0, 1) := by decide +kernel
theorem dX4_beginLine_17 : decode cX4_beginLine 17 = .ok (.getfield 15, 3) := by decide +kernel
theorem dX4_beginLine_20 : decode cX4_beginLine 20 = .ok (.aload_n 0, 1) := by decide +kernel
theorem dX4_beginLine_21 : decode cX4_beginLine 21 = .ok (.getfield 38, 3) := by decide +kernel
theorem dX4_beginLine_24 : decode cX4_beginLine 24 = .ok (.iload_n 1, 1) := by decide +kernel
theorem dX4_beginLine_25 : decode cX4_beginLine 25 = .ok (.iastore, 1) := by decide +kernel
theorem dX4_beginLine_26 : decode cX4_beginLine 26 = .ok (.aload_n 0, 1) := by decide +kernel
theorem dX4_beginLine_27 : decode cX4_beginLine 27 = .ok (.getfield 18, 3) := by decide +kernel
theorem dX4_beginLine_30 : decode cX4_beginLine 30 = .ok (.aload_n 0, 1) := by decide +kernel
theorem dX4_beginLine_31 : decode cX4_beginLine 31 = .ok (.getfield 38, 3) := by decide +kernel
theorem dX4_beginLine_34 : decode cX4_beginLine 34 = .ok (.aload_n 0, 1) := by decide +kernel
theorem dX4_beginLine_35 : decode cX4_beginLine 35 = .ok (.getfield 34, 3) := by decide +kernel
theorem dX4_beginLine_38 : decode cX4_beginLine 38 = .ok (.iastore, 1) := by decide +kernel
theorem dX4_beginLine_39 : decode cX4_beginLine 39 = .ok (.return_, 1) := by decide +kernel
theorem dX4_beginWhen_0 : decode cX4_beginWhen 0 = .ok (.aload_n 0, 1) := by decide +kernel
theorem dX4_beginWhen_1 : decode cX4_beginWhen 1 = .ok (.getfield 38, 3) := by decide +kernel
theorem dX4_beginWhen_4 : decode cX4_beginWhen 4 = .ok (.ifCond .lt 25, 3) := by decide +kernel
theorem dX4_beginWhen_7 : decode cX4_beginWhen 7 = .ok (.aload_n 0, 1) := by decide +kernel
theorem dX4_beginWhen_8 : decode cX4_beginWhen 8 = .ok (.getfield 38, 3) := by decide +kernel
theorem dX4_beginWhen_11 : decode cX4_beginWhen 11 = .ok (.bipush 16, 2) := by decide +kernel
theorem dX4_beginWhen_13 : decode cX4_beginWhen 13 = .ok (.if_icmp .ge 16, 3) := by decide +kernel
theorem dX4_beginWhen_16 : decode cX4_beginWhen 16 = .ok (.aload_n 0, 1) := by decide +kernel
theorem dX4_beginWhen_17 : decode cX4_beginWhen 17 = .ok (.getfield 21, 3) := by decide +kernel
theorem dX4_beginWhen_20 : decode cX4_beginWhen 20 = .ok (.aload_n 0, 1) := by decide +kernel
theorem dX4_beginWhen_21 : decode cX4_beginWhen 21 = .ok (.getfield 38, 3) := by decide +kernel
theorem dX4_beginWhen_24 : decode cX4_beginWhen 24 = .ok (.aload_n 0, 1) := by decide +kernel
theorem dX4_beginWhen_25 : decode cX4_beginWhen 25 = .ok (.getfield 34, 3) := by decide +kernel
theorem dX4_beginWhen_28 : decode cX4_beginWhen 28 = .ok (.iastore, 1) := by decide +kernel
theorem dX4_beginWhen_29 : decode cX4_beginWhen 29 = .ok (.return_, 1) := by decide +kernel
theorem dX4_clear_0 : decode cX4_clear 0 = .ok (.aload_n 0, 1) := by decide +kernel
theorem dX4_clear_1 : decode cX4_clear 1 = .ok (.iconst 0, 1) := by decide +kernel
theorem dX4_clear_2 : decode cX4_clear 2 = .ok (.putfield 34, 3) := by decide +kernel
theorem dX4_clear_5 : decode cX4_clear 5 = .ok (.aload_n 0, 1) := by decide +kernel
theorem dX4_clear_6 : decode cX4_clear 6 = .ok (.iconst 0, 1) := by decide +kernel
theorem dX4_clear_7 : decode cX4_clear 7 = .ok (.putfield 38, 3) := by decide +kernel
theorem dX4_clear_10 : decode cX4_clear 10 = .ok (.return_, 1) := by decide +kernel
theorem dX4_endLine_0 : decode cX4_endLine 0 = .ok (.aload_n 0, 1) := by decide +kernel
theorem dX4_endLine_1 : decode cX4_endLine 1 = .ok (.getfield 38, 3) := by decide +kernel
theorem dX4_endLine_4 : decode cX4_endLine 4 = .ok (.ifCond .lt 35, 3) := by decide +kernel
theorem dX4_endLine_7 : decode cX4_endLine 7 = .ok (.aload_n 0, 1) := by decide +kernel
theorem dX4_endLine_8 : decode cX4_endLine 8 = .ok (.getfield 38, 3) := by decide +kernel
theorem dX4_endLine_11 : decode cX4_endLine 11 = .ok (.bipush 16, 2) := by decide +kernel
theorem dX4_endLine_13 : decode cX4_endLine 13 = .ok (.if_icmp .ge 26, 3) := by decide +kernel
theorem dX4_endLine_16 : decode cX4_endLine 16 = .ok (.aload_n 0, 1) := by decide +kernel
theorem dX4_endLine_17 : decode cX4_endLine 17 = .ok (.getfield 24, 3) := by decide +kernel
theorem dX4_endLine_20 : decode cX4_endLine 20 = .ok (.aload_n 0, 1) := by decide +kernel
theorem dX4_endLine_21 : decode cX4_endLine 21 = .ok (.getfield 38, 3) := by decide +kernel
theorem dX4_endLine_24 : decode cX4_endLine 24 = .ok (.aload_n 0, 1) := by decide +kernel
theorem dX4_endLine_25 : decode cX4_endLine 25 = .ok (.getfield 34, 3) := by decide +kernel
theorem dX4_endLine_28 : decode cX4_endLine 28 = .ok (.iastore, 1) := by decide +kernel
theorem dX4_endLine_29 : decode cX4_endLine 29 = .ok (.aload_n 0, 1) := by decide +kernel
theorem dX4_endLine_30 : decode cX4_endLine 30 = .ok (.dup, 1) := by decide +kernel
theorem dX4_endLine_31 : decode cX4_endLine 31 = .ok (.getfield 38, 3) := by decide +kernel
theorem dX4_endLine_34 : decode cX4_endLine 34 = .ok (.iconst 1, 1) := by decide +kernel
theorem dX4_endLine_35 : decode cX4_endLine 35 = .ok (.iadd, 1) := by decide +kernel
theorem dX4_endLine_36 : decode cX4_endLine 36 = .ok (.putfield 38, 3) := by decide +kernel
theorem dX4_endLine_39 : decode cX4_endLine 39 = .ok (.return_, 1) := by decide +kernel
theorem dX4_init_0 : decode cX4_init 0 = .ok (.aload_n 0, 1) := by decide +kernel
theorem dX4_init_1 : decode cX4_init 1 = .ok (.invokespecial 3, 3) := by decide +kernel
theorem dX4_init_4 : decode cX4_init 4 = .ok (.aload_n 0, 1) := by decide +kernel
theorem dX4_init_5 : decode cX4_init 5 = .ok (.sipush 400, 3) := by decide +kernel
theorem dX4_init_8 : decode cX4_init 8 = .ok (.newarray .int, 2) := by decide +kernel
theorem dX4_init_10 : decode cX4_init 10 = .ok (.putfield 9, 3) := by decide +kernel
theorem dX4_init_13 : decode cX4_init 13 = .ok (.aload_n 0, 1) := by decide +kernel
theorem dX4_init_14 : decode cX4_init 14 = .ok (.bipush 16, 2) := by decide +kernel
theorem dX4_init_16 : decode cX4_init 16 = .ok (.newarray .int, 2) := by decide +kernel
theorem dX4_init_18 : decode cX4_init 18 = .ok (.putfield 15, 3) := by decide +kernel
theorem dX4_init_21 : decode cX4_init 21 = .ok (.aload_n 0, 1) := by decide +kernel
theorem dX4_init_22 : decode cX4_init 22 = .ok (.bipush 16, 2) := by decide +kernel
theorem dX4_init_24 : decode cX4_init 24 = .ok (.newarray .int, 2) := by decide +kernel
theorem dX4_init_26 : decode cX4_init 26 = .ok (.putfield 18, 3) := by decide +kernel
theorem dX4_init_29 : decode cX4_init 29 = .ok (.aload_n 0, 1) := by decide +kernel
theorem dX4_init_30 : decode cX4_init 30 = .ok (.bipush 16, 2) := by decide +kernel
theorem dX4_init_32 : decode cX4_init 32 = .ok (.newarray .int, 2) := by decide +kernel
theorem dX4_init_34 : decode cX4_init 34 = .ok (.putfield 21, 3) := by decide +kernel
theorem dX4_init_37 : decode cX4_init 37 = .ok (.aload_n 0, 1) := by decide +kernel
theorem dX4_init_38 : decode cX4_init 38 = .ok (.bipush 16, 2) := by decide +kernel
theorem dX4_init_40 : decode cX4_init 40 = .ok (.newarray .int, 2) := by decide +kernel
theorem dX4_init_42 : decode cX4_init 42 = .ok (.putfield 24, 3) := by decide +kernel
theorem dX4_init_45 : decode cX4_init 45 = .ok (.aload_n 0, 1) := by decide +kernel
theorem dX4_init_46 : decode cX4_init 46 = .ok (.bipush 32, 2) := by decide +kernel
theorem dX4_init_48 : decode cX4_init 48 = .ok (.newarray .int, 2) := by decide +kernel
theorem dX4_init_50 : decode cX4_init 50 = .ok (.putfield 27, 3) := by decide +kernel
theorem dX4_init_53 : decode cX4_init 53 = .ok (.return_, 1) := by decide +kernel
theorem dX4_put_0 : decode cX4_put 0 = .ok (.aload_n 0, 1) := by decide +kernel
theorem dX4_put_1 : decode cX4_put 1 = .ok (.getfield 34, 3) := by decide +kernel
theorem dX4_put_4 : decode cX4_put 4 = .ok (.ifCond .lt 35, 3) := by decide +kernel
theorem dX4_put_7 : decode cX4_put 7 = .ok (.aload_n 0, 1) := by decide +kernel
theorem dX4_put_8 : decode cX4_put 8 = .ok (.getfield 34, 3) := by decide +kernel
theorem dX4_put_11 : decode cX4_put 11 = .ok (.aload_n 0, 1) := by decide +kernel
theorem dX4_put_12 : decode cX4_put 12 = .ok (.getfield 9, 3) := by decide +kernel
theorem dX4_put_15 : decode cX4_put 15 = .ok (.arraylength, 1) := by decide +kernel
theorem dX4_put_16 : decode cX4_put 16 = .ok (.if_icmp .ge 23, 3) := by decide +kernel
theorem dX4_put_19 : decode cX4_put 19 = .ok (.aload_n 0, 1) := by decide +kernel
theorem dX4_put_20 : decode cX4_put 20 = .ok (.getfield 9, 3) := by decide +kernel
theorem dX4_put_23 : decode cX4_put 23 = .ok (.aload_n 0, 1) := by decide +kernel
theorem dX4_put_24 : decode cX4_put 24 = .ok (.getfield 34, 3) := by decide +kernel
theorem dX4_put_27 : decode cX4_put 27 = .ok (.iload_n 1, 1) := by decide +kernel
theorem dX4_put_28 : decode cX4_put 28 = .ok (.iastore, 1) := by decide +kernel
theorem dX4_put_29 : decode cX4_put 29 = .ok (.aload_n 0, 1) := by decide +kernel
theorem dX4_put_30 : decode cX4_put 30 = .ok (.dup, 1) := by decide +kernel
theorem dX4_put_31 : decode cX4_put 31 = .ok (.getfield 34, 3) := by decide +kernel
theorem dX4_put_34 : decode cX4_put 34 = .ok (.iconst 1, 1) := by decide +kernel
theorem dX4_put_35 : decode cX4_put 35 = .ok (.iadd, 1) := by decide +kernel
theorem dX4_put_36 : decode cX4_put 36 = .ok (.putfield 34, 3) := by decide +kernel
theorem dX4_put_39 : decode cX4_put 39 = .ok (.return_, 1) := by decide +kernel
theorem dX4_run_0 : decode cX4_run 0 = .ok (.iconst 0, 1) := by decide +kernel
theorem dX4_run_1 : decode cX4_run 1 = .ok (.istore 4, 2) := by decide +kernel
theorem dX4_run_3 : decode cX4_run 3 = .ok (.iload_n 1, 1) := by decide +kernel
theorem dX4_run_4 : decode cX4_run 4 = .ok (.istore 5, 2) := by decide +kernel
theorem dX4_run_6 : decode cX4_run 6 = .ok (.iload 5, 2) := by decide +kernel
theorem dX4_run_8 : decode cX4_run 8 = .ok (.ifCond .lt 367, 3) := by decide +kernel
theorem dX4_run_11 : decode cX4_run 11 = .ok (.iload 5, 2) := by decide +kernel
theorem dX4_run_13 : decode cX4_run 13 = .ok (.iload_n 2, 1) := by decide +kernel
theorem dX4_run_14 : decode cX4_run 14 = .ok (.if_icmp .ge 361, 3) := by decide +kernel
theorem dX4_run_17 : decode cX4_run 17 = .ok (.iload 5, 2) := by decide +kernel
theorem dX4_run_19 : decode cX4_run 19 = .ok (.aload_n 0, 1) := by decide +kernel
theorem dX4_run_20 : decode cX4_run 20 = .ok (.getfield 9, 3) := by decide +kernel
theorem dX4_run_23 : decode cX4_run 23 = .ok (.arraylength, 1) := by decide +kernel
theorem dX4_run_24 : decode cX4_run 24 = .ok (.if_icmp .ge 351, 3) := by decide +kernel
theorem dX4_run_27 : decode cX4_run 27 = .ok (.aload_n 0, 1) := by decide +kernel
theorem dX4_run_28 : decode cX4_run 28 = .ok (.getfield 9, 3) := by decide +kernel
theorem dX4_run_31 : decode cX4_run 31 = .ok (.iload 5, 2) := by decide +kernel
theorem dX4_run_33 : decode cX4_run 33 = .ok (.iaload, 1) := by decide +kernel
theorem dX4_run_34 : decode cX4_run 34 = .ok (.istore 6, 2) := by decide +kernel
theorem dX4_run_36 : decode cX4_run 36 = .ok (.iload 6, 2) := by decide +kernel
theorem dX4_run_38 : decode cX4_run 38 = .ok (.bipush (-9), 2) := by decide +kernel
theorem dX4_run_40 : decode cX4_run 40 = .ok (.if_icmp .lt 62, 3) := by decide +kernel
theorem dX4_run_43 : decode cX4_run 43 = .ok (.iload 4, 2) := by decide +kernel
theorem dX4_run_45 : decode cX4_run 45 = .ok (.ifCond .lt 57, 3) := by decide +kernel
theorem dX4_run_48 : decode cX4_run 48 = .ok (.iload 4, 2) := by decide +kernel
theorem dX4_run_50 : decode cX4_run 50 = .ok (.aload_n 0, 1) := by decide +kernel
theorem dX4_run_51 : decode cX4_run 51 = .ok (.getfield 27, 3) := by decide +kernel
theorem dX4_run_54 : decode cX4_run 54 = .ok (.arraylength, 1) := by decide +kernel
theorem dX4_run_55 : decode cX4_run 55 = .ok (.if_icmp .ge 47, 3) := by decide +kernel
theorem dX4_run_58 : decode cX4_run 58 = .ok (.iconst (-1), 1) := by decide +kernel
theorem dX4_run_59 : decode cX4_run 59 = .ok (.iload 6, 2) := by decide +kernel
theorem dX4_run_61 : decode cX4_run 61 = .ok (.isub, 1) := by decide +kernel
theorem dX4_run_62 : decode cX4_run 62 = .ok (.istore 7, 2) := by decide +kernel
theorem dX4_run_64 : decode cX4_run 64 = .ok (.aload_n 0, 1) := by decide +kernel
theorem dX4_run_65 : decode cX4_run 65 = .ok (.getfield 27, 3) := by decide +kernel
theorem dX4_run_68 : decode cX4_run 68 = .ok (.iload 4, 2) := by decide +kernel
theorem dX4_run_70 : decode cX4_run 70 = .ok (.iload 6, 2) := by decide +kernel
theorem dX4_run_72 : decode cX4_run 72 = .ok (.ifCond .lt 8, 3) := by decide +kernel
theorem dX4_run_75 : decode cX4_run 75 = .ok (.iload 6, 2) := by decide +kernel
theorem dX4_run_77 : decode cX4_run 77 = .ok (.goto 18, 3) := by decide +kernel
theorem dX4_run_80 : decode cX4_run 80 = .ok (.iload 7, 2) := by decide +kernel
theorem dX4_run_82 : decode cX4_run 82 = .ok (.aload_n 3, 1) := by decide +kernel
theorem dX4_run_83 : decode cX4_run 83 = .ok (.arraylength, 1) := by decide +kernel
theorem dX4_run_84 : decode cX4_run 84 = .ok (.if_icmp .ge 10, 3) := by decide +kernel
theorem dX4_run_87 : decode cX4_run 87 = .ok (.aload_n 3, 1) := by decide +kernel
theorem dX4_run_88 : decode cX4_run 88 = .ok (.iload 7, 2) := by decide +kernel
theorem dX4_run_90 : decode cX4_run 90 = .ok (.iaload, 1) := by decide +kernel
theorem dX4_run_91 : decode cX4_run 91 = .ok (.goto 4, 3) := by decide +kernel
theorem dX4_run_94 : decode cX4_run 94 = .ok (.iconst 0, 1) := by decide +kernel
theorem dX4_run_95 : decode cX4_run 95 = .ok (.iastore, 1) := by decide +kernel
theorem dX4_run_96 : decode cX4_run 96 = .ok (.iinc 4 1, 3) := by decide +kernel
theorem dX4_run_99 : decode cX4_run 99 = .ok (.goto 270, 3) := by decide +kernel
theorem dX4_run_102 : decode cX4_run 102 = .ok (.iload 4, 2) := by decide +kernel
theorem dX4_run_104 : decode cX4_run 104 = .ok (.iload 6, 2) := by decide +kernel
theorem dX4_run_106 : decode cX4_run 106 = .ok (.bipush (-19), 2) := by decide +kernel
theorem dX4_run_108 : decode cX4_run 108 = .ok (.if_icmp .ne 7, 3) := by decide +kernel
theorem dX4_run_111 : decode cX4_run 111 = .ok (.iconst 1, 1) := by decide +kernel
theorem dX4_run_112 : decode cX4_run 112 = .ok (.goto 4, 3) := by decide +kernel
theorem dX4_run_115 : decode cX4_run 115 = .ok (.iconst 2, 1) := by decide +kernel
theorem dX4_run_116 : decode cX4_run 116 = .ok (.if_icmp .lt 13, 3) := by decide +kernel
theorem dX4_run_119 : decode cX4_run 119 = .ok (.iload 4, 2) := by decide +kernel
theorem dX4_run_121 : decode cX4_run 121 = .ok (.aload_n 0, 1) := by decide +kernel
theorem dX4_run_122 : decode cX4_run 122 = .ok (.getfield 27, 3) := by decide +kernel
theorem dX4_run_125 : decode cX4_run 125 = .ok (.arraylength, 1) := by decide +kernel
theorem dX4_run_126 : decode cX4_run 126 = .ok (.if_icmp .le 5, 3) := by decide +kernel
theorem dX4_run_129 : decode cX4_run 129 = .ok (.iconst 0, 1) := by decide +kernel
theorem dX4_run_130 : decode cX4_run 130 = .ok (.ireturn, 1) := by decide +kernel
theorem dX4_run_131 : decode cX4_run 131 = .ok (.iload 6, 2) := by decide +kernel
theorem dX4_run_133 : decode cX4_run 133 = .ok (.bipush (-19), 2) := by decide +kernel
theorem dX4_run_135 : decode cX4_run 135 = .ok (.if_icmp .ne 8, 3) := by decide +kernel
theorem dX4_run_138 : decode cX4_run 138 = .ok (.iload 4, 2) := by decide +kernel
theorem dX4_run_140 : decode cX4_run 140 = .ok (.goto 7, 3) := by decide +kernel
theorem dX4_run_143 : decode cX4_run 143 = .ok (.iload 4, 2) := by decide +kernel
theorem dX4_run_145 : decode cX4_run 145 = .ok (.iconst 1, 1) := by decide +kernel
theorem dX4_run_146 : decode cX4_run 146 = .ok (.isub, 1) := by decide +kernel
theorem dX4_run_147 : decode cX4_run 147 = .ok (.istore 4, 2) := by decide +kernel
theorem dX4_run_149 : decode cX4_run 149 = .ok (.aload_n 0, 1) := by decide +kernel
theorem dX4_run_150 : decode cX4_run 150 = .ok (.getfield 27, 3) := by decide +kernel
theorem dX4_run_153 : decode cX4_run 153 = .ok (.iload 4, 2) := by decide +kernel
theorem dX4_run_155 : decode cX4_run 155 = .ok (.iconst 1, 1) := by decide +kernel
theorem dX4_run_156 : decode cX4_run 156 = .ok (.isub, 1) := by decide +kernel
theorem dX4_run_157 : decode cX4_run 157 = .ok (.iaload, 1) := by decide +kernel
theorem dX4_run_158 : decode cX4_run 158 = .ok (.istore 7, 2) := by decide +kernel
theorem dX4_run_160 : decode cX4_run 160 = .ok (.iload 6, 2) := by decide +kernel
theorem dX4_run_162 : decode cX4_run 162 = .ok (.bipush (-19), 2) := by decide +kernel
theorem dX4_run_164 : decode cX4_run 164 = .ok (.if_icmp .ne 7, 3) := by decide +kernel
theorem dX4_run_167 : decode cX4_run 167 = .ok (.iconst 0, 1) := by decide +kernel
theorem dX4_run_168 : decode cX4_run 168 = .ok (.goto 10, 3) := by decide +kernel
theorem dX4_run_171 : decode cX4_run 171 = .ok (.aload_n 0, 1) := by decide +kernel
theorem dX4_run_172 : decode cX4_run 172 = .ok (.getfield 27, 3) := by decide +kernel
theorem dX4_run_175 : decode cX4_run 175 = .ok (.iload 4, 2) := by decide +kernel
theorem dX4_run_177 : decode cX4_run 177 = .ok (.iaload, 1) := by decide +kernel
theorem dX4_run_178 : decode cX4_run 178 = .ok (.istore 8, 2) := by decide +kernel
theorem dX4_run_180 : decode cX4_run 180 = .ok (.iload 6, 2) := by decide +kernel
theorem dX4_run_182 : decode cX4_run 182 = .ok (.tableswitch 170 (-18) (-10) #[160, 150, 133, 116, 99, 80, 70, 60, 50], 50) := by decide +kernel
theorem dX4_run_232 : decode cX4_run 232 = .ok (.iload 7, 2) := by decide +kernel
theorem dX4_run_234 : decode cX4_run 234 = .ok (.iload 8, 2) := by decide +kernel
theorem dX4_run_236 : decode cX4_run 236 = .ok (.iadd, 1) := by decide +kernel
theorem dX4_run_237 : decode cX4_run 237 = .ok (.istore 7, 2) := by decide +kernel
theorem dX4_run_239 : decode cX4_run 239 = .ok (.goto 119, 3) := by decide +kernel
theorem dX4_run_242 : decode cX4_run 242 = .ok (.iload 7, 2) := by decide +kernel
theorem dX4_run_244 : decode cX4_run 244 = .ok (.iload 8, 2) := by decide +kernel
theorem dX4_run_246 : decode cX4_run 246 = .ok (.isub, 1) := by decide +kernel
theorem dX4_run_247 : decode cX4_run 247 = .ok (.istore 7, 2) := by decide +kernel
theorem dX4_run_249 : decode cX4_run 249 = .ok (.goto 109, 3) := by decide +kernel
theorem dX4_run_252 : decode cX4_run 252 = .ok (.iload 7, 2) := by decide +kernel
theorem dX4_run_254 : decode cX4_run 254 = .ok (.iload 8, 2) := by decide +kernel
theorem dX4_run_256 : decode cX4_run 256 = .ok (.imul, 1) := by decide +kernel
theorem dX4_run_257 : decode cX4_run 257 = .ok (.istore 7, 2) := by decide +kernel
theorem dX4_run_259 : decode cX4_run 259 = .ok (.goto 99, 3) := by decide +kernel
theorem dX4_run_262 : decode cX4_run 262 = .ok (.iload 8, 2) := by decide +kernel
theorem dX4_run_264 : decode cX4_run 264 = .ok (.ifCond .le 11, 3) := by decide +kernel
theorem dX4_run_267 : decode cX4_run 267 = .ok (.iload 7, 2) := by decide +kernel
theorem dX4_run_269 : decode cX4_run 269 = .ok (.iload 8, 2) := by decide +kernel
theorem dX4_run_271 : decode cX4_run 271 = .ok (.idiv, 1) := by decide +kernel
theorem dX4_run_272 : decode cX4_run 272 = .ok (.goto 4, 3) := by decide +kernel
theorem dX4_run_275 : decode cX4_run 275 = .ok (.iconst 0, 1) := by decide +kernel
theorem dX4_run_276 : decode cX4_run 276 = .ok (.istore 7, 2) := by decide +kernel
theorem dX4_run_278 : decode cX4_run 278 = .ok (.goto 80, 3) := by decide +kernel
theorem dX4_run_281 : decode cX4_run 281 = .ok (.iload 7, 2) := by decide +kernel
theorem dX4_run_283 : decode cX4_run 283 = .ok (.iload 8, 2) := by decide +kernel
theorem dX4_run_285 : decode cX4_run 285 = .ok (.if_icmp .ge 7, 3) := by decide +kernel
theorem dX4_run_288 : decode cX4_run 288 = .ok (.iconst 1, 1) := by decide +kernel
theorem dX4_run_289 : decode cX4_run 289 = .ok (.goto 4, 3) := by decide +kernel
theorem dX4_run_292 : decode cX4_run 292 = .ok (.iconst 0, 1) := by decide +kernel
theorem dX4_run_293 : decode cX4_run 293 = .ok (.istore 7, 2) := by decide +kernel
theorem dX4_run_295 : decode cX4_run 295 = .ok (.goto 63, 3) := by decide +kernel
theorem dX4_run_298 : decode cX4_run 298 = .ok (.iload 7, 2) := by decide +kernel
theorem dX4_run_300 : decode cX4_run 300 = .ok (.iload 8, 2) := by decide +kernel
theorem dX4_run_302 : decode cX4_run 302 = .ok (.if_icmp .ne 7, 3) := by decide +kernel
theorem dX4_run_305 : decode cX4_run 305 = .ok (.iconst 1, 1) := by decide +kernel
theorem dX4_run_306 : decode cX4_run 306 = .ok (.goto 4, 3) := by decide +kernel
theorem dX4_run_309 : decode cX4_run 309 = .ok (.iconst 0, 1) := by decide +kernel
theorem dX4_run_310 : decode cX4_run 310 = .ok (.istore 7, 2) := by decide +kernel
theorem dX4_run_312 : decode cX4_run 312 = .ok (.goto 46, 3) := by decide +kernel
theorem dX4_run_315 : decode cX4_run 315 = .ok (.iload 7, 2) := by decide +kernel
theorem dX4_run_317 : decode cX4_run 317 = .ok (.iload 8, 2) := by decide +kernel
theorem dX4_run_319 : decode cX4_run 319 = .ok (.if_icmp .le 7, 3) := by decide +kernel
theorem dX4_run_322 : decode cX4_run 322 = .ok (.iconst 1, 1) := by decide +kernel
theorem dX4_run_323 : decode cX4_run 323 = .ok (.goto 4, 3) := by decide +kernel
theorem dX4_run_326 : decode cX4_run 326 = .ok (.iconst 0, 1) := by decide +kernel
theorem dX4_run_327 : decode cX4_run 327 = .ok (.istore 7, 2) := by decide +kernel
theorem dX4_run_329 : decode cX4_run 329 = .ok (.goto 29, 3) := by decide +kernel
theorem dX4_run_332 : decode cX4_run 332 = .ok (.iload 7, 2) := by decide +kernel
theorem dX4_run_334 : decode cX4_run 334 = .ok (.iload 8, 2) := by decide +kernel
theorem dX4_run_336 : decode cX4_run 336 = .ok (.iand, 1) := by decide +kernel
theorem dX4_run_337 : decode cX4_run 337 = .ok (.istore 7, 2) := by decide +kernel
theorem dX4_run_339 : decode cX4_run 339 = .ok (.goto 19, 3) := by decide +kernel
theorem dX4_run_342 : decode cX4_run 342 = .ok (.iload 7, 2) := by decide +kernel
theorem dX4_run_344 : decode cX4_run 344 = .ok (.iload 8, 2) := by decide +kernel
theorem dX4_run_346 : decode cX4_run 346 = .ok (.ior, 1) := by decide +kernel
theorem dX4_run_347 : decode cX4_run 347 = .ok (.istore 7, 2) := by decide +kernel
theorem dX4_run_349 : decode cX4_run 349 = .ok (.goto 9, 3) := by decide +kernel
theorem dX4_run_352 : decode cX4_run 352 = .ok (.iconst 1, 1) := by decide +kernel
theorem dX4_run_353 : decode cX4_run 353 = .ok (.iload 7, 2) := by decide +kernel
theorem dX4_run_355 : decode cX4_run 355 = .ok (.isub, 1) := by decide +kernel
theorem dX4_run_356 : decode cX4_run 356 = .ok (.istore 7, 2) := by decide +kernel
theorem dX4_run_358 : decode cX4_run 358 = .ok (.aload_n 0, 1) := by decide +kernel
theorem dX4_run_359 : decode cX4_run 359 = .ok (.getfield 27, 3) := by decide +kernel
theorem dX4_run_362 : decode cX4_run 362 = .ok (.iload 4, 2) := by decide +kernel
theorem dX4_run_364 : decode cX4_run 364 = .ok (.iconst 1, 1) := by decide +kernel
theorem dX4_run_365 : decode cX4_run 365 = .ok (.isub, 1) := by decide +kernel
theorem dX4_run_366 : decode cX4_run 366 = .ok (.iload 7, 2) := by decide +kernel
theorem dX4_run_368 : decode cX4_run 368 = .ok (.iastore, 1) := by decide +kernel
theorem dX4_run_369 : decode cX4_run 369 = .ok (.iinc 5 1, 3) := by decide +kernel
theorem dX4_run_372 : decode cX4_run 372 = .ok (.goto (-366), 3) := by decide +kernel
theorem dX4_run_375 : decode cX4_run 375 = .ok (.iload 4, 2) := by decide +kernel
theorem dX4_run_377 : decode cX4_run 377 = .ok (.ifCond .le 25, 3) := by decide +kernel
theorem dX4_run_380 : decode cX4_run 380 = .ok (.iload 4, 2) := by decide +kernel
theorem dX4_run_382 : decode cX4_run 382 = .ok (.aload_n 0, 1) := by decide +kernel
theorem dX4_run_383 : decode cX4_run 383 = .ok (.getfield 27, 3) := by decide +kernel
theorem dX4_run_386 : decode cX4_run 386 = .ok (.arraylength, 1) := by decide +kernel
theorem dX4_run_387 : decode cX4_run 387 = .ok (.if_icmp .gt 15, 3) := by decide +kernel
theorem dX4_run_390 : decode cX4_run 390 = .ok (.aload_n 0, 1) := by decide +kernel
theorem dX4_run_391 : decode cX4_run 391 = .ok (.getfield 27, 3) := by decide +kernel
theorem dX4_run_394 : decode cX4_run 394 = .ok (.iload 4, 2) := by decide +kernel
theorem dX4_run_396 : decode cX4_run 396 = .ok (.iconst 1, 1) := by decide +kernel
theorem dX4_run_397 : decode cX4_run 397 = .ok (.isub, 1) := by decide +kernel
theorem dX4_run_398 : decode cX4_run 398 = .ok (.iaload, 1) := by decide +kernel
theorem dX4_run_399 : decode cX4_run 399 = .ok (.goto 4, 3) := by decide +kernel
theorem dX4_run_402 : decode cX4_run 402 = .ok (.iconst 0, 1) := by decide +kernel
theorem dX4_run_403 : decode cX4_run 403 = .ok (.ireturn, 1) := by decide +kernel
theorem dX4_tell_0 : decode cX4_tell 0 = .ok (.iconst 0, 1) := by decide +kernel
theorem dX4_tell_1 : decode cX4_tell 1 = .ok (.istore 4, 2) := by decide +kernel
theorem dX4_tell_3 : decode cX4_tell 3 = .ok (.iload 4, 2) := by decide +kernel
theorem dX4_tell_5 : decode cX4_tell 5 = .ok (.aload_n 0, 1) := by decide +kernel
theorem dX4_tell_6 : decode cX4_tell 6 = .ok (.getfield 38, 3) := by decide +kernel
theorem dX4_tell_9 : decode cX4_tell 9 = .ok (.if_icmp .ge 87, 3) := by decide +kernel
theorem dX4_tell_12 : decode cX4_tell 12 = .ok (.iload 4, 2) := by decide +kernel
theorem dX4_tell_14 : decode cX4_tell 14 = .ok (.bipush 16, 2) := by decide +kernel
theorem dX4_tell_16 : decode cX4_tell 16 = .ok (.if_icmp .ge 80, 3) := by decide +kernel
theorem dX4_tell_19 : decode cX4_tell 19 = .ok (.aload_n 0, 1) := by decide +kernel
theorem dX4_tell_20 : decode cX4_tell 20 = .ok (.getfield 15, 3) := by decide +kernel
theorem dX4_tell_23 : decode cX4_tell 23 = .ok (.iload 4, 2) := by decide +kernel
theorem dX4_tell_25 : decode cX4_tell 25 = .ok (.iaload, 1) := by decide +kernel
theorem dX4_tell_26 : decode cX4_tell 26 = .ok (.iload_n 1, 1) := by decide +kernel
theorem dX4_tell_27 : decode cX4_tell 27 = .ok (.if_icmp .ne 63, 3) := by decide +kernel
theorem dX4_tell_30 : decode cX4_tell 30 = .ok (.aload_n 0, 1) := by decide +kernel
theorem dX4_tell_31 : decode cX4_tell 31 = .ok (.getfield 21, 3) := by decide +kernel
theorem dX4_tell_34 : decode cX4_tell 34 = .ok (.iload 4, 2) := by decide +kernel
theorem dX4_tell_36 : decode cX4_tell 36 = .ok (.iaload, 1) := by decide +kernel
theorem dX4_tell_37 : decode cX4_tell 37 = .ok (.aload_n 0, 1) := by decide +kernel
theorem dX4_tell_38 : decode cX4_tell 38 = .ok (.getfield 24, 3) := by decide +kernel
theorem dX4_tell_41 : decode cX4_tell 41 = .ok (.iload 4, 2) := by decide +kernel
theorem dX4_tell_43 : decode cX4_tell 43 = .ok (.iaload, 1) := by decide +kernel
theorem dX4_tell_44 : decode cX4_tell 44 = .ok (.if_icmp .eq 26, 3) := by decide +kernel
theorem dX4_tell_47 : decode cX4_tell 47 = .ok (.aload_n 0, 1) := by decide +kernel
theorem dX4_tell_48 : decode cX4_tell 48 = .ok (.aload_n 0, 1) := by decide +kernel
theorem dX4_tell_49 : decode cX4_tell 49 = .ok (.getfield 21, 3) := by decide +kernel
theorem dX4_tell_52 : decode cX4_tell 52 = .ok (.iload 4, 2) := by decide +kernel
theorem dX4_tell_54 : decode cX4_tell 54 = .ok (.iaload, 1) := by decide +kernel
theorem dX4_tell_55 : decode cX4_tell 55 = .ok (.aload_n 0, 1) := by decide +kernel
theorem dX4_tell_56 : decode cX4_tell 56 = .ok (.getfield 24, 3) := by decide +kernel
theorem dX4_tell_59 : decode cX4_tell 59 = .ok (.iload 4, 2) := by decide +kernel
theorem dX4_tell_61 : decode cX4_tell 61 = .ok (.iaload, 1) := by decide +kernel
theorem dX4_tell_62 : decode cX4_tell 62 = .ok (.aload_n 2, 1) := by decide +kernel
theorem dX4_tell_63 : decode cX4_tell 63 = .ok (.invokevirtual 41, 3) := by decide +kernel
theorem dX4_tell_66 : decode cX4_tell 66 = .ok (.iconst 1, 1) := by decide +kernel
theorem dX4_tell_67 : decode cX4_tell 67 = .ok (.if_icmp .ne 23, 3) := by decide +kernel
theorem dX4_tell_70 : decode cX4_tell 70 = .ok (.aload_n 0, 1) := by decide +kernel
theorem dX4_tell_71 : decode cX4_tell 71 = .ok (.aload_n 0, 1) := by decide +kernel
theorem dX4_tell_72 : decode cX4_tell 72 = .ok (.getfield 18, 3) := by decide +kernel
theorem dX4_tell_75 : decode cX4_tell 75 = .ok (.iload 4, 2) := by decide +kernel
theorem dX4_tell_77 : decode cX4_tell 77 = .ok (.iaload, 1) := by decide +kernel
theorem dX4_tell_78 : decode cX4_tell 78 = .ok (.aload_n 0, 1) := by decide +kernel
theorem dX4_tell_79 : decode cX4_tell 79 = .ok (.getfield 21, 3) := by decide +kernel
theorem dX4_tell_82 : decode cX4_tell 82 = .ok (.iload 4, 2) := by decide +kernel
theorem dX4_tell_84 : decode cX4_tell 84 = .ok (.iaload, 1) := by decide +kernel
theorem dX4_tell_85 : decode cX4_tell 85 = .ok (.aload_n 2, 1) := by decide +kernel
theorem dX4_tell_86 : decode cX4_tell 86 = .ok (.invokevirtual 41, 3) := by decide +kernel
theorem dX4_tell_89 : decode cX4_tell 89 = .ok (.ireturn, 1) := by decide +kernel
theorem dX4_tell_90 : decode cX4_tell 90 = .ok (.iinc 4 1, 3) := by decide +kernel
theorem dX4_tell_93 : decode cX4_tell 93 = .ok (.goto (-90), 3) := by decide +kernel
theorem dX4_tell_96 : decode cX4_tell 96 = .ok (.iload_n 3, 1) := by decide +kernel
theorem dX4_tell_97 : decode cX4_tell 97 = .ok (.ireturn, 1) := by decide +kernel
theorem dX5_add_0 : decode cX5_add 0 = .ok (.aload_n 0, 1) := by decide +kernel
theorem dX5_add_1 : decode cX5_add 1 = .ok (.getfield 25, 3) := by decide +kernel
theorem dX5_add_4 : decode cX5_add 4 = .ok (.ifCond .lt 60, 3) := by decide +kernel
theorem dX5_add_7 : decode cX5_add 7 = .ok (.aload_n 0, 1) := by decide +kernel
theorem dX5_add_8 : decode cX5_add 8 = .ok (.getfield 25, 3) := by decide +kernel
theorem dX5_add_11 : decode cX5_add 11 = .ok (.bipush 16, 2) := by decide +kernel
theorem dX5_add_13 : decode cX5_add 13 = .ok (.if_icmp .ge 51, 3) := by decide +kernel
theorem dX5_add_16 : decode cX5_add 16 = .ok (.aload_n 0, 1) := by decide +kernel
theorem dX5_add_17 : decode cX5_add 17 = .ok (.getfield 9, 3) := by decide +kernel
theorem dX5_add_20 : decode cX5_add 20 = .ok (.aload_n 0, 1) := by decide +kernel
theorem dX5_add_21 : decode cX5_add 21 = .ok (.getfield 25, 3) := by decide +kernel
theorem dX5_add_24 : decode cX5_add 24 = .ok (.iload_n 1, 1) := by decide +kernel
theorem dX5_add_25 : decode cX5_add 25 = .ok (.iastore, 1) := by decide +kernel
theorem dX5_add_26 : decode cX5_add 26 = .ok (.aload_n 0, 1) := by decide +kernel
theorem dX5_add_27 : decode cX5_add 27 = .ok (.getfield 18, 3) := by decide +kernel
theorem dX5_add_30 : decode cX5_add 30 = .ok (.aload_n 0, 1) := by decide +kernel
theorem dX5_add_31 : decode cX5_add 31 = .ok (.getfield 25, 3) := by decide +kernel
theorem dX5_add_34 : decode cX5_add 34 = .ok (.iload_n 2, 1) := by decide +kernel
theorem dX5_add_35 : decode cX5_add 35 = .ok (.ifCond .eq 7, 3) := by decide +kernel
theorem dX5_add_38 : decode cX5_add 38 = .ok (.iconst 1, 1) := by decide +kernel
theorem dX5_add_39 : decode cX5_add 39 = .ok (.goto 4, 3) := by decide +kernel
theorem dX5_add_42 : decode cX5_add 42 = .ok (.iconst 0, 1) := by decide +kernel
theorem dX5_add_43 : decode cX5_add 43 = .ok (.iastore, 1) := by decide +kernel
theorem dX5_add_44 : decode cX5_add 44 = .ok (.aload_n 0, 1) := by decide +kernel
theorem dX5_add_45 : decode cX5_add 45 = .ok (.getfield 15, 3) := by decide +kernel
theorem dX5_add_48 : decode cX5_add 48 = .ok (.aload_n 0, 1) := by decide +kernel
theorem dX5_add_49 : decode cX5_add 49 = .ok (.getfield 25, 3) := by decide +kernel
theorem dX5_add_52 : decode cX5_add 52 = .ok (.iload_n 3, 1) := by decide +kernel
theorem dX5_add_53 : decode cX5_add 53 = .ok (.iastore, 1) := by decide +kernel
theorem dX5_add_54 : decode cX5_add 54 = .ok (.aload_n 0, 1) := by decide +kernel
theorem dX5_add_55 : decode cX5_add 55 = .ok (.dup, 1) := by decide +kernel
theorem dX5_add_56 : decode cX5_add 56 = .ok (.getfield 25, 3) := by decide +kernel
theorem dX5_add_59 : decode cX5_add 59 = .ok (.iconst 1, 1) := by decide +kernel
theorem dX5_add_60 : decode cX5_add 60 = .ok (.iadd, 1) := by decide +kernel
theorem dX5_add_61 : decode cX5_add 61 = .ok (.putfield 25, 3) := by decide +kernel
theorem dX5_add_64 : decode cX5_add 64 = .ok (.return_, 1) := by decide +kernel
theorem dX5_become_0 : decode cX5_become 0 = .ok (.aload_n 1, 1) := by decide +kernel
theorem dX5_become_1 : decode cX5_become 1 = .ok (.getfield 9, 3) := by decide +kernel
theorem dX5_become_4 : decode cX5_become 4 = .ok (.aload_n 0, 1) := by decide +kernel
theorem dX5_become_5 : decode cX5_become 5 = .ok (.getfield 9, 3) := by decide +kernel
theorem dX5_become_8 : decode cX5_become 8 = .ok (.invokestatic 21, 3) := by decide +kernel
theorem dX5_become_11 : decode cX5_become 11 = .ok (.aload_n 1, 1) := by decide +kernel
theorem dX5_become_12 : decode cX5_become 12 = .ok (.getfield 15, 3) := by decide +kernel
theorem dX5_become_15 : decode cX5_become 15 = .ok (.aload_n 0, 1) := by decide +kernel
theorem dX5_become_16 : decode cX5_become 16 = .ok (.getfield 15, 3) := by decide +kernel
theorem dX5_become_19 : decode cX5_become 19 = .ok (.invokestatic 21, 3) := by decide +kernel
theorem dX5_become_22 : decode cX5_become 22 = .ok (.aload_n 1, 1) := by decide +kernel
theorem dX5_become_23 : decode cX5_become 23 = .ok (.getfield 18, 3) := by decide +kernel
theorem dX5_become_26 : decode cX5_become 26 = .ok (.aload_n 0, 1) := by decide +kernel
theorem dX5_become_27 : decode cX5_become 27 = .ok (.getfield 18, 3) := by decide +kernel
theorem dX5_become_30 : decode cX5_become 30 = .ok (.invokestatic 21, 3) := by decide +kernel
theorem dX5_become_33 : decode cX5_become 33 = .ok (.aload_n 0, 1) := by decide +kernel
theorem dX5_become_34 : decode cX5_become 34 = .ok (.aload_n 1, 1) := by decide +kernel
theorem dX5_become_35 : decode cX5_become 35 = .ok (.getfield 25, 3) := by decide +kernel
theorem dX5_become_38 : decode cX5_become 38 = .ok (.putfield 25, 3) := by decide +kernel
theorem dX5_become_41 : decode cX5_become 41 = .ok (.return_, 1) := by decide +kernel
theorem dX5_init_0 : decode cX5_init 0 = .ok (.aload_n 0, 1) := by decide +kernel
theorem dX5_init_1 : decode cX5_init 1 = .ok (.invokespecial 3, 3) := by decide +kernel
theorem dX5_init_4 : decode cX5_init 4 = .ok (.aload_n 0, 1) := by decide +kernel
theorem dX5_init_5 : decode cX5_init 5 = .ok (.bipush 16, 2) := by decide +kernel
theorem dX5_init_7 : decode cX5_init 7 = .ok (.newarray .int, 2) := by decide +kernel
theorem dX5_init_9 : decode cX5_init 9 = .ok (.putfield 9, 3) := by decide +kernel
theorem dX5_init_12 : decode cX5_init 12 = .ok (.aload_n 0, 1) := by decide +kernel
theorem dX5_init_13 : decode cX5_init 13 = .ok (.bipush 16, 2) := by decide +kernel
theorem dX5_init_15 : decode cX5_init 15 = .ok (.newarray .int, 2) := by decide +kernel
theorem dX5_init_17 : decode cX5_init 17 = .ok (.putfield 15, 3) := by decide +kernel
theorem dX5_init_20 : decode cX5_init 20 = .ok (.aload_n 0, 1) := by decide +kernel
theorem dX5_init_21 : decode cX5_init 21 = .ok (.bipush 16, 2) := by decide +kernel
theorem dX5_init_23 : decode cX5_init 23 = .ok (.newarray .int, 2) := by decide +kernel
theorem dX5_init_25 : decode cX5_init 25 = .ok (.putfield 18, 3) := by decide +kernel
theorem dX5_init_28 : decode cX5_init 28 = .ok (.return_, 1) := by decide +kernel
theorem dX5_rests_0 : decode cX5_rests 0 = .ok (.iconst 0, 1) := by decide +kernel
theorem dX5_rests_1 : decode cX5_rests 1 = .ok (.istore_n 3, 1) := by decide +kernel
theorem dX5_rests_2 : decode cX5_rests 2 = .ok (.iconst 0, 1) := by decide +kernel
theorem dX5_rests_3 : decode cX5_rests 3 = .ok (.istore 4, 2) := by decide +kernel
theorem dX5_rests_5 : decode cX5_rests 5 = .ok (.iload 4, 2) := by decide +kernel
theorem dX5_rests_7 : decode cX5_rests 7 = .ok (.aload_n 0, 1) := by decide +kernel
theorem dX5_rests_8 : decode cX5_rests 8 = .ok (.getfield 25, 3) := by decide +kernel
theorem dX5_rests_11 : decode cX5_rests 11 = .ok (.if_icmp .ge 55, 3) := by decide +kernel
theorem dX5_rests_14 : decode cX5_rests 14 = .ok (.iload 4, 2) := by decide +kernel
theorem dX5_rests_16 : decode cX5_rests 16 = .ok (.bipush 16, 2) := by decide +kernel
theorem dX5_rests_18 : decode cX5_rests 18 = .ok (.if_icmp .ge 48, 3) := by decide +kernel
theorem dX5_rests_21 : decode cX5_rests 21 = .ok (.aload_n 0, 1) := by decide +kernel
theorem dX5_rests_22 : decode cX5_rests 22 = .ok (.getfield 9, 3) := by decide +kernel
theorem dX5_rests_25 : decode cX5_rests 25 = .ok (.iload 4, 2) := by decide +kernel
theorem dX5_rests_27 : decode cX5_rests 27 = .ok (.iaload, 1) := by decide +kernel
theorem dX5_rests_28 : decode cX5_rests 28 = .ok (.iload_n 1, 1) := by decide +kernel
theorem dX5_rests_29 : decode cX5_rests 29 = .ok (.if_icmp .ne 31, 3) := by decide +kernel
theorem dX5_rests_32 : decode cX5_rests 32 = .ok (.aload_n 0, 1) := by decide +kernel
theorem dX5_rests_33 : decode cX5_rests 33 = .ok (.getfield 15, 3) := by decide +kernel
theorem dX5_rests_36 : decode cX5_rests 36 = .ok (.iload 4, 2) := by decide +kernel
theorem dX5_rests_38 : decode cX5_rests 38 = .ok (.iaload, 1) := by decide +kernel
theorem dX5_rests_39 : decode cX5_rests 39 = .ok (.iload_n 2, 1) := by decide +kernel
theorem dX5_rests_40 : decode cX5_rests 40 = .ok (.if_icmp .ne 20, 3) := by decide +kernel
theorem dX5_rests_43 : decode cX5_rests 43 = .ok (.aload_n 0, 1) := by decide +kernel
theorem dX5_rests_44 : decode cX5_rests 44 = .ok (.getfield 18, 3) := by decide +kernel
theorem dX5_rests_47 : decode cX5_rests 47 = .ok (.iload 4, 2) := by decide +kernel
theorem dX5_rests_49 : decode cX5_rests 49 = .ok (.iaload, 1) := by decide +kernel
theorem dX5_rests_50 : decode cX5_rests 50 = .ok (.iconst 1, 1) := by decide +kernel
theorem dX5_rests_51 : decode cX5_rests 51 = .ok (.if_icmp .ne 7, 3) := by decide +kernel
theorem dX5_rests_54 : decode cX5_rests 54 = .ok (.iconst 1, 1) := by decide +kernel
theorem dX5_rests_55 : decode cX5_rests 55 = .ok (.goto 4, 3) := by decide +kernel
theorem dX5_rests_58 : decode cX5_rests 58 = .ok (.iconst 0, 1) := by decide +kernel
theorem dX5_rests_59 : decode cX5_rests 59 = .ok (.istore_n 3, 1) := by decide +kernel
theorem dX5_rests_60 : decode cX5_rests 60 = .ok (.iinc 4 1, 3) := by decide +kernel
theorem dX5_rests_63 : decode cX5_rests 63 = .ok (.goto (-58), 3) := by decide +kernel
theorem dX5_rests_66 : decode cX5_rests 66 = .ok (.iload_n 3, 1) := by decide +kernel
theorem dX5_rests_67 : decode cX5_rests 67 = .ok (.ireturn, 1) := by decide +kernel
theorem dX6_add_0 : decode cX6_add 0 = .ok (.bipush 24, 2) := by decide +kernel
theorem dX6_add_2 : decode cX6_add 2 = .ok (.istore_n 2, 1) := by decide +kernel
theorem dX6_add_3 : decode cX6_add 3 = .ok (.iload_n 2, 1) := by decide +kernel
theorem dX6_add_4 : decode cX6_add 4 = .ok (.ifCond .lt 52, 3) := by decide +kernel
theorem dX6_add_7 : decode cX6_add 7 = .ok (.aload_n 0, 1) := by decide +kernel
theorem dX6_add_8 : decode cX6_add 8 = .ok (.getfield 48, 3) := by decide +kernel
theorem dX6_add_11 : decode cX6_add 11 = .ok (.ifCond .lt 39, 3) := by decide +kernel
theorem dX6_add_14 : decode cX6_add 14 = .ok (.aload_n 0, 1) := by decide +kernel
theorem dX6_add_15 : decode cX6_add 15 = .ok (.getfield 48, 3) := by decide +kernel
theorem dX6_add_18 : decode cX6_add 18 = .ok (.sipush 400, 3) := by decide +kernel
theorem dX6_add_21 : decode cX6_add 21 = .ok (.if_icmp .ge 29, 3) := by decide +kernel
theorem dX6_add_24 : decode cX6_add 24 = .ok (.aload_n 0, 1) := by decide +kernel
theorem dX6_add_25 : decode cX6_add 25 = .ok (.getfield 11, 3) := by decide +kernel
theorem dX6_add_28 : decode cX6_add 28 = .ok (.aload_n 0, 1) := by decide +kernel
theorem dX6_add_29 : decode cX6_add 29 = .ok (.getfield 48, 3) := by decide +kernel
theorem dX6_add_32 : decode cX6_add 32 = .ok (.iload_n 1, 1) := by decide +kernel
theorem dX6_add_33 : decode cX6_add 33 = .ok (.iload_n 2, 1) := by decide +kernel
theorem dX6_add_34 : decode cX6_add 34 = .ok (.iushr, 1) := by decide +kernel
theorem dX6_add_35 : decode cX6_add 35 = .ok (.sipush 255, 3) := by decide +kernel
theorem dX6_add_38 : decode cX6_add 38 = .ok (.iand, 1) := by decide +kernel
theorem dX6_add_39 : decode cX6_add 39 = .ok (.iastore, 1) := by decide +kernel
theorem dX6_add_40 : decode cX6_add 40 = .ok (.aload_n 0, 1) := by decide +kernel
theorem dX6_add_41 : decode cX6_add 41 = .ok (.dup, 1) := by decide +kernel
theorem dX6_add_42 : decode cX6_add 42 = .ok (.getfield 48, 3) := by decide +kernel
theorem dX6_add_45 : decode cX6_add 45 = .ok (.iconst 1, 1) := by decide +kernel
theorem dX6_add_46 : decode cX6_add 46 = .ok (.iadd, 1) := by decide +kernel
theorem dX6_add_47 : decode cX6_add 47 = .ok (.putfield 48, 3) := by decide +kernel
theorem dX6_add_50 : decode cX6_add 50 = .ok (.iinc 2 (-8), 3) := by decide +kernel
theorem dX6_add_53 : decode cX6_add 53 = .ok (.goto (-50), 3) := by decide +kernel
theorem dX6_add_56 : decode cX6_add 56 = .ok (.return_, 1) := by decide +kernel
theorem dX6_beginLine_0 : decode cX6_beginLine 0 = .ok (.aload_n 0, 1) := by decide +kernel
theorem dX6_beginLine_1 : decode cX6_beginLine 1 = .ok (.getfield 67, 3) := by decide +kernel
theorem dX6_beginLine_4 : decode cX6_beginLine 4 = .ok (.iload_n 1, 1) := by decide +kernel
theorem dX6_beginLine_5 : decode cX6_beginLine 5 = .ok (.if_icmp .ne 20, 3) := by decide +kernel
theorem dX6_beginLine_8 : decode cX6_beginLine 8 = .ok (.aload_n 0, 1) := by decide +kernel
theorem dX6_beginLine_9 : decode cX6_beginLine 9 = .ok (.getfield 92, 3) := by decide +kernel
theorem dX6_beginLine_12 : decode cX6_beginLine 12 = .ok (.bipush 16, 2) := by decide +kernel
theorem dX6_beginLine_14 : decode cX6_beginLine 14 = .ok (.if_icmp .ne 11, 3) := by decide +kernel
theorem dX6_beginLine_17 : decode cX6_beginLine 17 = .ok (.aload_n 0, 1) := by decide +kernel
theorem dX6_beginLine_18 : decode cX6_beginLine 18 = .ok (.iconst 3, 1) := by decide +kernel
theorem dX6_beginLine_19 : decode cX6_beginLine 19 = .ok (.invokevirtual 194, 3) := by decide +kernel
theorem dX6_beginLine_22 : decode cX6_beginLine 22 = .ok (.goto 8, 3) := by decide +kernel
theorem dX6_beginLine_25 : decode cX6_beginLine 25 = .ok (.aload_n 0, 1) := by decide +kernel
theorem dX6_beginLine_26 : decode cX6_beginLine 26 = .ok (.iload_n 1, 1) := by decide +kernel
theorem dX6_beginLine_27 : decode cX6_beginLine 27 = .ok (.invokevirtual 197, 3) := by decide +kernel
theorem dX6_beginLine_30 : decode cX6_beginLine 30 = .ok (.return_, 1) := by decide +kernel
theorem dX6_clear_0 : decode cX6_clear 0 = .ok (.aload_n 0, 1) := by decide +kernel
theorem dX6_clear_1 : decode cX6_clear 1 = .ok (.iconst 0, 1) := by decide +kernel
theorem dX6_clear_2 : decode cX6_clear 2 = .ok (.invokevirtual 95, 3) := by decide +kernel
theorem dX6_clear_5 : decode cX6_clear 5 = .ok (.aload_n 0, 1) := by decide +kernel
theorem dX6_clear_6 : decode cX6_clear 6 = .ok (.iconst 0, 1) := by decide +kernel
theorem dX6_clear_7 : decode cX6_clear 7 = .ok (.putfield 92, 3) := by decide +kernel
theorem dX6_clear_10 : decode cX6_clear 10 = .ok (.aload_n 0, 1) := by decide +kernel
theorem dX6_clear_11 : decode cX6_clear 11 = .ok (.getfield 27, 3) := by decide +kernel
theorem dX6_clear_14 : decode cX6_clear 14 = .ok (.invokevirtual 98, 3) := by decide +kernel
theorem dX6_clear_17 : decode cX6_clear 17 = .ok (.aload_n 0, 1) := by decide +kernel
theorem dX6_clear_18 : decode cX6_clear 18 = .ok (.getfield 34, 3) := by decide +kernel
theorem dX6_clear_21 : decode cX6_clear 21 = .ok (.iconst 0, 1) := by decide +kernel
theorem dX6_clear_22 : decode cX6_clear 22 = .ok (.putfield 99, 3) := by decide +kernel
theorem dX6_clear_25 : decode cX6_clear 25 = .ok (.aload_n 0, 1) := by decide +kernel
theorem dX6_clear_26 : decode cX6_clear 26 = .ok (.getfield 38, 3) := by decide +kernel
theorem dX6_clear_29 : decode cX6_clear 29 = .ok (.iconst 0, 1) := by decide +kernel
theorem dX6_clear_30 : decode cX6_clear 30 = .ok (.invokestatic 100, 3) := by decide +kernel
theorem dX6_clear_33 : decode cX6_clear 33 = .ok (.aload_n 0, 1) := by decide +kernel
theorem dX6_clear_34 : decode cX6_clear 34 = .ok (.getfield 41, 3) := by decide +kernel
theorem dX6_clear_37 : decode cX6_clear 37 = .ok (.iconst 1, 1) := by decide +kernel
theorem dX6_clear_38 : decode cX6_clear 38 = .ok (.invokestatic 100, 3) := by decide +kernel
theorem dX6_clear_41 : decode cX6_clear 41 = .ok (.return_, 1) := by decide +kernel
theorem dX6_condition_0 : decode cX6_condition 0 = .ok (.iconst 1, 1) := by decide +kernel
theorem dX6_condition_1 : decode cX6_condition 1 = .ok (.istore_n 2, 1) := by decide +kernel
theorem dX6_condition_2 : decode cX6_condition 2 = .ok (.iconst 0, 1) := by decide +kernel
theorem dX6_condition_3 : decode cX6_condition 3 = .ok (.istore_n 3, 1) := by decide +kernel
theorem dX6_condition_4 : decode cX6_condition 4 = .ok (.iload_n 3, 1) := by decide +kernel
theorem dX6_condition_5 : decode cX6_condition 5 = .ok (.sipush 400, 3) := by decide +kernel
theorem dX6_condition_8 : decode cX6_condition 8 = .ok (.if_icmp .gt 80, 3) := by decide +kernel
theorem dX6_condition_11 : decode cX6_condition 11 = .ok (.iload_n 2, 1) := by decide +kernel
theorem dX6_condition_12 : decode cX6_condition 12 = .ok (.ifCond .eq 76, 3) := by decide +kernel
theorem dX6_condition_15 : decode cX6_condition 15 = .ok (.aload_n 0, 1) := by decide +kernel
theorem dX6_condition_16 : decode cX6_condition 16 = .ok (.iload_n 1, 1) := by decide +kernel
theorem dX6_condition_17 : decode cX6_condition 17 = .ok (.invokevirtual 216, 3) := by decide +kernel
theorem dX6_condition_20 : decode cX6_condition 20 = .ok (.iconst 0, 1) := by decide +kernel
theorem dX6_condition_21 : decode cX6_condition 21 = .ok (.istore 4, 2) := by decide +kernel
theorem dX6_condition_23 : decode cX6_condition 23 = .ok (.iload 4, 2) := by decide +kernel
theorem dX6_condition_25 : decode cX6_condition 25 = .ok (.sipush 400, 3) := by decide +kernel
theorem dX6_condition_28 : decode cX6_condition 28 = .ok (.if_icmp .gt 33, 3) := by decide +kernel
theorem dX6_condition_31 : decode cX6_condition 31 = .ok (.aload_n 0, 1) := by decide +kernel
theorem dX6_condition_32 : decode cX6_condition 32 = .ok (.sipush 262, 3) := by decide +kernel
theorem dX6_condition_35 : decode cX6_condition 35 = .ok (.invokevirtual 191, 3) := by decide +kernel
theorem dX6_condition_38 : decode cX6_condition 38 = .ok (.ifCond .eq 23, 3) := by decide +kernel
theorem dX6_condition_41 : decode cX6_condition 41 = .ok (.aload_n 0, 1) := by decide +kernel
theorem dX6_condition_42 : decode cX6_condition 42 = .ok (.iload_n 1, 1) := by decide +kernel
theorem dX6_condition_43 : decode cX6_condition 43 = .ok (.invokevirtual 216, 3) := by decide +kernel
theorem dX6_condition_46 : decode cX6_condition 46 = .ok (.aload_n 0, 1) := by decide +kernel
theorem dX6_condition_47 : decode cX6_condition 47 = .ok (.getfield 27, 3) := by decide +kernel
theorem dX6_condition_50 : decode cX6_condition 50 = .ok (.bipush (-17), 2) := by decide +kernel
theorem dX6_condition_52 : decode cX6_condition 52 = .ok (.invokevirtual 219, 3) := by decide +kernel
theorem dX6_condition_55 : decode cX6_condition 55 = .ok (.iinc 4 1, 3) := by decide +kernel
theorem dX6_condition_58 : decode cX6_condition 58 = .ok (.goto (-35), 3) := by decide +kernel
theorem dX6_condition_61 : decode cX6_condition 61 = .ok (.iload_n 3, 1) := by decide +kernel
theorem dX6_condition_62 : decode cX6_condition 62 = .ok (.ifCond .le 12, 3) := by decide +kernel
theorem dX6_condition_65 : decode cX6_condition 65 = .ok (.aload_n 0, 1) := by decide +kernel
theorem dX6_condition_66 : decode cX6_condition 66 = .ok (.getfield 27, 3) := by decide +kernel
theorem dX6_condition_69 : decode cX6_condition 69 = .ok (.bipush (-18), 2) := by decide +kernel
theorem dX6_condition_71 : decode cX6_condition 71 = .ok (.invokevirtual 219, 3) := by decide +kernel
theorem dX6_condition_74 : decode cX6_condition 74 = .ok (.aload_n 0, 1) := by decide +kernel
theorem dX6_condition_75 : decode cX6_condition 75 = .ok (.sipush 261, 3) := by decide +kernel
theorem dX6_condition_78 : decode cX6_condition 78 = .ok (.invokevirtual 191, 3) := by decide +kernel
theorem dX6_condition_81 : decode cX6_condition 81 = .ok (.istore_n 2, 1) := by decide +kernel
theorem dX6_condition_82 : decode cX6_condition 82 = .ok (.iinc 3 1, 3) := by decide +kernel
theorem dX6_condition_85 : decode cX6_condition 85 = .ok (.goto (-81), 3) := by decide +kernel
theorem dX6_condition_88 : decode cX6_condition 88 = .ok (.return_, 1) := by decide +kernel
theorem dX6_cut_0 : decode cX6_cut 0 = .ok (.aload_n 0, 1) := by decide +kernel
theorem dX6_cut_1 : decode cX6_cut 1 = .ok (.iconst 0, 1) := by decide +kernel
theorem dX6_cut_2 : decode cX6_cut 2 = .ok (.putfield 135, 3) := by decide +kernel
theorem dX6_cut_5 : decode cX6_cut 5 = .ok (.iconst 0, 1) := by decide +kernel
theorem dX6_cut_6 : decode cX6_cut 6 = .ok (.istore_n 3, 1) := by decide +kernel
theorem dX6_cut_7 : decode cX6_cut 7 = .ok (.iconst 0, 1) := by decide +kernel
theorem dX6_cut_8 : decode cX6_cut 8 = .ok (.istore 4, 2) := by decide +kernel
theorem dX6_cut_10 : decode cX6_cut 10 = .ok (.iload 4, 2) := by decide +kernel
theorem dX6_cut_12 : decode cX6_cut 12 = .ok (.sipush 400, 3) := by decide +kernel
theorem dX6_cut_15 : decode cX6_cut 15 = .ok (.if_icmp .ge 162, 3) := by decide +kernel
theorem dX6_cut_18 : decode cX6_cut 18 = .ok (.iload_n 3, 1) := by decide +kernel
theorem dX6_cut_19 : decode cX6_cut 19 = .ok (.ifCond .lt 158, 3) := by decide +kernel
theorem dX6_cut_22 : decode cX6_cut 22 = .ok (.iload_n 3, 1) := by decide +kernel
theorem dX6_cut_23 : decode cX6_cut 23 = .ok (.iload_n 1, 1) := by decide +kernel
theorem dX6_cut_24 : decode cX6_cut 24 = .ok (.if_icmp .ge 153, 3) := by decide +kernel
theorem dX6_cut_27 : decode cX6_cut 27 = .ok (.iload_n 3, 1) := by decide +kernel
theorem dX6_cut_28 : decode cX6_cut 28 = .ok (.sipush 400, 3) := by decide +kernel
theorem dX6_cut_31 : decode cX6_cut 31 = .ok (.if_icmp .ge 146, 3) := by decide +kernel
theorem dX6_cut_34 : decode cX6_cut 34 = .ok (.aload_n 0, 1) := by decide +kernel
theorem dX6_cut_35 : decode cX6_cut 35 = .ok (.getfield 11, 3) := by decide +kernel
theorem dX6_cut_38 : decode cX6_cut 38 = .ok (.iload_n 3, 1) := by decide +kernel
theorem dX6_cut_39 : decode cX6_cut 39 = .ok (.iaload, 1) := by decide +kernel
theorem dX6_cut_40 : decode cX6_cut 40 = .ok (.istore 5, 2) := by decide +kernel
theorem dX6_cut_42 : decode cX6_cut 42 = .ok (.iload_n 3, 1) := by decide +kernel
theorem dX6_cut_43 : decode cX6_cut 43 = .ok (.iconst 1, 1) := by decide +kernel
theorem dX6_cut_44 : decode cX6_cut 44 = .ok (.iadd, 1) := by decide +kernel
theorem dX6_cut_45 : decode cX6_cut 45 = .ok (.istore 6, 2) := by decide +kernel
theorem dX6_cut_47 : decode cX6_cut 47 = .ok (.iload 5, 2) := by decide +kernel
theorem dX6_cut_49 : decode cX6_cut 49 = .ok (.invokestatic 138, 3) := by decide +kernel
theorem dX6_cut_52 : decode cX6_cut 52 = .ok (.ifCond .eq 35, 3) := by decide +kernel
theorem dX6_cut_55 : decode cX6_cut 55 = .ok (.aload_n 0, 1) := by decide +kernel
theorem dX6_cut_56 : decode cX6_cut 56 = .ok (.iload_n 3, 1) := by decide +kernel
theorem dX6_cut_57 : decode cX6_cut 57 = .ok (.iload_n 1, 1) := by decide +kernel
theorem dX6_cut_58 : decode cX6_cut 58 = .ok (.invokevirtual 142, 3) := by decide +kernel
theorem dX6_cut_61 : decode cX6_cut 61 = .ok (.istore 6, 2) := by decide +kernel
theorem dX6_cut_63 : decode cX6_cut 63 = .ok (.aload_n 0, 1) := by decide +kernel
theorem dX6_cut_64 : decode cX6_cut 64 = .ok (.sipush 256, 3) := by decide +kernel
theorem dX6_cut_67 : decode cX6_cut 67 = .ok (.aload_n 0, 1) := by decide +kernel
theorem dX6_cut_68 : decode cX6_cut 68 = .ok (.iload_n 2, 1) := by decide +kernel
theorem dX6_cut_69 : decode cX6_cut 69 = .ok (.invokestatic 145, 3) := by decide +kernel
theorem dX6_cut_72 : decode cX6_cut 72 = .ok (.iload_n 3, 1) := by decide +kernel
theorem dX6_cut_73 : decode cX6_cut 73 = .ok (.iload 6, 2) := by decide +kernel
theorem dX6_cut_75 : decode cX6_cut 75 = .ok (.invokevirtual 149, 3) := by decide +kernel
theorem dX6_cut_78 : decode cX6_cut 78 = .ok (.iadd, 1) := by decide +kernel
theorem dX6_cut_79 : decode cX6_cut 79 = .ok (.iload_n 3, 1) := by decide +kernel
theorem dX6_cut_80 : decode cX6_cut 80 = .ok (.iconst 0, 1) := by decide +kernel
theorem dX6_cut_81 : decode cX6_cut 81 = .ok (.invokevirtual 153, 3) := by decide +kernel
theorem dX6_cut_84 : decode cX6_cut 84 = .ok (.goto 84, 3) := by decide +kernel
theorem dX6_cut_87 : decode cX6_cut 87 = .ok (.iload 5, 2) := by decide +kernel
theorem dX6_cut_89 : decode cX6_cut 89 = .ok (.invokestatic 157, 3) := by decide +kernel
theorem dX6_cut_92 : decode cX6_cut 92 = .ok (.ifCond .eq 39, 3) := by decide +kernel
theorem dX6_cut_95 : decode cX6_cut 95 = .ok (.aload_n 0, 1) := by decide +kernel
theorem dX6_cut_96 : decode cX6_cut 96 = .ok (.iload_n 3, 1) := by decide +kernel
theorem dX6_cut_97 : decode cX6_cut 97 = .ok (.iload_n 1, 1) := by decide +kernel
theorem dX6_cut_98 : decode cX6_cut 98 = .ok (.invokevirtual 160, 3) := by decide +kernel
theorem dX6_cut_101 : decode cX6_cut 101 = .ok (.istore 6, 2) := by decide +kernel
theorem dX6_cut_103 : decode cX6_cut 103 = .ok (.aload_n 0, 1) := by decide +kernel
theorem dX6_cut_104 : decode cX6_cut 104 = .ok (.iload 6, 2) := by decide +kernel
theorem dX6_cut_106 : decode cX6_cut 106 = .ok (.iload_n 3, 1) := by decide +kernel
theorem dX6_cut_107 : decode cX6_cut 107 = .ok (.isub, 1) := by decide +kernel
theorem dX6_cut_108 : decode cX6_cut 108 = .ok (.iconst 4, 1) := by decide +kernel
theorem dX6_cut_109 : decode cX6_cut 109 = .ok (.if_icmp .gt 7, 3) := by decide +kernel
theorem dX6_cut_112 : decode cX6_cut 112 = .ok (.iconst 1, 1) := by decide +kernel
theorem dX6_cut_113 : decode cX6_cut 113 = .ok (.goto 4, 3) := by decide +kernel
theorem dX6_cut_116 : decode cX6_cut 116 = .ok (.iconst 2, 1) := by decide +kernel
theorem dX6_cut_117 : decode cX6_cut 117 = .ok (.iload_n 3, 1) := by decide +kernel
theorem dX6_cut_118 : decode cX6_cut 118 = .ok (.aload_n 0, 1) := by decide +kernel
theorem dX6_cut_119 : decode cX6_cut 119 = .ok (.iload_n 3, 1) := by decide +kernel
theorem dX6_cut_120 : decode cX6_cut 120 = .ok (.iload 6, 2) := by decide +kernel
theorem dX6_cut_122 : decode cX6_cut 122 = .ok (.invokevirtual 163, 3) := by decide +kernel
theorem dX6_cut_125 : decode cX6_cut 125 = .ok (.invokevirtual 153, 3) := by decide +kernel
theorem dX6_cut_128 : decode cX6_cut 128 = .ok (.goto 40, 3) := by decide +kernel
theorem dX6_cut_131 : decode cX6_cut 131 = .ok (.iload 5, 2) := by decide +kernel
theorem dX6_cut_133 : decode cX6_cut 133 = .ok (.bipush 32, 2) := by decide +kernel
theorem dX6_cut_135 : decode cX6_cut 135 = .ok (.if_icmp .eq 33, 3) := by decide +kernel
theorem dX6_cut_138 : decode cX6_cut 138 = .ok (.iload 5, 2) := by decide +kernel
theorem dX6_cut_140 : decode cX6_cut 140 = .ok (.bipush 10, 2) := by decide +kernel
theorem dX6_cut_142 : decode cX6_cut 142 = .ok (.if_icmp .eq 26, 3) := by decide +kernel
theorem dX6_cut_145 : decode cX6_cut 145 = .ok (.aload_n 0, 1) := by decide +kernel
theorem dX6_cut_146 : decode cX6_cut 146 = .ok (.ldc 166, 2) := by decide +kernel
theorem dX6_cut_148 : decode cX6_cut 148 = .ok (.iload 5, 2) := by decide +kernel
theorem dX6_cut_150 : decode cX6_cut 150 = .ok (.i2c, 1) := by decide +kernel
theorem dX6_cut_151 : decode cX6_cut 151 = .ok (.invokevirtual 168, 3) := by decide +kernel
theorem dX6_cut_154 : decode cX6_cut 154 = .ok (.ifCond .lt 8, 3) := by decide +kernel
theorem dX6_cut_157 : decode cX6_cut 157 = .ok (.iload 5, 2) := by decide +kernel
theorem dX6_cut_159 : decode cX6_cut 159 = .ok (.goto 4, 3) := by decide +kernel
theorem dX6_cut_162 : decode cX6_cut 162 = .ok (.iconst 2, 1) := by decide +kernel
theorem dX6_cut_163 : decode cX6_cut 163 = .ok (.iload_n 3, 1) := by decide +kernel
theorem dX6_cut_164 : decode cX6_cut 164 = .ok (.iconst 0, 1) := by decide +kernel
theorem dX6_cut_165 : decode cX6_cut 165 = .ok (.invokevirtual 153, 3) := by decide +kernel
theorem dX6_cut_168 : decode cX6_cut 168 = .ok (.iload 6, 2) := by decide +kernel
theorem dX6_cut_170 : decode cX6_cut 170 = .ok (.istore_n 3, 1) := by decide +kernel
theorem dX6_cut_171 : decode cX6_cut 171 = .ok (.iinc 4 1, 3) := by decide +kernel
theorem dX6_cut_174 : decode cX6_cut 174 = .ok (.goto (-164), 3) := by decide +kernel
theorem dX6_cut_177 : decode cX6_cut 177 = .ok (.aload_n 0, 1) := by decide +kernel
theorem dX6_cut_178 : decode cX6_cut 178 = .ok (.iconst 0, 1) := by decide +kernel
theorem dX6_cut_179 : decode cX6_cut 179 = .ok (.iload_n 1, 1) := by decide +kernel
theorem dX6_cut_180 : decode cX6_cut 180 = .ok (.iconst 0, 1) := by decide +kernel
theorem dX6_cut_181 : decode cX6_cut 181 = .ok (.invokevirtual 153, 3) := by decide +kernel
theorem dX6_cut_184 : decode cX6_cut 184 = .ok (.return_, 1) := by decide +kernel
theorem dX6_endOfDigits_0 : decode cX6_endOfDigits 0 = .ok (.iconst 0, 1) := by decide +kernel
theorem dX6_endOfDigits_1 : decode cX6_endOfDigits 1 = .ok (.iload_n 1, 1) := by decide +kernel
theorem dX6_endOfDigits_2 : decode cX6_endOfDigits 2 = .ok (.invokestatic 174, 3) := by decide +kernel
theorem dX6_endOfDigits_5 : decode cX6_endOfDigits 5 = .ok (.istore_n 3, 1) := by decide +kernel
theorem dX6_endOfDigits_6 : decode cX6_endOfDigits 6 = .ok (.iload_n 3, 1) := by decide +kernel
theorem dX6_endOfDigits_7 : decode cX6_endOfDigits 7 = .ok (.iload_n 2, 1) := by decide +kernel
theorem dX6_endOfDigits_8 : decode cX6_endOfDigits 8 = .ok (.if_icmp .ge 28, 3) := by decide +kernel
theorem dX6_endOfDigits_11 : decode cX6_endOfDigits 11 = .ok (.iload_n 3, 1) := by decide +kernel
theorem dX6_endOfDigits_12 : decode cX6_endOfDigits 12 = .ok (.sipush 400, 3) := by decide +kernel
theorem dX6_endOfDigits_15 : decode cX6_endOfDigits 15 = .ok (.if_icmp .ge 21, 3) := by decide +kernel
theorem dX6_endOfDigits_18 : decode cX6_endOfDigits 18 = .ok (.aload_n 0, 1) := by decide +kernel
theorem dX6_endOfDigits_19 : decode cX6_endOfDigits 19 = .ok (.getfield 11, 3) := by decide +kernel
theorem dX6_endOfDigits_22 : decode cX6_endOfDigits 22 = .ok (.iload_n 3, 1) := by decide +kernel
theorem dX6_endOfDigits_23 : decode cX6_endOfDigits 23 = .ok (.iaload, 1) := by decide +kernel
theorem dX6_endOfDigits_24 : decode cX6_endOfDigits 24 = .ok (.invokestatic 157, 3) := by decide +kernel
theorem dX6_endOfDigits_27 : decode cX6_endOfDigits 27 = .ok (.ifCond .eq 9, 3) := by decide +kernel
theorem dX6_endOfDigits_30 : decode cX6_endOfDigits 30 = .ok (.iinc 3 1, 3) := by decide +kernel
theorem dX6_endOfDigits_33 : decode cX6_endOfDigits 33 = .ok (.goto (-27), 3) := by decide +kernel
theorem dX6_endOfDigits_36 : decode cX6_endOfDigits 36 = .ok (.iload_n 3, 1) := by decide +kernel
theorem dX6_endOfDigits_37 : decode cX6_endOfDigits 37 = .ok (.ireturn, 1) := by decide +kernel
theorem dX6_endOfWord_0 : decode cX6_endOfWord 0 = .ok (.iconst 0, 1) := by decide +kernel
theorem dX6_endOfWord_1 : decode cX6_endOfWord 1 = .ok (.iload_n 1, 1) := by decide +kernel
theorem dX6_endOfWord_2 : decode cX6_endOfWord 2 = .ok (.invokestatic 174, 3) := by decide +kernel
theorem dX6_endOfWord_5 : decode cX6_endOfWord 5 = .ok (.istore_n 3, 1) := by decide +kernel
theorem dX6_endOfWord_6 : decode cX6_endOfWord 6 = .ok (.iload_n 3, 1) := by decide +kernel
theorem dX6_endOfWord_7 : decode cX6_endOfWord 7 = .ok (.iload_n 2, 1) := by decide +kernel
theorem dX6_endOfWord_8 : decode cX6_endOfWord 8 = .ok (.if_icmp .ge 28, 3) := by decide +kernel
theorem dX6_endOfWord_11 : decode cX6_endOfWord 11 = .ok (.iload_n 3, 1) := by decide +kernel
theorem dX6_endOfWord_12 : decode cX6_endOfWord 12 = .ok (.sipush 400, 3) := by decide +kernel
theorem dX6_endOfWord_15 : decode cX6_endOfWord 15 = .ok (.if_icmp .ge 21, 3) := by decide +kernel
theorem dX6_endOfWord_18 : decode cX6_endOfWord 18 = .ok (.aload_n 0, 1) := by decide +kernel
theorem dX6_endOfWord_19 : decode cX6_endOfWord 19 = .ok (.getfield 11, 3) := by decide +kernel
theorem dX6_endOfWord_22 : decode cX6_endOfWord 22 = .ok (.iload_n 3, 1) := by decide +kernel
theorem dX6_endOfWord_23 : decode cX6_endOfWord 23 = .ok (.iaload, 1) := by decide +kernel
theorem dX6_endOfWord_24 : decode cX6_endOfWord 24 = .ok (.invokestatic 138, 3) := by decide +kernel
theorem dX6_endOfWord_27 : decode cX6_endOfWord 27 = .ok (.ifCond .eq 9, 3) := by decide +kernel
theorem dX6_endOfWord_30 : decode cX6_endOfWord 30 = .ok (.iinc 3 1, 3) := by decide +kernel
theorem dX6_endOfWord_33 : decode cX6_endOfWord 33 = .ok (.goto (-27), 3) := by decide +kernel
theorem dX6_endOfWord_36 : decode cX6_endOfWord 36 = .ok (.iload_n 3, 1) := by decide +kernel
theorem dX6_endOfWord_37 : decode cX6_endOfWord 37 = .ok (.ireturn, 1) := by decide +kernel
theorem dX6_fail_0 : decode cX6_fail 0 = .ok (.aload_n 0, 1) := by decide +kernel
theorem dX6_fail_1 : decode cX6_fail 1 = .ok (.getfield 57, 3) := by decide +kernel
theorem dX6_fail_4 : decode cX6_fail 4 = .ok (.ifCond .ne 49, 3) := by decide +kernel
theorem dX6_fail_7 : decode cX6_fail 7 = .ok (.aload_n 0, 1) := by decide +kernel
theorem dX6_fail_8 : decode cX6_fail 8 = .ok (.iload_n 1, 1) := by decide +kernel
theorem dX6_fail_9 : decode cX6_fail 9 = .ok (.putfield 57, 3) := by decide +kernel
theorem dX6_fail_12 : decode cX6_fail 12 = .ok (.aload_n 0, 1) := by decide +kernel
theorem dX6_fail_13 : decode cX6_fail 13 = .ok (.aload_n 0, 1) := by decide +kernel
theorem dX6_fail_14 : decode cX6_fail 14 = .ok (.getfield 188, 3) := by decide +kernel
theorem dX6_fail_17 : decode cX6_fail 17 = .ok (.ifCond .lt 27, 3) := by decide +kernel
theorem dX6_fail_20 : decode cX6_fail 20 = .ok (.aload_n 0, 1) := by decide +kernel
theorem dX6_fail_21 : decode cX6_fail 21 = .ok (.getfield 188, 3) := by decide +kernel
theorem dX6_fail_24 : decode cX6_fail 24 = .ok (.aload_n 0, 1) := by decide +kernel
theorem dX6_fail_25 : decode cX6_fail 25 = .ok (.getfield 18, 3) := by decide +kernel
theorem dX6_fail_28 : decode cX6_fail 28 = .ok (.arraylength, 1) := by decide +kernel
theorem dX6_fail_29 : decode cX6_fail 29 = .ok (.if_icmp .ge 15, 3) := by decide +kernel
theorem dX6_fail_32 : decode cX6_fail 32 = .ok (.aload_n 0, 1) := by decide +kernel
theorem dX6_fail_33 : decode cX6_fail 33 = .ok (.getfield 18, 3) := by decide +kernel
theorem dX6_fail_36 : decode cX6_fail 36 = .ok (.aload_n 0, 1) := by decide +kernel
theorem dX6_fail_37 : decode cX6_fail 37 = .ok (.getfield 188, 3) := by decide +kernel
theorem dX6_fail_40 : decode cX6_fail 40 = .ok (.iaload, 1) := by decide +kernel
theorem dX6_fail_41 : decode cX6_fail 41 = .ok (.goto 4, 3) := by decide +kernel
theorem dX6_fail_44 : decode cX6_fail 44 = .ok (.iconst (-1), 1) := by decide +kernel
theorem dX6_fail_45 : decode cX6_fail 45 = .ok (.putfield 44, 3) := by decide +kernel
theorem dX6_fail_48 : decode cX6_fail 48 = .ok (.aload_n 0, 1) := by decide +kernel
theorem dX6_fail_49 : decode cX6_fail 49 = .ok (.iconst 0, 1) := by decide +kernel
theorem dX6_fail_50 : decode cX6_fail 50 = .ok (.putfield 67, 3) := by decide +kernel
theorem dX6_fail_53 : decode cX6_fail 53 = .ok (.return_, 1) := by decide +kernel
theorem dX6_go_0 : decode cX6_go 0 = .ok (.aload_n 0, 1) := by decide +kernel
theorem dX6_go_1 : decode cX6_go 1 = .ok (.iload_n 1, 1) := by decide +kernel
theorem dX6_go_2 : decode cX6_go 2 = .ok (.putfield 188, 3) := by decide +kernel
theorem dX6_go_5 : decode cX6_go 5 = .ok (.aload_n 0, 1) := by decide +kernel
theorem dX6_go_6 : decode cX6_go 6 = .ok (.aload_n 0, 1) := by decide +kernel
theorem dX6_go_7 : decode cX6_go 7 = .ok (.getfield 188, 3) := by decide +kernel
theorem dX6_go_10 : decode cX6_go 10 = .ok (.ifCond .lt 38, 3) := by decide +kernel
theorem dX6_go_13 : decode cX6_go 13 = .ok (.aload_n 0, 1) := by decide +kernel
theorem dX6_go_14 : decode cX6_go 14 = .ok (.getfield 188, 3) := by decide +kernel
theorem dX6_go_17 : decode cX6_go 17 = .ok (.aload_n 0, 1) := by decide +kernel
theorem dX6_go_18 : decode cX6_go 18 = .ok (.getfield 135, 3) := by decide +kernel
