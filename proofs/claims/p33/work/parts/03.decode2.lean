theorem dX6_clear_6 : decode cX6_clear 6 = .ok (.iconst 0, 1) := by decide +kernel
theorem dX6_clear_7 : decode cX6_clear 7 = .ok (.putfield 92, 3) := by decide +kernel
theorem dX6_clear_10 : decode cX6_clear 10 = .ok (.aload_n 0, 1) := by decide +kernel
theorem dX6_clear_11 : decode cX6_clear 11 = .ok (.getfield 27, 3) := by decide +kernel
theorem dX6_clear_14 : decode cX6_clear 14 = .ok (.invokevirtual 98, 3) := by decide +kernel
theorem dX6_clear_17 : decode cX6_clear 17 = .ok (.aload_n 0, 1) := by decide +kernel
theorem dX6_clear_18 : decode cX6_clear 18 = .ok (.getfield 34, 3) := by decide +kernel
theorem dX6_clear_21 : decode cX6_clear 21 = .ok (.iconst 0, 1) := by decide +kernel
theorem dX6_clear_22 : decode cX6_clear 22 = .ok (.putfield 99, 3) := by decide +kernel
theorem dX6_clear_25 : decode cX6_clear 25 = .ok (.aload_n 0, 1) := by decide +kernel
theorem dX6_clear_26 : decode cX6_clear 26 = .ok (.getfield 38, 3) := by decide +kernel
theorem dX6_clear_29 : decode cX6_clear 29 = .ok (.iconst 0, 1) := by decide +kernel
theorem dX6_clear_30 : decode cX6_clear 30 = .ok (.invokestatic 100, 3) := by decide +kernel
theorem dX6_clear_33 : decode cX6_clear 33 = .ok (.aload_n 0, 1) := by decide +kernel
theorem dX6_clear_34 : decode cX6_clear 34 = .ok (.getfield 41, 3) := by decide +kernel
theorem dX6_clear_37 : decode cX6_clear 37 = .ok (.iconst 1, 1) := by decide +kernel
theorem dX6_clear_38 : decode cX6_clear 38 = .ok (.invokestatic 100, 3) := by decide +kernel
theorem dX6_clear_41 : decode cX6_clear 41 = .ok (.return_, 1) := by decide +kernel
theorem dX6_condition_0 : decode cX6_condition 0 = .ok (.iconst 1, 1) := by decide +kernel
theorem dX6_condition_1 : decode cX6_condition 1 = .ok (.istore_n 2, 1) := by decide +kernel
theorem dX6_condition_2 : decode cX6_condition 2 = .ok (.iconst 0, 1) := by decide +kernel
theorem dX6_condition_3 : decode cX6_condition 3 = .ok (.istore_n 3, 1) := by decide +kernel
theorem dX6_condition_4 : decode cX6_condition 4 = .ok (.iload_n 3, 1) := by decide +kernel
theorem dX6_condition_5 : decode cX6_condition 5 = .ok (.sipush 400, 3) := by decide +kernel
theorem dX6_condition_8 : decode cX6_condition 8 = .ok (.if_icmp .gt 80, 3) := by decide +kernel
theorem dX6_condition_11 : decode cX6_condition 11 = .ok (.iload_n 2, 1) := by decide +kernel
theorem dX6_condition_12 : decode cX6_condition 12 = .ok (.ifCond .eq 76, 3) := by decide +kernel
theorem dX6_condition_15 : decode cX6_condition 15 = .ok (.aload_n 0, 1) := by decide +kernel
theorem dX6_condition_16 : decode cX6_condition 16 = .ok (.iload_n 1, 1) := by decide +kernel
theorem dX6_condition_17 : decode cX6_condition 17 = .ok (.invokevirtual 216, 3) := by decide +kernel
theorem dX6_condition_20 : decode cX6_condition 20 = .ok (.iconst 0, 1) := by decide +kernel
theorem dX6_condition_21 : decode cX6_condition 21 = .ok (.istore 4, 2) := by decide +kernel
theorem dX6_condition_23 : decode cX6_condition 23 = .ok (.iload 4, 2) := by decide +kernel
theorem dX6_condition_25 : decode cX6_condition 25 = .ok (.sipush 400, 3) := by decide +kernel
theorem dX6_condition_28 : decode cX6_condition 28 = .ok (.if_icmp .gt 33, 3) := by decide +kernel
theorem dX6_condition_31 : decode cX6_condition 31 = .ok (.aload_n 0, 1) := by decide +kernel
theorem dX6_condition_32 : decode cX6_condition 32 = .ok (.sipush 262, 3) := by decide +kernel
theorem dX6_condition_35 : decode cX6_condition 35 = .ok (.invokevirtual 191, 3) := by decide +kernel
theorem dX6_condition_38 : decode cX6_condition 38 = .ok (.ifCond .eq 23, 3) := by decide +kernel
theorem dX6_condition_41 : decode cX6_condition 41 = .ok (.aload_n 0, 1) := by decide +kernel
theorem dX6_condition_42 : decode cX6_condition 42 = .ok (.iload_n 1, 1) := by decide +kernel
theorem dX6_condition_43 : decode cX6_condition 43 = .ok (.invokevirtual 216, 3) := by decide +kernel
theorem dX6_condition_46 : decode cX6_condition 46 = .ok (.aload_n 0, 1) := by decide +kernel
theorem dX6_condition_47 : decode cX6_condition 47 = .ok (.getfield 27, 3) := by decide +kernel
theorem dX6_condition_50 : decode cX6_condition 50 = .ok (.bipush (-17), 2) := by decide +kernel
theorem dX6_condition_52 : decode cX6_condition 52 = .ok (.invokevirtual 219, 3) := by decide +kernel
theorem dX6_condition_55 : decode cX6_condition 55 = .ok (.iinc 4 1, 3) := by decide +kernel
theorem dX6_condition_58 : decode cX6_condition 58 = .ok (.goto (-35), 3) := by decide +kernel
theorem dX6_condition_61 : decode cX6_condition 61 = .ok (.iload_n 3, 1) := by decide +kernel
theorem dX6_condition_62 : decode cX6_condition 62 = .ok (.ifCond .le 12, 3) := by decide +kernel
theorem dX6_condition_65 : decode cX6_condition 65 = .ok (.aload_n 0, 1) := by decide +kernel
theorem dX6_condition_66 : decode cX6_condition 66 = .ok (.getfield 27, 3) := by decide +kernel
theorem dX6_condition_69 : decode cX6_condition 69 = .ok (.bipush (-18), 2) := by decide +kernel
theorem dX6_condition_71 : decode cX6_condition 71 = .ok (.invokevirtual 219, 3) := by decide +kernel
theorem dX6_condition_74 : decode cX6_condition 74 = .ok (.aload_n 0, 1) := by decide +kernel
theorem dX6_condition_75 : decode cX6_condition 75 = .ok (.sipush 261, 3) := by decide +kernel
theorem dX6_condition_78 : decode cX6_condition 78 = .ok (.invokevirtual 191, 3) := by decide +kernel
theorem dX6_condition_81 : decode cX6_condition 81 = .ok (.istore_n 2, 1) := by decide +kernel
theorem dX6_condition_82 : decode cX6_condition 82 = .ok (.iinc 3 1, 3) := by decide +kernel
theorem dX6_condition_85 : decode cX6_condition 85 = .ok (.goto (-81), 3) := by decide +kernel
theorem dX6_condition_88 : decode cX6_condition 88 = .ok (.return_, 1) := by decide +kernel
theorem dX6_cut_0 : decode cX6_cut 0 = .ok (.aload_n 0, 1) := by decide +kernel
theorem dX6_cut_1 : decode cX6_cut 1 = .ok (.iconst 0, 1) := by decide +kernel
theorem dX6_cut_2 : decode cX6_cut 2 = .ok (.putfield 135, 3) := by decide +kernel
theorem dX6_cut_5 : decode cX6_cut 5 = .ok (.iconst 0, 1) := by decide +kernel
theorem dX6_cut_6 : decode cX6_cut 6 = .ok (.istore_n 3, 1) := by decide +kernel
theorem dX6_cut_7 : decode cX6_cut 7 = .ok (.iconst 0, 1) := by decide +kernel
theorem dX6_cut_8 : decode cX6_cut 8 = .ok (.istore 4, 2) := by decide +kernel
theorem dX6_cut_10 : decode cX6_cut 10 = .ok (.iload 4, 2) := by decide +kernel
theorem dX6_cut_12 : decode cX6_cut 12 = .ok (.sipush 400, 3) := by decide +kernel
theorem dX6_cut_15 : decode cX6_cut 15 = .ok (.if_icmp .ge 162, 3) := by decide +kernel
theorem dX6_cut_18 : decode cX6_cut 18 = .ok (.iload_n 3, 1) := by decide +kernel
theorem dX6_cut_19 : decode cX6_cut 19 = .ok (.ifCond .lt 158, 3) := by decide +kernel
theorem dX6_cut_22 : decode cX6_cut 22 = .ok (.iload_n 3, 1) := by decide +kernel
theorem dX6_cut_23 : decode cX6_cut 23 = .ok (.iload_n 1, 1) := by decide +kernel
theorem dX6_cut_24 : decode cX6_cut 24 = .ok (.if_icmp .ge 153, 3) := by decide +kernel
theorem dX6_cut_27 : decode cX6_cut 27 = .ok (.iload_n 3, 1) := by decide +kernel
theorem dX6_cut_28 : decode cX6_cut 28 = .ok (.sipush 400, 3) := by decide +kernel
theorem dX6_cut_31 : decode cX6_cut 31 = .ok (.if_icmp .ge 146, 3) := by decide +kernel
theorem dX6_cut_34 : decode cX6_cut 34 = .ok (.aload_n 0, 1) := by decide +kernel
theorem dX6_cut_35 : decode cX6_cut 35 = .ok (.getfield 11, 3) := by decide +kernel
theorem dX6_cut_38 : decode cX6_cut 38 = .ok (.iload_n 3, 1) := by decide +kernel
theorem dX6_cut_39 : decode cX6_cut 39 = .ok (.iaload, 1) := by decide +kernel
theorem dX6_cut_40 : decode cX6_cut 40 = .ok (.istore 5, 2) := by decide +kernel
theorem dX6_cut_42 : decode cX6_cut 42 = .ok (.iload_n 3, 1) := by decide +kernel
theorem dX6_cut_43 : decode cX6_cut 43 = .ok (.iconst 1, 1) := by decide +kernel
theorem dX6_cut_44 : decode cX6_cut 44 = .ok (.iadd, 1) := by decide +kernel
theorem dX6_cut_45 : decode cX6_cut 45 = .ok (.istore 6, 2) := by decide +kernel
theorem dX6_cut_47 : decode cX6_cut 47 = .ok (.iload 5, 2) := by decide +kernel
theorem dX6_cut_49 : decode cX6_cut 49 = .ok (.invokestatic 138, 3) := by decide +kernel
theorem dX6_cut_52 : decode cX6_cut 52 = .ok (.ifCond .eq 35, 3) := by decide +kernel
theorem dX6_cut_55 : decode cX6_cut 55 = .ok (.aload_n 0, 1) := by decide +kernel
theorem dX6_cut_56 : decode cX6_cut 56 = .ok (.iload_n 3, 1) := by decide +kernel
theorem dX6_cut_57 : decode cX6_cut 57 = .ok (.iload_n 1, 1) := by decide +kernel
theorem dX6_cut_58 : decode cX6_cut 58 = .ok (.invokevirtual 142, 3) := by decide +kernel
theorem dX6_cut_61 : decode cX6_cut 61 = .ok (.istore 6, 2) := by decide +kernel
theorem dX6_cut_63 : decode cX6_cut 63 = .ok (.aload_n 0, 1) := by decide +kernel
theorem dX6_cut_64 : decode cX6_cut 64 = .ok (.sipush 256, 3) := by decide +kernel
theorem dX6_cut_67 : decode cX6_cut 67 = .ok (.aload_n 0, 1) := by decide +kernel
theorem dX6_cut_68 : decode cX6_cut 68 = .ok (.iload_n 2, 1) := by decide +kernel
theorem dX6_cut_69 : decode cX6_cut 69 = .ok (.invokestatic 145, 3) := by decide +kernel
theorem dX6_cut_72 : decode cX6_cut 72 = .ok (.iload_n 3, 1) := by decide +kernel
theorem dX6_cut_73 : decode cX6_cut 73 = .ok (.iload 6, 2) := by decide +kernel
theorem dX6_cut_75 : decode cX6_cut 75 = .ok (.invokevirtual 149, 3) := by decide +kernel
theorem dX6_cut_78 : decode cX6_cut 78 = .ok (.iadd, 1) := by decide +kernel
theorem dX6_cut_79 : decode cX6_cut 79 = .ok (.iload_n 3, 1) := by decide +kernel
theorem dX6_cut_80 : decode cX6_cut 80 = .ok (.iconst 0, 1) := by decide +kernel
theorem dX6_cut_81 : decode cX6_cut 81 = .ok (.invokevirtual 153, 3) := by decide +kernel
theorem dX6_cut_84 : decode cX6_cut 84 = .ok (.goto 84, 3) := by decide +kernel
theorem dX6_cut_87 : decode cX6_cut 87 = .ok (.iload 5, 2) := by decide +kernel
theorem dX6_cut_89 : decode cX6_cut 89 = .ok (.invokestatic 157, 3) := by decide +kernel
theorem dX6_cut_92 : decode cX6_cut 92 = .ok (.ifCond .eq 39, 3) := by decide +kernel
theorem dX6_cut_95 : decode cX6_cut 95 = .ok (.aload_n 0, 1) := by decide +kernel
theorem dX6_cut_96 : decode cX6_cut 96 = .ok (.iload_n 3, 1) := by decide +kernel
theorem dX6_cut_97 : decode cX6_cut 97 = .ok (.iload_n 1, 1) := by decide +kernel
theorem dX6_cut_98 : decode cX6_cut 98 = .ok (.invokevirtual 160, 3) := by decide +kernel
theorem dX6_cut_101 : decode cX6_cut 101 = .ok (.istore 6, 2) := by decide +kernel
theorem dX6_cut_103 : decode cX6_cut 103 = .ok (.aload_n 0, 1) := by decide +kernel
theorem dX6_cut_104 : decode cX6_cut 104 = .ok (.iload 6, 2) := by decide +kernel
theorem dX6_cut_106 : decode cX6_cut 106 = .ok (.iload_n 3, 1) := by decide +kernel
theorem dX6_cut_107 : decode cX6_cut 107 = .ok (.isub, 1) := by decide +kernel
theorem dX6_cut_108 : decode cX6_cut 108 = .ok (.iconst 4, 1) := by decide +kernel
theorem dX6_cut_109 : decode cX6_cut 109 = .ok (.if_icmp .gt 7, 3) := by decide +kernel
theorem dX6_cut_112 : decode cX6_cut 112 = .ok (.iconst 1, 1) := by decide +kernel
theorem dX6_cut_113 : decode cX6_cut 113 = .ok (.goto 4, 3) := by decide +kernel
theorem dX6_cut_116 : decode cX6_cut 116 = .ok (.iconst 2, 1) := by decide +kernel
theorem dX6_cut_117 : decode cX6_cut 117 = .ok (.iload_n 3, 1) := by decide +kernel
theorem dX6_cut_118 : decode cX6_cut 118 = .ok (.aload_n 0, 1) := by decide +kernel
theorem dX6_cut_119 : decode cX6_cut 119 = .ok (.iload_n 3, 1) := by decide +kernel
theorem dX6_cut_120 : decode cX6_cut 120 = .ok (.iload 6, 2) := by decide +kernel
theorem dX6_cut_122 : decode cX6_cut 122 = .ok (.invokevirtual 163, 3) := by decide +kernel
theorem dX6_cut_125 : decode cX6_cut 125 = .ok (.invokevirtual 153, 3) := by decide +kernel
theorem dX6_cut_128 : decode cX6_cut 128 = .ok (.goto 40, 3) := by decide +kernel
theorem dX6_cut_131 : decode cX6_cut 131 = .ok (.iload 5, 2) := by decide +kernel
theorem dX6_cut_133 : decode cX6_cut 133 = .ok (.bipush 32, 2) := by decide +kernel
theorem dX6_cut_135 : decode cX6_cut 135 = .ok (.if_icmp .eq 33, 3) := by decide +kernel
theorem dX6_cut_138 : decode cX6_cut 138 = .ok (.iload 5, 2) := by decide +kernel
theorem dX6_cut_140 : decode cX6_cut 140 = .ok (.bipush 10, 2) := by decide +kernel
theorem dX6_cut_142 : decode cX6_cut 142 = .ok (.if_icmp .eq 26, 3) := by decide +kernel
theorem dX6_cut_145 : decode cX6_cut 145 = .ok (.aload_n 0, 1) := by decide +kernel
theorem dX6_cut_146 : decode cX6_cut 146 = .ok (.ldc 166, 2) := by decide +kernel
theorem dX6_cut_148 : decode cX6_cut 148 = .ok (.iload 5, 2) := by decide +kernel
theorem dX6_cut_150 : decode cX6_cut 150 = .ok (.i2c, 1) := by decide +kernel
theorem dX6_cut_151 : decode cX6_cut 151 = .ok (.invokevirtual 168, 3) := by decide +kernel
theorem dX6_cut_154 : decode cX6_cut 154 = .ok (.ifCond .lt 8, 3) := by decide +kernel
theorem dX6_cut_157 : decode cX6_cut 157 = .ok (.iload 5, 2) := by decide +kernel
theorem dX6_cut_159 : decode cX6_cut 159 = .ok (.goto 4, 3) := by decide +kernel
theorem dX6_cut_162 : decode cX6_cut 162 = .ok (.iconst 2, 1) := by decide +kernel
theorem dX6_cut_163 : decode cX6_cut 163 = .ok (.iload_n 3, 1) := by decide +kernel
theorem dX6_cut_164 : decode cX6_cut 164 = .ok (.iconst 0, 1) := by decide +kernel
theorem dX6_cut_165 : decode cX6_cut 165 = .ok (.invokevirtual 153, 3) := by decide +kernel
theorem dX6_cut_168 : decode cX6_cut 168 = .ok (.iload 6, 2) := by decide +kernel
theorem dX6_cut_170 : decode cX6_cut 170 = .ok (.istore_n 3, 1) := by decide +kernel
theorem dX6_cut_171 : decode cX6_cut 171 = .ok (.iinc 4 1, 3) := by decide +kernel
theorem dX6_cut_174 : decode cX6_cut 174 = .ok (.goto (-164), 3) := by decide +kernel
theorem dX6_cut_177 : decode cX6_cut 177 = .ok (.aload_n 0, 1) := by decide +kernel
theorem dX6_cut_178 : decode cX6_cut 178 = .ok (.iconst 0, 1) := by decide +kernel
theorem dX6_cut_179 : decode cX6_cut 179 = .ok (.iload_n 1, 1) := by decide +kernel
theorem dX6_cut_180 : decode cX6_cut 180 = .ok (.iconst 0, 1) := by decide +kernel
theorem dX6_cut_181 : decode cX6_cut 181 = .ok (.invokevirtual 153, 3) := by decide +kernel
theorem dX6_cut_184 : decode cX6_cut 184 = .ok (.return_, 1) := by decide +kernel
theorem dX6_endOfDigits_0 : decode cX6_endOfDigits 0 = .ok (.iconst 0, 1) := by decide +kernel
theorem dX6_endOfDigits_1 : decode cX6_endOfDigits 1 = .ok (.iload_n 1, 1) := by decide +kernel
theorem dX6_endOfDigits_2 : decode cX6_endOfDigits 2 = .ok (.invokestatic 174, 3) := by decide +kernel
theorem dX6_endOfDigits_5 : decode cX6_endOfDigits 5 = .ok (.istore_n 3, 1) := by decide +kernel
theorem dX6_endOfDigits_6 : decode cX6_endOfDigits 6 = .ok (.iload_n 3, 1) := by decide +kernel
theorem dX6_endOfDigits_7 : decode cX6_endOfDigits 7 = .ok (.iload_n 2, 1) := by decide +kernel
theorem dX6_endOfDigits_8 : decode cX6_endOfDigits 8 = .ok (.if_icmp .ge 28, 3) := by decide +kernel
theorem dX6_endOfDigits_11 : decode cX6_endOfDigits 11 = .ok (.iload_n 3, 1) := by decide +kernel
theorem dX6_endOfDigits_12 : decode cX6_endOfDigits 12 = .ok (.sipush 400, 3) := by decide +kernel
theorem dX6_endOfDigits_15 : decode cX6_endOfDigits 15 = .ok (.if_icmp .ge 21, 3) := by decide +kernel
theorem dX6_endOfDigits_18 : decode cX6_endOfDigits 18 = .ok (.aload_n 0, 1) := by decide +kernel
theorem dX6_endOfDigits_19 : decode cX6_endOfDigits 19 = .ok (.getfield 11, 3) := by decide +kernel
theorem dX6_endOfDigits_22 : decode cX6_endOfDigits 22 = .ok (.iload_n 3, 1) := by decide +kernel
theorem dX6_endOfDigits_23 : decode cX6_endOfDigits 23 = .ok (.iaload, 1) := by decide +kernel
theorem dX6_endOfDigits_24 : decode cX6_endOfDigits 24 = .ok (.invokestatic 157, 3) := by decide +kernel
theorem dX6_endOfDigits_27 : decode cX6_endOfDigits 27 = .ok (.ifCond .eq 9, 3) := by decide +kernel
theorem dX6_endOfDigits_30 : decode cX6_endOfDigits 30 = .ok (.iinc 3 1, 3) := by decide +kernel
theorem dX6_endOfDigits_33 : decode cX6_endOfDigits 33 = .ok (.goto (-27), 3) := by decide +kernel
theorem dX6_endOfDigits_36 : decode cX6_endOfDigits 36 = .ok (.iload_n 3, 1) := by decide +kernel
theorem dX6_endOfDigits_37 : decode cX6_endOfDigits 37 = .ok (.ireturn, 1) := by decide +kernel
theorem dX6_endOfWord_0 : decode cX6_endOfWord 0 = .ok (.iconst 0, 1) := by decide +kernel
theorem dX6_endOfWord_1 : decode cX6_endOfWord 1 = .ok (.iload_n 1, 1) := by decide +kernel
theorem dX6_endOfWord_2 : decode cX6_endOfWord 2 = .ok (.invokestatic 174, 3) := by decide +kernel
theorem dX6_endOfWord_5 : decode cX6_endOfWord 5 = .ok (.istore_n 3, 1) := by decide +kernel
theorem dX6_endOfWord_6 : decode cX6_endOfWord 6 = .ok (.iload_n 3, 1) := by decide +kernel
theorem dX6_endOfWord_7 : decode cX6_endOfWord 7 = .ok (.iload_n 2, 1) := by decide +kernel
theorem dX6_endOfWord_8 : decode cX6_endOfWord 8 = .ok (.if_icmp .ge 28, 3) := by decide +kernel
theorem dX6_endOfWord_11 : decode cX6_endOfWord 11 = .ok (.iload_n 3, 1) := by decide +kernel
theorem dX6_endOfWord_12 : decode cX6_endOfWord 12 = .ok (.sipush 400, 3) := by decide +kernel
theorem dX6_endOfWord_15 : decode cX6_endOfWord 15 = .ok (.if_icmp .ge 21, 3) := by decide +kernel
theorem dX6_endOfWord_18 : decode cX6_endOfWord 18 = .ok (.aload_n 0, 1) := by decide +kernel
theorem dX6_endOfWord_19 : decode cX6_endOfWord 19 = .ok (.getfield 11, 3) := by decide +kernel
theorem dX6_endOfWord_22 : decode cX6_endOfWord 22 = .ok (.iload_n 3, 1) := by decide +kernel
theorem dX6_endOfWord_23 : decode cX6_endOfWord 23 = .ok (.iaload, 1) := by decide +kernel
theorem dX6_endOfWord_24 : decode cX6_endOfWord 24 = .ok (.invokestatic 138, 3) := by decide +kernel
theorem dX6_endOfWord_27 : decode cX6_endOfWord 27 = .ok (.ifCond .eq 9, 3) := by decide +kernel
theorem dX6_endOfWord_30 : decode cX6_endOfWord 30 = .ok (.iinc 3 1, 3) := by decide +kernel
theorem dX6_endOfWord_33 : decode cX6_endOfWord 33 = .ok (.goto (-27), 3) := by decide +kernel
theorem dX6_endOfWord_36 : decode cX6_endOfWord 36 = .ok (.iload_n 3, 1) := by decide +kernel
theorem dX6_endOfWord_37 : decode cX6_endOfWord 37 = .ok (.ireturn, 1) := by decide +kernel
theorem dX6_fail_0 : decode cX6_fail 0 = .ok (.aload_n 0, 1) := by decide +kernel
theorem dX6_fail_1 : decode cX6_fail 1 = .ok (.getfield 57, 3) := by decide +kernel
theorem dX6_fail_4 : decode cX6_fail 4 = .ok (.ifCond .ne 49, 3) := by decide +kernel
theorem dX6_fail_7 : decode cX6_fail 7 = .ok (.aload_n 0, 1) := by decide +kernel
theorem dX6_fail_8 : decode cX6_fail 8 = .ok (.iload_n 1, 1) := by decide +kernel
theorem dX6_fail_9 : decode cX6_fail 9 = .ok (.putfield 57, 3) := by decide +kernel
theorem dX6_fail_12 : decode cX6_fail 12 = .ok (.aload_n 0, 1) := by decide +kernel
theorem dX6_fail_13 : decode cX6_fail 13 = .ok (.aload_n 0, 1) := by decide +kernel
theorem dX6_fail_14 : decode cX6_fail 14 = .ok (.getfield 188, 3) := by decide +kernel
theorem dX6_fail_17 : decode cX6_fail 17 = .ok (.ifCond .lt 27, 3) := by decide +kernel
theorem dX6_fail_20 : decode cX6_fail 20 = .ok (.aload_n 0, 1) := by decide +kernel
theorem dX6_fail_21 : decode cX6_fail 21 = .ok (.getfield 188, 3) := by decide +kernel
theorem dX6_fail_24 : decode cX6_fail 24 = .ok (.aload_n 0, 1) := by decide +kernel
theorem dX6_fail_25 : decode cX6_fail 25 = .ok (.getfield 18, 3) := by decide +kernel
theorem dX6_fail_28 : decode cX6_fail 28 = .ok (.arraylength, 1) := by decide +kernel
theorem dX6_fail_29 : decode cX6_fail 29 = .ok (.if_icmp .ge 15, 3) := by decide +kernel
theorem dX6_fail_32 : decode cX6_fail 32 = .ok (.aload_n 0, 1) := by decide +kernel
theorem dX6_fail_33 : decode cX6_fail 33 = .ok (.getfield 18, 3) := by decide +kernel
theorem dX6_fail_36 : decode cX6_fail 36 = .ok (.aload_n 0, 1) := by decide +kernel
theorem dX6_fail_37 : decode cX6_fail 37 = .ok (.getfield 188, 3) := by decide +kernel
theorem dX6_fail_40 : decode cX6_fail 40 = .ok (.iaload, 1) := by decide +kernel
theorem dX6_fail_41 : decode cX6_fail 41 = .ok (.goto 4, 3) := by decide +kernel
theorem dX6_fail_44 : decode cX6_fail 44 = .ok (.iconst (-1), 1) := by decide +kernel
theorem dX6_fail_45 : decode cX6_fail 45 = .ok (.putfield 44, 3) := by decide +kernel
theorem dX6_fail_48 : decode cX6_fail 48 = .ok (.aload_n 0, 1) := by decide +kernel
theorem dX6_fail_49 : decode cX6_fail 49 = .ok (.iconst 0, 1) := by decide +kernel
theorem dX6_fail_50 : decode cX6_fail 50 = .ok (.putfield 67, 3) := by decide +kernel
theorem dX6_fail_53 : decode cX6_fail 53 = .ok (.return_, 1) := by decide +kernel
theorem dX6_go_0 : decode cX6_go 0 = .ok (.aload_n 0, 1) := by decide +kernel
theorem dX6_go_1 : decode cX6_go 1 = .ok (.iload_n 1, 1) := by decide +kernel
theorem dX6_go_2 : decode cX6_go 2 = .ok (.putfield 188, 3) := by decide +kernel
theorem dX6_go_5 : decode cX6_go 5 = .ok (.aload_n 0, 1) := by decide +kernel
theorem dX6_go_6 : decode cX6_go 6 = .ok (.aload_n 0, 1) := by decide +kernel
theorem dX6_go_7 : decode cX6_go 7 = .ok (.getfield 188, 3) := by decide +kernel
theorem dX6_go_10 : decode cX6_go 10 = .ok (.ifCond .lt 38, 3) := by decide +kernel
theorem dX6_go_13 : decode cX6_go 13 = .ok (.aload_n 0, 1) := by decide +kernel
theorem dX6_go_14 : decode cX6_go 14 = .ok (.getfield 188, 3) := by decide +kernel
theorem dX6_go_17 : decode cX6_go 17 = .ok (.aload_n 0, 1) := by decide +kernel
theorem dX6_go_18 : decode cX6_go 18 = .ok (.getfield 135, 3) := by decide +kernel
theorem dX6_go_21 : decode cX6_go 21 = .ok (.if_icmp .ge 27, 3) := by decide +kernel
theorem dX6_go_24 : decode cX6_go 24 = .ok (.aload_n 0, 1) := by decide +kernel
theorem dX6_go_25 : decode cX6_go 25 = .ok (.getfield 188, 3) := by decide +kernel
theorem dX6_go_28 : decode cX6_go 28 = .ok (.aload_n 0, 1) := by decide +kernel
theorem dX6_go_29 : decode cX6_go 29 = .ok (.getfield 15, 3) := by decide +kernel
theorem dX6_go_32 : decode cX6_go 32 = .ok (.arraylength, 1) := by decide +kernel
theorem dX6_go_33 : decode cX6_go 33 = .ok (.if_icmp .ge 15, 3) := by decide +kernel
theorem dX6_go_36 : decode cX6_go 36 = .ok (.aload_n 0, 1) := by decide +kernel
theorem dX6_go_37 : decode cX6_go 37 = .ok (.getfield 15, 3) := by decide +kernel
theorem dX6_go_40 : decode cX6_go 40 = .ok (.aload_n 0, 1) := by decide +kernel
theorem dX6_go_41 : decode cX6_go 41 = .ok (.getfield 188, 3) := by decide +kernel
theorem dX6_go_44 : decode cX6_go 44 = .ok (.iaload, 1) := by decide +kernel
theorem dX6_go_45 : decode cX6_go 45 = .ok (.goto 4, 3) := by decide +kernel
theorem dX6_go_48 : decode cX6_go 48 = .ok (.iconst 0, 1) := by decide +kernel
theorem dX6_go_49 : decode cX6_go 49 = .ok (.putfield 67, 3) := by decide +kernel
theorem dX6_go_52 : decode cX6_go 52 = .ok (.return_, 1) := by decide +kernel
theorem dX6_hand_0 : decode cX6_hand 0 = .ok (.iload_n 1, 1) := by decide +kernel
theorem dX6_hand_1 : decode cX6_hand 1 = .ok (.tableswitch 85 0 2 #[27, 41, 63], 27) := by decide +kernel
theorem dX6_hand_28 : decode cX6_hand 28 = .ok (.aload_n 2, 1) := by decide +kernel
theorem dX6_hand_29 : decode cX6_hand 29 = .ok (.getfield 106, 3) := by decide +kernel
theorem dX6_hand_32 : decode cX6_hand 32 = .ok (.aload_n 0, 1) := by decide +kernel
theorem dX6_hand_33 : decode cX6_hand 33 = .ok (.getfield 27, 3) := by decide +kernel
theorem dX6_hand_36 : decode cX6_hand 36 = .ok (.invokevirtual 107, 3) := by decide +kernel
theorem dX6_hand_39 : decode cX6_hand 39 = .ok (.goto 58, 3) := by decide +kernel
theorem dX6_hand_42 : decode cX6_hand 42 = .ok (.aload_n 0, 1) := by decide +kernel
theorem dX6_hand_43 : decode cX6_hand 43 = .ok (.getfield 38, 3) := by decide +kernel
theorem dX6_hand_46 : decode cX6_hand 46 = .ok (.aload_n 2, 1) := by decide +kernel
theorem dX6_hand_47 : decode cX6_hand 47 = .ok (.getfield 111, 3) := by decide +kernel
theorem dX6_hand_50 : decode cX6_hand 50 = .ok (.invokestatic 112, 3) := by decide +kernel
theorem dX6_hand_53 : decode cX6_hand 53 = .ok (.aload_n 2, 1) := by decide +kernel
theorem dX6_hand_54 : decode cX6_hand 54 = .ok (.aload_n 0, 1) := by decide +kernel
theorem dX6_hand_55 : decode cX6_hand 55 = .ok (.getfield 92, 3) := by decide +kernel
theorem dX6_hand_58 : decode cX6_hand 58 = .ok (.putfield 116, 3) := by decide +kernel
theorem dX6_hand_61 : decode cX6_hand 61 = .ok (.goto 36, 3) := by decide +kernel
theorem dX6_hand_64 : decode cX6_hand 64 = .ok (.aload_n 0, 1) := by decide +kernel
theorem dX6_hand_65 : decode cX6_hand 65 = .ok (.getfield 41, 3) := by decide +kernel
theorem dX6_hand_68 : decode cX6_hand 68 = .ok (.aload_n 2, 1) := by decide +kernel
theorem dX6_hand_69 : decode cX6_hand 69 = .ok (.getfield 119, 3) := by decide +kernel
theorem dX6_hand_72 : decode cX6_hand 72 = .ok (.invokestatic 112, 3) := by decide +kernel
theorem dX6_hand_75 : decode cX6_hand 75 = .ok (.aload_n 2, 1) := by decide +kernel
theorem dX6_hand_76 : decode cX6_hand 76 = .ok (.aload_n 0, 1) := by decide +kernel
theorem dX6_hand_77 : decode cX6_hand 77 = .ok (.getfield 92, 3) := by decide +kernel
theorem dX6_hand_80 : decode cX6_hand 80 = .ok (.putfield 120, 3) := by decide +kernel
theorem dX6_hand_83 : decode cX6_hand 83 = .ok (.goto 14, 3) := by decide +kernel
theorem dX6_hand_86 : decode cX6_hand 86 = .ok (.aload_n 2, 1) := by decide +kernel
theorem dX6_hand_87 : decode cX6_hand 87 = .ok (.getfield 123, 3) := by decide +kernel
theorem dX6_hand_90 : decode cX6_hand 90 = .ok (.aload_n 0, 1) := by decide +kernel
theorem dX6_hand_91 : decode cX6_hand 91 = .ok (.getfield 34, 3) := by decide +kernel
theorem dX6_hand_94 : decode cX6_hand 94 = .ok (.invokevirtual 124, 3) := by decide +kernel
theorem dX6_hand_97 : decode cX6_hand 97 = .ok (.return_, 1) := by decide +kernel
theorem dX6_hasRoom_0 : decode cX6_hasRoom 0 = .ok (.aload_n 0, 1) := by decide +kernel
theorem dX6_hasRoom_1 : decode cX6_hasRoom 1 = .ok (.getfield 48, 3) := by decide +kernel
theorem dX6_hasRoom_4 : decode cX6_hasRoom 4 = .ok (.ifCond .lt 20, 3) := by decide +kernel
theorem dX6_hasRoom_7 : decode cX6_hasRoom 7 = .ok (.aload_n 0, 1) := by decide +kernel
theorem dX6_hasRoom_8 : decode cX6_hasRoom 8 = .ok (.getfield 48, 3) := by decide +kernel
theorem dX6_hasRoom_11 : decode cX6_hasRoom 11 = .ok (.bipush 20, 2) := by decide +kernel
theorem dX6_hasRoom_13 : decode cX6_hasRoom 13 = .ok (.iadd, 1) := by decide +kernel
theorem dX6_hasRoom_14 : decode cX6_hasRoom 14 = .ok (.sipush 400, 3) := by decide +kernel
theorem dX6_hasRoom_17 : decode cX6_hasRoom 17 = .ok (.if_icmp .gt 7, 3) := by decide +kernel
theorem dX6_hasRoom_20 : decode cX6_hasRoom 20 = .ok (.iconst 1, 1) := by decide +kernel
theorem dX6_hasRoom_21 : decode cX6_hasRoom 21 = .ok (.goto 4, 3) := by decide +kernel
theorem dX6_hasRoom_24 : decode cX6_hasRoom 24 = .ok (.iconst 0, 1) := by decide +kernel
theorem dX6_hasRoom_25 : decode cX6_hasRoom 25 = .ok (.ireturn, 1) := by decide +kernel
theorem dX6_init_0 : decode cX6_init 0 = .ok (.aload_n 0, 1) := by decide +kernel
theorem dX6_init_1 : decode cX6_init 1 = .ok (.invokespecial 5, 3) := by decide +kernel
theorem dX6_init_4 : decode cX6_init 4 = .ok (.aload_n 0, 1) := by decide +kernel
theorem dX6_init_5 : decode cX6_init 5 = .ok (.sipush 400, 3) := by decide +kernel
theorem dX6_init_8 : decode cX6_init 8 = .ok (.newarray .int, 2) := by decide +kernel
theorem dX6_init_10 : decode cX6_init 10 = .ok (.putfield 11, 3) := by decide +kernel
theorem dX6_init_13 : decode cX6_init 13 = .ok (.aload_n 0, 1) := by decide +kernel
theorem dX6_init_14 : decode cX6_init 14 = .ok (.sipush 401, 3) := by decide +kernel
theorem dX6_init_17 : decode cX6_init 17 = .ok (.newarray .int, 2) := by decide +kernel
theorem dX6_init_19 : decode cX6_init 19 = .ok (.putfield 15, 3) := by decide +kernel
theorem dX6_init_22 : decode cX6_init 22 = .ok (.aload_n 0, 1) := by decide +kernel
theorem dX6_init_23 : decode cX6_init 23 = .ok (.sipush 401, 3) := by decide +kernel
theorem dX6_init_26 : decode cX6_init 26 = .ok (.newarray .int, 2) := by decide +kernel
theorem dX6_init_28 : decode cX6_init 28 = .ok (.putfield 18, 3) := by decide +kernel
theorem dX6_init_31 : decode cX6_init 31 = .ok (.aload_n 0, 1) := by decide +kernel
theorem dX6_init_32 : decode cX6_init 32 = .ok (.sipush 401, 3) := by decide +kernel
theorem dX6_init_35 : decode cX6_init 35 = .ok (.newarray .int, 2) := by decide +kernel
theorem dX6_init_37 : decode cX6_init 37 = .ok (.putfield 21, 3) := by decide +kernel
theorem dX6_init_40 : decode cX6_init 40 = .ok (.aload_n 0, 1) := by decide +kernel
theorem dX6_init_41 : decode cX6_init 41 = .ok (.new 24, 3) := by decide +kernel
theorem dX6_init_44 : decode cX6_init 44 = .ok (.dup, 1) := by decide +kernel
theorem dX6_init_45 : decode cX6_init 45 = .ok (.invokespecial 26, 3) := by decide +kernel
theorem dX6_init_48 : decode cX6_init 48 = .ok (.putfield 27, 3) := by decide +kernel
theorem dX6_init_51 : decode cX6_init 51 = .ok (.aload_n 0, 1) := by decide +kernel
theorem dX6_init_52 : decode cX6_init 52 = .ok (.new 31, 3) := by decide +kernel
theorem dX6_init_55 : decode cX6_init 55 = .ok (.dup, 1) := by decide +kernel
theorem dX6_init_56 : decode cX6_init 56 = .ok (.invokespecial 33, 3) := by decide +kernel
theorem dX6_init_59 : decode cX6_init 59 = .ok (.putfield 34, 3) := by decide +kernel
theorem dX6_init_62 : decode cX6_init 62 = .ok (.aload_n 0, 1) := by decide +kernel
theorem dX6_init_63 : decode cX6_init 63 = .ok (.bipush 12, 2) := by decide +kernel
theorem dX6_init_65 : decode cX6_init 65 = .ok (.newarray .int, 2) := by decide +kernel
theorem dX6_init_67 : decode cX6_init 67 = .ok (.putfield 38, 3) := by decide +kernel
theorem dX6_init_70 : decode cX6_init 70 = .ok (.aload_n 0, 1) := by decide +kernel
theorem dX6_init_71 : decode cX6_init 71 = .ok (.bipush 8, 2) := by decide +kernel
theorem dX6_init_73 : decode cX6_init 73 = .ok (.newarray .int, 2) := by decide +kernel
theorem dX6_init_75 : decode cX6_init 75 = .ok (.putfield 41, 3) := by decide +kernel
theorem dX6_init_78 : decode cX6_init 78 = .ok (.aload_n 0, 1) := by decide +kernel
theorem dX6_init_79 : decode cX6_init 79 = .ok (.iconst (-1), 1) := by decide +kernel
theorem dX6_init_80 : decode cX6_init 80 = .ok (.putfield 44, 3) := by decide +kernel
theorem dX6_init_83 : decode cX6_init 83 = .ok (.return_, 1) := by decide +kernel
theorem dX6_isDigit_0 : decode cX6_isDigit 0 = .ok (.iload_n 0, 1) := by decide +kernel
theorem dX6_isDigit_1 : decode cX6_isDigit 1 = .ok (.bipush 48, 2) := by decide +kernel
theorem dX6_isDigit_3 : decode cX6_isDigit 3 = .ok (.if_icmp .lt 13, 3) := by decide +kernel
theorem dX6_isDigit_6 : decode cX6_isDigit 6 = .ok (.iload_n 0, 1) := by decide +kernel
theorem dX6_isDigit_7 : decode cX6_isDigit 7 = .ok (.bipush 57, 2) := by decide +kernel
theorem dX6_isDigit_9 : decode cX6_isDigit 9 = .ok (.if_icmp .gt 7, 3) := by decide +kernel
theorem dX6_isDigit_12 : decode cX6_isDigit 12 = .ok (.iconst 1, 1) := by decide +kernel
theorem dX6_isDigit_13 : decode cX6_isDigit 13 = .ok (.goto 4, 3) := by decide +kernel
theorem dX6_isDigit_16 : decode cX6_isDigit 16 = .ok (.iconst 0, 1) := by decide +kernel
theorem dX6_isDigit_17 : decode cX6_isDigit 17 = .ok (.ireturn, 1) := by decide +kernel
theorem dX6_isLetter_0 : decode cX6_isLetter 0 = .ok (.iload_n 0, 1) := by decide +kernel
theorem dX6_isLetter_1 : decode cX6_isLetter 1 = .ok (.bipush 97, 2) := by decide +kernel
theorem dX6_isLetter_3 : decode cX6_isLetter 3 = .ok (.if_icmp .lt 9, 3) := by decide +kernel
theorem dX6_isLetter_6 : decode cX6_isLetter 6 = .ok (.iload_n 0, 1) := by decide +kernel
theorem dX6_isLetter_7 : decode cX6_isLetter 7 = .ok (.bipush 122, 2) := by decide +kernel
theorem dX6_isLetter_9 : decode cX6_isLetter 9 = .ok (.if_icmp .le 15, 3) := by decide +kernel
theorem dX6_isLetter_12 : decode cX6_isLetter 12 = .ok (.iload_n 0, 1) := by decide +kernel
theorem dX6_isLetter_13 : decode cX6_isLetter 13 = .ok (.bipush 65, 2) := by decide +kernel
theorem dX6_isLetter_15 : decode cX6_isLetter 15 = .ok (.if_icmp .lt 13, 3) := by decide +kernel
theorem dX6_isLetter_18 : decode cX6_isLetter 18 = .ok (.iload_n 0, 1) := by decide +kernel
theorem dX6_isLetter_19 : decode cX6_isLetter 19 = .ok (.bipush 90, 2) := by decide +kernel
theorem dX6_isLetter_21 : decode cX6_isLetter 21 = .ok (.if_icmp .gt 7, 3) := by decide +kernel
theorem dX6_isLetter_24 : decode cX6_isLetter 24 = .ok (.iconst 1, 1) := by decide +kernel
theorem dX6_isLetter_25 : decode cX6_isLetter 25 = .ok (.goto 4, 3) := by decide +kernel
theorem dX6_isLetter_28 : decode cX6_isLetter 28 = .ok (.iconst 0, 1) := by decide +kernel
theorem dX6_isLetter_29 : decode cX6_isLetter 29 = .ok (.ireturn, 1) := by decide +kernel
theorem dX6_keyword_0 : decode cX6_keyword 0 = .ok (.iconst 0, 1) := by decide +kernel
theorem dX6_keyword_1 : decode cX6_keyword 1 = .ok (.istore 4, 2) := by decide +kernel
theorem dX6_keyword_3 : decode cX6_keyword 3 = .ok (.iconst 0, 1) := by decide +kernel
theorem dX6_keyword_4 : decode cX6_keyword 4 = .ok (.istore 5, 2) := by decide +kernel
theorem dX6_keyword_6 : decode cX6_keyword 6 = .ok (.iconst 0, 1) := by decide +kernel
theorem dX6_keyword_7 : decode cX6_keyword 7 = .ok (.istore 6, 2) := by decide +kernel
theorem dX6_keyword_9 : decode cX6_keyword 9 = .ok (.iload 6, 2) := by decide +kernel
theorem dX6_keyword_11 : decode cX6_keyword 11 = .ok (.aload_n 1, 1) := by decide +kernel
theorem dX6_keyword_12 : decode cX6_keyword 12 = .ok (.invokevirtual 177, 3) := by decide +kernel
theorem dX6_keyword_15 : decode cX6_keyword 15 = .ok (.if_icmp .gt 64, 3) := by decide +kernel
theorem dX6_keyword_18 : decode cX6_keyword 18 = .ok (.iload 6, 2) := by decide +kernel
theorem dX6_keyword_20 : decode cX6_keyword 20 = .ok (.aload_n 1, 1) := by decide +kernel
theorem dX6_keyword_21 : decode cX6_keyword 21 = .ok (.invokevirtual 177, 3) := by decide +kernel
theorem dX6_keyword_24 : decode cX6_keyword 24 = .ok (.if_icmp .eq 14, 3) := by decide +kernel
theorem dX6_keyword_27 : decode cX6_keyword 27 = .ok (.aload_n 1, 1) := by decide +kernel
theorem dX6_keyword_28 : decode cX6_keyword 28 = .ok (.iload 6, 2) := by decide +kernel
theorem dX6_keyword_30 : decode cX6_keyword 30 = .ok (.invokevirtual 180, 3) := by decide +kernel
theorem dX6_keyword_33 : decode cX6_keyword 33 = .ok (.bipush 32, 2) := by decide +kernel
theorem dX6_keyword_35 : decode cX6_keyword 35 = .ok (.if_icmp .ne 38, 3) := by decide +kernel
theorem dX6_keyword_38 : decode cX6_keyword 38 = .ok (.iload 6, 2) := by decide +kernel
theorem dX6_keyword_40 : decode cX6_keyword 40 = .ok (.iload 5, 2) := by decide +kernel
theorem dX6_keyword_42 : decode cX6_keyword 42 = .ok (.isub, 1) := by decide +kernel
theorem dX6_keyword_43 : decode cX6_keyword 43 = .ok (.iload_n 3, 1) := by decide +kernel
theorem dX6_keyword_44 : decode cX6_keyword 44 = .ok (.iload_n 2, 1) := by decide +kernel
theorem dX6_keyword_45 : decode cX6_keyword 45 = .ok (.isub, 1) := by decide +kernel
theorem dX6_keyword_46 : decode cX6_keyword 46 = .ok (.if_icmp .ne 18, 3) := by decide +kernel
theorem dX6_keyword_49 : decode cX6_keyword 49 = .ok (.aload_n 0, 1) := by decide +kernel
theorem dX6_keyword_50 : decode cX6_keyword 50 = .ok (.aload_n 1, 1) := by decide +kernel
theorem dX6_keyword_51 : decode cX6_keyword 51 = .ok (.iload 5, 2) := by decide +kernel
theorem dX6_keyword_53 : decode cX6_keyword 53 = .ok (.iload_n 2, 1) := by decide +kernel
theorem dX6_keyword_54 : decode cX6_keyword 54 = .ok (.iload_n 3, 1) := by decide +kernel
theorem dX6_keyword_55 : decode cX6_keyword 55 = .ok (.invokevirtual 184, 3) := by decide +kernel
theorem dX6_keyword_58 : decode cX6_keyword 58 = .ok (.ifCond .eq 6, 3) := by decide +kernel
theorem dX6_keyword_61 : decode cX6_keyword 61 = .ok (.iload 4, 2) := by decide +kernel
theorem dX6_keyword_63 : decode cX6_keyword 63 = .ok (.ireturn, 1) := by decide +kernel
theorem dX6_keyword_64 : decode cX6_keyword 64 = .ok (.iinc 4 1, 3) := by decide +kernel
theorem dX6_keyword_67 : decode cX6_keyword 67 = .ok (.iload 6, 2) := by decide +kernel
theorem dX6_keyword_69 : decode cX6_keyword 69 = .ok (.iconst 1, 1) := by decide +kernel
theorem dX6_keyword_70 : decode cX6_keyword 70 = .ok (.iadd, 1) := by decide +kernel
theorem dX6_keyword_71 : decode cX6_keyword 71 = .ok (.istore 5, 2) := by decide +kernel
theorem dX6_keyword_73 : decode cX6_keyword 73 = .ok (.iinc 6 1, 3) := by decide +kernel
theorem dX6_keyword_76 : decode cX6_keyword 76 = .ok (.goto (-67), 3) := by decide +kernel
theorem dX6_keyword_79 : decode cX6_keyword 79 = .ok (.iconst (-1), 1) := by decide +kernel
theorem dX6_keyword_80 : decode cX6_keyword 80 = .ok (.ireturn, 1) := by decide +kernel
theorem dX6_keywords_0 : decode cX6_keywords 0 = .ok (.iload_n 0, 1) := by decide +kernel
theorem dX6_keywords_1 : decode cX6_keywords 1 = .ok (.tableswitch 36 0 2 #[27, 30, 33], 27) := by decide +kernel
theorem dX6_keywords_28 : decode cX6_keywords 28 = .ok (.ldc 127, 2) := by decide +kernel
theorem dX6_keywords_30 : decode cX6_keywords 30 = .ok (.areturn, 1) := by decide +kernel
theorem dX6_keywords_31 : decode cX6_keywords 31 = .ok (.ldc 129, 2) := by decide +kernel
theorem dX6_keywords_33 : decode cX6_keywords 33 = .ok (.areturn, 1) := by decide +kernel
theorem dX6_keywords_34 : decode cX6_keywords 34 = .ok (.ldc 131, 2) := by decide +kernel
theorem dX6_keywords_36 : decode cX6_keywords 36 = .ok (.areturn, 1) := by decide +kernel
theorem dX6_keywords_37 : decode cX6_keywords 37 = .ok (.ldc 133, 2) := by decide +kernel
theorem dX6_keywords_39 : decode cX6_keywords 39 = .ok (.areturn, 1) := by decide +kernel
theorem dX6_lawLine_0 : decode cX6_lawLine 0 = .ok (.aload_n 0, 1) := by decide +kernel
theorem dX6_lawLine_1 : decode cX6_lawLine 1 = .ok (.getfield 67, 3) := by decide +kernel
theorem dX6_lawLine_4 : decode cX6_lawLine 4 = .ok (.sipush 256, 3) := by decide +kernel
theorem dX6_lawLine_7 : decode cX6_lawLine 7 = .ok (.isub, 1) := by decide +kernel
theorem dX6_lawLine_8 : decode cX6_lawLine 8 = .ok (.istore_n 1, 1) := by decide +kernel
theorem dX6_lawLine_9 : decode cX6_lawLine 9 = .ok (.aload_n 0, 1) := by decide +kernel
theorem dX6_lawLine_10 : decode cX6_lawLine 10 = .ok (.iload_n 1, 1) := by decide +kernel
theorem dX6_lawLine_11 : decode cX6_lawLine 11 = .ok (.ifCond .lt 8, 3) := by decide +kernel
theorem dX6_lawLine_14 : decode cX6_lawLine 14 = .ok (.iload_n 1, 1) := by decide +kernel
theorem dX6_lawLine_15 : decode cX6_lawLine 15 = .ok (.iconst 3, 1) := by decide +kernel
theorem dX6_lawLine_16 : decode cX6_lawLine 16 = .ok (.if_icmp .le 7, 3) := by decide +kernel
theorem dX6_lawLine_19 : decode cX6_lawLine 19 = .ok (.iconst (-1), 1) := by decide +kernel
theorem dX6_lawLine_20 : decode cX6_lawLine 20 = .ok (.goto 7, 3) := by decide +kernel
theorem dX6_lawLine_23 : decode cX6_lawLine 23 = .ok (.aload_n 0, 1) := by decide +kernel
theorem dX6_lawLine_24 : decode cX6_lawLine 24 = .ok (.getfield 67, 3) := by decide +kernel
theorem dX6_lawLine_27 : decode cX6_lawLine 27 = .ok (.invokevirtual 200, 3) := by decide +kernel
theorem dX6_lawLine_30 : decode cX6_lawLine 30 = .ok (.aload_n 0, 1) := by decide +kernel
theorem dX6_lawLine_31 : decode cX6_lawLine 31 = .ok (.getfield 27, 3) := by decide +kernel
theorem dX6_lawLine_34 : decode cX6_lawLine 34 = .ok (.iload_n 1, 1) := by decide +kernel
theorem dX6_lawLine_35 : decode cX6_lawLine 35 = .ok (.invokevirtual 203, 3) := by decide +kernel
theorem dX6_lawLine_38 : decode cX6_lawLine 38 = .ok (.aload_n 0, 1) := by decide +kernel
theorem dX6_lawLine_39 : decode cX6_lawLine 39 = .ok (.invokevirtual 204, 3) := by decide +kernel
theorem dX6_lawLine_42 : decode cX6_lawLine 42 = .ok (.aload_n 0, 1) := by decide +kernel
theorem dX6_lawLine_43 : decode cX6_lawLine 43 = .ok (.getfield 27, 3) := by decide +kernel
theorem dX6_lawLine_46 : decode cX6_lawLine 46 = .ok (.invokevirtual 207, 3) := by decide +kernel
theorem dX6_lawLine_49 : decode cX6_lawLine 49 = .ok (.aload_n 0, 1) := by decide +kernel
theorem dX6_lawLine_50 : decode cX6_lawLine 50 = .ok (.sipush 260, 3) := by decide +kernel
theorem dX6_lawLine_53 : decode cX6_lawLine 53 = .ok (.invokevirtual 191, 3) := by decide +kernel
theorem dX6_lawLine_56 : decode cX6_lawLine 56 = .ok (.ifCond .eq 8, 3) := by decide +kernel
theorem dX6_lawLine_59 : decode cX6_lawLine 59 = .ok (.aload_n 0, 1) := by decide +kernel
theorem dX6_lawLine_60 : decode cX6_lawLine 60 = .ok (.iconst 0, 1) := by decide +kernel
theorem dX6_lawLine_61 : decode cX6_lawLine 61 = .ok (.invokevirtual 210, 3) := by decide +kernel
theorem dX6_lawLine_64 : decode cX6_lawLine 64 = .ok (.aload_n 0, 1) := by decide +kernel
theorem dX6_lawLine_65 : decode cX6_lawLine 65 = .ok (.bipush 59, 2) := by decide +kernel
theorem dX6_lawLine_67 : decode cX6_lawLine 67 = .ok (.invokevirtual 197, 3) := by decide +kernel
theorem dX6_lawLine_70 : decode cX6_lawLine 70 = .ok (.aload_n 0, 1) := by decide +kernel
theorem dX6_lawLine_71 : decode cX6_lawLine 71 = .ok (.getfield 27, 3) := by decide +kernel
theorem dX6_lawLine_74 : decode cX6_lawLine 74 = .ok (.invokevirtual 213, 3) := by decide +kernel
theorem dX6_lawLine_77 : decode cX6_lawLine 77 = .ok (.aload_n 0, 1) := by decide +kernel
theorem dX6_lawLine_78 : decode cX6_lawLine 78 = .ok (.dup, 1) := by decide +kernel
theorem dX6_lawLine_79 : decode cX6_lawLine 79 = .ok (.getfield 92, 3) := by decide +kernel
theorem dX6_lawLine_82 : decode cX6_lawLine 82 = .ok (.iconst 1, 1) := by decide +kernel
theorem dX6_lawLine_83 : decode cX6_lawLine 83 = .ok (.iadd, 1) := by decide +kernel
theorem dX6_lawLine_84 : decode cX6_lawLine 84 = .ok (.putfield 92, 3) := by decide +kernel
theorem dX6_lawLine_87 : decode cX6_lawLine 87 = .ok (.return_, 1) := by decide +kernel
theorem dX6_need_0 : decode cX6_need 0 = .ok (.aload_n 0, 1) := by decide +kernel
theorem dX6_need_1 : decode cX6_need 1 = .ok (.iload_n 1, 1) := by decide +kernel
theorem dX6_need_2 : decode cX6_need 2 = .ok (.invokevirtual 191, 3) := by decide +kernel
theorem dX6_need_5 : decode cX6_need 5 = .ok (.ifCond .ne 8, 3) := by decide +kernel
theorem dX6_need_8 : decode cX6_need 8 = .ok (.aload_n 0, 1) := by decide +kernel
theorem dX6_need_9 : decode cX6_need 9 = .ok (.iconst 1, 1) := by decide +kernel
theorem dX6_need_10 : decode cX6_need 10 = .ok (.invokevirtual 194, 3) := by decide +kernel
theorem dX6_need_13 : decode cX6_need 13 = .ok (.return_, 1) := by decide +kernel
theorem dX6_number_0 : decode cX6_number 0 = .ok (.aload_n 0, 1) := by decide +kernel
theorem dX6_number_1 : decode cX6_number 1 = .ok (.getfield 67, 3) := by decide +kernel
theorem dX6_number_4 : decode cX6_number 4 = .ok (.iconst 1, 1) := by decide +kernel
theorem dX6_number_5 : decode cX6_number 5 = .ok (.if_icmp .ne 22, 3) := by decide +kernel
theorem dX6_number_8 : decode cX6_number 8 = .ok (.aload_n 0, 1) := by decide +kernel
theorem dX6_number_9 : decode cX6_number 9 = .ok (.getfield 188, 3) := by decide +kernel
theorem dX6_number_12 : decode cX6_number 12 = .ok (.ifCond .lt 15, 3) := by decide +kernel
theorem dX6_number_15 : decode cX6_number 15 = .ok (.aload_n 0, 1) := by decide +kernel
theorem dX6_number_16 : decode cX6_number 16 = .ok (.getfield 188, 3) := by decide +kernel
theorem dX6_number_19 : decode cX6_number 19 = .ok (.aload_n 0, 1) := by decide +kernel
theorem dX6_number_20 : decode cX6_number 20 = .ok (.getfield 21, 3) := by decide +kernel
theorem dX6_number_23 : decode cX6_number 23 = .ok (.arraylength, 1) := by decide +kernel
theorem dX6_number_24 : decode cX6_number 24 = .ok (.if_icmp .lt 10, 3) := by decide +kernel
theorem dX6_number_27 : decode cX6_number 27 = .ok (.aload_n 0, 1) := by decide +kernel
theorem dX6_number_28 : decode cX6_number 28 = .ok (.iconst 1, 1) := by decide +kernel
theorem dX6_number_29 : decode cX6_number 29 = .ok (.invokevirtual 194, 3) := by decide +kernel
theorem dX6_number_32 : decode cX6_number 32 = .ok (.iconst (-1), 1) := by decide +kernel
theorem dX6_number_33 : decode cX6_number 33 = .ok (.ireturn, 1) := by decide +kernel
theorem dX6_number_34 : decode cX6_number 34 = .ok (.aload_n 0, 1) := by decide +kernel
theorem dX6_number_35 : decode cX6_number 35 = .ok (.getfield 21, 3) := by decide +kernel
theorem dX6_number_38 : decode cX6_number 38 = .ok (.aload_n 0, 1) := by decide +kernel
theorem dX6_number_39 : decode cX6_number 39 = .ok (.getfield 188, 3) := by decide +kernel
theorem dX6_number_42 : decode cX6_number 42 = .ok (.iaload, 1) := by decide +kernel
theorem dX6_number_43 : decode cX6_number 43 = .ok (.istore_n 3, 1) := by decide +kernel
theorem dX6_number_44 : decode cX6_number 44 = .ok (.iload_n 3, 1) := by decide +kernel
theorem dX6_number_45 : decode cX6_number 45 = .ok (.iload_n 1, 1) := by decide +kernel
theorem dX6_number_46 : decode cX6_number 46 = .ok (.if_icmp .gt 8, 3) := by decide +kernel
theorem dX6_number_49 : decode cX6_number 49 = .ok (.iload_n 3, 1) := by decide +kernel
theorem dX6_number_50 : decode cX6_number 50 = .ok (.iload_n 2, 1) := by decide +kernel
theorem dX6_number_51 : decode cX6_number 51 = .ok (.if_icmp .ne 10, 3) := by decide +kernel
theorem dX6_number_54 : decode cX6_number 54 = .ok (.aload_n 0, 1) := by decide +kernel
theorem dX6_number_55 : decode cX6_number 55 = .ok (.iconst 2, 1) := by decide +kernel
theorem dX6_number_56 : decode cX6_number 56 = .ok (.invokevirtual 194, 3) := by decide +kernel
theorem dX6_number_59 : decode cX6_number 59 = .ok (.iconst (-1), 1) := by decide +kernel
theorem dX6_number_60 : decode cX6_number 60 = .ok (.ireturn, 1) := by decide +kernel
theorem dX6_number_61 : decode cX6_number 61 = .ok (.aload_n 0, 1) := by decide +kernel
theorem dX6_number_62 : decode cX6_number 62 = .ok (.aload_n 0, 1) := by decide +kernel
theorem dX6_number_63 : decode cX6_number 63 = .ok (.getfield 188, 3) := by decide +kernel
theorem dX6_number_66 : decode cX6_number 66 = .ok (.iconst 1, 1) := by decide +kernel
theorem dX6_number_67 : decode cX6_number 67 = .ok (.iadd, 1) := by decide +kernel
theorem dX6_number_68 : decode cX6_number 68 = .ok (.invokevirtual 95, 3) := by decide +kernel
theorem dX6_number_71 : decode cX6_number 71 = .ok (.iload_n 3, 1) := by decide +kernel
theorem dX6_number_72 : decode cX6_number 72 = .ok (.ireturn, 1) := by decide +kernel
theorem dX6_orderLine_0 : decode cX6_orderLine 0 = .ok (.aload_n 0, 1) := by decide +kernel
theorem dX6_orderLine_1 : decode cX6_orderLine 1 = .ok (.sipush 256, 3) := by decide +kernel
theorem dX6_orderLine_4 : decode cX6_orderLine 4 = .ok (.invokevirtual 200, 3) := by decide +kernel
theorem dX6_orderLine_7 : decode cX6_orderLine 7 = .ok (.aload_n 0, 1) := by decide +kernel
theorem dX6_orderLine_8 : decode cX6_orderLine 8 = .ok (.sipush 999, 3) := by decide +kernel
theorem dX6_orderLine_11 : decode cX6_orderLine 11 = .ok (.iconst (-1), 1) := by decide +kernel
theorem dX6_orderLine_12 : decode cX6_orderLine 12 = .ok (.invokevirtual 225, 3) := by decide +kernel
theorem dX6_orderLine_15 : decode cX6_orderLine 15 = .ok (.istore_n 1, 1) := by decide +kernel
theorem dX6_orderLine_16 : decode cX6_orderLine 16 = .ok (.aload_n 0, 1) := by decide +kernel
theorem dX6_orderLine_17 : decode cX6_orderLine 17 = .ok (.getfield 67, 3) := by decide +kernel
theorem dX6_orderLine_20 : decode cX6_orderLine 20 = .ok (.sipush 257, 3) := by decide +kernel
theorem dX6_orderLine_23 : decode cX6_orderLine 23 = .ok (.if_icmp .ne 7, 3) := by decide +kernel
theorem dX6_orderLine_26 : decode cX6_orderLine 26 = .ok (.iconst 1, 1) := by decide +kernel
theorem dX6_orderLine_27 : decode cX6_orderLine 27 = .ok (.goto 4, 3) := by decide +kernel
theorem dX6_orderLine_30 : decode cX6_orderLine 30 = .ok (.iconst 0, 1) := by decide +kernel
theorem dX6_orderLine_31 : decode cX6_orderLine 31 = .ok (.istore_n 2, 1) := by decide +kernel
theorem dX6_orderLine_32 : decode cX6_orderLine 32 = .ok (.aload_n 0, 1) := by decide +kernel
theorem dX6_orderLine_33 : decode cX6_orderLine 33 = .ok (.iload_n 2, 1) := by decide +kernel
theorem dX6_orderLine_34 : decode cX6_orderLine 34 = .ok (.ifCond .eq 9, 3) := by decide +kernel
theorem dX6_orderLine_37 : decode cX6_orderLine 37 = .ok (.sipush 257, 3) := by decide +kernel
theorem dX6_orderLine_40 : decode cX6_orderLine 40 = .ok (.goto 6, 3) := by decide +kernel
theorem dX6_orderLine_43 : decode cX6_orderLine 43 = .ok (.sipush 258, 3) := by decide +kernel
theorem dX6_orderLine_46 : decode cX6_orderLine 46 = .ok (.invokevirtual 197, 3) := by decide +kernel
theorem dX6_orderLine_49 : decode cX6_orderLine 49 = .ok (.aload_n 0, 1) := by decide +kernel
theorem dX6_orderLine_50 : decode cX6_orderLine 50 = .ok (.iconst 1, 1) := by decide +kernel
theorem dX6_orderLine_51 : decode cX6_orderLine 51 = .ok (.iconst (-1), 1) := by decide +kernel
theorem dX6_orderLine_52 : decode cX6_orderLine 52 = .ok (.invokevirtual 225, 3) := by decide +kernel
theorem dX6_orderLine_55 : decode cX6_orderLine 55 = .ok (.istore_n 3, 1) := by decide +kernel
theorem dX6_orderLine_56 : decode cX6_orderLine 56 = .ok (.aload_n 0, 1) := by decide +kernel
theorem dX6_orderLine_57 : decode cX6_orderLine 57 = .ok (.bipush 59, 2) := by decide +kernel
theorem dX6_orderLine_59 : decode cX6_orderLine 59 = .ok (.invokevirtual 197, 3) := by decide +kernel
theorem dX6_orderLine_62 : decode cX6_orderLine 62 = .ok (.aload_n 0, 1) := by decide +kernel
theorem dX6_orderLine_63 : decode cX6_orderLine 63 = .ok (.getfield 57, 3) := by decide +kernel
theorem dX6_orderLine_66 : decode cX6_orderLine 66 = .ok (.ifCond .ne 13, 3) := by decide +kernel
theorem dX6_orderLine_69 : decode cX6_orderLine 69 = .ok (.aload_n 0, 1) := by decide +kernel
theorem dX6_orderLine_70 : decode cX6_orderLine 70 = .ok (.getfield 34, 3) := by decide +kernel
theorem dX6_orderLine_73 : decode cX6_orderLine 73 = .ok (.iload_n 1, 1) := by decide +kernel
theorem dX6_orderLine_74 : decode cX6_orderLine 74 = .ok (.iload_n 2, 1) := by decide +kernel
theorem dX6_orderLine_75 : decode cX6_orderLine 75 = .ok (.iload_n 3, 1) := by decide +kernel
theorem dX6_orderLine_76 : decode cX6_orderLine 76 = .ok (.invokevirtual 231, 3) := by decide +kernel
theorem dX6_orderLine_79 : decode cX6_orderLine 79 = .ok (.aload_n 0, 1) := by decide +kernel
theorem dX6_orderLine_80 : decode cX6_orderLine 80 = .ok (.dup, 1) := by decide +kernel
theorem dX6_orderLine_81 : decode cX6_orderLine 81 = .ok (.getfield 92, 3) := by decide +kernel
theorem dX6_orderLine_84 : decode cX6_orderLine 84 = .ok (.iconst 1, 1) := by decide +kernel
theorem dX6_orderLine_85 : decode cX6_orderLine 85 = .ok (.iadd, 1) := by decide +kernel
theorem dX6_orderLine_86 : decode cX6_orderLine 86 = .ok (.putfield 92, 3) := by decide +kernel
theorem dX6_orderLine_89 : decode cX6_orderLine 89 = .ok (.return_, 1) := by decide +kernel
theorem dX6_read_0 : decode cX6_read 0 = .ok (.aload_n 0, 1) := by decide +kernel
theorem dX6_read_1 : decode cX6_read 1 = .ok (.getfield 48, 3) := by decide +kernel
theorem dX6_read_4 : decode cX6_read 4 = .ok (.sipush 400, 3) := by decide +kernel
theorem dX6_read_7 : decode cX6_read 7 = .ok (.invokestatic 51, 3) := by decide +kernel
theorem dX6_read_10 : decode cX6_read 10 = .ok (.istore_n 3, 1) := by decide +kernel
theorem dX6_read_11 : decode cX6_read 11 = .ok (.aload_n 0, 1) := by decide +kernel
theorem dX6_read_12 : decode cX6_read 12 = .ok (.iconst 0, 1) := by decide +kernel
theorem dX6_read_13 : decode cX6_read 13 = .ok (.putfield 48, 3) := by decide +kernel
theorem dX6_read_16 : decode cX6_read 16 = .ok (.aload_n 0, 1) := by decide +kernel
theorem dX6_read_17 : decode cX6_read 17 = .ok (.iconst 0, 1) := by decide +kernel
theorem dX6_read_18 : decode cX6_read 18 = .ok (.putfield 57, 3) := by decide +kernel
theorem dX6_read_21 : decode cX6_read 21 = .ok (.aload_n 0, 1) := by decide +kernel
theorem dX6_read_22 : decode cX6_read 22 = .ok (.iconst (-1), 1) := by decide +kernel
theorem dX6_read_23 : decode cX6_read 23 = .ok (.putfield 44, 3) := by decide +kernel
theorem dX6_read_26 : decode cX6_read 26 = .ok (.iload_n 1, 1) := by decide +kernel
theorem dX6_read_27 : decode cX6_read 27 = .ok (.ifCond .lt 8, 3) := by decide +kernel
theorem dX6_read_30 : decode cX6_read 30 = .ok (.iload_n 1, 1) := by decide +kernel
theorem dX6_read_31 : decode cX6_read 31 = .ok (.iconst 3, 1) := by decide +kernel
theorem dX6_read_32 : decode cX6_read 32 = .ok (.if_icmp .le 5, 3) := by decide +kernel
theorem dX6_read_35 : decode cX6_read 35 = .ok (.iconst (-1), 1) := by decide +kernel
theorem dX6_read_36 : decode cX6_read 36 = .ok (.ireturn, 1) := by decide +kernel
theorem dX6_read_37 : decode cX6_read 37 = .ok (.aload_n 0, 1) := by decide +kernel
theorem dX6_read_38 : decode cX6_read 38 = .ok (.iload_n 3, 1) := by decide +kernel
theorem dX6_read_39 : decode cX6_read 39 = .ok (.iload_n 1, 1) := by decide +kernel
theorem dX6_read_40 : decode cX6_read 40 = .ok (.invokevirtual 60, 3) := by decide +kernel
theorem dX6_read_43 : decode cX6_read 43 = .ok (.aload_n 0, 1) := by decide +kernel
theorem dX6_read_44 : decode cX6_read 44 = .ok (.invokevirtual 64, 3) := by decide +kernel
theorem dX6_read_47 : decode cX6_read 47 = .ok (.iconst 0, 1) := by decide +kernel
theorem dX6_read_48 : decode cX6_read 48 = .ok (.istore 4, 2) := by decide +kernel
theorem dX6_read_50 : decode cX6_read 50 = .ok (.iload 4, 2) := by decide +kernel
theorem dX6_read_52 : decode cX6_read 52 = .ok (.sipush 400, 3) := by decide +kernel
theorem dX6_read_55 : decode cX6_read 55 = .ok (.if_icmp .gt 72, 3) := by decide +kernel
theorem dX6_read_58 : decode cX6_read 58 = .ok (.aload_n 0, 1) := by decide +kernel
theorem dX6_read_59 : decode cX6_read 59 = .ok (.getfield 67, 3) := by decide +kernel
theorem dX6_read_62 : decode cX6_read 62 = .ok (.ifCond .eq 65, 3) := by decide +kernel
theorem dX6_read_65 : decode cX6_read 65 = .ok (.iload_n 1, 1) := by decide +kernel
theorem dX6_read_66 : decode cX6_read 66 = .ok (.tableswitch 51 0 2 #[26, 33, 44], 26) := by decide +kernel
theorem dX6_read_92 : decode cX6_read 92 = .ok (.aload_n 0, 1) := by decide +kernel
theorem dX6_read_93 : decode cX6_read 93 = .ok (.invokevirtual 70, 3) := by decide +kernel
theorem dX6_read_96 : decode cX6_read 96 = .ok (.goto 25, 3) := by decide +kernel
theorem dX6_read_99 : decode cX6_read 99 = .ok (.aload_n 0, 1) := by decide +kernel
theorem dX6_read_100 : decode cX6_read 100 = .ok (.aload_n 2, 1) := by decide +kernel
theorem dX6_read_101 : decode cX6_read 101 = .ok (.getfield 73, 3) := by decide +kernel
theorem dX6_read_104 : decode cX6_read 104 = .ok (.invokevirtual 78, 3) := by decide +kernel
theorem dX6_read_107 : decode cX6_read 107 = .ok (.goto 14, 3) := by decide +kernel
theorem dX6_read_110 : decode cX6_read 110 = .ok (.aload_n 0, 1) := by decide +kernel
theorem dX6_read_111 : decode cX6_read 111 = .ok (.invokevirtual 82, 3) := by decide +kernel
theorem dX6_read_114 : decode cX6_read 114 = .ok (.goto 7, 3) := by decide +kernel
theorem dX6_read_117 : decode cX6_read 117 = .ok (.aload_n 0, 1) := by decide +kernel
theorem dX6_read_118 : decode cX6_read 118 = .ok (.invokevirtual 85, 3) := by decide +kernel
theorem dX6_read_121 : decode cX6_read 121 = .ok (.iinc 4 1, 3) := by decide +kernel
theorem dX6_read_124 : decode cX6_read 124 = .ok (.goto (-74), 3) := by decide +kernel
theorem dX6_read_127 : decode cX6_read 127 = .ok (.aload_n 0, 1) := by decide +kernel
theorem dX6_read_128 : decode cX6_read 128 = .ok (.getfield 57, 3) := by decide +kernel
theorem dX6_read_131 : decode cX6_read 131 = .ok (.ifCond .eq 5, 3) := by decide +kernel
theorem dX6_read_134 : decode cX6_read 134 = .ok (.iconst (-1), 1) := by decide +kernel
theorem dX6_read_135 : decode cX6_read 135 = .ok (.ireturn, 1) := by decide +kernel
theorem dX6_read_136 : decode cX6_read 136 = .ok (.aload_n 0, 1) := by decide +kernel
theorem dX6_read_137 : decode cX6_read 137 = .ok (.iload_n 1, 1) := by decide +kernel
theorem dX6_read_138 : decode cX6_read 138 = .ok (.aload_n 2, 1) := by decide +kernel
theorem dX6_read_139 : decode cX6_read 139 = .ok (.invokevirtual 88, 3) := by decide +kernel
theorem dX6_read_142 : decode cX6_read 142 = .ok (.aload_n 0, 1) := by decide +kernel
theorem dX6_read_143 : decode cX6_read 143 = .ok (.getfield 92, 3) := by decide +kernel
theorem dX6_read_146 : decode cX6_read 146 = .ok (.ireturn, 1) := by decide +kernel
theorem dX6_same_0 : decode cX6_same 0 = .ok (.iconst 0, 1) := by decide +kernel
theorem dX6_same_1 : decode cX6_same 1 = .ok (.istore 5, 2) := by decide +kernel
theorem dX6_same_3 : decode cX6_same 3 = .ok (.iload_n 3, 1) := by decide +kernel
theorem dX6_same_4 : decode cX6_same 4 = .ok (.iload 5, 2) := by decide +kernel
theorem dX6_same_6 : decode cX6_same 6 = .ok (.iadd, 1) := by decide +kernel
theorem dX6_same_7 : decode cX6_same 7 = .ok (.iload 4, 2) := by decide +kernel
theorem dX6_same_9 : decode cX6_same 9 = .ok (.if_icmp .ge 64, 3) := by decide +kernel
theorem dX6_same_12 : decode cX6_same 12 = .ok (.iload_n 2, 1) := by decide +kernel
theorem dX6_same_13 : decode cX6_same 13 = .ok (.iload 5, 2) := by decide +kernel
theorem dX6_same_15 : decode cX6_same 15 = .ok (.iadd, 1) := by decide +kernel
theorem dX6_same_16 : decode cX6_same 16 = .ok (.aload_n 1, 1) := by decide +kernel
theorem dX6_same_17 : decode cX6_same 17 = .ok (.invokevirtual 177, 3) := by decide +kernel
theorem dX6_same_20 : decode cX6_same 20 = .ok (.if_icmp .ge 17, 3) := by decide +kernel
theorem dX6_same_23 : decode cX6_same 23 = .ok (.iload_n 3, 1) := by decide +kernel
theorem dX6_same_24 : decode cX6_same 24 = .ok (.iload 5, 2) := by decide +kernel
theorem dX6_same_26 : decode cX6_same 26 = .ok (.iadd, 1) := by decide +kernel
theorem dX6_same_27 : decode cX6_same 27 = .ok (.sipush 400, 3) := by decide +kernel
theorem dX6_same_30 : decode cX6_same 30 = .ok (.if_icmp .ge 7, 3) := by decide +kernel
theorem dX6_same_33 : decode cX6_same 33 = .ok (.iconst 1, 1) := by decide +kernel
theorem dX6_same_34 : decode cX6_same 34 = .ok (.goto 4, 3) := by decide +kernel
theorem dX6_same_37 : decode cX6_same 37 = .ok (.iconst 0, 1) := by decide +kernel
theorem dX6_same_38 : decode cX6_same 38 = .ok (.istore 6, 2) := by decide +kernel
theorem dX6_same_40 : decode cX6_same 40 = .ok (.iload 6, 2) := by decide +kernel
theorem dX6_same_42 : decode cX6_same 42 = .ok (.ifCond .eq 23, 3) := by decide +kernel
theorem dX6_same_45 : decode cX6_same 45 = .ok (.aload_n 1, 1) := by decide +kernel
theorem dX6_same_46 : decode cX6_same 46 = .ok (.iload_n 2, 1) := by decide +kernel
theorem dX6_same_47 : decode cX6_same 47 = .ok (.iload 5, 2) := by decide +kernel
theorem dX6_same_49 : decode cX6_same 49 = .ok (.iadd, 1) := by decide +kernel
theorem dX6_same_50 : decode cX6_same 50 = .ok (.invokevirtual 180, 3) := by decide +kernel
theorem dX6_same_53 : decode cX6_same 53 = .ok (.aload_n 0, 1) := by decide +kernel
theorem dX6_same_54 : decode cX6_same 54 = .ok (.getfield 11, 3) := by decide +kernel
theorem dX6_same_57 : decode cX6_same 57 = .ok (.iload_n 3, 1) := by decide +kernel
theorem dX6_same_58 : decode cX6_same 58 = .ok (.iload 5, 2) := by decide +kernel
theorem dX6_same_60 : decode cX6_same 60 = .ok (.iadd, 1) := by decide +kernel
theorem dX6_same_61 : decode cX6_same 61 = .ok (.iaload, 1) := by decide +kernel
theorem dX6_same_62 : decode cX6_same 62 = .ok (.if_icmp .eq 5, 3) := by decide +kernel
theorem dX6_same_65 : decode cX6_same 65 = .ok (.iconst 0, 1) := by decide +kernel
theorem dX6_same_66 : decode cX6_same 66 = .ok (.ireturn, 1) := by decide +kernel
theorem dX6_same_67 : decode cX6_same 67 = .ok (.iinc 5 1, 3) := by decide +kernel
theorem dX6_same_70 : decode cX6_same 70 = .ok (.goto (-67), 3) := by decide +kernel
theorem dX6_same_73 : decode cX6_same 73 = .ok (.iconst 1, 1) := by decide +kernel
theorem dX6_same_74 : decode cX6_same 74 = .ok (.ireturn, 1) := by decide +kernel
theorem dX6_single_0 : decode cX6_single 0 = .ok (.iconst 0, 1) := by decide +kernel
theorem dX6_single_1 : decode cX6_single 1 = .ok (.istore_n 2, 1) := by decide +kernel
theorem dX6_single_2 : decode cX6_single 2 = .ok (.iload_n 1, 1) := by decide +kernel
theorem dX6_single_3 : decode cX6_single 3 = .ok (.iload_n 2, 1) := by decide +kernel
theorem dX6_single_4 : decode cX6_single 4 = .ok (.iadd, 1) := by decide +kernel
theorem dX6_single_5 : decode cX6_single 5 = .ok (.bipush 8, 2) := by decide +kernel
theorem dX6_single_7 : decode cX6_single 7 = .ok (.if_icmp .ge 19, 3) := by decide +kernel
theorem dX6_single_10 : decode cX6_single 10 = .ok (.aload_n 0, 1) := by decide +kernel
theorem dX6_single_11 : decode cX6_single 11 = .ok (.sipush 263, 3) := by decide +kernel
theorem dX6_single_14 : decode cX6_single 14 = .ok (.invokevirtual 191, 3) := by decide +kernel
theorem dX6_single_17 : decode cX6_single 17 = .ok (.ifCond .eq 9, 3) := by decide +kernel
theorem dX6_single_20 : decode cX6_single 20 = .ok (.iinc 2 1, 3) := by decide +kernel
theorem dX6_single_23 : decode cX6_single 23 = .ok (.goto (-21), 3) := by decide +kernel
theorem dX6_single_26 : decode cX6_single 26 = .ok (.aload_n 0, 1) := by decide +kernel
theorem dX6_single_27 : decode cX6_single 27 = .ok (.getfield 67, 3) := by decide +kernel
theorem dX6_single_30 : decode cX6_single 30 = .ok (.sipush 263, 3) := by decide +kernel
theorem dX6_single_33 : decode cX6_single 33 = .ok (.if_icmp .eq 12, 3) := by decide +kernel
theorem dX6_single_36 : decode cX6_single 36 = .ok (.aload_n 0, 1) := by decide +kernel
theorem dX6_single_37 : decode cX6_single 37 = .ok (.getfield 67, 3) := by decide +kernel
theorem dX6_single_40 : decode cX6_single 40 = .ok (.bipush 40, 2) := by decide +kernel
theorem dX6_single_42 : decode cX6_single 42 = .ok (.if_icmp .ne 19, 3) := by decide +kernel
theorem dX6_single_45 : decode cX6_single 45 = .ok (.iload_n 1, 1) := by decide +kernel
theorem dX6_single_46 : decode cX6_single 46 = .ok (.iload_n 2, 1) := by decide +kernel
theorem dX6_single_47 : decode cX6_single 47 = .ok (.iadd, 1) := by decide +kernel
theorem dX6_single_48 : decode cX6_single 48 = .ok (.bipush 8, 2) := by decide +kernel
theorem dX6_single_50 : decode cX6_single 50 = .ok (.if_icmp .lt 11, 3) := by decide +kernel
theorem dX6_single_53 : decode cX6_single 53 = .ok (.aload_n 0, 1) := by decide +kernel
theorem dX6_single_54 : decode cX6_single 54 = .ok (.iconst 3, 1) := by decide +kernel
theorem dX6_single_55 : decode cX6_single 55 = .ok (.invokevirtual 194, 3) := by decide +kernel
theorem dX6_single_58 : decode cX6_single 58 = .ok (.goto 108, 3) := by decide +kernel
theorem dX6_single_61 : decode cX6_single 61 = .ok (.aload_n 0, 1) := by decide +kernel
theorem dX6_single_62 : decode cX6_single 62 = .ok (.bipush 40, 2) := by decide +kernel
theorem dX6_single_64 : decode cX6_single 64 = .ok (.invokevirtual 191, 3) := by decide +kernel
theorem dX6_single_67 : decode cX6_single 67 = .ok (.ifCond .eq 21, 3) := by decide +kernel
theorem dX6_single_70 : decode cX6_single 70 = .ok (.aload_n 0, 1) := by decide +kernel
theorem dX6_single_71 : decode cX6_single 71 = .ok (.iload_n 1, 1) := by decide +kernel
theorem dX6_single_72 : decode cX6_single 72 = .ok (.iload_n 2, 1) := by decide +kernel
theorem dX6_single_73 : decode cX6_single 73 = .ok (.iadd, 1) := by decide +kernel
theorem dX6_single_74 : decode cX6_single 74 = .ok (.iconst 1, 1) := by decide +kernel
theorem dX6_single_75 : decode cX6_single 75 = .ok (.iadd, 1) := by decide +kernel
theorem dX6_single_76 : decode cX6_single 76 = .ok (.invokevirtual 210, 3) := by decide +kernel
theorem dX6_single_79 : decode cX6_single 79 = .ok (.aload_n 0, 1) := by decide +kernel
theorem dX6_single_80 : decode cX6_single 80 = .ok (.bipush 41, 2) := by decide +kernel
theorem dX6_single_82 : decode cX6_single 82 = .ok (.invokevirtual 197, 3) := by decide +kernel
theorem dX6_single_85 : decode cX6_single 85 = .ok (.goto 81, 3) := by decide +kernel
theorem dX6_single_88 : decode cX6_single 88 = .ok (.aload_n 0, 1) := by decide +kernel
theorem dX6_single_89 : decode cX6_single 89 = .ok (.invokevirtual 204, 3) := by decide +kernel
theorem dX6_single_92 : decode cX6_single 92 = .ok (.aload_n 0, 1) := by decide +kernel
theorem dX6_single_93 : decode cX6_single 93 = .ok (.getfield 67, 3) := by decide +kernel
theorem dX6_single_96 : decode cX6_single 96 = .ok (.bipush 60, 2) := by decide +kernel
theorem dX6_single_98 : decode cX6_single 98 = .ok (.if_icmp .ne 8, 3) := by decide +kernel
theorem dX6_single_101 : decode cX6_single 101 = .ok (.bipush (-14), 2) := by decide +kernel
theorem dX6_single_103 : decode cX6_single 103 = .ok (.goto 19, 3) := by decide +kernel
theorem dX6_single_106 : decode cX6_single 106 = .ok (.aload_n 0, 1) := by decide +kernel
theorem dX6_single_107 : decode cX6_single 107 = .ok (.getfield 67, 3) := by decide +kernel
theorem dX6_single_110 : decode cX6_single 110 = .ok (.bipush 61, 2) := by decide +kernel
theorem dX6_single_112 : decode cX6_single 112 = .ok (.if_icmp .ne 8, 3) := by decide +kernel
theorem dX6_single_115 : decode cX6_single 115 = .ok (.bipush (-15), 2) := by decide +kernel
theorem dX6_single_117 : decode cX6_single 117 = .ok (.goto 5, 3) := by decide +kernel
theorem dX6_single_120 : decode cX6_single 120 = .ok (.bipush (-16), 2) := by decide +kernel
theorem dX6_single_122 : decode cX6_single 122 = .ok (.istore_n 3, 1) := by decide +kernel
theorem dX6_single_123 : decode cX6_single 123 = .ok (.aload_n 0, 1) := by decide +kernel
theorem dX6_single_124 : decode cX6_single 124 = .ok (.aload_n 0, 1) := by decide +kernel
theorem dX6_single_125 : decode cX6_single 125 = .ok (.getfield 67, 3) := by decide +kernel
theorem dX6_single_128 : decode cX6_single 128 = .ok (.bipush 60, 2) := by decide +kernel
theorem dX6_single_130 : decode cX6_single 130 = .ok (.if_icmp .eq 12, 3) := by decide +kernel
theorem dX6_single_133 : decode cX6_single 133 = .ok (.aload_n 0, 1) := by decide +kernel
theorem dX6_single_134 : decode cX6_single 134 = .ok (.getfield 67, 3) := by decide +kernel
theorem dX6_single_137 : decode cX6_single 137 = .ok (.bipush 61, 2) := by decide +kernel
theorem dX6_single_139 : decode cX6_single 139 = .ok (.if_icmp .ne 10, 3) := by decide +kernel
theorem dX6_single_142 : decode cX6_single 142 = .ok (.aload_n 0, 1) := by decide +kernel
theorem dX6_single_143 : decode cX6_single 143 = .ok (.getfield 67, 3) := by decide +kernel
theorem dX6_single_146 : decode cX6_single 146 = .ok (.goto 5, 3) := by decide +kernel
theorem dX6_single_149 : decode cX6_single 149 = .ok (.bipush 62, 2) := by decide +kernel
theorem dX6_single_151 : decode cX6_single 151 = .ok (.invokevirtual 197, 3) := by decide +kernel
theorem dX6_single_154 : decode cX6_single 154 = .ok (.aload_n 0, 1) := by decide +kernel
theorem dX6_single_155 : decode cX6_single 155 = .ok (.invokevirtual 204, 3) := by decide +kernel
theorem dX6_single_158 : decode cX6_single 158 = .ok (.aload_n 0, 1) := by decide +kernel
theorem dX6_single_159 : decode cX6_single 159 = .ok (.getfield 27, 3) := by decide +kernel
theorem dX6_single_162 : decode cX6_single 162 = .ok (.iload_n 3, 1) := by decide +kernel
theorem dX6_single_163 : decode cX6_single 163 = .ok (.invokevirtual 219, 3) := by decide +kernel
theorem dX6_single_166 : decode cX6_single 166 = .ok (.iconst 0, 1) := by decide +kernel
theorem dX6_single_167 : decode cX6_single 167 = .ok (.istore_n 3, 1) := by decide +kernel
theorem dX6_single_168 : decode cX6_single 168 = .ok (.iload_n 3, 1) := by decide +kernel
theorem dX6_single_169 : decode cX6_single 169 = .ok (.iload_n 2, 1) := by decide +kernel
theorem dX6_single_170 : decode cX6_single 170 = .ok (.if_icmp .ge 24, 3) := by decide +kernel
theorem dX6_single_173 : decode cX6_single 173 = .ok (.iload_n 3, 1) := by decide +kernel
theorem dX6_single_174 : decode cX6_single 174 = .ok (.bipush 8, 2) := by decide +kernel
theorem dX6_single_176 : decode cX6_single 176 = .ok (.if_icmp .ge 18, 3) := by decide +kernel
theorem dX6_single_179 : decode cX6_single 179 = .ok (.aload_n 0, 1) := by decide +kernel
theorem dX6_single_180 : decode cX6_single 180 = .ok (.getfield 27, 3) := by decide +kernel
theorem dX6_single_183 : decode cX6_single 183 = .ok (.bipush (-19), 2) := by decide +kernel
theorem dX6_single_185 : decode cX6_single 185 = .ok (.invokevirtual 219, 3) := by decide +kernel
theorem dX6_single_188 : decode cX6_single 188 = .ok (.iinc 3 1, 3) := by decide +kernel
theorem dX6_single_191 : decode cX6_single 191 = .ok (.goto (-23), 3) := by decide +kernel
theorem dX6_single_194 : decode cX6_single 194 = .ok (.return_, 1) := by decide +kernel
theorem dX6_sum_0 : decode cX6_sum 0 = .ok (.iconst 0, 1) := by decide +kernel
theorem dX6_sum_1 : decode cX6_sum 1 = .ok (.istore_n 1, 1) := by decide +kernel
theorem dX6_sum_2 : decode cX6_sum 2 = .ok (.iconst 1, 1) := by decide +kernel
theorem dX6_sum_3 : decode cX6_sum 3 = .ok (.istore_n 2, 1) := by decide +kernel
theorem dX6_sum_4 : decode cX6_sum 4 = .ok (.iconst 0, 1) := by decide +kernel
theorem dX6_sum_5 : decode cX6_sum 5 = .ok (.istore_n 3, 1) := by decide +kernel
theorem dX6_sum_6 : decode cX6_sum 6 = .ok (.iload_n 3, 1) := by decide +kernel
theorem dX6_sum_7 : decode cX6_sum 7 = .ok (.sipush 400, 3) := by decide +kernel
theorem dX6_sum_10 : decode cX6_sum 10 = .ok (.if_icmp .gt 168, 3) := by decide +kernel
theorem dX6_sum_13 : decode cX6_sum 13 = .ok (.iload_n 2, 1) := by decide +kernel
theorem dX6_sum_14 : decode cX6_sum 14 = .ok (.ifCond .eq 164, 3) := by decide +kernel
theorem dX6_sum_17 : decode cX6_sum 17 = .ok (.aload_n 0, 1) := by decide +kernel
theorem dX6_sum_18 : decode cX6_sum 18 = .ok (.invokevirtual 222, 3) := by decide +kernel
theorem dX6_sum_21 : decode cX6_sum 21 = .ok (.iconst 0, 1) := by decide +kernel
theorem dX6_sum_22 : decode cX6_sum 22 = .ok (.istore 4, 2) := by decide +kernel
theorem dX6_sum_24 : decode cX6_sum 24 = .ok (.iload 4, 2) := by decide +kernel
theorem dX6_sum_26 : decode cX6_sum 26 = .ok (.sipush 400, 3) := by decide +kernel
theorem dX6_sum_29 : decode cX6_sum 29 = .ok (.if_icmp .gt 90, 3) := by decide +kernel
theorem dX6_sum_32 : decode cX6_sum 32 = .ok (.aload_n 0, 1) := by decide +kernel
theorem dX6_sum_33 : decode cX6_sum 33 = .ok (.getfield 67, 3) := by decide +kernel
theorem dX6_sum_36 : decode cX6_sum 36 = .ok (.bipush 42, 2) := by decide +kernel
theorem dX6_sum_38 : decode cX6_sum 38 = .ok (.if_icmp .eq 12, 3) := by decide +kernel
theorem dX6_sum_41 : decode cX6_sum 41 = .ok (.aload_n 0, 1) := by decide +kernel
theorem dX6_sum_42 : decode cX6_sum 42 = .ok (.getfield 67, 3) := by decide +kernel
theorem dX6_sum_45 : decode cX6_sum 45 = .ok (.bipush 47, 2) := by decide +kernel
theorem dX6_sum_47 : decode cX6_sum 47 = .ok (.if_icmp .ne 72, 3) := by decide +kernel
theorem dX6_sum_50 : decode cX6_sum 50 = .ok (.aload_n 0, 1) := by decide +kernel
theorem dX6_sum_51 : decode cX6_sum 51 = .ok (.bipush 42, 2) := by decide +kernel
theorem dX6_sum_53 : decode cX6_sum 53 = .ok (.invokevirtual 191, 3) := by decide +kernel
theorem dX6_sum_56 : decode cX6_sum 56 = .ok (.ifCond .eq 19, 3) := by decide +kernel
theorem dX6_sum_59 : decode cX6_sum 59 = .ok (.aload_n 0, 1) := by decide +kernel
theorem dX6_sum_60 : decode cX6_sum 60 = .ok (.invokevirtual 222, 3) := by decide +kernel
theorem dX6_sum_63 : decode cX6_sum 63 = .ok (.aload_n 0, 1) := by decide +kernel
theorem dX6_sum_64 : decode cX6_sum 64 = .ok (.getfield 27, 3) := by decide +kernel
theorem dX6_sum_67 : decode cX6_sum 67 = .ok (.bipush (-12), 2) := by decide +kernel
theorem dX6_sum_69 : decode cX6_sum 69 = .ok (.invokevirtual 219, 3) := by decide +kernel
theorem dX6_sum_72 : decode cX6_sum 72 = .ok (.goto 41, 3) := by decide +kernel
theorem dX6_sum_75 : decode cX6_sum 75 = .ok (.aload_n 0, 1) := by decide +kernel
theorem dX6_sum_76 : decode cX6_sum 76 = .ok (.aload_n 0, 1) := by decide +kernel
theorem dX6_sum_77 : decode cX6_sum 77 = .ok (.getfield 188, 3) := by decide +kernel
theorem dX6_sum_80 : decode cX6_sum 80 = .ok (.iconst 1, 1) := by decide +kernel
theorem dX6_sum_81 : decode cX6_sum 81 = .ok (.iadd, 1) := by decide +kernel
theorem dX6_sum_82 : decode cX6_sum 82 = .ok (.invokevirtual 95, 3) := by decide +kernel
theorem dX6_sum_85 : decode cX6_sum 85 = .ok (.aload_n 0, 1) := by decide +kernel
theorem dX6_sum_86 : decode cX6_sum 86 = .ok (.getfield 27, 3) := by decide +kernel
theorem dX6_sum_89 : decode cX6_sum 89 = .ok (.iconst 0, 1) := by decide +kernel
theorem dX6_sum_90 : decode cX6_sum 90 = .ok (.aload_n 0, 1) := by decide +kernel
theorem dX6_sum_91 : decode cX6_sum 91 = .ok (.sipush 9999, 3) := by decide +kernel
theorem dX6_sum_94 : decode cX6_sum 94 = .ok (.iconst 0, 1) := by decide +kernel
theorem dX6_sum_95 : decode cX6_sum 95 = .ok (.invokevirtual 225, 3) := by decide +kernel
theorem dX6_sum_98 : decode cX6_sum 98 = .ok (.invokestatic 174, 3) := by decide +kernel
theorem dX6_sum_101 : decode cX6_sum 101 = .ok (.invokevirtual 219, 3) := by decide +kernel
theorem dX6_sum_104 : decode cX6_sum 104 = .ok (.aload_n 0, 1) := by decide +kernel
theorem dX6_sum_105 : decode cX6_sum 105 = .ok (.getfield 27, 3) := by decide +kernel
theorem dX6_sum_108 : decode cX6_sum 108 = .ok (.bipush (-13), 2) := by decide +kernel
theorem dX6_sum_110 : decode cX6_sum 110 = .ok (.invokevirtual 219, 3) := by decide +kernel
theorem dX6_sum_113 : decode cX6_sum 113 = .ok (.iinc 4 1, 3) := by decide +kernel
theorem dX6_sum_116 : decode cX6_sum 116 = .ok (.goto (-92), 3) := by decide +kernel
theorem dX6_sum_119 : decode cX6_sum 119 = .ok (.iload_n 1, 1) := by decide +kernel
theorem dX6_sum_120 : decode cX6_sum 120 = .ok (.ifCond .eq 11, 3) := by decide +kernel
theorem dX6_sum_123 : decode cX6_sum 123 = .ok (.aload_n 0, 1) := by decide +kernel
theorem dX6_sum_124 : decode cX6_sum 124 = .ok (.getfield 27, 3) := by decide +kernel
theorem dX6_sum_127 : decode cX6_sum 127 = .ok (.iload_n 1, 1) := by decide +kernel
theorem dX6_sum_128 : decode cX6_sum 128 = .ok (.invokevirtual 219, 3) := by decide +kernel
theorem dX6_sum_131 : decode cX6_sum 131 = .ok (.aload_n 0, 1) := by decide +kernel
theorem dX6_sum_132 : decode cX6_sum 132 = .ok (.getfield 67, 3) := by decide +kernel
theorem dX6_sum_135 : decode cX6_sum 135 = .ok (.bipush 43, 2) := by decide +kernel
theorem dX6_sum_137 : decode cX6_sum 137 = .ok (.if_icmp .ne 8, 3) := by decide +kernel
theorem dX6_sum_140 : decode cX6_sum 140 = .ok (.bipush (-10), 2) := by decide +kernel
theorem dX6_sum_142 : decode cX6_sum 142 = .ok (.goto 5, 3) := by decide +kernel
theorem dX6_sum_145 : decode cX6_sum 145 = .ok (.bipush (-11), 2) := by decide +kernel
theorem dX6_sum_147 : decode cX6_sum 147 = .ok (.istore_n 1, 1) := by decide +kernel
theorem dX6_sum_148 : decode cX6_sum 148 = .ok (.aload_n 0, 1) := by decide +kernel
theorem dX6_sum_149 : decode cX6_sum 149 = .ok (.bipush 43, 2) := by decide +kernel
theorem dX6_sum_151 : decode cX6_sum 151 = .ok (.invokevirtual 191, 3) := by decide +kernel
theorem dX6_sum_154 : decode cX6_sum 154 = .ok (.ifCond .ne 12, 3) := by decide +kernel
theorem dX6_sum_157 : decode cX6_sum 157 = .ok (.aload_n 0, 1) := by decide +kernel
theorem dX6_sum_158 : decode cX6_sum 158 = .ok (.bipush 45, 2) := by decide +kernel
theorem dX6_sum_160 : decode cX6_sum 160 = .ok (.invokevirtual 191, 3) := by decide +kernel
theorem dX6_sum_163 : decode cX6_sum 163 = .ok (.ifCond .eq 7, 3) := by decide +kernel
theorem dX6_sum_166 : decode cX6_sum 166 = .ok (.iconst 1, 1) := by decide +kernel
theorem dX6_sum_167 : decode cX6_sum 167 = .ok (.goto 4, 3) := by decide +kernel
theorem dX6_sum_170 : decode cX6_sum 170 = .ok (.iconst 0, 1) := by decide +kernel
theorem dX6_sum_171 : decode cX6_sum 171 = .ok (.istore_n 2, 1) := by decide +kernel
theorem dX6_sum_172 : decode cX6_sum 172 = .ok (.iinc 3 1, 3) := by decide +kernel
theorem dX6_sum_175 : decode cX6_sum 175 = .ok (.goto (-169), 3) := by decide +kernel
theorem dX6_sum_178 : decode cX6_sum 178 = .ok (.return_, 1) := by decide +kernel
theorem dX6_take_0 : decode cX6_take 0 = .ok (.aload_n 0, 1) := by decide +kernel
theorem dX6_take_1 : decode cX6_take 1 = .ok (.getfield 67, 3) := by decide +kernel
theorem dX6_take_4 : decode cX6_take 4 = .ok (.iload_n 1, 1) := by decide +kernel
theorem dX6_take_5 : decode cX6_take 5 = .ok (.if_icmp .eq 5, 3) := by decide +kernel
theorem dX6_take_8 : decode cX6_take 8 = .ok (.iconst 0, 1) := by decide +kernel
theorem dX6_take_9 : decode cX6_take 9 = .ok (.ireturn, 1) := by decide +kernel
theorem dX6_take_10 : decode cX6_take 10 = .ok (.aload_n 0, 1) := by decide +kernel
theorem dX6_take_11 : decode cX6_take 11 = .ok (.aload_n 0, 1) := by decide +kernel
theorem dX6_take_12 : decode cX6_take 12 = .ok (.getfield 188, 3) := by decide +kernel
theorem dX6_take_15 : decode cX6_take 15 = .ok (.iconst 1, 1) := by decide +kernel
theorem dX6_take_16 : decode cX6_take 16 = .ok (.iadd, 1) := by decide +kernel
theorem dX6_take_17 : decode cX6_take 17 = .ok (.invokevirtual 95, 3) := by decide +kernel
theorem dX6_take_20 : decode cX6_take 20 = .ok (.iconst 1, 1) := by decide +kernel
theorem dX6_take_21 : decode cX6_take 21 = .ok (.ireturn, 1) := by decide +kernel
theorem dX6_tellingLine_0 : decode cX6_tellingLine 0 = .ok (.aload_n 0, 1) := by decide +kernel
theorem dX6_tellingLine_1 : decode cX6_tellingLine 1 = .ok (.getfield 188, 3) := by decide +kernel
theorem dX6_tellingLine_4 : decode cX6_tellingLine 4 = .ok (.istore_n 2, 1) := by decide +kernel
theorem dX6_tellingLine_5 : decode cX6_tellingLine 5 = .ok (.aload_n 0, 1) := by decide +kernel
theorem dX6_tellingLine_6 : decode cX6_tellingLine 6 = .ok (.iload_n 1, 1) := by decide +kernel
theorem dX6_tellingLine_7 : decode cX6_tellingLine 7 = .ok (.iconst 1, 1) := by decide +kernel
theorem dX6_tellingLine_8 : decode cX6_tellingLine 8 = .ok (.isub, 1) := by decide +kernel
theorem dX6_tellingLine_9 : decode cX6_tellingLine 9 = .ok (.iconst (-1), 1) := by decide +kernel
theorem dX6_tellingLine_10 : decode cX6_tellingLine 10 = .ok (.invokevirtual 225, 3) := by decide +kernel
theorem dX6_tellingLine_13 : decode cX6_tellingLine 13 = .ok (.istore_n 3, 1) := by decide +kernel
theorem dX6_tellingLine_14 : decode cX6_tellingLine 14 = .ok (.iload_n 3, 1) := by decide +kernel
theorem dX6_tellingLine_15 : decode cX6_tellingLine 15 = .ok (.iconst (-1), 1) := by decide +kernel
theorem dX6_tellingLine_16 : decode cX6_tellingLine 16 = .ok (.if_icmp .eq 22, 3) := by decide +kernel
theorem dX6_tellingLine_19 : decode cX6_tellingLine 19 = .ok (.aload_n 0, 1) := by decide +kernel
theorem dX6_tellingLine_20 : decode cX6_tellingLine 20 = .ok (.getfield 92, 3) := by decide +kernel
theorem dX6_tellingLine_23 : decode cX6_tellingLine 23 = .ok (.bipush 16, 2) := by decide +kernel
theorem dX6_tellingLine_25 : decode cX6_tellingLine 25 = .ok (.if_icmp .ne 13, 3) := by decide +kernel
theorem dX6_tellingLine_28 : decode cX6_tellingLine 28 = .ok (.aload_n 0, 1) := by decide +kernel
theorem dX6_tellingLine_29 : decode cX6_tellingLine 29 = .ok (.iload_n 2, 1) := by decide +kernel
theorem dX6_tellingLine_30 : decode cX6_tellingLine 30 = .ok (.invokevirtual 95, 3) := by decide +kernel
theorem dX6_tellingLine_33 : decode cX6_tellingLine 33 = .ok (.aload_n 0, 1) := by decide +kernel
theorem dX6_tellingLine_34 : decode cX6_tellingLine 34 = .ok (.iconst 3, 1) := by decide +kernel
theorem dX6_tellingLine_35 : decode cX6_tellingLine 35 = .ok (.invokevirtual 194, 3) := by decide +kernel
theorem dX6_tellingLine_38 : decode cX6_tellingLine 38 = .ok (.aload_n 0, 1) := by decide +kernel
theorem dX6_tellingLine_39 : decode cX6_tellingLine 39 = .ok (.sipush 256, 3) := by decide +kernel
theorem dX6_tellingLine_42 : decode cX6_tellingLine 42 = .ok (.invokevirtual 197, 3) := by decide +kernel
theorem dX6_tellingLine_45 : decode cX6_tellingLine 45 = .ok (.iconst 0, 1) := by decide +kernel
theorem dX6_tellingLine_46 : decode cX6_tellingLine 46 = .ok (.istore 4, 2) := by decide +kernel
theorem dX6_tellingLine_48 : decode cX6_tellingLine 48 = .ok (.iconst 1, 1) := by decide +kernel
theorem dX6_tellingLine_49 : decode cX6_tellingLine 49 = .ok (.istore 5, 2) := by decide +kernel
theorem dX6_tellingLine_51 : decode cX6_tellingLine 51 = .ok (.iconst 0, 1) := by decide +kernel
theorem dX6_tellingLine_52 : decode cX6_tellingLine 52 = .ok (.istore 6, 2) := by decide +kernel
theorem dX6_tellingLine_54 : decode cX6_tellingLine 54 = .ok (.iload 6, 2) := by decide +kernel
theorem dX6_tellingLine_56 : decode cX6_tellingLine 56 = .ok (.sipush 400, 3) := by decide +kernel
theorem dX6_tellingLine_59 : decode cX6_tellingLine 59 = .ok (.if_icmp .ge 58, 3) := by decide +kernel
theorem dX6_tellingLine_62 : decode cX6_tellingLine 62 = .ok (.iload 5, 2) := by decide +kernel
theorem dX6_tellingLine_64 : decode cX6_tellingLine 64 = .ok (.ifCond .eq 53, 3) := by decide +kernel
theorem dX6_tellingLine_67 : decode cX6_tellingLine 67 = .ok (.aload_n 0, 1) := by decide +kernel
theorem dX6_tellingLine_68 : decode cX6_tellingLine 68 = .ok (.iload_n 1, 1) := by decide +kernel
theorem dX6_tellingLine_69 : decode cX6_tellingLine 69 = .ok (.iconst 1, 1) := by decide +kernel
theorem dX6_tellingLine_70 : decode cX6_tellingLine 70 = .ok (.isub, 1) := by decide +kernel
theorem dX6_tellingLine_71 : decode cX6_tellingLine 71 = .ok (.iload_n 3, 1) := by decide +kernel
theorem dX6_tellingLine_72 : decode cX6_tellingLine 72 = .ok (.invokevirtual 225, 3) := by decide +kernel
theorem dX6_tellingLine_75 : decode cX6_tellingLine 75 = .ok (.istore 7, 2) := by decide +kernel
theorem dX6_tellingLine_77 : decode cX6_tellingLine 77 = .ok (.iload 4, 2) := by decide +kernel
theorem dX6_tellingLine_79 : decode cX6_tellingLine 79 = .ok (.iload 7, 2) := by decide +kernel
theorem dX6_tellingLine_81 : decode cX6_tellingLine 81 = .ok (.ifCond .lt 17, 3) := by decide +kernel
theorem dX6_tellingLine_84 : decode cX6_tellingLine 84 = .ok (.iload 7, 2) := by decide +kernel
theorem dX6_tellingLine_86 : decode cX6_tellingLine 86 = .ok (.bipush 12, 2) := by decide +kernel
theorem dX6_tellingLine_88 : decode cX6_tellingLine 88 = .ok (.if_icmp .ge 10, 3) := by decide +kernel
theorem dX6_tellingLine_91 : decode cX6_tellingLine 91 = .ok (.iconst 1, 1) := by decide +kernel
theorem dX6_tellingLine_92 : decode cX6_tellingLine 92 = .ok (.iload 7, 2) := by decide +kernel
theorem dX6_tellingLine_94 : decode cX6_tellingLine 94 = .ok (.ishl, 1) := by decide +kernel
theorem dX6_tellingLine_95 : decode cX6_tellingLine 95 = .ok (.goto 4, 3) := by decide +kernel
theorem dX6_tellingLine_98 : decode cX6_tellingLine 98 = .ok (.iconst 0, 1) := by decide +kernel
theorem dX6_tellingLine_99 : decode cX6_tellingLine 99 = .ok (.ior, 1) := by decide +kernel
theorem dX6_tellingLine_100 : decode cX6_tellingLine 100 = .ok (.istore 4, 2) := by decide +kernel
theorem dX6_tellingLine_102 : decode cX6_tellingLine 102 = .ok (.aload_n 0, 1) := by decide +kernel
theorem dX6_tellingLine_103 : decode cX6_tellingLine 103 = .ok (.sipush 257, 3) := by decide +kernel
theorem dX6_tellingLine_106 : decode cX6_tellingLine 106 = .ok (.invokevirtual 191, 3) := by decide +kernel
theorem dX6_tellingLine_109 : decode cX6_tellingLine 109 = .ok (.istore 5, 2) := by decide +kernel
theorem dX6_tellingLine_111 : decode cX6_tellingLine 111 = .ok (.iinc 6 1, 3) := by decide +kernel
theorem dX6_tellingLine_114 : decode cX6_tellingLine 114 = .ok (.goto (-60), 3) := by decide +kernel
theorem dX6_tellingLine_117 : decode cX6_tellingLine 117 = .ok (.aload_n 0, 1) := by decide +kernel
theorem dX6_tellingLine_118 : decode cX6_tellingLine 118 = .ok (.bipush 59, 2) := by decide +kernel
theorem dX6_tellingLine_120 : decode cX6_tellingLine 120 = .ok (.invokevirtual 197, 3) := by decide +kernel
theorem dX6_tellingLine_123 : decode cX6_tellingLine 123 = .ok (.aload_n 0, 1) := by decide +kernel
theorem dX6_tellingLine_124 : decode cX6_tellingLine 124 = .ok (.getfield 57, 3) := by decide +kernel
theorem dX6_tellingLine_127 : decode cX6_tellingLine 127 = .ok (.ifCond .ne 24, 3) := by decide +kernel
theorem dX6_tellingLine_130 : decode cX6_tellingLine 130 = .ok (.iload_n 3, 1) := by decide +kernel
theorem dX6_tellingLine_131 : decode cX6_tellingLine 131 = .ok (.ifCond .lt 20, 3) := by decide +kernel
theorem dX6_tellingLine_134 : decode cX6_tellingLine 134 = .ok (.iload_n 3, 1) := by decide +kernel
theorem dX6_tellingLine_135 : decode cX6_tellingLine 135 = .ok (.bipush 12, 2) := by decide +kernel
theorem dX6_tellingLine_137 : decode cX6_tellingLine 137 = .ok (.if_icmp .ge 14, 3) := by decide +kernel
theorem dX6_tellingLine_140 : decode cX6_tellingLine 140 = .ok (.aload_n 0, 1) := by decide +kernel
theorem dX6_tellingLine_141 : decode cX6_tellingLine 141 = .ok (.getfield 38, 3) := by decide +kernel
theorem dX6_tellingLine_144 : decode cX6_tellingLine 144 = .ok (.iload_n 3, 1) := by decide +kernel
theorem dX6_tellingLine_145 : decode cX6_tellingLine 145 = .ok (.dup2, 1) := by decide +kernel
theorem dX6_tellingLine_146 : decode cX6_tellingLine 146 = .ok (.iaload, 1) := by decide +kernel
theorem dX6_tellingLine_147 : decode cX6_tellingLine 147 = .ok (.iload 4, 2) := by decide +kernel
theorem dX6_tellingLine_149 : decode cX6_tellingLine 149 = .ok (.ior, 1) := by decide +kernel
theorem dX6_tellingLine_150 : decode cX6_tellingLine 150 = .ok (.iastore, 1) := by decide +kernel
theorem dX6_tellingLine_151 : decode cX6_tellingLine 151 = .ok (.aload_n 0, 1) := by decide +kernel
theorem dX6_tellingLine_152 : decode cX6_tellingLine 152 = .ok (.dup, 1) := by decide +kernel
theorem dX6_tellingLine_153 : decode cX6_tellingLine 153 = .ok (.getfield 92, 3) := by decide +kernel
theorem dX6_tellingLine_156 : decode cX6_tellingLine 156 = .ok (.iconst 1, 1) := by decide +kernel
theorem dX6_tellingLine_157 : decode cX6_tellingLine 157 = .ok (.iadd, 1) := by decide +kernel
theorem dX6_tellingLine_158 : decode cX6_tellingLine 158 = .ok (.putfield 92, 3) := by decide +kernel
theorem dX6_tellingLine_161 : decode cX6_tellingLine 161 = .ok (.return_, 1) := by decide +kernel
theorem dX6_token_0 : decode cX6_token 0 = .ok (.aload_n 0, 1) := by decide +kernel
theorem dX6_token_1 : decode cX6_token 1 = .ok (.getfield 135, 3) := by decide +kernel
theorem dX6_token_4 : decode cX6_token 4 = .ok (.ifCond .lt 55, 3) := by decide +kernel
theorem dX6_token_7 : decode cX6_token 7 = .ok (.aload_n 0, 1) := by decide +kernel
theorem dX6_token_8 : decode cX6_token 8 = .ok (.getfield 135, 3) := by decide +kernel
theorem dX6_token_11 : decode cX6_token 11 = .ok (.aload_n 0, 1) := by decide +kernel
theorem dX6_token_12 : decode cX6_token 12 = .ok (.getfield 15, 3) := by decide +kernel
theorem dX6_token_15 : decode cX6_token 15 = .ok (.arraylength, 1) := by decide +kernel
theorem dX6_token_16 : decode cX6_token 16 = .ok (.if_icmp .ge 43, 3) := by decide +kernel
theorem dX6_token_19 : decode cX6_token 19 = .ok (.aload_n 0, 1) := by decide +kernel
theorem dX6_token_20 : decode cX6_token 20 = .ok (.getfield 15, 3) := by decide +kernel
theorem dX6_token_23 : decode cX6_token 23 = .ok (.aload_n 0, 1) := by decide +kernel
theorem dX6_token_24 : decode cX6_token 24 = .ok (.getfield 135, 3) := by decide +kernel
theorem dX6_token_27 : decode cX6_token 27 = .ok (.iload_n 1, 1) := by decide +kernel
theorem dX6_token_28 : decode cX6_token 28 = .ok (.iastore, 1) := by decide +kernel
theorem dX6_token_29 : decode cX6_token 29 = .ok (.aload_n 0, 1) := by decide +kernel
theorem dX6_token_30 : decode cX6_token 30 = .ok (.getfield 18, 3) := by decide +kernel
theorem dX6_token_33 : decode cX6_token 33 = .ok (.aload_n 0, 1) := by decide +kernel
theorem dX6_token_34 : decode cX6_token 34 = .ok (.getfield 135, 3) := by decide +kernel
theorem dX6_token_37 : decode cX6_token 37 = .ok (.iload_n 2, 1) := by decide +kernel
theorem dX6_token_38 : decode cX6_token 38 = .ok (.iastore, 1) := by decide +kernel
theorem dX6_token_39 : decode cX6_token 39 = .ok (.aload_n 0, 1) := by decide +kernel
theorem dX6_token_40 : decode cX6_token 40 = .ok (.getfield 21, 3) := by decide +kernel
theorem dX6_token_43 : decode cX6_token 43 = .ok (.aload_n 0, 1) := by decide +kernel
theorem dX6_token_44 : decode cX6_token 44 = .ok (.getfield 135, 3) := by decide +kernel
theorem dX6_token_47 : decode cX6_token 47 = .ok (.iload_n 3, 1) := by decide +kernel
theorem dX6_token_48 : decode cX6_token 48 = .ok (.iastore, 1) := by decide +kernel
theorem dX6_token_49 : decode cX6_token 49 = .ok (.aload_n 0, 1) := by decide +kernel
theorem dX6_token_50 : decode cX6_token 50 = .ok (.dup, 1) := by decide +kernel
theorem dX6_token_51 : decode cX6_token 51 = .ok (.getfield 135, 3) := by decide +kernel
theorem dX6_token_54 : decode cX6_token 54 = .ok (.iconst 1, 1) := by decide +kernel
theorem dX6_token_55 : decode cX6_token 55 = .ok (.iadd, 1) := by decide +kernel
theorem dX6_token_56 : decode cX6_token 56 = .ok (.putfield 135, 3) := by decide +kernel
theorem dX6_token_59 : decode cX6_token 59 = .ok (.return_, 1) := by decide +kernel
theorem dX6_unit_0 : decode cX6_unit 0 = .ok (.aload_n 0, 1) := by decide +kernel
theorem dX6_unit_1 : decode cX6_unit 1 = .ok (.getfield 67, 3) := by decide +kernel
theorem dX6_unit_4 : decode cX6_unit 4 = .ok (.sipush 264, 3) := by decide +kernel
theorem dX6_unit_7 : decode cX6_unit 7 = .ok (.isub, 1) := by decide +kernel
theorem dX6_unit_8 : decode cX6_unit 8 = .ok (.istore_n 1, 1) := by decide +kernel
theorem dX6_unit_9 : decode cX6_unit 9 = .ok (.iload_n 1, 1) := by decide +kernel
theorem dX6_unit_10 : decode cX6_unit 10 = .ok (.ifCond .lt 32, 3) := by decide +kernel
theorem dX6_unit_13 : decode cX6_unit 13 = .ok (.iload_n 1, 1) := by decide +kernel
theorem dX6_unit_14 : decode cX6_unit 14 = .ok (.bipush 9, 2) := by decide +kernel
theorem dX6_unit_16 : decode cX6_unit 16 = .ok (.if_icmp .ge 26, 3) := by decide +kernel
theorem dX6_unit_19 : decode cX6_unit 19 = .ok (.aload_n 0, 1) := by decide +kernel
theorem dX6_unit_20 : decode cX6_unit 20 = .ok (.getfield 27, 3) := by decide +kernel
theorem dX6_unit_23 : decode cX6_unit 23 = .ok (.iconst (-1), 1) := by decide +kernel
theorem dX6_unit_24 : decode cX6_unit 24 = .ok (.iload_n 1, 1) := by decide +kernel
theorem dX6_unit_25 : decode cX6_unit 25 = .ok (.isub, 1) := by decide +kernel
theorem dX6_unit_26 : decode cX6_unit 26 = .ok (.invokevirtual 219, 3) := by decide +kernel
theorem dX6_unit_29 : decode cX6_unit 29 = .ok (.aload_n 0, 1) := by decide +kernel
theorem dX6_unit_30 : decode cX6_unit 30 = .ok (.aload_n 0, 1) := by decide +kernel
theorem dX6_unit_31 : decode cX6_unit 31 = .ok (.getfield 188, 3) := by decide +kernel
theorem dX6_unit_34 : decode cX6_unit 34 = .ok (.iconst 1, 1) := by decide +kernel
theorem dX6_unit_35 : decode cX6_unit 35 = .ok (.iadd, 1) := by decide +kernel
theorem dX6_unit_36 : decode cX6_unit 36 = .ok (.invokevirtual 95, 3) := by decide +kernel
theorem dX6_unit_39 : decode cX6_unit 39 = .ok (.goto 64, 3) := by decide +kernel
theorem dX6_unit_42 : decode cX6_unit 42 = .ok (.aload_n 0, 1) := by decide +kernel
theorem dX6_unit_43 : decode cX6_unit 43 = .ok (.getfield 67, 3) := by decide +kernel
theorem dX6_unit_46 : decode cX6_unit 46 = .ok (.iconst 1, 1) := by decide +kernel
theorem dX6_unit_47 : decode cX6_unit 47 = .ok (.if_icmp .ne 51, 3) := by decide +kernel
theorem dX6_unit_50 : decode cX6_unit 50 = .ok (.aload_n 0, 1) := by decide +kernel
theorem dX6_unit_51 : decode cX6_unit 51 = .ok (.getfield 188, 3) := by decide +kernel
theorem dX6_unit_54 : decode cX6_unit 54 = .ok (.ifCond .lt 44, 3) := by decide +kernel
theorem dX6_unit_57 : decode cX6_unit 57 = .ok (.aload_n 0, 1) := by decide +kernel
theorem dX6_unit_58 : decode cX6_unit 58 = .ok (.getfield 188, 3) := by decide +kernel
theorem dX6_unit_61 : decode cX6_unit 61 = .ok (.aload_n 0, 1) := by decide +kernel
theorem dX6_unit_62 : decode cX6_unit 62 = .ok (.getfield 21, 3) := by decide +kernel
theorem dX6_unit_65 : decode cX6_unit 65 = .ok (.arraylength, 1) := by decide +kernel
theorem dX6_unit_66 : decode cX6_unit 66 = .ok (.if_icmp .ge 32, 3) := by decide +kernel
theorem dX6_unit_69 : decode cX6_unit 69 = .ok (.aload_n 0, 1) := by decide +kernel
theorem dX6_unit_70 : decode cX6_unit 70 = .ok (.getfield 27, 3) := by decide +kernel
theorem dX6_unit_73 : decode cX6_unit 73 = .ok (.aload_n 0, 1) := by decide +kernel
theorem dX6_unit_74 : decode cX6_unit 74 = .ok (.getfield 21, 3) := by decide +kernel
theorem dX6_unit_77 : decode cX6_unit 77 = .ok (.aload_n 0, 1) := by decide +kernel
theorem dX6_unit_78 : decode cX6_unit 78 = .ok (.getfield 188, 3) := by decide +kernel
theorem dX6_unit_81 : decode cX6_unit 81 = .ok (.iaload, 1) := by decide +kernel
theorem dX6_unit_82 : decode cX6_unit 82 = .ok (.invokevirtual 219, 3) := by decide +kernel
theorem dX6_unit_85 : decode cX6_unit 85 = .ok (.aload_n 0, 1) := by decide +kernel
theorem dX6_unit_86 : decode cX6_unit 86 = .ok (.aload_n 0, 1) := by decide +kernel
theorem dX6_unit_87 : decode cX6_unit 87 = .ok (.getfield 188, 3) := by decide +kernel
theorem dX6_unit_90 : decode cX6_unit 90 = .ok (.iconst 1, 1) := by decide +kernel
theorem dX6_unit_91 : decode cX6_unit 91 = .ok (.iadd, 1) := by decide +kernel
theorem dX6_unit_92 : decode cX6_unit 92 = .ok (.invokevirtual 95, 3) := by decide +kernel
theorem dX6_unit_95 : decode cX6_unit 95 = .ok (.goto 8, 3) := by decide +kernel
theorem dX6_unit_98 : decode cX6_unit 98 = .ok (.aload_n 0, 1) := by decide +kernel
theorem dX6_unit_99 : decode cX6_unit 99 = .ok (.iconst 1, 1) := by decide +kernel
theorem dX6_unit_100 : decode cX6_unit 100 = .ok (.invokevirtual 194, 3) := by decide +kernel
theorem dX6_unit_103 : decode cX6_unit 103 = .ok (.return_, 1) := by decide +kernel
theorem dX6_value_0 : decode cX6_value 0 = .ok (.iconst 0, 1) := by decide +kernel
theorem dX6_value_1 : decode cX6_value 1 = .ok (.istore_n 3, 1) := by decide +kernel
theorem dX6_value_2 : decode cX6_value 2 = .ok (.iconst 0, 1) := by decide +kernel
theorem dX6_value_3 : decode cX6_value 3 = .ok (.iload_n 1, 1) := by decide +kernel
theorem dX6_value_4 : decode cX6_value 4 = .ok (.invokestatic 174, 3) := by decide +kernel
theorem dX6_value_7 : decode cX6_value 7 = .ok (.istore 4, 2) := by decide +kernel
theorem dX6_value_9 : decode cX6_value 9 = .ok (.iload 4, 2) := by decide +kernel
theorem dX6_value_11 : decode cX6_value 11 = .ok (.iload_n 2, 1) := by decide +kernel
theorem dX6_value_12 : decode cX6_value 12 = .ok (.if_icmp .ge 41, 3) := by decide +kernel
theorem dX6_value_15 : decode cX6_value 15 = .ok (.iload 4, 2) := by decide +kernel
theorem dX6_value_17 : decode cX6_value 17 = .ok (.iload_n 1, 1) := by decide +kernel
theorem dX6_value_18 : decode cX6_value 18 = .ok (.iconst 4, 1) := by decide +kernel
theorem dX6_value_19 : decode cX6_value 19 = .ok (.iadd, 1) := by decide +kernel
theorem dX6_value_20 : decode cX6_value 20 = .ok (.if_icmp .ge 33, 3) := by decide +kernel
theorem dX6_value_23 : decode cX6_value 23 = .ok (.iload 4, 2) := by decide +kernel
theorem dX6_value_25 : decode cX6_value 25 = .ok (.sipush 400, 3) := by decide +kernel
theorem dX6_value_28 : decode cX6_value 28 = .ok (.if_icmp .ge 25, 3) := by decide +kernel
theorem dX6_value_31 : decode cX6_value 31 = .ok (.iload_n 3, 1) := by decide +kernel
theorem dX6_value_32 : decode cX6_value 32 = .ok (.bipush 10, 2) := by decide +kernel
theorem dX6_value_34 : decode cX6_value 34 = .ok (.imul, 1) := by decide +kernel
theorem dX6_value_35 : decode cX6_value 35 = .ok (.aload_n 0, 1) := by decide +kernel
theorem dX6_value_36 : decode cX6_value 36 = .ok (.getfield 11, 3) := by decide +kernel
theorem dX6_value_39 : decode cX6_value 39 = .ok (.iload 4, 2) := by decide +kernel
theorem dX6_value_41 : decode cX6_value 41 = .ok (.iaload, 1) := by decide +kernel
theorem dX6_value_42 : decode cX6_value 42 = .ok (.iadd, 1) := by decide +kernel
theorem dX6_value_43 : decode cX6_value 43 = .ok (.bipush 48, 2) := by decide +kernel
theorem dX6_value_45 : decode cX6_value 45 = .ok (.isub, 1) := by decide +kernel
theorem dX6_value_46 : decode cX6_value 46 = .ok (.istore_n 3, 1) := by decide +kernel
theorem dX6_value_47 : decode cX6_value 47 = .ok (.iinc 4 1, 3) := by decide +kernel
theorem dX6_value_50 : decode cX6_value 50 = .ok (.goto (-41), 3) := by decide +kernel
theorem dX6_value_53 : decode cX6_value 53 = .ok (.iload_n 3, 1) := by decide +kernel
theorem dX6_value_54 : decode cX6_value 54 = .ok (.ireturn, 1) := by decide +kernel
theorem dX6_weightLine_0 : decode cX6_weightLine 0 = .ok (.aload_n 0, 1) := by decide +kernel
theorem dX6_weightLine_1 : decode cX6_weightLine 1 = .ok (.sipush 256, 3) := by decide +kernel
theorem dX6_weightLine_4 : decode cX6_weightLine 4 = .ok (.invokevirtual 200, 3) := by decide +kernel
theorem dX6_weightLine_7 : decode cX6_weightLine 7 = .ok (.aload_n 0, 1) := by decide +kernel
theorem dX6_weightLine_8 : decode cX6_weightLine 8 = .ok (.bipush 7, 2) := by decide +kernel
theorem dX6_weightLine_10 : decode cX6_weightLine 10 = .ok (.iconst (-1), 1) := by decide +kernel
theorem dX6_weightLine_11 : decode cX6_weightLine 11 = .ok (.invokevirtual 225, 3) := by decide +kernel
theorem dX6_weightLine_14 : decode cX6_weightLine 14 = .ok (.istore_n 1, 1) := by decide +kernel
theorem dX6_weightLine_15 : decode cX6_weightLine 15 = .ok (.aload_n 0, 1) := by decide +kernel
theorem dX6_weightLine_16 : decode cX6_weightLine 16 = .ok (.sipush 257, 3) := by decide +kernel
theorem dX6_weightLine_19 : decode cX6_weightLine 19 = .ok (.invokevirtual 197, 3) := by decide +kernel
theorem dX6_weightLine_22 : decode cX6_weightLine 22 = .ok (.aload_n 0, 1) := by decide +kernel
theorem dX6_weightLine_23 : decode cX6_weightLine 23 = .ok (.bipush 99, 2) := by decide +kernel
theorem dX6_weightLine_25 : decode cX6_weightLine 25 = .ok (.iconst (-1), 1) := by decide +kernel
theorem dX6_weightLine_26 : decode cX6_weightLine 26 = .ok (.invokevirtual 225, 3) := by decide +kernel
theorem dX6_weightLine_29 : decode cX6_weightLine 29 = .ok (.istore_n 2, 1) := by decide +kernel
theorem dX6_weightLine_30 : decode cX6_weightLine 30 = .ok (.aload_n 0, 1) := by decide +kernel
theorem dX6_weightLine_31 : decode cX6_weightLine 31 = .ok (.bipush 59, 2) := by decide +kernel
theorem dX6_weightLine_33 : decode cX6_weightLine 33 = .ok (.invokevirtual 197, 3) := by decide +kernel
theorem dX6_weightLine_36 : decode cX6_weightLine 36 = .ok (.aload_n 0, 1) := by decide +kernel
theorem dX6_weightLine_37 : decode cX6_weightLine 37 = .ok (.getfield 57, 3) := by decide +kernel
theorem dX6_weightLine_40 : decode cX6_weightLine 40 = .ok (.ifCond .ne 17, 3) := by decide +kernel
theorem dX6_weightLine_43 : decode cX6_weightLine 43 = .ok (.iload_n 1, 1) := by decide +kernel
theorem dX6_weightLine_44 : decode cX6_weightLine 44 = .ok (.invokestatic 228, 3) := by decide +kernel
theorem dX6_weightLine_47 : decode cX6_weightLine 47 = .ok (.ifCond .eq 10, 3) := by decide +kernel
theorem dX6_weightLine_50 : decode cX6_weightLine 50 = .ok (.aload_n 0, 1) := by decide +kernel
theorem dX6_weightLine_51 : decode cX6_weightLine 51 = .ok (.getfield 41, 3) := by decide +kernel
theorem dX6_weightLine_54 : decode cX6_weightLine 54 = .ok (.iload_n 1, 1) := by decide +kernel
theorem dX6_weightLine_55 : decode cX6_weightLine 55 = .ok (.iload_n 2, 1) := by decide +kernel
theorem dX6_weightLine_56 : decode cX6_weightLine 56 = .ok (.iastore, 1) := by decide +kernel
theorem dX6_weightLine_57 : decode cX6_weightLine 57 = .ok (.aload_n 0, 1) := by decide +kernel
theorem dX6_weightLine_58 : decode cX6_weightLine 58 = .ok (.dup, 1) := by decide +kernel
theorem dX6_weightLine_59 : decode cX6_weightLine 59 = .ok (.getfield 92, 3) := by decide +kernel
theorem dX6_weightLine_62 : decode cX6_weightLine 62 = .ok (.iconst 1, 1) := by decide +kernel
theorem dX6_weightLine_63 : decode cX6_weightLine 63 = .ok (.iadd, 1) := by decide +kernel
theorem dX6_weightLine_64 : decode cX6_weightLine 64 = .ok (.putfield 92, 3) := by decide +kernel
theorem dX6_weightLine_67 : decode cX6_weightLine 67 = .ok (.return_, 1) := by decide +kernel
theorem dX7_init_0 : decode cX7_init 0 = .ok (.aload_n 0, 1) := by decide +kernel
theorem dX7_init_1 : decode cX7_init 1 = .ok (.invokespecial 3, 3) := by decide +kernel
theorem dX7_init_4 : decode cX7_init 4 = .ok (.aload_n 0, 1) := by decide +kernel
theorem dX7_init_5 : decode cX7_init 5 = .ok (.sipush 144, 3) := by decide +kernel
theorem dX7_init_8 : decode cX7_init 8 = .ok (.newarray .int, 2) := by decide +kernel
theorem dX7_init_10 : decode cX7_init 10 = .ok (.putfield 9, 3) := by decide +kernel
theorem dX7_init_13 : decode cX7_init 13 = .ok (.aload_n 0, 1) := by decide +kernel
theorem dX7_init_14 : decode cX7_init 14 = .ok (.bipush 12, 2) := by decide +kernel
theorem dX7_init_16 : decode cX7_init 16 = .ok (.newarray .int, 2) := by decide +kernel
theorem dX7_init_18 : decode cX7_init 18 = .ok (.putfield 15, 3) := by decide +kernel
theorem dX7_init_21 : decode cX7_init 21 = .ok (.aload_n 0, 1) := by decide +kernel
theorem dX7_init_22 : decode cX7_init 22 = .ok (.bipush 12, 2) := by decide +kernel
theorem dX7_init_24 : decode cX7_init 24 = .ok (.newarray .int, 2) := by decide +kernel
theorem dX7_init_26 : decode cX7_init 26 = .ok (.putfield 18, 3) := by decide +kernel
theorem dX7_init_29 : decode cX7_init 29 = .ok (.aload_n 0, 1) := by decide +kernel
theorem dX7_init_30 : decode cX7_init 30 = .ok (.bipush 12, 2) := by decide +kernel
theorem dX7_init_32 : decode cX7_init 32 = .ok (.newarray .int, 2) := by decide +kernel
theorem dX7_init_34 : decode cX7_init 34 = .ok (.putfield 21, 3) := by decide +kernel
theorem dX7_init_37 : decode cX7_init 37 = .ok (.aload_n 0, 1) := by decide +kernel
theorem dX7_init_38 : decode cX7_init 38 = .ok (.bipush 12, 2) := by decide +kernel
theorem dX7_init_40 : decode cX7_init 40 = .ok (.newarray .int, 2) := by decide +kernel
theorem dX7_init_42 : decode cX7_init 42 = .ok (.putfield 24, 3) := by decide +kernel
theorem dX7_init_45 : decode cX7_init 45 = .ok (.aload_n 0, 1) := by decide +kernel
theorem dX7_init_46 : decode cX7_init 46 = .ok (.bipush 12, 2) := by decide +kernel
theorem dX7_init_48 : decode cX7_init 48 = .ok (.newarray .int, 2) := by decide +kernel
theorem dX7_init_50 : decode cX7_init 50 = .ok (.putfield 27, 3) := by decide +kernel
theorem dX7_init_53 : decode cX7_init 53 = .ok (.aload_n 0, 1) := by decide +kernel
theorem dX7_init_54 : decode cX7_init 54 = .ok (.sipush 4096, 3) := by decide +kernel
theorem dX7_init_57 : decode cX7_init 57 = .ok (.newarray .int, 2) := by decide +kernel
theorem dX7_init_59 : decode cX7_init 59 = .ok (.putfield 30, 3) := by decide +kernel
theorem dX7_init_62 : decode cX7_init 62 = .ok (.aload_n 0, 1) := by decide +kernel
theorem dX7_init_63 : decode cX7_init 63 = .ok (.bipush 9, 2) := by decide +kernel
theorem dX7_init_65 : decode cX7_init 65 = .ok (.newarray .int, 2) := by decide +kernel
theorem dX7_init_67 : decode cX7_init 67 = .ok (.putfield 33, 3) := by decide +kernel
theorem dX7_init_70 : decode cX7_init 70 = .ok (.aload_n 0, 1) := by decide +kernel
theorem dX7_init_71 : decode cX7_init 71 = .ok (.aload_n 1, 1) := by decide +kernel
theorem dX7_init_72 : decode cX7_init 72 = .ok (.putfield 36, 3) := by decide +kernel
theorem dX7_init_75 : decode cX7_init 75 = .ok (.aload_n 0, 1) := by decide +kernel
theorem dX7_init_76 : decode cX7_init 76 = .ok (.aload_n 2, 1) := by decide +kernel
theorem dX7_init_77 : decode cX7_init 77 = .ok (.putfield 40, 3) := by decide +kernel
theorem dX7_init_80 : decode cX7_init 80 = .ok (.aload_n 0, 1) := by decide +kernel
theorem dX7_init_81 : decode cX7_init 81 = .ok (.aload_n 3, 1) := by decide +kernel
theorem dX7_init_82 : decode cX7_init 82 = .ok (.putfield 44, 3) := by decide +kernel
theorem dX7_init_85 : decode cX7_init 85 = .ok (.return_, 1) := by decide +kernel
theorem dX8_init_0 : decode cX8_init 0 = .ok (.aload_n 0, 1) := by decide +kernel
theorem dX8_init_1 : decode cX8_init 1 = .ok (.invokespecial 3, 3) := by decide +kernel
theorem dX8_init_4 : decode cX8_init 4 = .ok (.aload_n 0, 1) := by decide +kernel
theorem dX8_init_5 : decode cX8_init 5 = .ok (.bipush 10, 2) := by decide +kernel
theorem dX8_init_7 : decode cX8_init 7 = .ok (.newarray .int, 2) := by decide +kernel
theorem dX8_init_9 : decode cX8_init 9 = .ok (.putfield 11, 3) := by decide +kernel
theorem dX8_init_12 : decode cX8_init 12 = .ok (.aload_n 0, 1) := by decide +kernel
theorem dX8_init_13 : decode cX8_init 13 = .ok (.bipush 10, 2) := by decide +kernel
theorem dX8_init_15 : decode cX8_init 15 = .ok (.newarray .int, 2) := by decide +kernel
theorem dX8_init_17 : decode cX8_init 17 = .ok (.putfield 15, 3) := by decide +kernel
theorem dX8_init_20 : decode cX8_init 20 = .ok (.aload_n 0, 1) := by decide +kernel
theorem dX8_init_21 : decode cX8_init 21 = .ok (.bipush 10, 2) := by decide +kernel
theorem dX8_init_23 : decode cX8_init 23 = .ok (.newarray .int, 2) := by decide +kernel
theorem dX8_init_25 : decode cX8_init 25 = .ok (.putfield 18, 3) := by decide +kernel
theorem dX8_init_28 : decode cX8_init 28 = .ok (.return_, 1) := by decide +kernel
theorem dX9_hasMan_0 : decode cX9_hasMan 0 = .ok (.iload_n 1, 1) := by decide +kernel
theorem dX9_hasMan_1 : decode cX9_hasMan 1 = .ok (.ifCond .lt 21, 3) := by decide +kernel
theorem dX9_hasMan_4 : decode cX9_hasMan 4 = .ok (.iload_n 1, 1) := by decide +kernel
theorem dX9_hasMan_5 : decode cX9_hasMan 5 = .ok (.aload_n 0, 1) := by decide +kernel
theorem dX9_hasMan_6 : decode cX9_hasMan 6 = .ok (.getfield 58, 3) := by decide +kernel
theorem dX9_hasMan_9 : decode cX9_hasMan 9 = .ok (.if_icmp .ge 13, 3) := by decide +kernel
theorem dX9_hasMan_12 : decode cX9_hasMan 12 = .ok (.iload_n 1, 1) := by decide +kernel
theorem dX9_hasMan_13 : decode cX9_hasMan 13 = .ok (.bipush 12, 2) := by decide +kernel
theorem dX9_hasMan_15 : decode cX9_hasMan 15 = .ok (.if_icmp .ge 7, 3) := by decide +kernel
theorem dX9_hasMan_18 : decode cX9_hasMan 18 = .ok (.iconst 1, 1) := by decide +kernel
theorem dX9_hasMan_19 : decode cX9_hasMan 19 = .ok (.goto 4, 3) := by decide +kernel
theorem dX9_hasMan_22 : decode cX9_hasMan 22 = .ok (.iconst 0, 1) := by decide +kernel
theorem dX9_hasMan_23 : decode cX9_hasMan 23 = .ok (.ireturn, 1) := by decide +kernel
theorem dX9_init_0 : decode cX9_init 0 = .ok (.aload_n 0, 1) := by decide +kernel
theorem dX9_init_1 : decode cX9_init 1 = .ok (.invokespecial 3, 3) := by decide +kernel
theorem dX9_init_4 : decode cX9_init 4 = .ok (.aload_n 0, 1) := by decide +kernel
theorem dX9_init_5 : decode cX9_init 5 = .ok (.bipush 12, 2) := by decide +kernel
theorem dX9_init_7 : decode cX9_init 7 = .ok (.newarray .int, 2) := by decide +kernel
theorem dX9_init_9 : decode cX9_init 9 = .ok (.putfield 9, 3) := by decide +kernel
theorem dX9_init_12 : decode cX9_init 12 = .ok (.aload_n 0, 1) := by decide +kernel
theorem dX9_init_13 : decode cX9_init 13 = .ok (.bipush 12, 2) := by decide +kernel
theorem dX9_init_15 : decode cX9_init 15 = .ok (.newarray .int, 2) := by decide +kernel
theorem dX9_init_17 : decode cX9_init 17 = .ok (.putfield 15, 3) := by decide +kernel
theorem dX9_init_20 : decode cX9_init 20 = .ok (.aload_n 0, 1) := by decide +kernel
theorem dX9_init_21 : decode cX9_init 21 = .ok (.bipush 12, 2) := by decide +kernel
theorem dX9_init_23 : decode cX9_init 23 = .ok (.newarray .int, 2) := by decide +kernel
theorem dX9_init_25 : decode cX9_init 25 = .ok (.putfield 18, 3) := by decide +kernel
theorem dX9_init_28 : decode cX9_init 28 = .ok (.aload_n 0, 1) := by decide +kernel
theorem dX9_init_29 : decode cX9_init 29 = .ok (.bipush 12, 2) := by decide +kernel
theorem dX9_init_31 : decode cX9_init 31 = .ok (.newarray .int, 2) := by decide +kernel
theorem dX9_init_33 : decode cX9_init 33 = .ok (.putfield 21, 3) := by decide +kernel
theorem dX9_init_36 : decode cX9_init 36 = .ok (.aload_n 0, 1) := by decide +kernel
theorem dX9_init_37 : decode cX9_init 37 = .ok (.iconst 2, 1) := by decide +kernel
theorem dX9_init_38 : decode cX9_init 38 = .ok (.newarray .int, 2) := by decide +kernel
theorem dX9_init_40 : decode cX9_init 40 = .ok (.dup, 1) := by decide +kernel
theorem dX9_init_41 : decode cX9_init 41 = .ok (.iconst 0, 1) := by decide +kernel
theorem dX9_init_42 : decode cX9_init 42 = .ok (.iconst 2, 1) := by decide +kernel
theorem dX9_init_43 : decode cX9_init 43 = .ok (.iastore, 1) := by decide +kernel
theorem dX9_init_44 : decode cX9_init 44 = .ok (.dup, 1) := by decide +kernel
theorem dX9_init_45 : decode cX9_init 45 = .ok (.iconst 1, 1) := by decide +kernel
theorem dX9_init_46 : decode cX9_init 46 = .ok (.iconst 2, 1) := by decide +kernel
theorem dX9_init_47 : decode cX9_init 47 = .ok (.iastore, 1) := by decide +kernel
theorem dX9_init_48 : decode cX9_init 48 = .ok (.putfield 24, 3) := by decide +kernel
theorem dX9_init_51 : decode cX9_init 51 = .ok (.aload_n 0, 1) := by decide +kernel
theorem dX9_init_52 : decode cX9_init 52 = .ok (.bipush 8, 2) := by decide +kernel
theorem dX9_init_54 : decode cX9_init 54 = .ok (.newarray .int, 2) := by decide +kernel
theorem dX9_init_56 : decode cX9_init 56 = .ok (.dup, 1) := by decide +kernel
theorem dX9_init_57 : decode cX9_init 57 = .ok (.iconst 0, 1) := by decide +kernel
theorem dX9_init_58 : decode cX9_init 58 = .ok (.iconst 1, 1) := by decide +kernel
theorem dX9_init_59 : decode cX9_init 59 = .ok (.iastore, 1) := by decide +kernel
theorem dX9_init_60 : decode cX9_init 60 = .ok (.dup, 1) := by decide +kernel
theorem dX9_init_61 : decode cX9_init 61 = .ok (.iconst 1, 1) := by decide +kernel
theorem dX9_init_62 : decode cX9_init 62 = .ok (.iconst 1, 1) := by decide +kernel
theorem dX9_init_63 : decode cX9_init 63 = .ok (.iastore, 1) := by decide +kernel
theorem dX9_init_64 : decode cX9_init 64 = .ok (.dup, 1) := by decide +kernel
theorem dX9_init_65 : decode cX9_init 65 = .ok (.iconst 2, 1) := by decide +kernel
theorem dX9_init_66 : decode cX9_init 66 = .ok (.iconst 1, 1) := by decide +kernel
theorem dX9_init_67 : decode cX9_init 67 = .ok (.iastore, 1) := by decide +kernel
theorem dX9_init_68 : decode cX9_init 68 = .ok (.dup, 1) := by decide +kernel
theorem dX9_init_69 : decode cX9_init 69 = .ok (.iconst 3, 1) := by decide +kernel
theorem dX9_init_70 : decode cX9_init 70 = .ok (.iconst 1, 1) := by decide +kernel
theorem dX9_init_71 : decode cX9_init 71 = .ok (.iastore, 1) := by decide +kernel
theorem dX9_init_72 : decode cX9_init 72 = .ok (.dup, 1) := by decide +kernel
theorem dX9_init_73 : decode cX9_init 73 = .ok (.iconst 4, 1) := by decide +kernel
theorem dX9_init_74 : decode cX9_init 74 = .ok (.iconst 1, 1) := by decide +kernel
theorem dX9_init_75 : decode cX9_init 75 = .ok (.iastore, 1) := by decide +kernel
theorem dX9_init_76 : decode cX9_init 76 = .ok (.dup, 1) := by decide +kernel
theorem dX9_init_77 : decode cX9_init 77 = .ok (.iconst 5, 1) := by decide +kernel
theorem dX9_init_78 : decode cX9_init 78 = .ok (.iconst 1, 1) := by decide +kernel
theorem dX9_init_79 : decode cX9_init 79 = .ok (.iastore, 1) := by decide +kernel
theorem dX9_init_80 : decode cX9_init 80 = .ok (.dup, 1) := by decide +kernel
theorem dX9_init_81 : decode cX9_init 81 = .ok (.bipush 6, 2) := by decide +kernel
theorem dX9_init_83 : decode cX9_init 83 = .ok (.iconst 1, 1) := by decide +kernel
theorem dX9_init_84 : decode cX9_init 84 = .ok (.iastore, 1) := by decide +kernel
theorem dX9_init_85 : decode cX9_init 85 = .ok (.dup, 1) := by decide +kernel
theorem dX9_init_86 : decode cX9_init 86 = .ok (.bipush 7, 2) := by decide +kernel
theorem dX9_init_88 : decode cX9_init 88 = .ok (.iconst 1, 1) := by decide +kernel
theorem dX9_init_89 : decode cX9_init 89 = .ok (.iastore, 1) := by decide +kernel
theorem dX9_init_90 : decode cX9_init 90 = .ok (.putfield 27, 3) := by decide +kernel
theorem dX9_init_93 : decode cX9_init 93 = .ok (.aload_n 0, 1) := by decide +kernel
theorem dX9_init_94 : decode cX9_init 94 = .ok (.iconst 1, 1) := by decide +kernel
theorem dX9_init_95 : decode cX9_init 95 = .ok (.putfield 30, 3) := by decide +kernel
theorem dX9_init_98 : decode cX9_init 98 = .ok (.aload_n 0, 1) := by decide +kernel
theorem dX9_init_99 : decode cX9_init 99 = .ok (.iconst 3, 1) := by decide +kernel
theorem dX9_init_100 : decode cX9_init 100 = .ok (.putfield 34, 3) := by decide +kernel
theorem dX9_init_103 : decode cX9_init 103 = .ok (.aload_n 0, 1) := by decide +kernel
theorem dX9_init_104 : decode cX9_init 104 = .ok (.new 37, 3) := by decide +kernel
theorem dX9_init_107 : decode cX9_init 107 = .ok (.dup, 1) := by decide +kernel
theorem dX9_init_108 : decode cX9_init 108 = .ok (.invokespecial 39, 3) := by decide +kernel
theorem dX9_init_111 : decode cX9_init 111 = .ok (.putfield 40, 3) := by decide +kernel
theorem dX9_init_114 : decode cX9_init 114 = .ok (.aload_n 0, 1) := by decide +kernel
theorem dX9_init_115 : decode cX9_init 115 = .ok (.new 44, 3) := by decide +kernel
theorem dX9_init_118 : decode cX9_init 118 = .ok (.dup, 1) := by decide +kernel
theorem dX9_init_119 : decode cX9_init 119 = .ok (.invokespecial 46, 3) := by decide +kernel
theorem dX9_init_122 : decode cX9_init 122 = .ok (.putfield 47, 3) := by decide +kernel
theorem dX9_init_125 : decode cX9_init 125 = .ok (.aload_n 0, 1) := by decide +kernel
theorem dX9_init_126 : decode cX9_init 126 = .ok (.new 51, 3) := by decide +kernel
theorem dX9_init_129 : decode cX9_init 129 = .ok (.dup, 1) := by decide +kernel
theorem dX9_init_130 : decode cX9_init 130 = .ok (.invokespecial 53, 3) := by decide +kernel
theorem dX9_init_133 : decode cX9_init 133 = .ok (.putfield 54, 3) := by decide +kernel
theorem dX9_init_136 : decode cX9_init 136 = .ok (.return_, 1) := by decide +kernel
theorem dX9_isHill_0 : decode cX9_isHill 0 = .ok (.iload_n 1, 1) := by decide +kernel
theorem dX9_isHill_1 : decode cX9_isHill 1 = .ok (.ifCond .lt 24, 3) := by decide +kernel
theorem dX9_isHill_4 : decode cX9_isHill 4 = .ok (.iload_n 1, 1) := by decide +kernel
theorem dX9_isHill_5 : decode cX9_isHill 5 = .ok (.bipush 16, 2) := by decide +kernel
theorem dX9_isHill_7 : decode cX9_isHill 7 = .ok (.if_icmp .ge 18, 3) := by decide +kernel
theorem dX9_isHill_10 : decode cX9_isHill 10 = .ok (.aload_n 0, 1) := by decide +kernel
theorem dX9_isHill_11 : decode cX9_isHill 11 = .ok (.getfield 68, 3) := by decide +kernel
theorem dX9_isHill_14 : decode cX9_isHill 14 = .ok (.iload_n 1, 1) := by decide +kernel
theorem dX9_isHill_15 : decode cX9_isHill 15 = .ok (.invokestatic 105, 3) := by decide +kernel
theorem dX9_isHill_18 : decode cX9_isHill 18 = .ok (.ifCond .eq 7, 3) := by decide +kernel
theorem dX9_isHill_21 : decode cX9_isHill 21 = .ok (.iconst 1, 1) := by decide +kernel
theorem dX9_isHill_22 : decode cX9_isHill 22 = .ok (.goto 4, 3) := by decide +kernel
theorem dX9_isHill_25 : decode cX9_isHill 25 = .ok (.iconst 0, 1) := by decide +kernel
theorem dX9_isHill_26 : decode cX9_isHill 26 = .ok (.ireturn, 1) := by decide +kernel
theorem dX9_mostOf_0 : decode cX9_mostOf 0 = .ok (.iload_n 0, 1) := by decide +kernel
theorem dX9_mostOf_1 : decode cX9_mostOf 1 = .ok (.tableswitch 39 1 4 #[31, 39, 34, 37], 31) := by decide +kernel
theorem dX9_mostOf_32 : decode cX9_mostOf 32 = .ok (.bipush 9, 2) := by decide +kernel
theorem dX9_mostOf_34 : decode cX9_mostOf 34 = .ok (.ireturn, 1) := by decide +kernel
theorem dX9_mostOf_35 : decode cX9_mostOf 35 = .ok (.bipush 9, 2) := by decide +kernel
theorem dX9_mostOf_37 : decode cX9_mostOf 37 = .ok (.ireturn, 1) := by decide +kernel
theorem dX9_mostOf_38 : decode cX9_mostOf 38 = .ok (.iconst 1, 1) := by decide +kernel
theorem dX9_mostOf_39 : decode cX9_mostOf 39 = .ok (.ireturn, 1) := by decide +kernel
theorem dX9_mostOf_40 : decode cX9_mostOf 40 = .ok (.bipush 99, 2) := by decide +kernel
theorem dX9_mostOf_42 : decode cX9_mostOf 42 = .ok (.ireturn, 1) := by decide +kernel
theorem dX9_put_0 : decode cX9_put 0 = .ok (.iload_n 3, 1) := by decide +kernel
theorem dX9_put_1 : decode cX9_put 1 = .ok (.ifCond .lt 11, 3) := by decide +kernel
theorem dX9_put_4 : decode cX9_put 4 = .ok (.iload_n 3, 1) := by decide +kernel
theorem dX9_put_5 : decode cX9_put 5 = .ok (.iload_n 1, 1) := by decide +kernel
theorem dX9_put_6 : decode cX9_put 6 = .ok (.invokestatic 91, 3) := by decide +kernel
theorem dX9_put_9 : decode cX9_put 9 = .ok (.if_icmp .le 5, 3) := by decide +kernel
theorem dX9_put_12 : decode cX9_put 12 = .ok (.iconst 0, 1) := by decide +kernel
theorem dX9_put_13 : decode cX9_put 13 = .ok (.ireturn, 1) := by decide +kernel
theorem dX9_put_14 : decode cX9_put 14 = .ok (.iload_n 1, 1) := by decide +kernel
theorem dX9_put_15 : decode cX9_put 15 = .ok (.tableswitch 68 0 4 #[33, 40, 47, 54, 61], 33) := by decide +kernel
theorem dX9_put_48 : decode cX9_put 48 = .ok (.aload_n 0, 1) := by decide +kernel
theorem dX9_put_49 : decode cX9_put 49 = .ok (.iload_n 3, 1) := by decide +kernel
theorem dX9_put_50 : decode cX9_put 50 = .ok (.putfield 30, 3) := by decide +kernel
theorem dX9_put_53 : decode cX9_put 53 = .ok (.iconst 1, 1) := by decide +kernel
theorem dX9_put_54 : decode cX9_put 54 = .ok (.ireturn, 1) := by decide +kernel
theorem dX9_put_55 : decode cX9_put 55 = .ok (.aload_n 0, 1) := by decide +kernel
theorem dX9_put_56 : decode cX9_put 56 = .ok (.iload_n 3, 1) := by decide +kernel
theorem dX9_put_57 : decode cX9_put 57 = .ok (.putfield 65, 3) := by decide +kernel
theorem dX9_put_60 : decode cX9_put 60 = .ok (.iconst 1, 1) := by decide +kernel
theorem dX9_put_61 : decode cX9_put 61 = .ok (.ireturn, 1) := by decide +kernel
theorem dX9_put_62 : decode cX9_put 62 = .ok (.aload_n 0, 1) := by decide +kernel
theorem dX9_put_63 : decode cX9_put 63 = .ok (.iload_n 3, 1) := by decide +kernel
theorem dX9_put_64 : decode cX9_put 64 = .ok (.putfield 34, 3) := by decide +kernel
theorem dX9_put_67 : decode cX9_put 67 = .ok (.iconst 1, 1) := by decide +kernel
theorem dX9_put_68 : decode cX9_put 68 = .ok (.ireturn, 1) := by decide +kernel
theorem dX9_put_69 : decode cX9_put 69 = .ok (.aload_n 0, 1) := by decide +kernel
theorem dX9_put_70 : decode cX9_put 70 = .ok (.iload_n 2, 1) := by decide +kernel
theorem dX9_put_71 : decode cX9_put 71 = .ok (.iload_n 3, 1) := by decide +kernel
theorem dX9_put_72 : decode cX9_put 72 = .ok (.invokevirtual 95, 3) := by decide +kernel
theorem dX9_put_75 : decode cX9_put 75 = .ok (.ireturn, 1) := by decide +kernel
theorem dX9_put_76 : decode cX9_put 76 = .ok (.aload_n 0, 1) := by decide +kernel
theorem dX9_put_77 : decode cX9_put 77 = .ok (.iload_n 2, 1) := by decide +kernel
theorem dX9_put_78 : decode cX9_put 78 = .ok (.iload_n 3, 1) := by decide +kernel
theorem dX9_put_79 : decode cX9_put 79 = .ok (.invokevirtual 99, 3) := by decide +kernel
theorem dX9_put_82 : decode cX9_put 82 = .ok (.ireturn, 1) := by decide +kernel
theorem dX9_put_83 : decode cX9_put 83 = .ok (.iconst 0, 1) := by decide +kernel
theorem dX9_put_84 : decode cX9_put 84 = .ok (.ireturn, 1) := by decide +kernel
theorem dX9_putHill_0 : decode cX9_putHill 0 = .ok (.iload_n 1, 1) := by decide +kernel
theorem dX9_putHill_1 : decode cX9_putHill 1 = .ok (.ifCond .lt 9, 3) := by decide +kernel
theorem dX9_putHill_4 : decode cX9_putHill 4 = .ok (.iload_n 1, 1) := by decide +kernel
theorem dX9_putHill_5 : decode cX9_putHill 5 = .ok (.bipush 16, 2) := by decide +kernel
theorem dX9_putHill_7 : decode cX9_putHill 7 = .ok (.if_icmp .lt 5, 3) := by decide +kernel
theorem dX9_putHill_10 : decode cX9_putHill 10 = .ok (.iconst 0, 1) := by decide +kernel
theorem dX9_putHill_11 : decode cX9_putHill 11 = .ok (.ireturn, 1) := by decide +kernel
theorem dX9_putHill_12 : decode cX9_putHill 12 = .ok (.aload_n 0, 1) := by decide +kernel
theorem dX9_putHill_13 : decode cX9_putHill 13 = .ok (.iload_n 2, 1) := by decide +kernel
theorem dX9_putHill_14 : decode cX9_putHill 14 = .ok (.iconst 1, 1) := by decide +kernel
theorem dX9_putHill_15 : decode cX9_putHill 15 = .ok (.if_icmp .ne 14, 3) := by decide +kernel
theorem dX9_putHill_18 : decode cX9_putHill 18 = .ok (.aload_n 0, 1) := by decide +kernel
theorem dX9_putHill_19 : decode cX9_putHill 19 = .ok (.getfield 68, 3) := by decide +kernel
theorem dX9_putHill_22 : decode cX9_putHill 22 = .ok (.iconst 1, 1) := by decide +kernel
theorem dX9_putHill_23 : decode cX9_putHill 23 = .ok (.iload_n 1, 1) := by decide +kernel
theorem dX9_putHill_24 : decode cX9_putHill 24 = .ok (.ishl, 1) := by decide +kernel
theorem dX9_putHill_25 : decode cX9_putHill 25 = .ok (.ior, 1) := by decide +kernel
theorem dX9_putHill_26 : decode cX9_putHill 26 = .ok (.goto 13, 3) := by decide +kernel
theorem dX9_putHill_29 : decode cX9_putHill 29 = .ok (.aload_n 0, 1) := by decide +kernel
theorem dX9_putHill_30 : decode cX9_putHill 30 = .ok (.getfield 68, 3) := by decide +kernel
theorem dX9_putHill_33 : decode cX9_putHill 33 = .ok (.iconst 1, 1) := by decide +kernel
theorem dX9_putHill_34 : decode cX9_putHill 34 = .ok (.iload_n 1, 1) := by decide +kernel
theorem dX9_putHill_35 : decode cX9_putHill 35 = .ok (.ishl, 1) := by decide +kernel
theorem dX9_putHill_36 : decode cX9_putHill 36 = .ok (.iconst (-1), 1) := by decide +kernel
theorem dX9_putHill_37 : decode cX9_putHill 37 = .ok (.ixor, 1) := by decide +kernel
theorem dX9_putHill_38 : decode cX9_putHill 38 = .ok (.iand, 1) := by decide +kernel
theorem dX9_putHill_39 : decode cX9_putHill 39 = .ok (.putfield 68, 3) := by decide +kernel
theorem dX9_putHill_42 : decode cX9_putHill 42 = .ok (.iconst 1, 1) := by decide +kernel
theorem dX9_putHill_43 : decode cX9_putHill 43 = .ok (.ireturn, 1) := by decide +kernel
theorem dX9_putWant_0 : decode cX9_putWant 0 = .ok (.iload_n 1, 1) := by decide +kernel
theorem dX9_putWant_1 : decode cX9_putWant 1 = .ok (.invokestatic 102, 3) := by decide +kernel
theorem dX9_putWant_4 : decode cX9_putWant 4 = .ok (.ifCond .ne 5, 3) := by decide +kernel
theorem dX9_putWant_7 : decode cX9_putWant 7 = .ok (.iconst 0, 1) := by decide +kernel
theorem dX9_putWant_8 : decode cX9_putWant 8 = .ok (.ireturn, 1) := by decide +kernel
theorem dX9_putWant_9 : decode cX9_putWant 9 = .ok (.aload_n 0, 1) := by decide +kernel
theorem dX9_putWant_10 : decode cX9_putWant 10 = .ok (.getfield 24, 3) := by decide +kernel
theorem dX9_putWant_13 : decode cX9_putWant 13 = .ok (.iload_n 1, 1) := by decide +kernel
theorem dX9_putWant_14 : decode cX9_putWant 14 = .ok (.iload_n 2, 1) := by decide +kernel
theorem dX9_putWant_15 : decode cX9_putWant 15 = .ok (.iastore, 1) := by decide +kernel
theorem dX9_putWant_16 : decode cX9_putWant 16 = .ok (.iconst 1, 1) := by decide +kernel
theorem dX9_putWant_17 : decode cX9_putWant 17 = .ok (.ireturn, 1) := by decide +kernel
theorem dX9_weightOf_0 : decode cX9_weightOf 0 = .ok (.iconst 0, 1) := by decide +kernel
theorem dX9_weightOf_1 : decode cX9_weightOf 1 = .ok (.istore_n 2, 1) := by decide +kernel
theorem dX9_weightOf_2 : decode cX9_weightOf 2 = .ok (.iconst 0, 1) := by decide +kernel
theorem dX9_weightOf_3 : decode cX9_weightOf 3 = .ok (.istore_n 3, 1) := by decide +kernel
theorem dX9_weightOf_4 : decode cX9_weightOf 4 = .ok (.iload_n 3, 1) := by decide +kernel
theorem dX9_weightOf_5 : decode cX9_weightOf 5 = .ok (.bipush 8, 2) := by decide +kernel
theorem dX9_weightOf_7 : decode cX9_weightOf 7 = .ok (.if_icmp .ge 30, 3) := by decide +kernel
theorem dX9_weightOf_10 : decode cX9_weightOf 10 = .ok (.iload_n 2, 1) := by decide +kernel
theorem dX9_weightOf_11 : decode cX9_weightOf 11 = .ok (.iload_n 1, 1) := by decide +kernel
theorem dX9_weightOf_12 : decode cX9_weightOf 12 = .ok (.iload_n 3, 1) := by decide +kernel
theorem dX9_weightOf_13 : decode cX9_weightOf 13 = .ok (.invokestatic 105, 3) := by decide +kernel
theorem dX9_weightOf_16 : decode cX9_weightOf 16 = .ok (.ifCond .eq 12, 3) := by decide +kernel
theorem dX9_weightOf_19 : decode cX9_weightOf 19 = .ok (.aload_n 0, 1) := by decide +kernel
theorem dX9_weightOf_20 : decode cX9_weightOf 20 = .ok (.getfield 27, 3) := by decide +kernel
theorem dX9_weightOf_23 : decode cX9_weightOf 23 = .ok (.iload_n 3, 1) := by decide +kernel
theorem dX9_weightOf_24 : decode cX9_weightOf 24 = .ok (.iaload, 1) := by decide +kernel
theorem dX9_weightOf_25 : decode cX9_weightOf 25 = .ok (.goto 4, 3) := by decide +kernel
theorem dX9_weightOf_28 : decode cX9_weightOf 28 = .ok (.iconst 0, 1) := by decide +kernel
theorem dX9_weightOf_29 : decode cX9_weightOf 29 = .ok (.iadd, 1) := by decide +kernel
theorem dX9_weightOf_30 : decode cX9_weightOf 30 = .ok (.istore_n 2, 1) := by decide +kernel
theorem dX9_weightOf_31 : decode cX9_weightOf 31 = .ok (.iinc 3 1, 3) := by decide +kernel
theorem dX9_weightOf_34 : decode cX9_weightOf 34 = .ok (.goto (-30), 3) := by decide +kernel
theorem dX9_weightOf_37 : decode cX9_weightOf 37 = .ok (.iload_n 2, 1) := by decide +kernel
theorem dX9_weightOf_38 : decode cX9_weightOf 38 = .ok (.ireturn, 1) := by decide +kernel
theorem dL_between_0 : decode cL_between 0 = .ok (.iload_n 1, 1) := by decide +kernel
theorem dL_between_1 : decode cL_between 1 = .ok (.iload_n 0, 1) := by decide +kernel
theorem dL_between_2 : decode cL_between 2 = .ok (.ldc 7, 2) := by decide +kernel
theorem dL_between_4 : decode cL_between 4 = .ok (.iand, 1) := by decide +kernel
theorem dL_between_5 : decode cL_between 5 = .ok (.iload_n 2, 1) := by decide +kernel
theorem dL_between_6 : decode cL_between 6 = .ok (.iload_n 1, 1) := by decide +kernel
theorem dL_between_7 : decode cL_between 7 = .ok (.isub, 1) := by decide +kernel
theorem dL_between_8 : decode cL_between 8 = .ok (.iconst 1, 1) := by decide +kernel
theorem dL_between_9 : decode cL_between 9 = .ok (.iadd, 1) := by decide +kernel
theorem dL_between_10 : decode cL_between 10 = .ok (.irem, 1) := by decide +kernel
theorem dL_between_11 : decode cL_between 11 = .ok (.iadd, 1) := by decide +kernel
theorem dL_between_12 : decode cL_between 12 = .ok (.ireturn, 1) := by decide +kernel
theorem dL_cell_0 : decode cL_cell 0 = .ok (.iload_n 1, 1) := by decide +kernel
theorem dL_cell_1 : decode cL_cell 1 = .ok (.aload_n 0, 1) := by decide +kernel
theorem dL_cell_2 : decode cL_cell 2 = .ok (.arraylength, 1) := by decide +kernel
theorem dL_cell_3 : decode cL_cell 3 = .ok (.if_icmp .ge 9, 3) := by decide +kernel
theorem dL_cell_6 : decode cL_cell 6 = .ok (.aload_n 0, 1) := by decide +kernel
theorem dL_cell_7 : decode cL_cell 7 = .ok (.iload_n 1, 1) := by decide +kernel
theorem dL_cell_8 : decode cL_cell 8 = .ok (.iaload, 1) := by decide +kernel
theorem dL_cell_9 : decode cL_cell 9 = .ok (.goto 12, 3) := by decide +kernel
theorem dL_cell_12 : decode cL_cell 12 = .ok (.sipush 599, 3) := by decide +kernel
theorem dL_cell_15 : decode cL_cell 15 = .ok (.iload_n 1, 1) := by decide +kernel
theorem dL_cell_16 : decode cL_cell 16 = .ok (.imul, 1) := by decide +kernel
theorem dL_cell_17 : decode cL_cell 17 = .ok (.sipush 593, 3) := by decide +kernel
theorem dL_cell_20 : decode cL_cell 20 = .ok (.iadd, 1) := by decide +kernel
theorem dL_cell_21 : decode cL_cell 21 = .ok (.ireturn, 1) := by decide +kernel
theorem dL_held_0 : decode cL_held 0 = .ok (.iload_n 1, 1) := by decide +kernel
theorem dL_held_1 : decode cL_held 1 = .ok (.iload_n 2, 1) := by decide +kernel
theorem dL_held_2 : decode cL_held 2 = .ok (.iload_n 0, 1) := by decide +kernel
theorem dL_held_3 : decode cL_held 3 = .ok (.invokestatic 8, 3) := by decide +kernel
theorem dL_held_6 : decode cL_held 6 = .ok (.invokestatic 14, 3) := by decide +kernel
theorem dL_held_9 : decode cL_held 9 = .ok (.ireturn, 1) := by decide +kernel
theorem dL_law_0 : decode cL_law 0 = .ok (.new 28, 3) := by decide +kernel
theorem dL_law_3 : decode cL_law 3 = .ok (.dup, 1) := by decide +kernel
theorem dL_law_4 : decode cL_law 4 = .ok (.invokespecial 177, 3) := by decide +kernel
theorem dL_law_7 : decode cL_law 7 = .ok (.astore_n 1, 1) := by decide +kernel
theorem dL_law_8 : decode cL_law 8 = .ok (.aload_n 1, 1) := by decide +kernel
theorem dL_law_9 : decode cL_law 9 = .ok (.aload_n 0, 1) := by decide +kernel
theorem dL_law_10 : decode cL_law 10 = .ok (.iconst 0, 1) := by decide +kernel
theorem dL_law_11 : decode cL_law 11 = .ok (.invokestatic 178, 3) := by decide +kernel
theorem dL_law_14 : decode cL_law 14 = .ok (.astore_n 2, 1) := by decide +kernel
theorem dL_law_15 : decode cL_law 15 = .ok (.aload_n 2, 1) := by decide +kernel
theorem dL_law_16 : decode cL_law 16 = .ok (.ifnull 11, 3) := by decide +kernel
theorem dL_law_19 : decode cL_law 19 = .ok (.aload_n 2, 1) := by decide +kernel
theorem dL_law_20 : decode cL_law 20 = .ok (.aload_n 1, 1) := by decide +kernel
theorem dL_law_21 : decode cL_law 21 = .ok (.invokevirtual 182, 3) := by decide +kernel
theorem dL_law_24 : decode cL_law 24 = .ok (.ifCond .ne 5, 3) := by decide +kernel
theorem dL_law_27 : decode cL_law 27 = .ok (.iconst 0, 1) := by decide +kernel
theorem dL_law_28 : decode cL_law 28 = .ok (.ireturn, 1) := by decide +kernel
theorem dL_law_29 : decode cL_law 29 = .ok (.bipush 6, 2) := by decide +kernel
theorem dL_law_31 : decode cL_law 31 = .ok (.anewarray 38, 3) := by decide +kernel
theorem dL_law_34 : decode cL_law 34 = .ok (.astore_n 3, 1) := by decide +kernel
theorem dL_law_35 : decode cL_law 35 = .ok (.iconst 0, 1) := by decide +kernel
theorem dL_law_36 : decode cL_law 36 = .ok (.istore 4, 2) := by decide +kernel
theorem dL_law_38 : decode cL_law 38 = .ok (.iconst 0, 1) := by decide +kernel
theorem dL_law_39 : decode cL_law 39 = .ok (.istore 5, 2) := by decide +kernel
theorem dL_law_41 : decode cL_law 41 = .ok (.iload 5, 2) := by decide +kernel
theorem dL_law_43 : decode cL_law 43 = .ok (.bipush 20, 2) := by decide +kernel
theorem dL_law_45 : decode cL_law 45 = .ok (.if_icmp .ge 1114, 3) := by decide +kernel
theorem dL_law_48 : decode cL_law 48 = .ok (.aload_n 0, 1) := by decide +kernel
theorem dL_law_49 : decode cL_law 49 = .ok (.bipush 8, 2) := by decide +kernel
theorem dL_law_51 : decode cL_law 51 = .ok (.iload 5, 2) := by decide +kernel
theorem dL_law_53 : decode cL_law 53 = .ok (.bipush 12, 2) := by decide +kernel
theorem dL_law_55 : decode cL_law 55 = .ok (.irem, 1) := by decide +kernel
theorem dL_law_56 : decode cL_law 56 = .ok (.iadd, 1) := by decide +kernel
theorem dL_law_57 : decode cL_law 57 = .ok (.invokestatic 111, 3) := by decide +kernel
theorem dL_law_60 : decode cL_law 60 = .ok (.iload 5, 2) := by decide +kernel
theorem dL_law_62 : decode cL_law 62 = .ok (.bipush 12, 2) := by decide +kernel
theorem dL_law_64 : decode cL_law 64 = .ok (.idiv, 1) := by decide +kernel
theorem dL_law_65 : decode cL_law 65 = .ok (.iconst 1, 1) := by decide +kernel
theorem dL_law_66 : decode cL_law 66 = .ok (.iadd, 1) := by decide +kernel
theorem dL_law_67 : decode cL_law 67 = .ok (.imul, 1) := by decide +kernel
theorem dL_law_68 : decode cL_law 68 = .ok (.sipush 157, 3) := by decide +kernel
theorem dL_law_71 : decode cL_law 71 = .ok (.iload 5, 2) := by decide +kernel
theorem dL_law_73 : decode cL_law 73 = .ok (.imul, 1) := by decide +kernel
theorem dL_law_74 : decode cL_law 74 = .ok (.iadd, 1) := by decide +kernel
theorem dL_law_75 : decode cL_law 75 = .ok (.istore 6, 2) := by decide +kernel
theorem dL_law_77 : decode cL_law 77 = .ok (.iload 6, 2) := by decide +kernel
theorem dL_law_79 : decode cL_law 79 = .ok (.iconst 0, 1) := by decide +kernel
theorem dL_law_80 : decode cL_law 80 = .ok (.bipush 11, 2) := by decide +kernel
theorem dL_law_82 : decode cL_law 82 = .ok (.invokestatic 43, 3) := by decide +kernel
theorem dL_law_85 : decode cL_law 85 = .ok (.istore 7, 2) := by decide +kernel
theorem dL_law_87 : decode cL_law 87 = .ok (.iload 6, 2) := by decide +kernel
theorem dL_law_89 : decode cL_law 89 = .ok (.iconst 3, 1) := by decide +kernel
theorem dL_law_90 : decode cL_law 90 = .ok (.ishr, 1) := by decide +kernel
theorem dL_law_91 : decode cL_law 91 = .ok (.iconst 0, 1) := by decide +kernel
theorem dL_law_92 : decode cL_law 92 = .ok (.aload_n 2, 1) := by decide +kernel
theorem dL_law_93 : decode cL_law 93 = .ok (.getfield 37, 3) := by decide +kernel
theorem dL_law_96 : decode cL_law 96 = .ok (.invokestatic 43, 3) := by decide +kernel
theorem dL_law_99 : decode cL_law 99 = .ok (.istore 8, 2) := by decide +kernel
theorem dL_law_101 : decode cL_law 101 = .ok (.iload 6, 2) := by decide +kernel
theorem dL_law_103 : decode cL_law 103 = .ok (.iconst 5, 1) := by decide +kernel
theorem dL_law_104 : decode cL_law 104 = .ok (.ishr, 1) := by decide +kernel
theorem dL_law_105 : decode cL_law 105 = .ok (.iconst 0, 1) := by decide +kernel
theorem dL_law_106 : decode cL_law 106 = .ok (.aload_n 2, 1) := by decide +kernel
theorem dL_law_107 : decode cL_law 107 = .ok (.getfield 37, 3) := by decide +kernel
theorem dL_law_110 : decode cL_law 110 = .ok (.invokestatic 43, 3) := by decide +kernel
theorem dL_law_113 : decode cL_law 113 = .ok (.istore 9, 2) := by decide +kernel
theorem dL_law_115 : decode cL_law 115 = .ok (.aload_n 2, 1) := by decide +kernel
theorem dL_law_116 : decode cL_law 116 = .ok (.invokevirtual 186, 3) := by decide +kernel
theorem dL_law_119 : decode cL_law 119 = .ok (.astore 10, 2) := by decide +kernel
theorem dL_law_121 : decode cL_law 121 = .ok (.iconst 0, 1) := by decide +kernel
theorem dL_law_122 : decode cL_law 122 = .ok (.istore 11, 2) := by decide +kernel
theorem dL_law_124 : decode cL_law 124 = .ok (.iload 7, 2) := by decide +kernel
theorem dL_law_126 : decode cL_law 126 = .ok (.iconst 5, 1) := by decide +kernel
theorem dL_law_127 : decode cL_law 127 = .ok (.if_icmp .ge 125, 3) := by decide +kernel
theorem dL_law_130 : decode cL_law 130 = .ok (.iload 6, 2) := by decide +kernel
theorem dL_law_132 : decode cL_law 132 = .ok (.iconst 5, 1) := by decide +kernel
theorem dL_law_133 : decode cL_law 133 = .ok (.ishr, 1) := by decide +kernel
theorem dL_law_134 : decode cL_law 134 = .ok (.iconst 1, 1) := by decide +kernel
theorem dL_law_135 : decode cL_law 135 = .ok (.iload 6, 2) := by decide +kernel
theorem dL_law_137 : decode cL_law 137 = .ok (.bipush 9, 2) := by decide +kernel
theorem dL_law_139 : decode cL_law 139 = .ok (.ishr, 1) := by decide +kernel
theorem dL_law_140 : decode cL_law 140 = .ok (.iconst 1, 1) := by decide +kernel
theorem dL_law_141 : decode cL_law 141 = .ok (.iand, 1) := by decide +kernel
theorem dL_law_142 : decode cL_law 142 = .ok (.ifCond .ne 7, 3) := by decide +kernel
theorem dL_law_145 : decode cL_law 145 = .ok (.iconst 3, 1) := by decide +kernel
theorem dL_law_146 : decode cL_law 146 = .ok (.goto 5, 3) := by decide +kernel
theorem dL_law_149 : decode cL_law 149 = .ok (.bipush 12, 2) := by decide +kernel
theorem dL_law_151 : decode cL_law 151 = .ok (.invokestatic 43, 3) := by decide +kernel
theorem dL_law_154 : decode cL_law 154 = .ok (.istore 12, 2) := by decide +kernel
theorem dL_law_156 : decode cL_law 156 = .ok (.iconst 0, 1) := by decide +kernel
theorem dL_law_157 : decode cL_law 157 = .ok (.istore 13, 2) := by decide +kernel
theorem dL_law_159 : decode cL_law 159 = .ok (.iconst 0, 1) := by decide +kernel
theorem dL_law_160 : decode cL_law 160 = .ok (.istore 14, 2) := by decide +kernel
theorem dL_law_162 : decode cL_law 162 = .ok (.iload 14, 2) := by decide +kernel
theorem dL_law_164 : decode cL_law 164 = .ok (.iload 12, 2) := by decide +kernel
theorem dL_law_166 : decode cL_law 166 = .ok (.if_icmp .ge 70, 3) := by decide +kernel
theorem dL_law_169 : decode cL_law 169 = .ok (.iload 4, 2) := by decide +kernel
theorem dL_law_171 : decode cL_law 171 = .ok (.bipush 6, 2) := by decide +kernel
theorem dL_law_173 : decode cL_law 173 = .ok (.if_icmp .ne 32, 3) := by decide +kernel
theorem dL_law_176 : decode cL_law 176 = .ok (.iconst 1, 1) := by decide +kernel
theorem dL_law_177 : decode cL_law 177 = .ok (.istore 15, 2) := by decide +kernel
theorem dL_law_179 : decode cL_law 179 = .ok (.iload 15, 2) := by decide +kernel
theorem dL_law_181 : decode cL_law 181 = .ok (.bipush 6, 2) := by decide +kernel
theorem dL_law_183 : decode cL_law 183 = .ok (.if_icmp .ge 19, 3) := by decide +kernel
theorem dL_law_186 : decode cL_law 186 = .ok (.aload_n 3, 1) := by decide +kernel
theorem dL_law_187 : decode cL_law 187 = .ok (.iload 15, 2) := by decide +kernel
theorem dL_law_189 : decode cL_law 189 = .ok (.iconst 1, 1) := by decide +kernel
theorem dL_law_190 : decode cL_law 190 = .ok (.isub, 1) := by decide +kernel
theorem dL_law_191 : decode cL_law 191 = .ok (.aload_n 3, 1) := by decide +kernel
theorem dL_law_192 : decode cL_law 192 = .ok (.iload 15, 2) := by decide +kernel
theorem dL_law_194 : decode cL_law 194 = .ok (.aaload, 1) := by decide +kernel
theorem dL_law_195 : decode cL_law 195 = .ok (.aastore, 1) := by decide +kernel
theorem dL_law_196 : decode cL_law 196 = .ok (.iinc 15 1, 3) := by decide +kernel
theorem dL_law_199 : decode cL_law 199 = .ok (.goto (-20), 3) := by decide +kernel
theorem dL_law_202 : decode cL_law 202 = .ok (.iinc 4 (-1), 3) := by decide +kernel
theorem dL_law_205 : decode cL_law 205 = .ok (.aload_n 3, 1) := by decide +kernel
theorem dL_law_206 : decode cL_law 206 = .ok (.iload 4, 2) := by decide +kernel
theorem dL_law_208 : decode cL_law 208 = .ok (.iinc 4 1, 3) := by decide +kernel
theorem dL_law_211 : decode cL_law 211 = .ok (.aload_n 2, 1) := by decide +kernel
theorem dL_law_212 : decode cL_law 212 = .ok (.invokevirtual 186, 3) := by decide +kernel
theorem dL_law_215 : decode cL_law 215 = .ok (.aastore, 1) := by decide +kernel
theorem dL_law_216 : decode cL_law 216 = .ok (.iload 13, 2) := by decide +kernel
theorem dL_law_218 : decode cL_law 218 = .ok (.aload_n 2, 1) := by decide +kernel
theorem dL_law_219 : decode cL_law 219 = .ok (.getfield 190, 3) := by decide +kernel
theorem dL_law_222 : decode cL_law 222 = .ok (.iadd, 1) := by decide +kernel
theorem dL_law_223 : decode cL_law 223 = .ok (.istore 13, 2) := by decide +kernel
theorem dL_law_225 : decode cL_law 225 = .ok (.aload_n 2, 1) := by decide +kernel
theorem dL_law_226 : decode cL_law 226 = .ok (.iconst 1, 1) := by decide +kernel
theorem dL_law_227 : decode cL_law 227 = .ok (.invokevirtual 192, 3) := by decide +kernel
theorem dL_law_230 : decode cL_law 230 = .ok (.iinc 14 1, 3) := by decide +kernel
theorem dL_law_233 : decode cL_law 233 = .ok (.goto (-71), 3) := by decide +kernel
theorem dL_law_236 : decode cL_law 236 = .ok (.aload_n 1, 1) := by decide +kernel
theorem dL_law_237 : decode cL_law 237 = .ok (.iload 12, 2) := by decide +kernel
theorem dL_law_239 : decode cL_law 239 = .ok (.invokevirtual 196, 3) := by decide +kernel
theorem dL_law_242 : decode cL_law 242 = .ok (.iload 13, 2) := by decide +kernel
theorem dL_law_244 : decode cL_law 244 = .ok (.if_icmp .eq 5, 3) := by decide +kernel
theorem dL_law_247 : decode cL_law 247 = .ok (.iconst 0, 1) := by decide +kernel
theorem dL_law_248 : decode cL_law 248 = .ok (.ireturn, 1) := by decide +kernel
theorem dL_law_249 : decode cL_law 249 = .ok (.goto 833, 3) := by decide +kernel
theorem dL_law_252 : decode cL_law 252 = .ok (.iload 7, 2) := by decide +kernel
theorem dL_law_254 : decode cL_law 254 = .ok (.iconst 5, 1) := by decide +kernel
theorem dL_law_255 : decode cL_law 255 = .ok (.if_icmp .ne 94, 3) := by decide +kernel
theorem dL_law_258 : decode cL_law 258 = .ok (.iload 6, 2) := by decide +kernel
theorem dL_law_260 : decode cL_law 260 = .ok (.iconst 4, 1) := by decide +kernel
theorem dL_law_261 : decode cL_law 261 = .ok (.ishr, 1) := by decide +kernel
theorem dL_law_262 : decode cL_law 262 = .ok (.iconst 0, 1) := by decide +kernel
theorem dL_law_263 : decode cL_law 263 = .ok (.bipush 8, 2) := by decide +kernel
theorem dL_law_265 : decode cL_law 265 = .ok (.invokestatic 43, 3) := by decide +kernel
theorem dL_law_268 : decode cL_law 268 = .ok (.istore 12, 2) := by decide +kernel
theorem dL_law_270 : decode cL_law 270 = .ok (.iload 8, 2) := by decide +kernel
theorem dL_law_272 : decode cL_law 272 = .ok (.aload_n 2, 1) := by decide +kernel
theorem dL_law_273 : decode cL_law 273 = .ok (.getfield 37, 3) := by decide +kernel
theorem dL_law_276 : decode cL_law 276 = .ok (.if_icmp .ge 31, 3) := by decide +kernel
theorem dL_law_279 : decode cL_law 279 = .ok (.iload 12, 2) := by decide +kernel
theorem dL_law_281 : decode cL_law 281 = .ok (.bipush 8, 2) := by decide +kernel
theorem dL_law_283 : decode cL_law 283 = .ok (.if_icmp .ge 24, 3) := by decide +kernel
theorem dL_law_286 : decode cL_law 286 = .ok (.aload_n 2, 1) := by decide +kernel
theorem dL_law_287 : decode cL_law 287 = .ok (.getfield 136, 3) := by decide +kernel
theorem dL_law_290 : decode cL_law 290 = .ok (.iload 8, 2) := by decide +kernel
theorem dL_law_292 : decode cL_law 292 = .ok (.aaload, 1) := by decide +kernel
theorem dL_law_293 : decode cL_law 293 = .ok (.iconst 4, 1) := by decide +kernel
theorem dL_law_294 : decode cL_law 294 = .ok (.iaload, 1) := by decide +kernel
theorem dL_law_295 : decode cL_law 295 = .ok (.iload 12, 2) := by decide +kernel
theorem dL_law_297 : decode cL_law 297 = .ok (.ishr, 1) := by decide +kernel
theorem dL_law_298 : decode cL_law 298 = .ok (.iconst 1, 1) := by decide +kernel
theorem dL_law_299 : decode cL_law 299 = .ok (.iand, 1) := by decide +kernel
theorem dL_law_300 : decode cL_law 300 = .ok (.ifCond .ne 7, 3) := by decide +kernel
theorem dL_law_303 : decode cL_law 303 = .ok (.iconst 1, 1) := by decide +kernel
theorem dL_law_304 : decode cL_law 304 = .ok (.goto 4, 3) := by decide +kernel
theorem dL_law_307 : decode cL_law 307 = .ok (.iconst 0, 1) := by decide +kernel
theorem dL_law_308 : decode cL_law 308 = .ok (.istore 11, 2) := by decide +kernel
theorem dL_law_310 : decode cL_law 310 = .ok (.aload_n 1, 1) := by decide +kernel
theorem dL_law_311 : decode cL_law 311 = .ok (.iload 8, 2) := by decide +kernel
theorem dL_law_313 : decode cL_law 313 = .ok (.iload 12, 2) := by decide +kernel
theorem dL_law_315 : decode cL_law 315 = .ok (.invokevirtual 144, 3) := by decide +kernel
theorem dL_law_318 : decode cL_law 318 = .ok (.iload 11, 2) := by decide +kernel
theorem dL_law_320 : decode cL_law 320 = .ok (.if_icmp .eq 5, 3) := by decide +kernel
theorem dL_law_323 : decode cL_law 323 = .ok (.iconst 0, 1) := by decide +kernel
theorem dL_law_324 : decode cL_law 324 = .ok (.ireturn, 1) := by decide +kernel
theorem dL_law_325 : decode cL_law 325 = .ok (.iload 11, 2) := by decide +kernel
theorem dL_law_327 : decode cL_law 327 = .ok (.ifCond .eq 19, 3) := by decide +kernel
theorem dL_law_330 : decode cL_law 330 = .ok (.aload_n 2, 1) := by decide +kernel
theorem dL_law_331 : decode cL_law 331 = .ok (.getfield 136, 3) := by decide +kernel
theorem dL_law_334 : decode cL_law 334 = .ok (.iload 8, 2) := by decide +kernel
theorem dL_law_336 : decode cL_law 336 = .ok (.aaload, 1) := by decide +kernel
theorem dL_law_337 : decode cL_law 337 = .ok (.iconst 4, 1) := by decide +kernel
theorem dL_law_338 : decode cL_law 338 = .ok (.dup2, 1) := by decide +kernel
theorem dL_law_339 : decode cL_law 339 = .ok (.iaload, 1) := by decide +kernel
theorem dL_law_340 : decode cL_law 340 = .ok (.iconst 1, 1) := by decide +kernel
theorem dL_law_341 : decode cL_law 341 = .ok (.iload 12, 2) := by decide +kernel
theorem dL_law_343 : decode cL_law 343 = .ok (.ishl, 1) := by decide +kernel
theorem dL_law_344 : decode cL_law 344 = .ok (.ior, 1) := by decide +kernel
theorem dL_law_345 : decode cL_law 345 = .ok (.iastore, 1) := by decide +kernel
theorem dL_law_346 : decode cL_law 346 = .ok (.goto 736, 3) := by decide +kernel
theorem dL_law_349 : decode cL_law 349 = .ok (.iload 7, 2) := by decide +kernel
theorem dL_law_351 : decode cL_law 351 = .ok (.bipush 8, 2) := by decide +kernel
theorem dL_law_353 : decode cL_law 353 = .ok (.if_icmp .ge 335, 3) := by decide +kernel
theorem dL_law_356 : decode cL_law 356 = .ok (.iconst 0, 1) := by decide +kernel
theorem dL_law_357 : decode cL_law 357 = .ok (.istore 12, 2) := by decide +kernel
theorem dL_law_359 : decode cL_law 359 = .ok (.iload 12, 2) := by decide +kernel
theorem dL_law_361 : decode cL_law 361 = .ok (.aload_n 2, 1) := by decide +kernel
theorem dL_law_362 : decode cL_law 362 = .ok (.getfield 37, 3) := by decide +kernel
theorem dL_law_365 : decode cL_law 365 = .ok (.if_icmp .ge 42, 3) := by decide +kernel
theorem dL_law_368 : decode cL_law 368 = .ok (.iload 8, 2) := by decide +kernel
theorem dL_law_370 : decode cL_law 370 = .ok (.aload_n 2, 1) := by decide +kernel
theorem dL_law_371 : decode cL_law 371 = .ok (.getfield 37, 3) := by decide +kernel
theorem dL_law_374 : decode cL_law 374 = .ok (.if_icmp .ge 33, 3) := by decide +kernel
theorem dL_law_377 : decode cL_law 377 = .ok (.aload_n 2, 1) := by decide +kernel
theorem dL_law_378 : decode cL_law 378 = .ok (.getfield 136, 3) := by decide +kernel
theorem dL_law_381 : decode cL_law 381 = .ok (.iload 8, 2) := by decide +kernel
theorem dL_law_383 : decode cL_law 383 = .ok (.aaload, 1) := by decide +kernel
theorem dL_law_384 : decode cL_law 384 = .ok (.bipush 6, 2) := by decide +kernel
theorem dL_law_386 : decode cL_law 386 = .ok (.iaload, 1) := by decide +kernel
theorem dL_law_387 : decode cL_law 387 = .ok (.ifCond .eq 20, 3) := by decide +kernel
theorem dL_law_390 : decode cL_law 390 = .ok (.iload 8, 2) := by decide +kernel
theorem dL_law_392 : decode cL_law 392 = .ok (.iconst 1, 1) := by decide +kernel
theorem dL_law_393 : decode cL_law 393 = .ok (.iadd, 1) := by decide +kernel
theorem dL_law_394 : decode cL_law 394 = .ok (.aload_n 2, 1) := by decide +kernel
theorem dL_law_395 : decode cL_law 395 = .ok (.getfield 37, 3) := by decide +kernel
theorem dL_law_398 : decode cL_law 398 = .ok (.irem, 1) := by decide +kernel
theorem dL_law_399 : decode cL_law 399 = .ok (.istore 8, 2) := by decide +kernel
theorem dL_law_401 : decode cL_law 401 = .ok (.iinc 12 1, 3) := by decide +kernel
theorem dL_law_404 : decode cL_law 404 = .ok (.goto (-45), 3) := by decide +kernel
theorem dL_law_407 : decode cL_law 407 = .ok (.iconst 0, 1) := by decide +kernel
theorem dL_law_408 : decode cL_law 408 = .ok (.istore 12, 2) := by decide +kernel
theorem dL_law_410 : decode cL_law 410 = .ok (.iload 12, 2) := by decide +kernel
theorem dL_law_412 : decode cL_law 412 = .ok (.aload_n 2, 1) := by decide +kernel
theorem dL_law_413 : decode cL_law 413 = .ok (.getfield 37, 3) := by decide +kernel
theorem dL_law_416 : decode cL_law 416 = .ok (.if_icmp .ge 43, 3) := by decide +kernel
theorem dL_law_419 : decode cL_law 419 = .ok (.iload 9, 2) := by decide +kernel
theorem dL_law_421 : decode cL_law 421 = .ok (.aload_n 2, 1) := by decide +kernel
theorem dL_law_422 : decode cL_law 422 = .ok (.getfield 37, 3) := by decide +kernel
theorem dL_law_425 : decode cL_law 425 = .ok (.if_icmp .ge 34, 3) := by decide +kernel
theorem dL_law_428 : decode cL_law 428 = .ok (.aload_n 2, 1) := by decide +kernel
theorem dL_law_429 : decode cL_law 429 = .ok (.getfield 136, 3) := by decide +kernel
theorem dL_law_432 : decode cL_law 432 = .ok (.iload 9, 2) := by decide +kernel
theorem dL_law_434 : decode cL_law 434 = .ok (.aaload, 1) := by decide +kernel
theorem dL_law_435 : decode cL_law 435 = .ok (.bipush 6, 2) := by decide +kernel
theorem dL_law_437 : decode cL_law 437 = .ok (.iaload, 1) := by decide +kernel
theorem dL_law_438 : decode cL_law 438 = .ok (.iconst 1, 1) := by decide +kernel
theorem dL_law_439 : decode cL_law 439 = .ok (.if_icmp .eq 20, 3) := by decide +kernel
theorem dL_law_442 : decode cL_law 442 = .ok (.iload 9, 2) := by decide +kernel
theorem dL_law_444 : decode cL_law 444 = .ok (.iconst 1, 1) := by decide +kernel
theorem dL_law_445 : decode cL_law 445 = .ok (.iadd, 1) := by decide +kernel
theorem dL_law_446 : decode cL_law 446 = .ok (.aload_n 2, 1) := by decide +kernel
theorem dL_law_447 : decode cL_law 447 = .ok (.getfield 37, 3) := by decide +kernel
theorem dL_law_450 : decode cL_law 450 = .ok (.irem, 1) := by decide +kernel
theorem dL_law_451 : decode cL_law 451 = .ok (.istore 9, 2) := by decide +kernel
theorem dL_law_453 : decode cL_law 453 = .ok (.iinc 12 1, 3) := by decide +kernel
theorem dL_law_456 : decode cL_law 456 = .ok (.goto (-46), 3) := by decide +kernel
theorem dL_law_459 : decode cL_law 459 = .ok (.iload 6, 2) := by decide +kernel
theorem dL_law_461 : decode cL_law 461 = .ok (.bipush 6, 2) := by decide +kernel
theorem dL_law_463 : decode cL_law 463 = .ok (.ishr, 1) := by decide +kernel
theorem dL_law_464 : decode cL_law 464 = .ok (.iconst 0, 1) := by decide +kernel
theorem dL_law_465 : decode cL_law 465 = .ok (.bipush 40, 2) := by decide +kernel
theorem dL_law_467 : decode cL_law 467 = .ok (.invokestatic 43, 3) := by decide +kernel
theorem dL_law_470 : decode cL_law 470 = .ok (.istore 12, 2) := by decide +kernel
theorem dL_law_472 : decode cL_law 472 = .ok (.iload 8, 2) := by decide +kernel
theorem dL_law_474 : decode cL_law 474 = .ok (.aload_n 2, 1) := by decide +kernel
theorem dL_law_475 : decode cL_law 475 = .ok (.getfield 37, 3) := by decide +kernel
theorem dL_law_478 : decode cL_law 478 = .ok (.if_icmp .ge 99, 3) := by decide +kernel
theorem dL_law_481 : decode cL_law 481 = .ok (.iload 9, 2) := by decide +kernel
theorem dL_law_483 : decode cL_law 483 = .ok (.aload_n 2, 1) := by decide +kernel
theorem dL_law_484 : decode cL_law 484 = .ok (.getfield 37, 3) := by decide +kernel
theorem dL_law_487 : decode cL_law 487 = .ok (.if_icmp .ge 90, 3) := by decide +kernel
theorem dL_law_490 : decode cL_law 490 = .ok (.aload_n 2, 1) := by decide +kernel
theorem dL_law_491 : decode cL_law 491 = .ok (.getfield 136, 3) := by decide +kernel
theorem dL_law_494 : decode cL_law 494 = .ok (.iload 8, 2) := by decide +kernel
theorem dL_law_496 : decode cL_law 496 = .ok (.aaload, 1) := by decide +kernel
theorem dL_law_497 : decode cL_law 497 = .ok (.iconst 0, 1) := by decide +kernel
theorem dL_law_498 : decode cL_law 498 = .ok (.iaload, 1) := by decide +kernel
theorem dL_law_499 : decode cL_law 499 = .ok (.aload_n 2, 1) := by decide +kernel
theorem dL_law_500 : decode cL_law 500 = .ok (.getfield 136, 3) := by decide +kernel
theorem dL_law_503 : decode cL_law 503 = .ok (.iload 9, 2) := by decide +kernel
theorem dL_law_505 : decode cL_law 505 = .ok (.aaload, 1) := by decide +kernel
theorem dL_law_506 : decode cL_law 506 = .ok (.iconst 0, 1) := by decide +kernel
theorem dL_law_507 : decode cL_law 507 = .ok (.iaload, 1) := by decide +kernel
theorem dL_law_508 : decode cL_law 508 = .ok (.if_icmp .ne 69, 3) := by decide +kernel
theorem dL_law_511 : decode cL_law 511 = .ok (.aload_n 2, 1) := by decide +kernel
theorem dL_law_512 : decode cL_law 512 = .ok (.getfield 136, 3) := by decide +kernel
theorem dL_law_515 : decode cL_law 515 = .ok (.iload 8, 2) := by decide +kernel
theorem dL_law_517 : decode cL_law 517 = .ok (.aaload, 1) := by decide +kernel
theorem dL_law_518 : decode cL_law 518 = .ok (.bipush 6, 2) := by decide +kernel
theorem dL_law_520 : decode cL_law 520 = .ok (.iaload, 1) := by decide +kernel
theorem dL_law_521 : decode cL_law 521 = .ok (.ifCond .ne 56, 3) := by decide +kernel
theorem dL_law_524 : decode cL_law 524 = .ok (.aload_n 2, 1) := by decide +kernel
theorem dL_law_525 : decode cL_law 525 = .ok (.getfield 136, 3) := by decide +kernel
theorem dL_law_528 : decode cL_law 528 = .ok (.iload 9, 2) := by decide +kernel
theorem dL_law_530 : decode cL_law 530 = .ok (.aaload, 1) := by decide +kernel
theorem dL_law_531 : decode cL_law 531 = .ok (.bipush 6, 2) := by decide +kernel
theorem dL_law_533 : decode cL_law 533 = .ok (.iaload, 1) := by decide +kernel
theorem dL_law_534 : decode cL_law 534 = .ok (.iconst 1, 1) := by decide +kernel
theorem dL_law_535 : decode cL_law 535 = .ok (.if_icmp .ne 42, 3) := by decide +kernel
theorem dL_law_538 : decode cL_law 538 = .ok (.aload_n 2, 1) := by decide +kernel
theorem dL_law_539 : decode cL_law 539 = .ok (.getfield 136, 3) := by decide +kernel
theorem dL_law_542 : decode cL_law 542 = .ok (.iload 8, 2) := by decide +kernel
theorem dL_law_544 : decode cL_law 544 = .ok (.aaload, 1) := by decide +kernel
theorem dL_law_545 : decode cL_law 545 = .ok (.iconst 1, 1) := by decide +kernel
theorem dL_law_546 : decode cL_law 546 = .ok (.iaload, 1) := by decide +kernel
theorem dL_law_547 : decode cL_law 547 = .ok (.aload_n 2, 1) := by decide +kernel
theorem dL_law_548 : decode cL_law 548 = .ok (.getfield 136, 3) := by decide +kernel
theorem dL_law_551 : decode cL_law 551 = .ok (.iload 9, 2) := by decide +kernel
theorem dL_law_553 : decode cL_law 553 = .ok (.aaload, 1) := by decide +kernel
theorem dL_law_554 : decode cL_law 554 = .ok (.iconst 1, 1) := by decide +kernel
theorem dL_law_555 : decode cL_law 555 = .ok (.iaload, 1) := by decide +kernel
theorem dL_law_556 : decode cL_law 556 = .ok (.if_icmp .le 21, 3) := by decide +kernel
theorem dL_law_559 : decode cL_law 559 = .ok (.iload 12, 2) := by decide +kernel
theorem dL_law_561 : decode cL_law 561 = .ok (.aload_n 2, 1) := by decide +kernel
theorem dL_law_562 : decode cL_law 562 = .ok (.getfield 136, 3) := by decide +kernel
theorem dL_law_565 : decode cL_law 565 = .ok (.iload 9, 2) := by decide +kernel
theorem dL_law_567 : decode cL_law 567 = .ok (.aaload, 1) := by decide +kernel
theorem dL_law_568 : decode cL_law 568 = .ok (.iconst 5, 1) := by decide +kernel
theorem dL_law_569 : decode cL_law 569 = .ok (.iaload, 1) := by decide +kernel
theorem dL_law_570 : decode cL_law 570 = .ok (.if_icmp .gt 7, 3) := by decide +kernel
theorem dL_law_573 : decode cL_law 573 = .ok (.iconst 1, 1) := by decide +kernel
theorem dL_law_574 : decode cL_law 574 = .ok (.goto 4, 3) := by decide +kernel
theorem dL_law_577 : decode cL_law 577 = .ok (.iconst 0, 1) := by decide +kernel
theorem dL_law_578 : decode cL_law 578 = .ok (.istore 11, 2) := by decide +kernel
theorem dL_law_580 : decode cL_law 580 = .ok (.aload_n 1, 1) := by decide +kernel
theorem dL_law_581 : decode cL_law 581 = .ok (.iload 8, 2) := by decide +kernel
theorem dL_law_583 : decode cL_law 583 = .ok (.iload 9, 2) := by decide +kernel
theorem dL_law_585 : decode cL_law 585 = .ok (.iload 12, 2) := by decide +kernel
theorem dL_law_587 : decode cL_law 587 = .ok (.invokevirtual 199, 3) := by decide +kernel
theorem dL_law_590 : decode cL_law 590 = .ok (.iload 11, 2) := by decide +kernel
theorem dL_law_592 : decode cL_law 592 = .ok (.if_icmp .eq 5, 3) := by decide +kernel
theorem dL_law_595 : decode cL_law 595 = .ok (.iconst 0, 1) := by decide +kernel
theorem dL_law_596 : decode cL_law 596 = .ok (.ireturn, 1) := by decide +kernel
theorem dL_law_597 : decode cL_law 597 = .ok (.iload 11, 2) := by decide +kernel
theorem dL_law_599 : decode cL_law 599 = .ok (.ifCond .eq 86, 3) := by decide +kernel
theorem dL_law_602 : decode cL_law 602 = .ok (.aload_n 2, 1) := by decide +kernel
theorem dL_law_603 : decode cL_law 603 = .ok (.getfield 136, 3) := by decide +kernel
theorem dL_law_606 : decode cL_law 606 = .ok (.iload 8, 2) := by decide +kernel
theorem dL_law_608 : decode cL_law 608 = .ok (.aaload, 1) := by decide +kernel
theorem dL_law_609 : decode cL_law 609 = .ok (.bipush 6, 2) := by decide +kernel
theorem dL_law_611 : decode cL_law 611 = .ok (.iconst 1, 1) := by decide +kernel
theorem dL_law_612 : decode cL_law 612 = .ok (.iastore, 1) := by decide +kernel
theorem dL_law_613 : decode cL_law 613 = .ok (.aload_n 2, 1) := by decide +kernel
theorem dL_law_614 : decode cL_law 614 = .ok (.getfield 136, 3) := by decide +kernel
theorem dL_law_617 : decode cL_law 617 = .ok (.iload 8, 2) := by decide +kernel
theorem dL_law_619 : decode cL_law 619 = .ok (.aaload, 1) := by decide +kernel
theorem dL_law_620 : decode cL_law 620 = .ok (.bipush 7, 2) := by decide +kernel
theorem dL_law_622 : decode cL_law 622 = .ok (.aload_n 2, 1) := by decide +kernel
theorem dL_law_623 : decode cL_law 623 = .ok (.getfield 136, 3) := by decide +kernel
theorem dL_law_626 : decode cL_law 626 = .ok (.iload 9, 2) := by decide +kernel
theorem dL_law_628 : decode cL_law 628 = .ok (.aaload, 1) := by decide +kernel
theorem dL_law_629 : decode cL_law 629 = .ok (.bipush 7, 2) := by decide +kernel
theorem dL_law_631 : decode cL_law 631 = .ok (.iaload, 1) := by decide +kernel
theorem dL_law_632 : decode cL_law 632 = .ok (.iastore, 1) := by decide +kernel
theorem dL_law_633 : decode cL_law 633 = .ok (.aload_n 2, 1) := by decide +kernel
theorem dL_law_634 : decode cL_law 634 = .ok (.getfield 136, 3) := by decide +kernel
theorem dL_law_637 : decode cL_law 637 = .ok (.iload 9, 2) := by decide +kernel
theorem dL_law_639 : decode cL_law 639 = .ok (.aaload, 1) := by decide +kernel
theorem dL_law_640 : decode cL_law 640 = .ok (.bipush 6, 2) := by decide +kernel
theorem dL_law_642 : decode cL_law 642 = .ok (.iconst 0, 1) := by decide +kernel
theorem dL_law_643 : decode cL_law 643 = .ok (.iastore, 1) := by decide +kernel
theorem dL_law_644 : decode cL_law 644 = .ok (.aload_n 2, 1) := by decide +kernel
theorem dL_law_645 : decode cL_law 645 = .ok (.getfield 136, 3) := by decide +kernel
theorem dL_law_648 : decode cL_law 648 = .ok (.iload 9, 2) := by decide +kernel
theorem dL_law_650 : decode cL_law 650 = .ok (.aaload, 1) := by decide +kernel
theorem dL_law_651 : decode cL_law 651 = .ok (.iconst 5, 1) := by decide +kernel
theorem dL_law_652 : decode cL_law 652 = .ok (.dup2, 1) := by decide +kernel
theorem dL_law_653 : decode cL_law 653 = .ok (.iaload, 1) := by decide +kernel
theorem dL_law_654 : decode cL_law 654 = .ok (.iload 12, 2) := by decide +kernel
theorem dL_law_656 : decode cL_law 656 = .ok (.isub, 1) := by decide +kernel
theorem dL_law_657 : decode cL_law 657 = .ok (.iastore, 1) := by decide +kernel
theorem dL_law_658 : decode cL_law 658 = .ok (.aload_n 2, 1) := by decide +kernel
theorem dL_law_659 : decode cL_law 659 = .ok (.getfield 136, 3) := by decide +kernel
theorem dL_law_662 : decode cL_law 662 = .ok (.iload 8, 2) := by decide +kernel
theorem dL_law_664 : decode cL_law 664 = .ok (.aaload, 1) := by decide +kernel
theorem dL_law_665 : decode cL_law 665 = .ok (.iconst 5, 1) := by decide +kernel
theorem dL_law_666 : decode cL_law 666 = .ok (.sipush 999, 3) := by decide +kernel
theorem dL_law_669 : decode cL_law 669 = .ok (.aload_n 2, 1) := by decide +kernel
theorem dL_law_670 : decode cL_law 670 = .ok (.getfield 136, 3) := by decide +kernel
theorem dL_law_673 : decode cL_law 673 = .ok (.iload 8, 2) := by decide +kernel
theorem dL_law_675 : decode cL_law 675 = .ok (.aaload, 1) := by decide +kernel
theorem dL_law_676 : decode cL_law 676 = .ok (.iconst 5, 1) := by decide +kernel
theorem dL_law_677 : decode cL_law 677 = .ok (.iaload, 1) := by decide +kernel
theorem dL_law_678 : decode cL_law 678 = .ok (.iload 12, 2) := by decide +kernel
theorem dL_law_680 : decode cL_law 680 = .ok (.iadd, 1) := by decide +kernel
theorem dL_law_681 : decode cL_law 681 = .ok (.invokestatic 8, 3) := by decide +kernel
theorem dL_law_684 : decode cL_law 684 = .ok (.iastore, 1) := by decide +kernel
theorem dL_law_685 : decode cL_law 685 = .ok (.goto 397, 3) := by decide +kernel
theorem dL_law_688 : decode cL_law 688 = .ok (.iload 7, 2) := by decide +kernel
theorem dL_law_690 : decode cL_law 690 = .ok (.bipush 8, 2) := by decide +kernel
theorem dL_law_692 : decode cL_law 692 = .ok (.if_icmp .ne 323, 3) := by decide +kernel
theorem dL_law_695 : decode cL_law 695 = .ok (.iload 6, 2) := by decide +kernel
theorem dL_law_697 : decode cL_law 697 = .ok (.iconst 4, 1) := by decide +kernel
theorem dL_law_698 : decode cL_law 698 = .ok (.ishr, 1) := by decide +kernel
theorem dL_law_699 : decode cL_law 699 = .ok (.iconst 0, 1) := by decide +kernel
theorem dL_law_700 : decode cL_law 700 = .ok (.bipush 7, 2) := by decide +kernel
theorem dL_law_702 : decode cL_law 702 = .ok (.invokestatic 43, 3) := by decide +kernel
theorem dL_law_705 : decode cL_law 705 = .ok (.istore 12, 2) := by decide +kernel
theorem dL_law_707 : decode cL_law 707 = .ok (.iload 12, 2) := by decide +kernel
theorem dL_law_709 : decode cL_law 709 = .ok (.iconst 4, 1) := by decide +kernel
theorem dL_law_710 : decode cL_law 710 = .ok (.if_icmp .ne 17, 3) := by decide +kernel
theorem dL_law_713 : decode cL_law 713 = .ok (.iload 6, 2) := by decide +kernel
theorem dL_law_715 : decode cL_law 715 = .ok (.bipush 7, 2) := by decide +kernel
theorem dL_law_717 : decode cL_law 717 = .ok (.ishr, 1) := by decide +kernel
theorem dL_law_718 : decode cL_law 718 = .ok (.iconst 0, 1) := by decide +kernel
theorem dL_law_719 : decode cL_law 719 = .ok (.bipush 16, 2) := by decide +kernel
theorem dL_law_721 : decode cL_law 721 = .ok (.invokestatic 43, 3) := by decide +kernel
theorem dL_law_724 : decode cL_law 724 = .ok (.goto 24, 3) := by decide +kernel
theorem dL_law_727 : decode cL_law 727 = .ok (.iload 12, 2) := by decide +kernel
theorem dL_law_729 : decode cL_law 729 = .ok (.iconst 3, 1) := by decide +kernel
theorem dL_law_730 : decode cL_law 730 = .ok (.if_icmp .ne 16, 3) := by decide +kernel
theorem dL_law_733 : decode cL_law 733 = .ok (.iload 6, 2) := by decide +kernel
theorem dL_law_735 : decode cL_law 735 = .ok (.bipush 7, 2) := by decide +kernel
theorem dL_law_737 : decode cL_law 737 = .ok (.ishr, 1) := by decide +kernel
theorem dL_law_738 : decode cL_law 738 = .ok (.iconst 0, 1) := by decide +kernel
theorem dL_law_739 : decode cL_law 739 = .ok (.iconst 2, 1) := by decide +kernel
theorem dL_law_740 : decode cL_law 740 = .ok (.invokestatic 43, 3) := by decide +kernel
theorem dL_law_743 : decode cL_law 743 = .ok (.goto 5, 3) := by decide +kernel
theorem dL_law_746 : decode cL_law 746 = .ok (.iload 8, 2) := by decide +kernel
theorem dL_law_748 : decode cL_law 748 = .ok (.istore 13, 2) := by decide +kernel
theorem dL_law_750 : decode cL_law 750 = .ok (.iload 6, 2) := by decide +kernel
theorem dL_law_752 : decode cL_law 752 = .ok (.bipush 6, 2) := by decide +kernel
theorem dL_law_754 : decode cL_law 754 = .ok (.ishr, 1) := by decide +kernel
theorem dL_law_755 : decode cL_law 755 = .ok (.iconst 0, 1) := by decide +kernel
theorem dL_law_756 : decode cL_law 756 = .ok (.iload 12, 2) := by decide +kernel
theorem dL_law_758 : decode cL_law 758 = .ok (.iconst 4, 1) := by decide +kernel
theorem dL_law_759 : decode cL_law 759 = .ok (.if_icmp .ne 7, 3) := by decide +kernel
theorem dL_law_762 : decode cL_law 762 = .ok (.iconst 1, 1) := by decide +kernel
theorem dL_law_763 : decode cL_law 763 = .ok (.goto 5, 3) := by decide +kernel
theorem dL_law_766 : decode cL_law 766 = .ok (.bipush 101, 2) := by decide +kernel
theorem dL_law_768 : decode cL_law 768 = .ok (.invokestatic 43, 3) := by decide +kernel
theorem dL_law_771 : decode cL_law 771 = .ok (.istore 14, 2) := by decide +kernel
theorem dL_law_773 : decode cL_law 773 = .ok (.bipush 8, 2) := by decide +kernel
theorem dL_law_775 : decode cL_law 775 = .ok (.newarray .int, 2) := by decide +kernel
theorem dL_law_777 : decode cL_law 777 = .ok (.dup, 1) := by decide +kernel
theorem dL_law_778 : decode cL_law 778 = .ok (.iconst 0, 1) := by decide +kernel
theorem dL_law_779 : decode cL_law 779 = .ok (.bipush 99, 2) := by decide +kernel
theorem dL_law_781 : decode cL_law 781 = .ok (.iastore, 1) := by decide +kernel
theorem dL_law_782 : decode cL_law 782 = .ok (.dup, 1) := by decide +kernel
theorem dL_law_783 : decode cL_law 783 = .ok (.iconst 1, 1) := by decide +kernel
theorem dL_law_784 : decode cL_law 784 = .ok (.bipush 9, 2) := by decide +kernel
theorem dL_law_786 : decode cL_law 786 = .ok (.iastore, 1) := by decide +kernel
theorem dL_law_787 : decode cL_law 787 = .ok (.dup, 1) := by decide +kernel
theorem dL_law_788 : decode cL_law 788 = .ok (.iconst 2, 1) := by decide +kernel
theorem dL_law_789 : decode cL_law 789 = .ok (.bipush 99, 2) := by decide +kernel
theorem dL_law_791 : decode cL_law 791 = .ok (.iastore, 1) := by decide +kernel
theorem dL_law_792 : decode cL_law 792 = .ok (.dup, 1) := by decide +kernel
theorem dL_law_793 : decode cL_law 793 = .ok (.iconst 3, 1) := by decide +kernel
theorem dL_law_794 : decode cL_law 794 = .ok (.bipush 9, 2) := by decide +kernel
theorem dL_law_796 : decode cL_law 796 = .ok (.iastore, 1) := by decide +kernel
theorem dL_law_797 : decode cL_law 797 = .ok (.dup, 1) := by decide +kernel
theorem dL_law_798 : decode cL_law 798 = .ok (.iconst 4, 1) := by decide +kernel
theorem dL_law_799 : decode cL_law 799 = .ok (.iconst 1, 1) := by decide +kernel
theorem dL_law_800 : decode cL_law 800 = .ok (.iastore, 1) := by decide +kernel
theorem dL_law_801 : decode cL_law 801 = .ok (.dup, 1) := by decide +kernel
theorem dL_law_802 : decode cL_law 802 = .ok (.iconst 5, 1) := by decide +kernel
theorem dL_law_803 : decode cL_law 803 = .ok (.bipush 99, 2) := by decide +kernel
theorem dL_law_805 : decode cL_law 805 = .ok (.iastore, 1) := by decide +kernel
theorem dL_law_806 : decode cL_law 806 = .ok (.dup, 1) := by decide +kernel
theorem dL_law_807 : decode cL_law 807 = .ok (.bipush 6, 2) := by decide +kernel
theorem dL_law_809 : decode cL_law 809 = .ok (.sipush 999, 3) := by decide +kernel
theorem dL_law_812 : decode cL_law 812 = .ok (.iastore, 1) := by decide +kernel
theorem dL_law_813 : decode cL_law 813 = .ok (.dup, 1) := by decide +kernel
theorem dL_law_814 : decode cL_law 814 = .ok (.bipush 7, 2) := by decide +kernel
theorem dL_law_816 : decode cL_law 816 = .ok (.iconst (-1), 1) := by decide +kernel
theorem dL_law_817 : decode cL_law 817 = .ok (.iastore, 1) := by decide +kernel
theorem dL_law_818 : decode cL_law 818 = .ok (.astore 15, 2) := by decide +kernel
theorem dL_law_820 : decode cL_law 820 = .ok (.iload 14, 2) := by decide +kernel
theorem dL_law_822 : decode cL_law 822 = .ok (.aload 15, 2) := by decide +kernel
theorem dL_law_824 : decode cL_law 824 = .ok (.iload 12, 2) := by decide +kernel
theorem dL_law_826 : decode cL_law 826 = .ok (.iaload, 1) := by decide +kernel
theorem dL_law_827 : decode cL_law 827 = .ok (.if_icmp .gt 53, 3) := by decide +kernel
theorem dL_law_830 : decode cL_law 830 = .ok (.iload 12, 2) := by decide +kernel
theorem dL_law_832 : decode cL_law 832 = .ok (.iconst 3, 1) := by decide +kernel
theorem dL_law_833 : decode cL_law 833 = .ok (.if_icmp .lt 43, 3) := by decide +kernel
theorem dL_law_836 : decode cL_law 836 = .ok (.iload 12, 2) := by decide +kernel
theorem dL_law_838 : decode cL_law 838 = .ok (.iconst 3, 1) := by decide +kernel
theorem dL_law_839 : decode cL_law 839 = .ok (.if_icmp .ne 9, 3) := by decide +kernel
theorem dL_law_842 : decode cL_law 842 = .ok (.iload 13, 2) := by decide +kernel
theorem dL_law_844 : decode cL_law 844 = .ok (.iconst 2, 1) := by decide +kernel
theorem dL_law_845 : decode cL_law 845 = .ok (.if_icmp .lt 31, 3) := by decide +kernel
theorem dL_law_848 : decode cL_law 848 = .ok (.iload 12, 2) := by decide +kernel
theorem dL_law_850 : decode cL_law 850 = .ok (.iconst 4, 1) := by decide +kernel
theorem dL_law_851 : decode cL_law 851 = .ok (.if_icmp .ne 10, 3) := by decide +kernel
theorem dL_law_854 : decode cL_law 854 = .ok (.iload 13, 2) := by decide +kernel
theorem dL_law_856 : decode cL_law 856 = .ok (.bipush 16, 2) := by decide +kernel
theorem dL_law_858 : decode cL_law 858 = .ok (.if_icmp .lt 18, 3) := by decide +kernel
theorem dL_law_861 : decode cL_law 861 = .ok (.iload 12, 2) := by decide +kernel
theorem dL_law_863 : decode cL_law 863 = .ok (.iconst 4, 1) := by decide +kernel
theorem dL_law_864 : decode cL_law 864 = .ok (.if_icmp .le 16, 3) := by decide +kernel
theorem dL_law_867 : decode cL_law 867 = .ok (.iload 13, 2) := by decide +kernel
theorem dL_law_869 : decode cL_law 869 = .ok (.aload_n 2, 1) := by decide +kernel
theorem dL_law_870 : decode cL_law 870 = .ok (.getfield 37, 3) := by decide +kernel
theorem dL_law_873 : decode cL_law 873 = .ok (.if_icmp .ge 7, 3) := by decide +kernel
theorem dL_law_876 : decode cL_law 876 = .ok (.iconst 1, 1) := by decide +kernel
theorem dL_law_877 : decode cL_law 877 = .ok (.goto 4, 3) := by decide +kernel
theorem dL_law_880 : decode cL_law 880 = .ok (.iconst 0, 1) := by decide +kernel
theorem dL_law_881 : decode cL_law 881 = .ok (.istore 16, 2) := by decide +kernel
theorem dL_law_883 : decode cL_law 883 = .ok (.aload_n 1, 1) := by decide +kernel
theorem dL_law_884 : decode cL_law 884 = .ok (.iload 12, 2) := by decide +kernel
theorem dL_law_886 : decode cL_law 886 = .ok (.iload 13, 2) := by decide +kernel
theorem dL_law_888 : decode cL_law 888 = .ok (.iload 14, 2) := by decide +kernel
theorem dL_law_890 : decode cL_law 890 = .ok (.invokevirtual 148, 3) := by decide +kernel
theorem dL_law_893 : decode cL_law 893 = .ok (.iload 16, 2) := by decide +kernel
theorem dL_law_895 : decode cL_law 895 = .ok (.if_icmp .eq 5, 3) := by decide +kernel
theorem dL_law_898 : decode cL_law 898 = .ok (.iconst 0, 1) := by decide +kernel
theorem dL_law_899 : decode cL_law 899 = .ok (.ireturn, 1) := by decide +kernel
theorem dL_law_900 : decode cL_law 900 = .ok (.iload 16, 2) := by decide +kernel
theorem dL_law_902 : decode cL_law 902 = .ok (.ifCond .eq 110, 3) := by decide +kernel
theorem dL_law_905 : decode cL_law 905 = .ok (.iload 12, 2) := by decide +kernel
theorem dL_law_907 : decode cL_law 907 = .ok (.ifCond .ne 9, 3) := by decide +kernel
theorem dL_law_910 : decode cL_law 910 = .ok (.aload_n 2, 1) := by decide +kernel
theorem dL_law_911 : decode cL_law 911 = .ok (.iload 14, 2) := by decide +kernel
theorem dL_law_913 : decode cL_law 913 = .ok (.putfield 152, 3) := by decide +kernel
theorem dL_law_916 : decode cL_law 916 = .ok (.iload 12, 2) := by decide +kernel
theorem dL_law_918 : decode cL_law 918 = .ok (.iconst 1, 1) := by decide +kernel
theorem dL_law_919 : decode cL_law 919 = .ok (.if_icmp .ne 9, 3) := by decide +kernel
theorem dL_law_922 : decode cL_law 922 = .ok (.aload_n 2, 1) := by decide +kernel
theorem dL_law_923 : decode cL_law 923 = .ok (.iload 14, 2) := by decide +kernel
theorem dL_law_925 : decode cL_law 925 = .ok (.putfield 155, 3) := by decide +kernel
theorem dL_law_928 : decode cL_law 928 = .ok (.iload 12, 2) := by decide +kernel
theorem dL_law_930 : decode cL_law 930 = .ok (.iconst 2, 1) := by decide +kernel
theorem dL_law_931 : decode cL_law 931 = .ok (.if_icmp .ne 9, 3) := by decide +kernel
theorem dL_law_934 : decode cL_law 934 = .ok (.aload_n 2, 1) := by decide +kernel
theorem dL_law_935 : decode cL_law 935 = .ok (.iload 14, 2) := by decide +kernel
theorem dL_law_937 : decode cL_law 937 = .ok (.putfield 158, 3) := by decide +kernel
theorem dL_law_940 : decode cL_law 940 = .ok (.iload 12, 2) := by decide +kernel
theorem dL_law_942 : decode cL_law 942 = .ok (.iconst 3, 1) := by decide +kernel
theorem dL_law_943 : decode cL_law 943 = .ok (.if_icmp .ne 12, 3) := by decide +kernel
theorem dL_law_946 : decode cL_law 946 = .ok (.aload_n 2, 1) := by decide +kernel
theorem dL_law_947 : decode cL_law 947 = .ok (.getfield 165, 3) := by decide +kernel
theorem dL_law_950 : decode cL_law 950 = .ok (.iload 13, 2) := by decide +kernel
theorem dL_law_952 : decode cL_law 952 = .ok (.iload 14, 2) := by decide +kernel
theorem dL_law_954 : decode cL_law 954 = .ok (.iastore, 1) := by decide +kernel
theorem dL_law_955 : decode cL_law 955 = .ok (.iload 12, 2) := by decide +kernel
theorem dL_law_957 : decode cL_law 957 = .ok (.iconst 4, 1) := by decide +kernel
theorem dL_law_958 : decode cL_law 958 = .ok (.if_icmp .ne 24, 3) := by decide +kernel
theorem dL_law_961 : decode cL_law 961 = .ok (.aload_n 2, 1) := by decide +kernel
theorem dL_law_962 : decode cL_law 962 = .ok (.aload_n 2, 1) := by decide +kernel
theorem dL_law_963 : decode cL_law 963 = .ok (.getfield 162, 3) := by decide +kernel
theorem dL_law_966 : decode cL_law 966 = .ok (.iconst 1, 1) := by decide +kernel
theorem dL_law_967 : decode cL_law 967 = .ok (.iload 13, 2) := by decide +kernel
theorem dL_law_969 : decode cL_law 969 = .ok (.ishl, 1) := by decide +kernel
theorem dL_law_970 : decode cL_law 970 = .ok (.iconst (-1), 1) := by decide +kernel
theorem dL_law_971 : decode cL_law 971 = .ok (.ixor, 1) := by decide +kernel
theorem dL_law_972 : decode cL_law 972 = .ok (.iand, 1) := by decide +kernel
theorem dL_law_973 : decode cL_law 973 = .ok (.iload 14, 2) := by decide +kernel
theorem dL_law_975 : decode cL_law 975 = .ok (.iload 13, 2) := by decide +kernel
theorem dL_law_977 : decode cL_law 977 = .ok (.ishl, 1) := by decide +kernel
theorem dL_law_978 : decode cL_law 978 = .ok (.ior, 1) := by decide +kernel
theorem dL_law_979 : decode cL_law 979 = .ok (.putfield 162, 3) := by decide +kernel
theorem dL_law_982 : decode cL_law 982 = .ok (.iload 12, 2) := by decide +kernel
theorem dL_law_984 : decode cL_law 984 = .ok (.iconst 4, 1) := by decide +kernel
theorem dL_law_985 : decode cL_law 985 = .ok (.if_icmp .le 24, 3) := by decide +kernel
theorem dL_law_988 : decode cL_law 988 = .ok (.aload_n 2, 1) := by decide +kernel
theorem dL_law_989 : decode cL_law 989 = .ok (.getfield 136, 3) := by decide +kernel
theorem dL_law_992 : decode cL_law 992 = .ok (.iload 13, 2) := by decide +kernel
theorem dL_law_994 : decode cL_law 994 = .ok (.aaload, 1) := by decide +kernel
theorem dL_law_995 : decode cL_law 995 = .ok (.iload 12, 2) := by decide +kernel
theorem dL_law_997 : decode cL_law 997 = .ok (.iconst 5, 1) := by decide +kernel
theorem dL_law_998 : decode cL_law 998 = .ok (.if_icmp .ne 7, 3) := by decide +kernel
theorem dL_law_1001 : decode cL_law 1001 = .ok (.iconst 3, 1) := by decide +kernel
theorem dL_law_1002 : decode cL_law 1002 = .ok (.goto 4, 3) := by decide +kernel
theorem dL_law_1005 : decode cL_law 1005 = .ok (.iconst 5, 1) := by decide +kernel
theorem dL_law_1006 : decode cL_law 1006 = .ok (.iload 14, 2) := by decide +kernel
theorem dL_law_1008 : decode cL_law 1008 = .ok (.iastore, 1) := by decide +kernel
theorem dL_law_1009 : decode cL_law 1009 = .ok (.iconst 0, 1) := by decide +kernel
theorem dL_law_1010 : decode cL_law 1010 = .ok (.istore 4, 2) := by decide +kernel
theorem dL_law_1012 : decode cL_law 1012 = .ok (.goto 70, 3) := by decide +kernel
theorem dL_law_1015 : decode cL_law 1015 = .ok (.iload 7, 2) := by decide +kernel
theorem dL_law_1017 : decode cL_law 1017 = .ok (.bipush 9, 2) := by decide +kernel
theorem dL_law_1019 : decode cL_law 1019 = .ok (.if_icmp .ne 31, 3) := by decide +kernel
theorem dL_law_1022 : decode cL_law 1022 = .ok (.iload 6, 2) := by decide +kernel
theorem dL_law_1024 : decode cL_law 1024 = .ok (.bipush 6, 2) := by decide +kernel
theorem dL_law_1026 : decode cL_law 1026 = .ok (.ishr, 1) := by decide +kernel
theorem dL_law_1027 : decode cL_law 1027 = .ok (.iconst 1, 1) := by decide +kernel
theorem dL_law_1028 : decode cL_law 1028 = .ok (.iand, 1) := by decide +kernel
theorem dL_law_1029 : decode cL_law 1029 = .ok (.ifCond .ne 53, 3) := by decide +kernel
theorem dL_law_1032 : decode cL_law 1032 = .ok (.aload_n 1, 1) := by decide +kernel
theorem dL_law_1033 : decode cL_law 1033 = .ok (.aload_n 2, 1) := by decide +kernel
theorem dL_law_1034 : decode cL_law 1034 = .ok (.iload 6, 2) := by decide +kernel
theorem dL_law_1036 : decode cL_law 1036 = .ok (.invokestatic 168, 3) := by decide +kernel
theorem dL_law_1039 : decode cL_law 1039 = .ok (.ifCond .ne 5, 3) := by decide +kernel
theorem dL_law_1042 : decode cL_law 1042 = .ok (.iconst 0, 1) := by decide +kernel
theorem dL_law_1043 : decode cL_law 1043 = .ok (.ireturn, 1) := by decide +kernel
theorem dL_law_1044 : decode cL_law 1044 = .ok (.iconst 0, 1) := by decide +kernel
theorem dL_law_1045 : decode cL_law 1045 = .ok (.istore 4, 2) := by decide +kernel
theorem dL_law_1047 : decode cL_law 1047 = .ok (.goto 35, 3) := by decide +kernel
theorem dL_law_1050 : decode cL_law 1050 = .ok (.aload_n 1, 1) := by decide +kernel
theorem dL_law_1051 : decode cL_law 1051 = .ok (.invokevirtual 202, 3) := by decide +kernel
theorem dL_law_1054 : decode cL_law 1054 = .ok (.iload 4, 2) := by decide +kernel
theorem dL_law_1056 : decode cL_law 1056 = .ok (.ifCond .le 7, 3) := by decide +kernel
theorem dL_law_1059 : decode cL_law 1059 = .ok (.iconst 1, 1) := by decide +kernel
theorem dL_law_1060 : decode cL_law 1060 = .ok (.goto 4, 3) := by decide +kernel
theorem dL_law_1063 : decode cL_law 1063 = .ok (.iconst 0, 1) := by decide +kernel
theorem dL_law_1064 : decode cL_law 1064 = .ok (.if_icmp .eq 5, 3) := by decide +kernel
theorem dL_law_1067 : decode cL_law 1067 = .ok (.iconst 0, 1) := by decide +kernel
theorem dL_law_1068 : decode cL_law 1068 = .ok (.ireturn, 1) := by decide +kernel
theorem dL_law_1069 : decode cL_law 1069 = .ok (.iload 4, 2) := by decide +kernel
theorem dL_law_1071 : decode cL_law 1071 = .ok (.ifCond .le 11, 3) := by decide +kernel
theorem dL_law_1074 : decode cL_law 1074 = .ok (.aload_n 3, 1) := by decide +kernel
theorem dL_law_1075 : decode cL_law 1075 = .ok (.iinc 4 (-1), 3) := by decide +kernel
theorem dL_law_1078 : decode cL_law 1078 = .ok (.iload 4, 2) := by decide +kernel
theorem dL_law_1080 : decode cL_law 1080 = .ok (.aaload, 1) := by decide +kernel
theorem dL_law_1081 : decode cL_law 1081 = .ok (.astore_n 2, 1) := by decide +kernel
theorem dL_law_1082 : decode cL_law 1082 = .ok (.iload 11, 2) := by decide +kernel
theorem dL_law_1084 : decode cL_law 1084 = .ok (.ifCond .eq 48, 3) := by decide +kernel
theorem dL_law_1087 : decode cL_law 1087 = .ok (.iload 4, 2) := by decide +kernel
theorem dL_law_1089 : decode cL_law 1089 = .ok (.bipush 6, 2) := by decide +kernel
theorem dL_law_1091 : decode cL_law 1091 = .ok (.if_icmp .ne 32, 3) := by decide +kernel
theorem dL_law_1094 : decode cL_law 1094 = .ok (.iconst 1, 1) := by decide +kernel
theorem dL_law_1095 : decode cL_law 1095 = .ok (.istore 12, 2) := by decide +kernel
theorem dL_law_1097 : decode cL_law 1097 = .ok (.iload 12, 2) := by decide +kernel
theorem dL_law_1099 : decode cL_law 1099 = .ok (.bipush 6, 2) := by decide +kernel
theorem dL_law_1101 : decode cL_law 1101 = .ok (.if_icmp .ge 19, 3) := by decide +kernel
theorem dL_law_1104 : decode cL_law 1104 = .ok (.aload_n 3, 1) := by decide +kernel
theorem dL_law_1105 : decode cL_law 1105 = .ok (.iload 12, 2) := by decide +kernel
theorem dL_law_1107 : decode cL_law 1107 = .ok (.iconst 1, 1) := by decide +kernel
theorem dL_law_1108 : decode cL_law 1108 = .ok (.isub, 1) := by decide +kernel
theorem dL_law_1109 : decode cL_law 1109 = .ok (.aload_n 3, 1) := by decide +kernel
theorem dL_law_1110 : decode cL_law 1110 = .ok (.iload 12, 2) := by decide +kernel
theorem dL_law_1112 : decode cL_law 1112 = .ok (.aaload, 1) := by decide +kernel
theorem dL_law_1113 : decode cL_law 1113 = .ok (.aastore, 1) := by decide +kernel
theorem dL_law_1114 : decode cL_law 1114 = .ok (.iinc 12 1, 3) := by decide +kernel
theorem dL_law_1117 : decode cL_law 1117 = .ok (.goto (-20), 3) := by decide +kernel
theorem dL_law_1120 : decode cL_law 1120 = .ok (.iinc 4 (-1), 3) := by decide +kernel
theorem dL_law_1123 : decode cL_law 1123 = .ok (.aload_n 3, 1) := by decide +kernel
theorem dL_law_1124 : decode cL_law 1124 = .ok (.iload 4, 2) := by decide +kernel
theorem dL_law_1126 : decode cL_law 1126 = .ok (.iinc 4 1, 3) := by decide +kernel
theorem dL_law_1129 : decode cL_law 1129 = .ok (.aload 10, 2) := by decide +kernel
theorem dL_law_1131 : decode cL_law 1131 = .ok (.aastore, 1) := by decide +kernel
theorem dL_law_1132 : decode cL_law 1132 = .ok (.aload_n 1, 1) := by decide +kernel
theorem dL_law_1133 : decode cL_law 1133 = .ok (.bipush 14, 2) := by decide +kernel
theorem dL_law_1135 : decode cL_law 1135 = .ok (.invokevirtual 206, 3) := by decide +kernel
theorem dL_law_1138 : decode cL_law 1138 = .ok (.iload 4, 2) := by decide +kernel
theorem dL_law_1140 : decode cL_law 1140 = .ok (.if_icmp .ne 11, 3) := by decide +kernel
theorem dL_law_1143 : decode cL_law 1143 = .ok (.aload_n 2, 1) := by decide +kernel
theorem dL_law_1144 : decode cL_law 1144 = .ok (.aload_n 1, 1) := by decide +kernel
theorem dL_law_1145 : decode cL_law 1145 = .ok (.invokevirtual 182, 3) := by decide +kernel
theorem dL_law_1148 : decode cL_law 1148 = .ok (.ifCond .ne 5, 3) := by decide +kernel
theorem dL_law_1151 : decode cL_law 1151 = .ok (.iconst 0, 1) := by decide +kernel
theorem dL_law_1152 : decode cL_law 1152 = .ok (.ireturn, 1) := by decide +kernel
theorem dL_law_1153 : decode cL_law 1153 = .ok (.iinc 5 1, 3) := by decide +kernel
theorem dL_law_1156 : decode cL_law 1156 = .ok (.goto (-1115), 3) := by decide +kernel
theorem dL_law_1159 : decode cL_law 1159 = .ok (.aload_n 1, 1) := by decide +kernel
theorem dL_law_1160 : decode cL_law 1160 = .ok (.iconst 0, 1) := by decide +kernel
theorem dL_law_1161 : decode cL_law 1161 = .ok (.invokevirtual 196, 3) := by decide +kernel
theorem dL_law_1164 : decode cL_law 1164 = .ok (.iconst (-1), 1) := by decide +kernel
theorem dL_law_1165 : decode cL_law 1165 = .ok (.if_icmp .ne 206, 3) := by decide +kernel
theorem dL_law_1168 : decode cL_law 1168 = .ok (.aload_n 1, 1) := by decide +kernel
theorem dL_law_1169 : decode cL_law 1169 = .ok (.bipush 61, 2) := by decide +kernel
theorem dL_law_1171 : decode cL_law 1171 = .ok (.invokevirtual 196, 3) := by decide +kernel
theorem dL_law_1174 : decode cL_law 1174 = .ok (.iconst (-1), 1) := by decide +kernel
theorem dL_law_1175 : decode cL_law 1175 = .ok (.if_icmp .ne 196, 3) := by decide +kernel
theorem dL_law_1178 : decode cL_law 1178 = .ok (.aload_n 1, 1) := by decide +kernel
theorem dL_law_1179 : decode cL_law 1179 = .ok (.iconst 2, 1) := by decide +kernel
theorem dL_law_1180 : decode cL_law 1180 = .ok (.iconst 0, 1) := by decide +kernel
theorem dL_law_1181 : decode cL_law 1181 = .ok (.iconst 1, 1) := by decide +kernel
theorem dL_law_1182 : decode cL_law 1182 = .ok (.invokevirtual 139, 3) := by decide +kernel
theorem dL_law_1185 : decode cL_law 1185 = .ok (.iconst (-1), 1) := by decide +kernel
theorem dL_law_1186 : decode cL_law 1186 = .ok (.if_icmp .ne 185, 3) := by decide +kernel
theorem dL_law_1189 : decode cL_law 1189 = .ok (.aload_n 1, 1) := by decide +kernel
theorem dL_law_1190 : decode cL_law 1190 = .ok (.iconst 0, 1) := by decide +kernel
theorem dL_law_1191 : decode cL_law 1191 = .ok (.bipush 121, 2) := by decide +kernel
theorem dL_law_1193 : decode cL_law 1193 = .ok (.iconst 1, 1) := by decide +kernel
theorem dL_law_1194 : decode cL_law 1194 = .ok (.invokevirtual 139, 3) := by decide +kernel
theorem dL_law_1197 : decode cL_law 1197 = .ok (.iconst (-1), 1) := by decide +kernel
theorem dL_law_1198 : decode cL_law 1198 = .ok (.if_icmp .ne 173, 3) := by decide +kernel
theorem dL_law_1201 : decode cL_law 1201 = .ok (.aload_n 1, 1) := by decide +kernel
theorem dL_law_1202 : decode cL_law 1202 = .ok (.iconst 0, 1) := by decide +kernel
theorem dL_law_1203 : decode cL_law 1203 = .ok (.iconst 0, 1) := by decide +kernel
theorem dL_law_1204 : decode cL_law 1204 = .ok (.iconst 0, 1) := by decide +kernel
theorem dL_law_1205 : decode cL_law 1205 = .ok (.invokevirtual 139, 3) := by decide +kernel
theorem dL_law_1208 : decode cL_law 1208 = .ok (.iconst (-1), 1) := by decide +kernel
theorem dL_law_1209 : decode cL_law 1209 = .ok (.if_icmp .ne 162, 3) := by decide +kernel
theorem dL_law_1212 : decode cL_law 1212 = .ok (.aload_n 1, 1) := by decide +kernel
theorem dL_law_1213 : decode cL_law 1213 = .ok (.iconst 0, 1) := by decide +kernel
theorem dL_law_1214 : decode cL_law 1214 = .ok (.iconst 0, 1) := by decide +kernel
theorem dL_law_1215 : decode cL_law 1215 = .ok (.bipush 10, 2) := by decide +kernel
theorem dL_law_1217 : decode cL_law 1217 = .ok (.invokevirtual 139, 3) := by decide +kernel
theorem dL_law_1220 : decode cL_law 1220 = .ok (.iconst (-1), 1) := by decide +kernel
theorem dL_law_1221 : decode cL_law 1221 = .ok (.if_icmp .ne 150, 3) := by decide +kernel
theorem dL_law_1224 : decode cL_law 1224 = .ok (.aload_n 1, 1) := by decide +kernel
theorem dL_law_1225 : decode cL_law 1225 = .ok (.iconst 0, 1) := by decide +kernel
theorem dL_law_1226 : decode cL_law 1226 = .ok (.iconst 0, 1) := by decide +kernel
theorem dL_law_1227 : decode cL_law 1227 = .ok (.bipush 100, 2) := by decide +kernel
theorem dL_law_1229 : decode cL_law 1229 = .ok (.invokevirtual 148, 3) := by decide +kernel
theorem dL_law_1232 : decode cL_law 1232 = .ok (.ifCond .ne 139, 3) := by decide +kernel
theorem dL_law_1235 : decode cL_law 1235 = .ok (.aload_n 1, 1) := by decide +kernel
theorem dL_law_1236 : decode cL_law 1236 = .ok (.iconst 1, 1) := by decide +kernel
theorem dL_law_1237 : decode cL_law 1237 = .ok (.iconst 0, 1) := by decide +kernel
theorem dL_law_1238 : decode cL_law 1238 = .ok (.bipush 10, 2) := by decide +kernel
theorem dL_law_1240 : decode cL_law 1240 = .ok (.invokevirtual 148, 3) := by decide +kernel
theorem dL_law_1243 : decode cL_law 1243 = .ok (.ifCond .ne 128, 3) := by decide +kernel
theorem dL_law_1246 : decode cL_law 1246 = .ok (.aload_n 1, 1) := by decide +kernel
theorem dL_law_1247 : decode cL_law 1247 = .ok (.iconst 3, 1) := by decide +kernel
theorem dL_law_1248 : decode cL_law 1248 = .ok (.iconst 2, 1) := by decide +kernel
theorem dL_law_1249 : decode cL_law 1249 = .ok (.iconst 0, 1) := by decide +kernel
theorem dL_law_1250 : decode cL_law 1250 = .ok (.invokevirtual 148, 3) := by decide +kernel
theorem dL_law_1253 : decode cL_law 1253 = .ok (.ifCond .ne 118, 3) := by decide +kernel
theorem dL_law_1256 : decode cL_law 1256 = .ok (.aload_n 1, 1) := by decide +kernel
theorem dL_law_1257 : decode cL_law 1257 = .ok (.iconst 4, 1) := by decide +kernel
theorem dL_law_1258 : decode cL_law 1258 = .ok (.bipush 16, 2) := by decide +kernel
theorem dL_law_1260 : decode cL_law 1260 = .ok (.iconst 0, 1) := by decide +kernel
theorem dL_law_1261 : decode cL_law 1261 = .ok (.invokevirtual 148, 3) := by decide +kernel
theorem dL_law_1264 : decode cL_law 1264 = .ok (.ifCond .ne 107, 3) := by decide +kernel
theorem dL_law_1267 : decode cL_law 1267 = .ok (.aload_n 1, 1) := by decide +kernel
theorem dL_law_1268 : decode cL_law 1268 = .ok (.iconst 5, 1) := by decide +kernel
theorem dL_law_1269 : decode cL_law 1269 = .ok (.aload_n 2, 1) := by decide +kernel
theorem dL_law_1270 : decode cL_law 1270 = .ok (.getfield 37, 3) := by decide +kernel
theorem dL_law_1273 : decode cL_law 1273 = .ok (.iconst 0, 1) := by decide +kernel
theorem dL_law_1274 : decode cL_law 1274 = .ok (.invokevirtual 148, 3) := by decide +kernel
theorem dL_law_1277 : decode cL_law 1277 = .ok (.ifCond .ne 94, 3) := by decide +kernel
theorem dL_law_1280 : decode cL_law 1280 = .ok (.aload_n 1, 1) := by decide +kernel
theorem dL_law_1281 : decode cL_law 1281 = .ok (.iconst (-1), 1) := by decide +kernel
theorem dL_law_1282 : decode cL_law 1282 = .ok (.iconst 0, 1) := by decide +kernel
theorem dL_law_1283 : decode cL_law 1283 = .ok (.invokevirtual 144, 3) := by decide +kernel
theorem dL_law_1286 : decode cL_law 1286 = .ok (.ifCond .ne 85, 3) := by decide +kernel
theorem dL_law_1289 : decode cL_law 1289 = .ok (.aload_n 1, 1) := by decide +kernel
theorem dL_law_1290 : decode cL_law 1290 = .ok (.iconst 0, 1) := by decide +kernel
theorem dL_law_1291 : decode cL_law 1291 = .ok (.iconst (-1), 1) := by decide +kernel
theorem dL_law_1292 : decode cL_law 1292 = .ok (.invokevirtual 144, 3) := by decide +kernel
theorem dL_law_1295 : decode cL_law 1295 = .ok (.ifCond .ne 76, 3) := by decide +kernel
theorem dL_law_1298 : decode cL_law 1298 = .ok (.aload_n 1, 1) := by decide +kernel
theorem dL_law_1299 : decode cL_law 1299 = .ok (.iconst 0, 1) := by decide +kernel
theorem dL_law_1300 : decode cL_law 1300 = .ok (.iconst 0, 1) := by decide +kernel
theorem dL_law_1301 : decode cL_law 1301 = .ok (.iconst 0, 1) := by decide +kernel
theorem dL_law_1302 : decode cL_law 1302 = .ok (.invokevirtual 199, 3) := by decide +kernel
theorem dL_law_1305 : decode cL_law 1305 = .ok (.ifCond .ne 66, 3) := by decide +kernel
theorem dL_law_1308 : decode cL_law 1308 = .ok (.aload_n 1, 1) := by decide +kernel
theorem dL_law_1309 : decode cL_law 1309 = .ok (.bipush 8, 2) := by decide +kernel
theorem dL_law_1311 : decode cL_law 1311 = .ok (.invokevirtual 209, 3) := by decide +kernel
theorem dL_law_1314 : decode cL_law 1314 = .ok (.iconst (-1), 1) := by decide +kernel
theorem dL_law_1315 : decode cL_law 1315 = .ok (.if_icmp .ne 56, 3) := by decide +kernel
theorem dL_law_1318 : decode cL_law 1318 = .ok (.aload_n 1, 1) := by decide +kernel
theorem dL_law_1319 : decode cL_law 1319 = .ok (.iconst 2, 1) := by decide +kernel
theorem dL_law_1320 : decode cL_law 1320 = .ok (.iconst 0, 1) := by decide +kernel
theorem dL_law_1321 : decode cL_law 1321 = .ok (.invokevirtual 211, 3) := by decide +kernel
theorem dL_law_1324 : decode cL_law 1324 = .ok (.iconst (-1), 1) := by decide +kernel
theorem dL_law_1325 : decode cL_law 1325 = .ok (.if_icmp .ne 46, 3) := by decide +kernel
theorem dL_law_1328 : decode cL_law 1328 = .ok (.aload_n 1, 1) := by decide +kernel
theorem dL_law_1329 : decode cL_law 1329 = .ok (.iconst 0, 1) := by decide +kernel
theorem dL_law_1330 : decode cL_law 1330 = .ok (.iconst 5, 1) := by decide +kernel
theorem dL_law_1331 : decode cL_law 1331 = .ok (.invokevirtual 211, 3) := by decide +kernel
theorem dL_law_1334 : decode cL_law 1334 = .ok (.iconst (-1), 1) := by decide +kernel
theorem dL_law_1335 : decode cL_law 1335 = .ok (.if_icmp .ne 36, 3) := by decide +kernel
theorem dL_law_1338 : decode cL_law 1338 = .ok (.aload_n 1, 1) := by decide +kernel
theorem dL_law_1339 : decode cL_law 1339 = .ok (.iconst 0, 1) := by decide +kernel
theorem dL_law_1340 : decode cL_law 1340 = .ok (.iconst 4, 1) := by decide +kernel
theorem dL_law_1341 : decode cL_law 1341 = .ok (.invokevirtual 214, 3) := by decide +kernel
theorem dL_law_1344 : decode cL_law 1344 = .ok (.bipush (-2), 2) := by decide +kernel
theorem dL_law_1346 : decode cL_law 1346 = .ok (.if_icmp .ne 25, 3) := by decide +kernel
theorem dL_law_1349 : decode cL_law 1349 = .ok (.aload_n 1, 1) := by decide +kernel
theorem dL_law_1350 : decode cL_law 1350 = .ok (.bipush 15, 2) := by decide +kernel
theorem dL_law_1352 : decode cL_law 1352 = .ok (.invokevirtual 206, 3) := by decide +kernel
theorem dL_law_1355 : decode cL_law 1355 = .ok (.iconst (-1), 1) := by decide +kernel
theorem dL_law_1356 : decode cL_law 1356 = .ok (.if_icmp .ne 15, 3) := by decide +kernel
theorem dL_law_1359 : decode cL_law 1359 = .ok (.aload_n 2, 1) := by decide +kernel
theorem dL_law_1360 : decode cL_law 1360 = .ok (.aload_n 1, 1) := by decide +kernel
theorem dL_law_1361 : decode cL_law 1361 = .ok (.invokevirtual 182, 3) := by decide +kernel
theorem dL_law_1364 : decode cL_law 1364 = .ok (.ifCond .eq 7, 3) := by decide +kernel
theorem dL_law_1367 : decode cL_law 1367 = .ok (.iconst 1, 1) := by decide +kernel
theorem dL_law_1368 : decode cL_law 1368 = .ok (.goto 4, 3) := by decide +kernel
theorem dL_law_1371 : decode cL_law 1371 = .ok (.iconst 0, 1) := by decide +kernel
theorem dL_law_1372 : decode cL_law 1372 = .ok (.ireturn, 1) := by decide +kernel
theorem dL_say_0 : decode cL_say 0 = .ok (.iconst 0, 1) := by decide +kernel
theorem dL_say_1 : decode cL_say 1 = .ok (.istore_n 2, 1) := by decide +kernel
theorem dL_say_2 : decode cL_say 2 = .ok (.iload_n 2, 1) := by decide +kernel
theorem dL_say_3 : decode cL_say 3 = .ok (.aload_n 1, 1) := by decide +kernel
theorem dL_say_4 : decode cL_say 4 = .ok (.invokevirtual 17, 3) := by decide +kernel
theorem dL_say_7 : decode cL_say 7 = .ok (.if_icmp .ge 89, 3) := by decide +kernel
theorem dL_say_10 : decode cL_say 10 = .ok (.iconst 5, 1) := by decide +kernel
theorem dL_say_11 : decode cL_say 11 = .ok (.newarray .int, 2) := by decide +kernel
theorem dL_say_13 : decode cL_say 13 = .ok (.astore_n 3, 1) := by decide +kernel
theorem dL_say_14 : decode cL_say 14 = .ok (.iconst 0, 1) := by decide +kernel
theorem dL_say_15 : decode cL_say 15 = .ok (.istore 4, 2) := by decide +kernel
theorem dL_say_17 : decode cL_say 17 = .ok (.iload 4, 2) := by decide +kernel
theorem dL_say_19 : decode cL_say 19 = .ok (.bipush 20, 2) := by decide +kernel
theorem dL_say_21 : decode cL_say 21 = .ok (.if_icmp .ge 49, 3) := by decide +kernel
theorem dL_say_24 : decode cL_say 24 = .ok (.aload_n 3, 1) := by decide +kernel
theorem dL_say_25 : decode cL_say 25 = .ok (.iload 4, 2) := by decide +kernel
theorem dL_say_27 : decode cL_say 27 = .ok (.iconst 4, 1) := by decide +kernel
theorem dL_say_28 : decode cL_say 28 = .ok (.idiv, 1) := by decide +kernel
theorem dL_say_29 : decode cL_say 29 = .ok (.aload_n 3, 1) := by decide +kernel
theorem dL_say_30 : decode cL_say 30 = .ok (.iload 4, 2) := by decide +kernel
theorem dL_say_32 : decode cL_say 32 = .ok (.iconst 4, 1) := by decide +kernel
theorem dL_say_33 : decode cL_say 33 = .ok (.idiv, 1) := by decide +kernel
theorem dL_say_34 : decode cL_say 34 = .ok (.iaload, 1) := by decide +kernel
theorem dL_say_35 : decode cL_say 35 = .ok (.bipush 8, 2) := by decide +kernel
theorem dL_say_37 : decode cL_say 37 = .ok (.ishl, 1) := by decide +kernel
theorem dL_say_38 : decode cL_say 38 = .ok (.iload_n 2, 1) := by decide +kernel
theorem dL_say_39 : decode cL_say 39 = .ok (.iload 4, 2) := by decide +kernel
theorem dL_say_41 : decode cL_say 41 = .ok (.iadd, 1) := by decide +kernel
theorem dL_say_42 : decode cL_say 42 = .ok (.aload_n 1, 1) := by decide +kernel
theorem dL_say_43 : decode cL_say 43 = .ok (.invokevirtual 17, 3) := by decide +kernel
theorem dL_say_46 : decode cL_say 46 = .ok (.if_icmp .ge 14, 3) := by decide +kernel
theorem dL_say_49 : decode cL_say 49 = .ok (.aload_n 1, 1) := by decide +kernel
theorem dL_say_50 : decode cL_say 50 = .ok (.iload_n 2, 1) := by decide +kernel
theorem dL_say_51 : decode cL_say 51 = .ok (.iload 4, 2) := by decide +kernel
theorem dL_say_53 : decode cL_say 53 = .ok (.iadd, 1) := by decide +kernel
theorem dL_say_54 : decode cL_say 54 = .ok (.invokevirtual 23, 3) := by decide +kernel
theorem dL_say_57 : decode cL_say 57 = .ok (.goto 5, 3) := by decide +kernel
theorem dL_say_60 : decode cL_say 60 = .ok (.bipush 32, 2) := by decide +kernel
theorem dL_say_62 : decode cL_say 62 = .ok (.ior, 1) := by decide +kernel
theorem dL_say_63 : decode cL_say 63 = .ok (.iastore, 1) := by decide +kernel
theorem dL_say_64 : decode cL_say 64 = .ok (.iinc 4 1, 3) := by decide +kernel
theorem dL_say_67 : decode cL_say 67 = .ok (.goto (-50), 3) := by decide +kernel
theorem dL_say_70 : decode cL_say 70 = .ok (.aload_n 0, 1) := by decide +kernel
theorem dL_say_71 : decode cL_say 71 = .ok (.aload_n 3, 1) := by decide +kernel
theorem dL_say_72 : decode cL_say 72 = .ok (.iconst 0, 1) := by decide +kernel
theorem dL_say_73 : decode cL_say 73 = .ok (.iaload, 1) := by decide +kernel
theorem dL_say_74 : decode cL_say 74 = .ok (.aload_n 3, 1) := by decide +kernel
theorem dL_say_75 : decode cL_say 75 = .ok (.iconst 1, 1) := by decide +kernel
theorem dL_say_76 : decode cL_say 76 = .ok (.iaload, 1) := by decide +kernel
theorem dL_say_77 : decode cL_say 77 = .ok (.aload_n 3, 1) := by decide +kernel
theorem dL_say_78 : decode cL_say 78 = .ok (.iconst 2, 1) := by decide +kernel
theorem dL_say_79 : decode cL_say 79 = .ok (.iaload, 1) := by decide +kernel
theorem dL_say_80 : decode cL_say 80 = .ok (.aload_n 3, 1) := by decide +kernel
theorem dL_say_81 : decode cL_say 81 = .ok (.iconst 3, 1) := by decide +kernel
theorem dL_say_82 : decode cL_say 82 = .ok (.iaload, 1) := by decide +kernel
theorem dL_say_83 : decode cL_say 83 = .ok (.aload_n 3, 1) := by decide +kernel
theorem dL_say_84 : decode cL_say 84 = .ok (.iconst 4, 1) := by decide +kernel
theorem dL_say_85 : decode cL_say 85 = .ok (.iaload, 1) := by decide +kernel
theorem dL_say_86 : decode cL_say 86 = .ok (.invokevirtual 27, 3) := by decide +kernel
theorem dL_say_89 : decode cL_say 89 = .ok (.pop, 1) := by decide +kernel
theorem dL_say_90 : decode cL_say 90 = .ok (.iinc 2 20, 3) := by decide +kernel
theorem dL_say_93 : decode cL_say 93 = .ok (.goto (-91), 3) := by decide +kernel
theorem dL_say_96 : decode cL_say 96 = .ok (.aload_n 1, 1) := by decide +kernel
theorem dL_say_97 : decode cL_say 97 = .ok (.invokevirtual 17, 3) := by decide +kernel
theorem dL_say_100 : decode cL_say 100 = .ok (.ifCond .le 12, 3) := by decide +kernel
theorem dL_say_103 : decode cL_say 103 = .ok (.aload_n 0, 1) := by decide +kernel
theorem dL_say_104 : decode cL_say 104 = .ok (.aload_n 1, 1) := by decide +kernel
theorem dL_say_105 : decode cL_say 105 = .ok (.invokevirtual 17, 3) := by decide +kernel
theorem dL_say_108 : decode cL_say 108 = .ok (.invokevirtual 33, 3) := by decide +kernel
theorem dL_say_111 : decode cL_say 111 = .ok (.pop, 1) := by decide +kernel
theorem dL_say_112 : decode cL_say 112 = .ok (.return_, 1) := by decide +kernel
theorem dL_texts_0 : decode cL_texts 0 = .ok (.aload_n 1, 1) := by decide +kernel
theorem dL_texts_1 : decode cL_texts 1 = .ok (.getfield 37, 3) := by decide +kernel
theorem dL_texts_4 : decode cL_texts 4 = .ok (.iconst 2, 1) := by decide +kernel
theorem dL_texts_5 : decode cL_texts 5 = .ok (.if_icmp .ge 7, 3) := by decide +kernel
theorem dL_texts_8 : decode cL_texts 8 = .ok (.iconst 0, 1) := by decide +kernel
theorem dL_texts_9 : decode cL_texts 9 = .ok (.goto 12, 3) := by decide +kernel
theorem dL_texts_12 : decode cL_texts 12 = .ok (.iload_n 2, 1) := by decide +kernel
theorem dL_texts_13 : decode cL_texts 13 = .ok (.iconst 3, 1) := by decide +kernel
theorem dL_texts_14 : decode cL_texts 14 = .ok (.ishr, 1) := by decide +kernel
theorem dL_texts_15 : decode cL_texts 15 = .ok (.iconst 0, 1) := by decide +kernel
theorem dL_texts_16 : decode cL_texts 16 = .ok (.bipush 9, 2) := by decide +kernel
theorem dL_texts_18 : decode cL_texts 18 = .ok (.invokestatic 43, 3) := by decide +kernel
theorem dL_texts_21 : decode cL_texts 21 = .ok (.istore_n 3, 1) := by decide +kernel
theorem dL_texts_22 : decode cL_texts 22 = .ok (.new 49, 3) := by decide +kernel
theorem dL_texts_25 : decode cL_texts 25 = .ok (.dup, 1) := by decide +kernel
theorem dL_texts_26 : decode cL_texts 26 = .ok (.invokespecial 51, 3) := by decide +kernel
theorem dL_texts_29 : decode cL_texts 29 = .ok (.astore 4, 2) := by decide +kernel
theorem dL_texts_31 : decode cL_texts 31 = .ok (.aload_n 1, 1) := by decide +kernel
theorem dL_texts_32 : decode cL_texts 32 = .ok (.bipush 12, 2) := by decide +kernel
theorem dL_texts_34 : decode cL_texts 34 = .ok (.newarray .int, 2) := by decide +kernel
theorem dL_texts_36 : decode cL_texts 36 = .ok (.putfield 52, 3) := by decide +kernel
theorem dL_texts_39 : decode cL_texts 39 = .ok (.aload_n 1, 1) := by decide +kernel
theorem dL_texts_40 : decode cL_texts 40 = .ok (.iload_n 3, 1) := by decide +kernel
theorem dL_texts_41 : decode cL_texts 41 = .ok (.putfield 56, 3) := by decide +kernel
theorem dL_texts_44 : decode cL_texts 44 = .ok (.iconst 0, 1) := by decide +kernel
theorem dL_texts_45 : decode cL_texts 45 = .ok (.istore 5, 2) := by decide +kernel
theorem dL_texts_47 : decode cL_texts 47 = .ok (.iload 5, 2) := by decide +kernel
theorem dL_texts_49 : decode cL_texts 49 = .ok (.iload_n 3, 1) := by decide +kernel
theorem dL_texts_50 : decode cL_texts 50 = .ok (.if_icmp .ge 202, 3) := by decide +kernel
theorem dL_texts_53 : decode cL_texts 53 = .ok (.iload_n 2, 1) := by decide +kernel
theorem dL_texts_54 : decode cL_texts 54 = .ok (.iload 5, 2) := by decide +kernel
theorem dL_texts_56 : decode cL_texts 56 = .ok (.iconst 3, 1) := by decide +kernel
theorem dL_texts_57 : decode cL_texts 57 = .ok (.iadd, 1) := by decide +kernel
theorem dL_texts_58 : decode cL_texts 58 = .ok (.imul, 1) := by decide +kernel
theorem dL_texts_59 : decode cL_texts 59 = .ok (.sipush 239, 3) := by decide +kernel
theorem dL_texts_62 : decode cL_texts 62 = .ok (.iload 5, 2) := by decide +kernel
theorem dL_texts_64 : decode cL_texts 64 = .ok (.imul, 1) := by decide +kernel
theorem dL_texts_65 : decode cL_texts 65 = .ok (.iadd, 1) := by decide +kernel
theorem dL_texts_66 : decode cL_texts 66 = .ok (.istore 6, 2) := by decide +kernel
theorem dL_texts_68 : decode cL_texts 68 = .ok (.iload 6, 2) := by decide +kernel
theorem dL_texts_70 : decode cL_texts 70 = .ok (.iconst 0, 1) := by decide +kernel
theorem dL_texts_71 : decode cL_texts 71 = .ok (.aload_n 1, 1) := by decide +kernel
theorem dL_texts_72 : decode cL_texts 72 = .ok (.getfield 37, 3) := by decide +kernel
theorem dL_texts_75 : decode cL_texts 75 = .ok (.iconst 1, 1) := by decide +kernel
theorem dL_texts_76 : decode cL_texts 76 = .ok (.isub, 1) := by decide +kernel
theorem dL_texts_77 : decode cL_texts 77 = .ok (.invokestatic 43, 3) := by decide +kernel
theorem dL_texts_80 : decode cL_texts 80 = .ok (.istore 7, 2) := by decide +kernel
theorem dL_texts_82 : decode cL_texts 82 = .ok (.iload 7, 2) := by decide +kernel
theorem dL_texts_84 : decode cL_texts 84 = .ok (.iload 6, 2) := by decide +kernel
theorem dL_texts_86 : decode cL_texts 86 = .ok (.iconst 4, 1) := by decide +kernel
theorem dL_texts_87 : decode cL_texts 87 = .ok (.ishr, 1) := by decide +kernel
theorem dL_texts_88 : decode cL_texts 88 = .ok (.iconst 1, 1) := by decide +kernel
theorem dL_texts_89 : decode cL_texts 89 = .ok (.aload_n 1, 1) := by decide +kernel
theorem dL_texts_90 : decode cL_texts 90 = .ok (.getfield 37, 3) := by decide +kernel
theorem dL_texts_93 : decode cL_texts 93 = .ok (.iconst 1, 1) := by decide +kernel
theorem dL_texts_94 : decode cL_texts 94 = .ok (.isub, 1) := by decide +kernel
theorem dL_texts_95 : decode cL_texts 95 = .ok (.invokestatic 43, 3) := by decide +kernel
theorem dL_texts_98 : decode cL_texts 98 = .ok (.iadd, 1) := by decide +kernel
theorem dL_texts_99 : decode cL_texts 99 = .ok (.aload_n 1, 1) := by decide +kernel
theorem dL_texts_100 : decode cL_texts 100 = .ok (.getfield 37, 3) := by decide +kernel
theorem dL_texts_103 : decode cL_texts 103 = .ok (.irem, 1) := by decide +kernel
theorem dL_texts_104 : decode cL_texts 104 = .ok (.istore 8, 2) := by decide +kernel
theorem dL_texts_106 : decode cL_texts 106 = .ok (.iload 7, 2) := by decide +kernel
theorem dL_texts_108 : decode cL_texts 108 = .ok (.iload 6, 2) := by decide +kernel
theorem dL_texts_110 : decode cL_texts 110 = .ok (.bipush 6, 2) := by decide +kernel
theorem dL_texts_112 : decode cL_texts 112 = .ok (.ishr, 1) := by decide +kernel
theorem dL_texts_113 : decode cL_texts 113 = .ok (.iconst 1, 1) := by decide +kernel
theorem dL_texts_114 : decode cL_texts 114 = .ok (.aload_n 1, 1) := by decide +kernel
theorem dL_texts_115 : decode cL_texts 115 = .ok (.getfield 37, 3) := by decide +kernel
theorem dL_texts_118 : decode cL_texts 118 = .ok (.iconst 1, 1) := by decide +kernel
theorem dL_texts_119 : decode cL_texts 119 = .ok (.isub, 1) := by decide +kernel
theorem dL_texts_120 : decode cL_texts 120 = .ok (.invokestatic 43, 3) := by decide +kernel
theorem dL_texts_123 : decode cL_texts 123 = .ok (.iadd, 1) := by decide +kernel
theorem dL_texts_124 : decode cL_texts 124 = .ok (.aload_n 1, 1) := by decide +kernel
theorem dL_texts_125 : decode cL_texts 125 = .ok (.getfield 37, 3) := by decide +kernel
theorem dL_texts_128 : decode cL_texts 128 = .ok (.irem, 1) := by decide +kernel
theorem dL_texts_129 : decode cL_texts 129 = .ok (.istore 9, 2) := by decide +kernel
theorem dL_texts_131 : decode cL_texts 131 = .ok (.iload 6, 2) := by decide +kernel
theorem dL_texts_133 : decode cL_texts 133 = .ok (.bipush 9, 2) := by decide +kernel
theorem dL_texts_135 : decode cL_texts 135 = .ok (.ishr, 1) := by decide +kernel
theorem dL_texts_136 : decode cL_texts 136 = .ok (.iconst 1, 1) := by decide +kernel
theorem dL_texts_137 : decode cL_texts 137 = .ok (.iand, 1) := by decide +kernel
theorem dL_texts_138 : decode cL_texts 138 = .ok (.iconst 1, 1) := by decide +kernel
theorem dL_texts_139 : decode cL_texts 139 = .ok (.if_icmp .ne 7, 3) := by decide +kernel
theorem dL_texts_142 : decode cL_texts 142 = .ok (.iconst 1, 1) := by decide +kernel
theorem dL_texts_143 : decode cL_texts 143 = .ok (.goto 4, 3) := by decide +kernel
theorem dL_texts_146 : decode cL_texts 146 = .ok (.iconst 0, 1) := by decide +kernel
theorem dL_texts_147 : decode cL_texts 147 = .ok (.istore 10, 2) := by decide +kernel
theorem dL_texts_149 : decode cL_texts 149 = .ok (.aload 4, 2) := by decide +kernel
theorem dL_texts_151 : decode cL_texts 151 = .ok (.new 49, 3) := by decide +kernel
theorem dL_texts_154 : decode cL_texts 154 = .ok (.dup, 1) := by decide +kernel
theorem dL_texts_155 : decode cL_texts 155 = .ok (.invokespecial 51, 3) := by decide +kernel
theorem dL_texts_158 : decode cL_texts 158 = .ok (.iload 7, 2) := by decide +kernel
theorem dL_texts_160 : decode cL_texts 160 = .ok (.invokevirtual 59, 3) := by decide +kernel
theorem dL_texts_163 : decode cL_texts 163 = .ok (.ldc 63, 2) := by decide +kernel
theorem dL_texts_165 : decode cL_texts 165 = .ok (.invokevirtual 65, 3) := by decide +kernel
theorem dL_texts_168 : decode cL_texts 168 = .ok (.iload 8, 2) := by decide +kernel
theorem dL_texts_170 : decode cL_texts 170 = .ok (.invokevirtual 59, 3) := by decide +kernel
theorem dL_texts_173 : decode cL_texts 173 = .ok (.iload 10, 2) := by decide +kernel
theorem dL_texts_175 : decode cL_texts 175 = .ok (.ifCond .eq 26, 3) := by decide +kernel
theorem dL_texts_178 : decode cL_texts 178 = .ok (.new 49, 3) := by decide +kernel
theorem dL_texts_181 : decode cL_texts 181 = .ok (.dup, 1) := by decide +kernel
theorem dL_texts_182 : decode cL_texts 182 = .ok (.invokespecial 51, 3) := by decide +kernel
theorem dL_texts_185 : decode cL_texts 185 = .ok (.ldc 68, 2) := by decide +kernel
theorem dL_texts_187 : decode cL_texts 187 = .ok (.invokevirtual 65, 3) := by decide +kernel
theorem dL_texts_190 : decode cL_texts 190 = .ok (.iload 9, 2) := by decide +kernel
theorem dL_texts_192 : decode cL_texts 192 = .ok (.invokevirtual 59, 3) := by decide +kernel
theorem dL_texts_195 : decode cL_texts 195 = .ok (.invokevirtual 70, 3) := by decide +kernel
theorem dL_texts_198 : decode cL_texts 198 = .ok (.goto 5, 3) := by decide +kernel
theorem dL_texts_201 : decode cL_texts 201 = .ok (.ldc 74, 2) := by decide +kernel
theorem dL_texts_203 : decode cL_texts 203 = .ok (.invokevirtual 65, 3) := by decide +kernel
theorem dL_texts_206 : decode cL_texts 206 = .ok (.ldc 76, 2) := by decide +kernel
theorem dL_texts_208 : decode cL_texts 208 = .ok (.invokevirtual 65, 3) := by decide +kernel
theorem dL_texts_211 : decode cL_texts 211 = .ok (.invokevirtual 70, 3) := by decide +kernel
theorem dL_texts_214 : decode cL_texts 214 = .ok (.invokevirtual 65, 3) := by decide +kernel
theorem dL_texts_217 : decode cL_texts 217 = .ok (.pop, 1) := by decide +kernel
theorem dL_texts_218 : decode cL_texts 218 = .ok (.aload_n 1, 1) := by decide +kernel
theorem dL_texts_219 : decode cL_texts 219 = .ok (.getfield 52, 3) := by decide +kernel
theorem dL_texts_222 : decode cL_texts 222 = .ok (.iload 7, 2) := by decide +kernel
theorem dL_texts_224 : decode cL_texts 224 = .ok (.dup2, 1) := by decide +kernel
theorem dL_texts_225 : decode cL_texts 225 = .ok (.iaload, 1) := by decide +kernel
theorem dL_texts_226 : decode cL_texts 226 = .ok (.iconst 1, 1) := by decide +kernel
theorem dL_texts_227 : decode cL_texts 227 = .ok (.iload 8, 2) := by decide +kernel
theorem dL_texts_229 : decode cL_texts 229 = .ok (.ishl, 1) := by decide +kernel
theorem dL_texts_230 : decode cL_texts 230 = .ok (.iload 10, 2) := by decide +kernel
theorem dL_texts_232 : decode cL_texts 232 = .ok (.ifCond .eq 10, 3) := by decide +kernel
theorem dL_texts_235 : decode cL_texts 235 = .ok (.iconst 1, 1) := by decide +kernel
theorem dL_texts_236 : decode cL_texts 236 = .ok (.iload 9, 2) := by decide +kernel
theorem dL_texts_238 : decode cL_texts 238 = .ok (.ishl, 1) := by decide +kernel
theorem dL_texts_239 : decode cL_texts 239 = .ok (.goto 4, 3) := by decide +kernel
theorem dL_texts_242 : decode cL_texts 242 = .ok (.iconst 0, 1) := by decide +kernel
theorem dL_texts_243 : decode cL_texts 243 = .ok (.ior, 1) := by decide +kernel
theorem dL_texts_244 : decode cL_texts 244 = .ok (.ior, 1) := by decide +kernel
theorem dL_texts_245 : decode cL_texts 245 = .ok (.iastore, 1) := by decide +kernel
theorem dL_texts_246 : decode cL_texts 246 = .ok (.iinc 5 1, 3) := by decide +kernel
theorem dL_texts_249 : decode cL_texts 249 = .ok (.goto (-202), 3) := by decide +kernel
theorem dL_texts_252 : decode cL_texts 252 = .ok (.aload_n 0, 1) := by decide +kernel
theorem dL_texts_253 : decode cL_texts 253 = .ok (.aload 4, 2) := by decide +kernel
theorem dL_texts_255 : decode cL_texts 255 = .ok (.invokevirtual 70, 3) := by decide +kernel
theorem dL_texts_258 : decode cL_texts 258 = .ok (.invokestatic 78, 3) := by decide +kernel
theorem dL_texts_261 : decode cL_texts 261 = .ok (.aload_n 0, 1) := by decide +kernel
theorem dL_texts_262 : decode cL_texts 262 = .ok (.iconst 1, 1) := by decide +kernel
theorem dL_texts_263 : decode cL_texts 263 = .ok (.invokevirtual 82, 3) := by decide +kernel
theorem dL_texts_266 : decode cL_texts 266 = .ok (.iload_n 3, 1) := by decide +kernel
theorem dL_texts_267 : decode cL_texts 267 = .ok (.if_icmp .eq 5, 3) := by decide +kernel
theorem dL_texts_270 : decode cL_texts 270 = .ok (.iconst 0, 1) := by decide +kernel
theorem dL_texts_271 : decode cL_texts 271 = .ok (.ireturn, 1) := by decide +kernel
theorem dL_texts_272 : decode cL_texts 272 = .ok (.iload_n 2, 1) := by decide +kernel
theorem dL_texts_273 : decode cL_texts 273 = .ok (.iconst 5, 1) := by decide +kernel
theorem dL_texts_274 : decode cL_texts 274 = .ok (.ishr, 1) := by decide +kernel
theorem dL_texts_275 : decode cL_texts 275 = .ok (.iconst 0, 1) := by decide +kernel
theorem dL_texts_276 : decode cL_texts 276 = .ok (.bipush 9, 2) := by decide +kernel
theorem dL_texts_278 : decode cL_texts 278 = .ok (.invokestatic 43, 3) := by decide +kernel
theorem dL_texts_281 : decode cL_texts 281 = .ok (.istore_n 3, 1) := by decide +kernel
theorem dL_texts_282 : decode cL_texts 282 = .ok (.new 49, 3) := by decide +kernel
theorem dL_texts_285 : decode cL_texts 285 = .ok (.dup, 1) := by decide +kernel
theorem dL_texts_286 : decode cL_texts 286 = .ok (.invokespecial 51, 3) := by decide +kernel
theorem dL_texts_289 : decode cL_texts 289 = .ok (.astore 4, 2) := by decide +kernel
theorem dL_texts_291 : decode cL_texts 291 = .ok (.aload_n 1, 1) := by decide +kernel
theorem dL_texts_292 : decode cL_texts 292 = .ok (.bipush 8, 2) := by decide +kernel
theorem dL_texts_294 : decode cL_texts 294 = .ok (.newarray .int, 2) := by decide +kernel
theorem dL_texts_296 : decode cL_texts 296 = .ok (.dup, 1) := by decide +kernel
theorem dL_texts_297 : decode cL_texts 297 = .ok (.iconst 0, 1) := by decide +kernel
theorem dL_texts_298 : decode cL_texts 298 = .ok (.iconst 1, 1) := by decide +kernel
theorem dL_texts_299 : decode cL_texts 299 = .ok (.iastore, 1) := by decide +kernel
theorem dL_texts_300 : decode cL_texts 300 = .ok (.dup, 1) := by decide +kernel
theorem dL_texts_301 : decode cL_texts 301 = .ok (.iconst 1, 1) := by decide +kernel
theorem dL_texts_302 : decode cL_texts 302 = .ok (.iconst 1, 1) := by decide +kernel
theorem dL_texts_303 : decode cL_texts 303 = .ok (.iastore, 1) := by decide +kernel
theorem dL_texts_304 : decode cL_texts 304 = .ok (.dup, 1) := by decide +kernel
theorem dL_texts_305 : decode cL_texts 305 = .ok (.iconst 2, 1) := by decide +kernel
theorem dL_texts_306 : decode cL_texts 306 = .ok (.iconst 1, 1) := by decide +kernel
theorem dL_texts_307 : decode cL_texts 307 = .ok (.iastore, 1) := by decide +kernel
theorem dL_texts_308 : decode cL_texts 308 = .ok (.dup, 1) := by decide +kernel
theorem dL_texts_309 : decode cL_texts 309 = .ok (.iconst 3, 1) := by decide +kernel
theorem dL_texts_310 : decode cL_texts 310 = .ok (.iconst 1, 1) := by decide +kernel
theorem dL_texts_311 : decode cL_texts 311 = .ok (.iastore, 1) := by decide +kernel
theorem dL_texts_312 : decode cL_texts 312 = .ok (.dup, 1) := by decide +kernel
theorem dL_texts_313 : decode cL_texts 313 = .ok (.iconst 4, 1) := by decide +kernel
theorem dL_texts_314 : decode cL_texts 314 = .ok (.iconst 1, 1) := by decide +kernel
theorem dL_texts_315 : decode cL_texts 315 = .ok (.iastore, 1) := by decide +kernel
theorem dL_texts_316 : decode cL_texts 316 = .ok (.dup, 1) := by decide +kernel
theorem dL_texts_317 : decode cL_texts 317 = .ok (.iconst 5, 1) := by decide +kernel
theorem dL_texts_318 : decode cL_texts 318 = .ok (.iconst 1, 1) := by decide +kernel
theorem dL_texts_319 : decode cL_texts 319 = .ok (.iastore, 1) := by decide +kernel
theorem dL_texts_320 : decode cL_texts 320 = .ok (.dup, 1) := by decide +kernel
theorem dL_texts_321 : decode cL_texts 321 = .ok (.bipush 6, 2) := by decide +kernel
theorem dL_texts_323 : decode cL_texts 323 = .ok (.iconst 1, 1) := by decide +kernel
theorem dL_texts_324 : decode cL_texts 324 = .ok (.iastore, 1) := by decide +kernel
theorem dL_texts_325 : decode cL_texts 325 = .ok (.dup, 1) := by decide +kernel
theorem dL_texts_326 : decode cL_texts 326 = .ok (.bipush 7, 2) := by decide +kernel
theorem dL_texts_328 : decode cL_texts 328 = .ok (.iconst 1, 1) := by decide +kernel
theorem dL_texts_329 : decode cL_texts 329 = .ok (.iastore, 1) := by decide +kernel
theorem dL_texts_330 : decode cL_texts 330 = .ok (.putfield 86, 3) := by decide +kernel
theorem dL_texts_333 : decode cL_texts 333 = .ok (.iconst 0, 1) := by decide +kernel
theorem dL_texts_334 : decode cL_texts 334 = .ok (.istore 5, 2) := by decide +kernel
theorem dL_texts_336 : decode cL_texts 336 = .ok (.iload 5, 2) := by decide +kernel
theorem dL_texts_338 : decode cL_texts 338 = .ok (.iload_n 3, 1) := by decide +kernel
theorem dL_texts_339 : decode cL_texts 339 = .ok (.if_icmp .ge 97, 3) := by decide +kernel
theorem dL_texts_342 : decode cL_texts 342 = .ok (.iload_n 2, 1) := by decide +kernel
theorem dL_texts_343 : decode cL_texts 343 = .ok (.iload 5, 2) := by decide +kernel
theorem dL_texts_345 : decode cL_texts 345 = .ok (.iconst 5, 1) := by decide +kernel
theorem dL_texts_346 : decode cL_texts 346 = .ok (.iadd, 1) := by decide +kernel
theorem dL_texts_347 : decode cL_texts 347 = .ok (.imul, 1) := by decide +kernel
theorem dL_texts_348 : decode cL_texts 348 = .ok (.sipush 241, 3) := by decide +kernel
theorem dL_texts_351 : decode cL_texts 351 = .ok (.iload 5, 2) := by decide +kernel
theorem dL_texts_353 : decode cL_texts 353 = .ok (.imul, 1) := by decide +kernel
theorem dL_texts_354 : decode cL_texts 354 = .ok (.iadd, 1) := by decide +kernel
theorem dL_texts_355 : decode cL_texts 355 = .ok (.istore 6, 2) := by decide +kernel
theorem dL_texts_357 : decode cL_texts 357 = .ok (.iload 6, 2) := by decide +kernel
theorem dL_texts_359 : decode cL_texts 359 = .ok (.iconst 0, 1) := by decide +kernel
theorem dL_texts_360 : decode cL_texts 360 = .ok (.bipush 7, 2) := by decide +kernel
theorem dL_texts_362 : decode cL_texts 362 = .ok (.invokestatic 43, 3) := by decide +kernel
theorem dL_texts_365 : decode cL_texts 365 = .ok (.istore 7, 2) := by decide +kernel
theorem dL_texts_367 : decode cL_texts 367 = .ok (.aload_n 1, 1) := by decide +kernel
theorem dL_texts_368 : decode cL_texts 368 = .ok (.getfield 86, 3) := by decide +kernel
theorem dL_texts_371 : decode cL_texts 371 = .ok (.iload 7, 2) := by decide +kernel
theorem dL_texts_373 : decode cL_texts 373 = .ok (.iload 6, 2) := by decide +kernel
theorem dL_texts_375 : decode cL_texts 375 = .ok (.iconst 4, 1) := by decide +kernel
theorem dL_texts_376 : decode cL_texts 376 = .ok (.ishr, 1) := by decide +kernel
theorem dL_texts_377 : decode cL_texts 377 = .ok (.iconst 0, 1) := by decide +kernel
theorem dL_texts_378 : decode cL_texts 378 = .ok (.bipush 20, 2) := by decide +kernel
theorem dL_texts_380 : decode cL_texts 380 = .ok (.invokestatic 43, 3) := by decide +kernel
theorem dL_texts_383 : decode cL_texts 383 = .ok (.iastore, 1) := by decide +kernel
theorem dL_texts_384 : decode cL_texts 384 = .ok (.aload 4, 2) := by decide +kernel
theorem dL_texts_386 : decode cL_texts 386 = .ok (.new 49, 3) := by decide +kernel
theorem dL_texts_389 : decode cL_texts 389 = .ok (.dup, 1) := by decide +kernel
theorem dL_texts_390 : decode cL_texts 390 = .ok (.invokespecial 51, 3) := by decide +kernel
theorem dL_texts_393 : decode cL_texts 393 = .ok (.ldc 89, 2) := by decide +kernel
theorem dL_texts_395 : decode cL_texts 395 = .ok (.invokevirtual 65, 3) := by decide +kernel
theorem dL_texts_398 : decode cL_texts 398 = .ok (.iload 7, 2) := by decide +kernel
theorem dL_texts_400 : decode cL_texts 400 = .ok (.invokevirtual 59, 3) := by decide +kernel
theorem dL_texts_403 : decode cL_texts 403 = .ok (.ldc 91, 2) := by decide +kernel
theorem dL_texts_405 : decode cL_texts 405 = .ok (.invokevirtual 65, 3) := by decide +kernel
theorem dL_texts_408 : decode cL_texts 408 = .ok (.aload_n 1, 1) := by decide +kernel
theorem dL_texts_409 : decode cL_texts 409 = .ok (.getfield 86, 3) := by decide +kernel
theorem dL_texts_412 : decode cL_texts 412 = .ok (.iload 7, 2) := by decide +kernel
theorem dL_texts_414 : decode cL_texts 414 = .ok (.iaload, 1) := by decide +kernel
theorem dL_texts_415 : decode cL_texts 415 = .ok (.invokevirtual 59, 3) := by decide +kernel
theorem dL_texts_418 : decode cL_texts 418 = .ok (.ldc 76, 2) := by decide +kernel
theorem dL_texts_420 : decode cL_texts 420 = .ok (.invokevirtual 65, 3) := by decide +kernel
theorem dL_texts_423 : decode cL_texts 423 = .ok (.invokevirtual 70, 3) := by decide +kernel
theorem dL_texts_426 : decode cL_texts 426 = .ok (.invokevirtual 65, 3) := by decide +kernel
theorem dL_texts_429 : decode cL_texts 429 = .ok (.pop, 1) := by decide +kernel
theorem dL_texts_430 : decode cL_texts 430 = .ok (.iinc 5 1, 3) := by decide +kernel
theorem dL_texts_433 : decode cL_texts 433 = .ok (.goto (-97), 3) := by decide +kernel
theorem dL_texts_436 : decode cL_texts 436 = .ok (.aload_n 0, 1) := by decide +kernel
theorem dL_texts_437 : decode cL_texts 437 = .ok (.aload 4, 2) := by decide +kernel
theorem dL_texts_439 : decode cL_texts 439 = .ok (.invokevirtual 70, 3) := by decide +kernel
theorem dL_texts_442 : decode cL_texts 442 = .ok (.invokestatic 78, 3) := by decide +kernel
theorem dL_texts_445 : decode cL_texts 445 = .ok (.aload_n 0, 1) := by decide +kernel
theorem dL_texts_446 : decode cL_texts 446 = .ok (.iconst 2, 1) := by decide +kernel
theorem dL_texts_447 : decode cL_texts 447 = .ok (.invokevirtual 82, 3) := by decide +kernel
theorem dL_texts_450 : decode cL_texts 450 = .ok (.iload_n 3, 1) := by decide +kernel
theorem dL_texts_451 : decode cL_texts 451 = .ok (.if_icmp .eq 5, 3) := by decide +kernel
theorem dL_texts_454 : decode cL_texts 454 = .ok (.iconst 0, 1) := by decide +kernel
theorem dL_texts_455 : decode cL_texts 455 = .ok (.ireturn, 1) := by decide +kernel
theorem dL_texts_456 : decode cL_texts 456 = .ok (.iload_n 2, 1) := by decide +kernel
theorem dL_texts_457 : decode cL_texts 457 = .ok (.bipush 6, 2) := by decide +kernel
theorem dL_texts_459 : decode cL_texts 459 = .ok (.ishr, 1) := by decide +kernel
theorem dL_texts_460 : decode cL_texts 460 = .ok (.iconst 0, 1) := by decide +kernel
theorem dL_texts_461 : decode cL_texts 461 = .ok (.bipush 9, 2) := by decide +kernel
theorem dL_texts_463 : decode cL_texts 463 = .ok (.invokestatic 43, 3) := by decide +kernel
theorem dL_texts_466 : decode cL_texts 466 = .ok (.istore_n 3, 1) := by decide +kernel
theorem dL_texts_467 : decode cL_texts 467 = .ok (.new 49, 3) := by decide +kernel
theorem dL_texts_470 : decode cL_texts 470 = .ok (.dup, 1) := by decide +kernel
theorem dL_texts_471 : decode cL_texts 471 = .ok (.invokespecial 51, 3) := by decide +kernel
theorem dL_texts_474 : decode cL_texts 474 = .ok (.astore 4, 2) := by decide +kernel
theorem dL_texts_476 : decode cL_texts 476 = .ok (.aload_n 1, 1) := by decide +kernel
theorem dL_texts_477 : decode cL_texts 477 = .ok (.iload_n 3, 1) := by decide +kernel
theorem dL_texts_478 : decode cL_texts 478 = .ok (.anewarray 93, 3) := by decide +kernel
theorem dL_texts_481 : decode cL_texts 481 = .ok (.putfield 94, 3) := by decide +kernel
theorem dL_texts_484 : decode cL_texts 484 = .ok (.aload_n 1, 1) := by decide +kernel
theorem dL_texts_485 : decode cL_texts 485 = .ok (.iload_n 3, 1) := by decide +kernel
theorem dL_texts_486 : decode cL_texts 486 = .ok (.putfield 98, 3) := by decide +kernel
theorem dL_texts_489 : decode cL_texts 489 = .ok (.iconst 0, 1) := by decide +kernel
theorem dL_texts_490 : decode cL_texts 490 = .ok (.istore 5, 2) := by decide +kernel
theorem dL_texts_492 : decode cL_texts 492 = .ok (.iload 5, 2) := by decide +kernel
theorem dL_texts_494 : decode cL_texts 494 = .ok (.iload_n 3, 1) := by decide +kernel
theorem dL_texts_495 : decode cL_texts 495 = .ok (.if_icmp .ge 143, 3) := by decide +kernel
theorem dL_texts_498 : decode cL_texts 498 = .ok (.iload_n 2, 1) := by decide +kernel
theorem dL_texts_499 : decode cL_texts 499 = .ok (.iload 5, 2) := by decide +kernel
theorem dL_texts_501 : decode cL_texts 501 = .ok (.bipush 7, 2) := by decide +kernel
theorem dL_texts_503 : decode cL_texts 503 = .ok (.iadd, 1) := by decide +kernel
theorem dL_texts_504 : decode cL_texts 504 = .ok (.imul, 1) := by decide +kernel
theorem dL_texts_505 : decode cL_texts 505 = .ok (.sipush 251, 3) := by decide +kernel
theorem dL_texts_508 : decode cL_texts 508 = .ok (.iload 5, 2) := by decide +kernel
theorem dL_texts_510 : decode cL_texts 510 = .ok (.imul, 1) := by decide +kernel
theorem dL_texts_511 : decode cL_texts 511 = .ok (.iadd, 1) := by decide +kernel
theorem dL_texts_512 : decode cL_texts 512 = .ok (.istore 6, 2) := by decide +kernel
theorem dL_texts_514 : decode cL_texts 514 = .ok (.aload_n 1, 1) := by decide +kernel
theorem dL_texts_515 : decode cL_texts 515 = .ok (.getfield 94, 3) := by decide +kernel
theorem dL_texts_518 : decode cL_texts 518 = .ok (.iload 5, 2) := by decide +kernel
theorem dL_texts_520 : decode cL_texts 520 = .ok (.iconst 3, 1) := by decide +kernel
theorem dL_texts_521 : decode cL_texts 521 = .ok (.newarray .int, 2) := by decide +kernel
theorem dL_texts_523 : decode cL_texts 523 = .ok (.dup, 1) := by decide +kernel
theorem dL_texts_524 : decode cL_texts 524 = .ok (.iconst 0, 1) := by decide +kernel
theorem dL_texts_525 : decode cL_texts 525 = .ok (.aload_n 1, 1) := by decide +kernel
theorem dL_texts_526 : decode cL_texts 526 = .ok (.getfield 101, 3) := by decide +kernel
theorem dL_texts_529 : decode cL_texts 529 = .ok (.iload 6, 2) := by decide +kernel
theorem dL_texts_531 : decode cL_texts 531 = .ok (.iconst 0, 1) := by decide +kernel
theorem dL_texts_532 : decode cL_texts 532 = .ok (.bipush 9, 2) := by decide +kernel
theorem dL_texts_534 : decode cL_texts 534 = .ok (.invokestatic 43, 3) := by decide +kernel
theorem dL_texts_537 : decode cL_texts 537 = .ok (.iadd, 1) := by decide +kernel
theorem dL_texts_538 : decode cL_texts 538 = .ok (.iastore, 1) := by decide +kernel
theorem dL_texts_539 : decode cL_texts 539 = .ok (.dup, 1) := by decide +kernel
theorem dL_texts_540 : decode cL_texts 540 = .ok (.iconst 1, 1) := by decide +kernel
theorem dL_texts_541 : decode cL_texts 541 = .ok (.iload 6, 2) := by decide +kernel
theorem dL_texts_543 : decode cL_texts 543 = .ok (.iconst 5, 1) := by decide +kernel
theorem dL_texts_544 : decode cL_texts 544 = .ok (.ishr, 1) := by decide +kernel
theorem dL_texts_545 : decode cL_texts 545 = .ok (.iconst 1, 1) := by decide +kernel
theorem dL_texts_546 : decode cL_texts 546 = .ok (.iand, 1) := by decide +kernel
theorem dL_texts_547 : decode cL_texts 547 = .ok (.iastore, 1) := by decide +kernel
theorem dL_texts_548 : decode cL_texts 548 = .ok (.dup, 1) := by decide +kernel
theorem dL_texts_549 : decode cL_texts 549 = .ok (.iconst 2, 1) := by decide +kernel
theorem dL_texts_550 : decode cL_texts 550 = .ok (.iload 6, 2) := by decide +kernel
theorem dL_texts_552 : decode cL_texts 552 = .ok (.bipush 7, 2) := by decide +kernel
theorem dL_texts_554 : decode cL_texts 554 = .ok (.ishr, 1) := by decide +kernel
theorem dL_texts_555 : decode cL_texts 555 = .ok (.iconst 1, 1) := by decide +kernel
theorem dL_texts_556 : decode cL_texts 556 = .ok (.iand, 1) := by decide +kernel
theorem dL_texts_557 : decode cL_texts 557 = .ok (.iastore, 1) := by decide +kernel
theorem dL_texts_558 : decode cL_texts 558 = .ok (.aastore, 1) := by decide +kernel
theorem dL_texts_559 : decode cL_texts 559 = .ok (.aload 4, 2) := by decide +kernel
theorem dL_texts_561 : decode cL_texts 561 = .ok (.new 49, 3) := by decide +kernel
theorem dL_texts_564 : decode cL_texts 564 = .ok (.dup, 1) := by decide +kernel
theorem dL_texts_565 : decode cL_texts 565 = .ok (.invokespecial 51, 3) := by decide +kernel
theorem dL_texts_568 : decode cL_texts 568 = .ok (.ldc 104, 2) := by decide +kernel
theorem dL_texts_570 : decode cL_texts 570 = .ok (.invokevirtual 65, 3) := by decide +kernel
theorem dL_texts_573 : decode cL_texts 573 = .ok (.aload_n 1, 1) := by decide +kernel
theorem dL_texts_574 : decode cL_texts 574 = .ok (.getfield 94, 3) := by decide +kernel
theorem dL_texts_577 : decode cL_texts 577 = .ok (.iload 5, 2) := by decide +kernel
theorem dL_texts_579 : decode cL_texts 579 = .ok (.aaload, 1) := by decide +kernel
theorem dL_texts_580 : decode cL_texts 580 = .ok (.iconst 0, 1) := by decide +kernel
theorem dL_texts_581 : decode cL_texts 581 = .ok (.iaload, 1) := by decide +kernel
theorem dL_texts_582 : decode cL_texts 582 = .ok (.invokevirtual 59, 3) := by decide +kernel
theorem dL_texts_585 : decode cL_texts 585 = .ok (.aload_n 1, 1) := by decide +kernel
theorem dL_texts_586 : decode cL_texts 586 = .ok (.getfield 94, 3) := by decide +kernel
theorem dL_texts_589 : decode cL_texts 589 = .ok (.iload 5, 2) := by decide +kernel
theorem dL_texts_591 : decode cL_texts 591 = .ok (.aaload, 1) := by decide +kernel
theorem dL_texts_592 : decode cL_texts 592 = .ok (.iconst 1, 1) := by decide +kernel
theorem dL_texts_593 : decode cL_texts 593 = .ok (.iaload, 1) := by decide +kernel
theorem dL_texts_594 : decode cL_texts 594 = .ok (.iconst 1, 1) := by decide +kernel
theorem dL_texts_595 : decode cL_texts 595 = .ok (.if_icmp .ne 8, 3) := by decide +kernel
theorem dL_texts_598 : decode cL_texts 598 = .ok (.ldc 106, 2) := by decide +kernel
theorem dL_texts_600 : decode cL_texts 600 = .ok (.goto 5, 3) := by decide +kernel
theorem dL_texts_603 : decode cL_texts 603 = .ok (.ldc 108, 2) := by decide +kernel
theorem dL_texts_605 : decode cL_texts 605 = .ok (.invokevirtual 65, 3) := by decide +kernel
theorem dL_texts_608 : decode cL_texts 608 = .ok (.aload_n 1, 1) := by decide +kernel
theorem dL_texts_609 : decode cL_texts 609 = .ok (.getfield 94, 3) := by decide +kernel
theorem dL_texts_612 : decode cL_texts 612 = .ok (.iload 5, 2) := by decide +kernel
theorem dL_texts_614 : decode cL_texts 614 = .ok (.aaload, 1) := by decide +kernel
theorem dL_texts_615 : decode cL_texts 615 = .ok (.iconst 2, 1) := by decide +kernel
theorem dL_texts_616 : decode cL_texts 616 = .ok (.iaload, 1) := by decide +kernel
theorem dL_texts_617 : decode cL_texts 617 = .ok (.invokevirtual 59, 3) := by decide +kernel
theorem dL_texts_620 : decode cL_texts 620 = .ok (.ldc 76, 2) := by decide +kernel
theorem dL_texts_622 : decode cL_texts 622 = .ok (.invokevirtual 65, 3) := by decide +kernel
theorem dL_texts_625 : decode cL_texts 625 = .ok (.invokevirtual 70, 3) := by decide +kernel
theorem dL_texts_628 : decode cL_texts 628 = .ok (.invokevirtual 65, 3) := by decide +kernel
theorem dL_texts_631 : decode cL_texts 631 = .ok (.pop, 1) := by decide +kernel
theorem dL_texts_632 : decode cL_texts 632 = .ok (.iinc 5 1, 3) := by decide +kernel
theorem dL_texts_635 : decode cL_texts 635 = .ok (.goto (-143), 3) := by decide +kernel
theorem dL_texts_638 : decode cL_texts 638 = .ok (.aload_n 0, 1) := by decide +kernel
theorem dL_texts_639 : decode cL_texts 639 = .ok (.aload 4, 2) := by decide +kernel
theorem dL_texts_641 : decode cL_texts 641 = .ok (.invokevirtual 70, 3) := by decide +kernel
theorem dL_texts_644 : decode cL_texts 644 = .ok (.invokestatic 78, 3) := by decide +kernel
theorem dL_texts_647 : decode cL_texts 647 = .ok (.aload_n 0, 1) := by decide +kernel
theorem dL_texts_648 : decode cL_texts 648 = .ok (.iconst 3, 1) := by decide +kernel
theorem dL_texts_649 : decode cL_texts 649 = .ok (.invokevirtual 82, 3) := by decide +kernel
theorem dL_texts_652 : decode cL_texts 652 = .ok (.iload_n 3, 1) := by decide +kernel
theorem dL_texts_653 : decode cL_texts 653 = .ok (.if_icmp .ne 7, 3) := by decide +kernel
theorem dL_texts_656 : decode cL_texts 656 = .ok (.iconst 1, 1) := by decide +kernel
theorem dL_texts_657 : decode cL_texts 657 = .ok (.goto 4, 3) := by decide +kernel
theorem dL_texts_660 : decode cL_texts 660 = .ok (.iconst 0, 1) := by decide +kernel
theorem dL_texts_661 : decode cL_texts 661 = .ok (.ireturn, 1) := by decide +kernel
theorem dL_war_0 : decode cL_war 0 = .ok (.new 38, 3) := by decide +kernel
theorem dL_war_3 : decode cL_war 3 = .ok (.dup, 1) := by decide +kernel
theorem dL_war_4 : decode cL_war 4 = .ok (.invokespecial 110, 3) := by decide +kernel
theorem dL_war_7 : decode cL_war 7 = .ok (.astore_n 3, 1) := by decide +kernel
theorem dL_war_8 : decode cL_war 8 = .ok (.aload_n 1, 1) := by decide +kernel
theorem dL_war_9 : decode cL_war 9 = .ok (.iload_n 2, 1) := by decide +kernel
theorem dL_war_10 : decode cL_war 10 = .ok (.invokestatic 111, 3) := by decide +kernel
theorem dL_war_13 : decode cL_war 13 = .ok (.istore 4, 2) := by decide +kernel
theorem dL_war_15 : decode cL_war 15 = .ok (.aload_n 1, 1) := by decide +kernel
theorem dL_war_16 : decode cL_war 16 = .ok (.iload_n 2, 1) := by decide +kernel
theorem dL_war_17 : decode cL_war 17 = .ok (.iconst 1, 1) := by decide +kernel
theorem dL_war_18 : decode cL_war 18 = .ok (.iadd, 1) := by decide +kernel
theorem dL_war_19 : decode cL_war 19 = .ok (.invokestatic 111, 3) := by decide +kernel
theorem dL_war_22 : decode cL_war 22 = .ok (.istore 5, 2) := by decide +kernel
theorem dL_war_24 : decode cL_war 24 = .ok (.bipush 7, 2) := by decide +kernel
theorem dL_war_26 : decode cL_war 26 = .ok (.newarray .int, 2) := by decide +kernel
theorem dL_war_28 : decode cL_war 28 = .ok (.dup, 1) := by decide +kernel
theorem dL_war_29 : decode cL_war 29 = .ok (.iconst 0, 1) := by decide +kernel
theorem dL_war_30 : decode cL_war 30 = .ok (.iload 5, 2) := by decide +kernel
theorem dL_war_32 : decode cL_war 32 = .ok (.iconst 0, 1) := by decide +kernel
theorem dL_war_33 : decode cL_war 33 = .ok (.bipush 80, 2) := by decide +kernel
theorem dL_war_35 : decode cL_war 35 = .ok (.invokestatic 43, 3) := by decide +kernel
theorem dL_war_38 : decode cL_war 38 = .ok (.iastore, 1) := by decide +kernel
theorem dL_war_39 : decode cL_war 39 = .ok (.dup, 1) := by decide +kernel
theorem dL_war_40 : decode cL_war 40 = .ok (.iconst 1, 1) := by decide +kernel
theorem dL_war_41 : decode cL_war 41 = .ok (.iload 5, 2) := by decide +kernel
theorem dL_war_43 : decode cL_war 43 = .ok (.iconst 3, 1) := by decide +kernel
theorem dL_war_44 : decode cL_war 44 = .ok (.ishr, 1) := by decide +kernel
theorem dL_war_45 : decode cL_war 45 = .ok (.iconst 0, 1) := by decide +kernel
theorem dL_war_46 : decode cL_war 46 = .ok (.bipush 9, 2) := by decide +kernel
theorem dL_war_48 : decode cL_war 48 = .ok (.invokestatic 43, 3) := by decide +kernel
theorem dL_war_51 : decode cL_war 51 = .ok (.iastore, 1) := by decide +kernel
theorem dL_war_52 : decode cL_war 52 = .ok (.dup, 1) := by decide +kernel
theorem dL_war_53 : decode cL_war 53 = .ok (.iconst 2, 1) := by decide +kernel
theorem dL_war_54 : decode cL_war 54 = .ok (.iload 5, 2) := by decide +kernel
theorem dL_war_56 : decode cL_war 56 = .ok (.iconst 5, 1) := by decide +kernel
theorem dL_war_57 : decode cL_war 57 = .ok (.ishr, 1) := by decide +kernel
theorem dL_war_58 : decode cL_war 58 = .ok (.iconst 0, 1) := by decide +kernel
theorem dL_war_59 : decode cL_war 59 = .ok (.bipush 9, 2) := by decide +kernel
theorem dL_war_61 : decode cL_war 61 = .ok (.invokestatic 43, 3) := by decide +kernel
theorem dL_war_64 : decode cL_war 64 = .ok (.iastore, 1) := by decide +kernel
theorem dL_war_65 : decode cL_war 65 = .ok (.dup, 1) := by decide +kernel
theorem dL_war_66 : decode cL_war 66 = .ok (.iconst 3, 1) := by decide +kernel
theorem dL_war_67 : decode cL_war 67 = .ok (.iload 5, 2) := by decide +kernel
theorem dL_war_69 : decode cL_war 69 = .ok (.bipush 6, 2) := by decide +kernel
theorem dL_war_71 : decode cL_war 71 = .ok (.ishr, 1) := by decide +kernel
theorem dL_war_72 : decode cL_war 72 = .ok (.iconst 0, 1) := by decide +kernel
theorem dL_war_73 : decode cL_war 73 = .ok (.iconst 4, 1) := by decide +kernel
theorem dL_war_74 : decode cL_war 74 = .ok (.invokestatic 43, 3) := by decide +kernel
theorem dL_war_77 : decode cL_war 77 = .ok (.iastore, 1) := by decide +kernel
theorem dL_war_78 : decode cL_war 78 = .ok (.dup, 1) := by decide +kernel
theorem dL_war_79 : decode cL_war 79 = .ok (.iconst 4, 1) := by decide +kernel
theorem dL_war_80 : decode cL_war 80 = .ok (.iload 5, 2) := by decide +kernel
theorem dL_war_82 : decode cL_war 82 = .ok (.iconst 4, 1) := by decide +kernel
theorem dL_war_83 : decode cL_war 83 = .ok (.ishr, 1) := by decide +kernel
theorem dL_war_84 : decode cL_war 84 = .ok (.iconst 0, 1) := by decide +kernel
theorem dL_war_85 : decode cL_war 85 = .ok (.bipush 60, 2) := by decide +kernel
theorem dL_war_87 : decode cL_war 87 = .ok (.invokestatic 43, 3) := by decide +kernel
theorem dL_war_90 : decode cL_war 90 = .ok (.iastore, 1) := by decide +kernel
theorem dL_war_91 : decode cL_war 91 = .ok (.dup, 1) := by decide +kernel
theorem dL_war_92 : decode cL_war 92 = .ok (.iconst 5, 1) := by decide +kernel
theorem dL_war_93 : decode cL_war 93 = .ok (.iload 5, 2) := by decide +kernel
theorem dL_war_95 : decode cL_war 95 = .ok (.bipush 7, 2) := by decide +kernel
theorem dL_war_97 : decode cL_war 97 = .ok (.ishr, 1) := by decide +kernel
theorem dL_war_98 : decode cL_war 98 = .ok (.iconst 0, 1) := by decide +kernel
theorem dL_war_99 : decode cL_war 99 = .ok (.bipush 20, 2) := by decide +kernel
theorem dL_war_101 : decode cL_war 101 = .ok (.invokestatic 43, 3) := by decide +kernel
theorem dL_war_104 : decode cL_war 104 = .ok (.iastore, 1) := by decide +kernel
theorem dL_war_105 : decode cL_war 105 = .ok (.dup, 1) := by decide +kernel
theorem dL_war_106 : decode cL_war 106 = .ok (.bipush 6, 2) := by decide +kernel
theorem dL_war_108 : decode cL_war 108 = .ok (.iload 5, 2) := by decide +kernel
theorem dL_war_110 : decode cL_war 110 = .ok (.iconst 2, 1) := by decide +kernel
theorem dL_war_111 : decode cL_war 111 = .ok (.ishr, 1) := by decide +kernel
theorem dL_war_112 : decode cL_war 112 = .ok (.iconst 0, 1) := by decide +kernel
theorem dL_war_113 : decode cL_war 113 = .ok (.sipush 400, 3) := by decide +kernel
theorem dL_war_116 : decode cL_war 116 = .ok (.invokestatic 43, 3) := by decide +kernel
theorem dL_war_119 : decode cL_war 119 = .ok (.iastore, 1) := by decide +kernel
theorem dL_war_120 : decode cL_war 120 = .ok (.astore 6, 2) := by decide +kernel
theorem dL_war_122 : decode cL_war 122 = .ok (.iload 4, 2) := by decide +kernel
theorem dL_war_124 : decode cL_war 124 = .ok (.iconst 3, 1) := by decide +kernel
theorem dL_war_125 : decode cL_war 125 = .ok (.ishr, 1) := by decide +kernel
theorem dL_war_126 : decode cL_war 126 = .ok (.bipush 7, 2) := by decide +kernel
theorem dL_war_128 : decode cL_war 128 = .ok (.iand, 1) := by decide +kernel
theorem dL_war_129 : decode cL_war 129 = .ok (.ifCond .le 137, 3) := by decide +kernel
theorem dL_war_132 : decode cL_war 132 = .ok (.aload_n 3, 1) := by decide +kernel
theorem dL_war_133 : decode cL_war 133 = .ok (.aload 6, 2) := by decide +kernel
theorem dL_war_135 : decode cL_war 135 = .ok (.putfield 115, 3) := by decide +kernel
theorem dL_war_138 : decode cL_war 138 = .ok (.aload_n 0, 1) := by decide +kernel
theorem dL_war_139 : decode cL_war 139 = .ok (.new 49, 3) := by decide +kernel
theorem dL_war_142 : decode cL_war 142 = .ok (.dup, 1) := by decide +kernel
theorem dL_war_143 : decode cL_war 143 = .ok (.invokespecial 51, 3) := by decide +kernel
theorem dL_war_146 : decode cL_war 146 = .ok (.ldc 118, 2) := by decide +kernel
theorem dL_war_148 : decode cL_war 148 = .ok (.invokevirtual 65, 3) := by decide +kernel
theorem dL_war_151 : decode cL_war 151 = .ok (.aload 6, 2) := by decide +kernel
theorem dL_war_153 : decode cL_war 153 = .ok (.iconst 0, 1) := by decide +kernel
theorem dL_war_154 : decode cL_war 154 = .ok (.iaload, 1) := by decide +kernel
theorem dL_war_155 : decode cL_war 155 = .ok (.invokevirtual 59, 3) := by decide +kernel
theorem dL_war_158 : decode cL_war 158 = .ok (.ldc 120, 2) := by decide +kernel
theorem dL_war_160 : decode cL_war 160 = .ok (.invokevirtual 65, 3) := by decide +kernel
theorem dL_war_163 : decode cL_war 163 = .ok (.aload 6, 2) := by decide +kernel
theorem dL_war_165 : decode cL_war 165 = .ok (.iconst 0, 1) := by decide +kernel
theorem dL_war_166 : decode cL_war 166 = .ok (.iaload, 1) := by decide +kernel
theorem dL_war_167 : decode cL_war 167 = .ok (.invokevirtual 59, 3) := by decide +kernel
theorem dL_war_170 : decode cL_war 170 = .ok (.ldc 122, 2) := by decide +kernel
theorem dL_war_172 : decode cL_war 172 = .ok (.invokevirtual 65, 3) := by decide +kernel
theorem dL_war_175 : decode cL_war 175 = .ok (.aload 6, 2) := by decide +kernel
theorem dL_war_177 : decode cL_war 177 = .ok (.iconst 1, 1) := by decide +kernel
theorem dL_war_178 : decode cL_war 178 = .ok (.iaload, 1) := by decide +kernel
theorem dL_war_179 : decode cL_war 179 = .ok (.invokevirtual 59, 3) := by decide +kernel
theorem dL_war_182 : decode cL_war 182 = .ok (.ldc 124, 2) := by decide +kernel
theorem dL_war_184 : decode cL_war 184 = .ok (.invokevirtual 65, 3) := by decide +kernel
theorem dL_war_187 : decode cL_war 187 = .ok (.aload 6, 2) := by decide +kernel
theorem dL_war_189 : decode cL_war 189 = .ok (.iconst 2, 1) := by decide +kernel
theorem dL_war_190 : decode cL_war 190 = .ok (.iaload, 1) := by decide +kernel
theorem dL_war_191 : decode cL_war 191 = .ok (.invokevirtual 59, 3) := by decide +kernel
theorem dL_war_194 : decode cL_war 194 = .ok (.ldc 126, 2) := by decide +kernel
theorem dL_war_196 : decode cL_war 196 = .ok (.invokevirtual 65, 3) := by decide +kernel
theorem dL_war_199 : decode cL_war 199 = .ok (.aload 6, 2) := by decide +kernel
theorem dL_war_201 : decode cL_war 201 = .ok (.iconst 3, 1) := by decide +kernel
theorem dL_war_202 : decode cL_war 202 = .ok (.iaload, 1) := by decide +kernel
theorem dL_war_203 : decode cL_war 203 = .ok (.invokevirtual 59, 3) := by decide +kernel
theorem dL_war_206 : decode cL_war 206 = .ok (.ldc 128, 2) := by decide +kernel
theorem dL_war_208 : decode cL_war 208 = .ok (.invokevirtual 65, 3) := by decide +kernel
theorem dL_war_211 : decode cL_war 211 = .ok (.aload 6, 2) := by decide +kernel
theorem dL_war_213 : decode cL_war 213 = .ok (.iconst 5, 1) := by decide +kernel
theorem dL_war_214 : decode cL_war 214 = .ok (.iaload, 1) := by decide +kernel
theorem dL_war_215 : decode cL_war 215 = .ok (.invokevirtual 59, 3) := by decide +kernel
theorem dL_war_218 : decode cL_war 218 = .ok (.ldc 130, 2) := by decide +kernel
theorem dL_war_220 : decode cL_war 220 = .ok (.invokevirtual 65, 3) := by decide +kernel
theorem dL_war_223 : decode cL_war 223 = .ok (.aload 6, 2) := by decide +kernel
theorem dL_war_225 : decode cL_war 225 = .ok (.iconst 4, 1) := by decide +kernel
theorem dL_war_226 : decode cL_war 226 = .ok (.iaload, 1) := by decide +kernel
theorem dL_war_227 : decode cL_war 227 = .ok (.invokevirtual 59, 3) := by decide +kernel
theorem dL_war_230 : decode cL_war 230 = .ok (.ldc 132, 2) := by decide +kernel
theorem dL_war_232 : decode cL_war 232 = .ok (.invokevirtual 65, 3) := by decide +kernel
theorem dL_war_235 : decode cL_war 235 = .ok (.aload 6, 2) := by decide +kernel
theorem dL_war_237 : decode cL_war 237 = .ok (.bipush 6, 2) := by decide +kernel
theorem dL_war_239 : decode cL_war 239 = .ok (.iaload, 1) := by decide +kernel
theorem dL_war_240 : decode cL_war 240 = .ok (.invokevirtual 59, 3) := by decide +kernel
theorem dL_war_243 : decode cL_war 243 = .ok (.ldc 134, 2) := by decide +kernel
theorem dL_war_245 : decode cL_war 245 = .ok (.invokevirtual 65, 3) := by decide +kernel
theorem dL_war_248 : decode cL_war 248 = .ok (.invokevirtual 70, 3) := by decide +kernel
theorem dL_war_251 : decode cL_war 251 = .ok (.invokestatic 78, 3) := by decide +kernel
theorem dL_war_254 : decode cL_war 254 = .ok (.aload_n 0, 1) := by decide +kernel
theorem dL_war_255 : decode cL_war 255 = .ok (.iconst 0, 1) := by decide +kernel
theorem dL_war_256 : decode cL_war 256 = .ok (.invokevirtual 82, 3) := by decide +kernel
theorem dL_war_259 : decode cL_war 259 = .ok (.bipush 6, 2) := by decide +kernel
theorem dL_war_261 : decode cL_war 261 = .ok (.if_icmp .eq 5, 3) := by decide +kernel
theorem dL_war_264 : decode cL_war 264 = .ok (.aconst_null, 1) := by decide +kernel
theorem dL_war_265 : decode cL_war 265 = .ok (.areturn, 1) := by decide +kernel
theorem dL_war_266 : decode cL_war 266 = .ok (.iload 4, 2) := by decide +kernel
theorem dL_war_268 : decode cL_war 268 = .ok (.iconst 5, 1) := by decide +kernel
theorem dL_war_269 : decode cL_war 269 = .ok (.ishr, 1) := by decide +kernel
theorem dL_war_270 : decode cL_war 270 = .ok (.iconst 0, 1) := by decide +kernel
theorem dL_war_271 : decode cL_war 271 = .ok (.bipush 12, 2) := by decide +kernel
theorem dL_war_273 : decode cL_war 273 = .ok (.invokestatic 43, 3) := by decide +kernel
theorem dL_war_276 : decode cL_war 276 = .ok (.istore 7, 2) := by decide +kernel
theorem dL_war_278 : decode cL_war 278 = .ok (.iconst 0, 1) := by decide +kernel
theorem dL_war_279 : decode cL_war 279 = .ok (.istore 8, 2) := by decide +kernel
theorem dL_war_281 : decode cL_war 281 = .ok (.iload 8, 2) := by decide +kernel
theorem dL_war_283 : decode cL_war 283 = .ok (.iload 7, 2) := by decide +kernel
theorem dL_war_285 : decode cL_war 285 = .ok (.if_icmp .ge 258, 3) := by decide +kernel
theorem dL_war_288 : decode cL_war 288 = .ok (.aload_n 1, 1) := by decide +kernel
theorem dL_war_289 : decode cL_war 289 = .ok (.iload_n 2, 1) := by decide +kernel
theorem dL_war_290 : decode cL_war 290 = .ok (.iconst 2, 1) := by decide +kernel
theorem dL_war_291 : decode cL_war 291 = .ok (.iadd, 1) := by decide +kernel
theorem dL_war_292 : decode cL_war 292 = .ok (.iload 8, 2) := by decide +kernel
theorem dL_war_294 : decode cL_war 294 = .ok (.iconst 3, 1) := by decide +kernel
theorem dL_war_295 : decode cL_war 295 = .ok (.irem, 1) := by decide +kernel
theorem dL_war_296 : decode cL_war 296 = .ok (.iadd, 1) := by decide +kernel
theorem dL_war_297 : decode cL_war 297 = .ok (.invokestatic 111, 3) := by decide +kernel
theorem dL_war_300 : decode cL_war 300 = .ok (.sipush 257, 3) := by decide +kernel
theorem dL_war_303 : decode cL_war 303 = .ok (.iload 8, 2) := by decide +kernel
theorem dL_war_305 : decode cL_war 305 = .ok (.imul, 1) := by decide +kernel
theorem dL_war_306 : decode cL_war 306 = .ok (.iadd, 1) := by decide +kernel
theorem dL_war_307 : decode cL_war 307 = .ok (.istore 5, 2) := by decide +kernel
theorem dL_war_309 : decode cL_war 309 = .ok (.aload_n 3, 1) := by decide +kernel
theorem dL_war_310 : decode cL_war 310 = .ok (.getfield 136, 3) := by decide +kernel
theorem dL_war_313 : decode cL_war 313 = .ok (.iload 8, 2) := by decide +kernel
theorem dL_war_315 : decode cL_war 315 = .ok (.bipush 9, 2) := by decide +kernel
theorem dL_war_317 : decode cL_war 317 = .ok (.newarray .int, 2) := by decide +kernel
theorem dL_war_319 : decode cL_war 319 = .ok (.dup, 1) := by decide +kernel
theorem dL_war_320 : decode cL_war 320 = .ok (.iconst 0, 1) := by decide +kernel
theorem dL_war_321 : decode cL_war 321 = .ok (.iload 5, 2) := by decide +kernel
theorem dL_war_323 : decode cL_war 323 = .ok (.iconst 3, 1) := by decide +kernel
theorem dL_war_324 : decode cL_war 324 = .ok (.ishr, 1) := by decide +kernel
theorem dL_war_325 : decode cL_war 325 = .ok (.iconst 1, 1) := by decide +kernel
theorem dL_war_326 : decode cL_war 326 = .ok (.iand, 1) := by decide +kernel
theorem dL_war_327 : decode cL_war 327 = .ok (.iastore, 1) := by decide +kernel
theorem dL_war_328 : decode cL_war 328 = .ok (.dup, 1) := by decide +kernel
theorem dL_war_329 : decode cL_war 329 = .ok (.iconst 1, 1) := by decide +kernel
theorem dL_war_330 : decode cL_war 330 = .ok (.iload 5, 2) := by decide +kernel
theorem dL_war_332 : decode cL_war 332 = .ok (.iconst 4, 1) := by decide +kernel
theorem dL_war_333 : decode cL_war 333 = .ok (.ishr, 1) := by decide +kernel
theorem dL_war_334 : decode cL_war 334 = .ok (.iconst 0, 1) := by decide +kernel
theorem dL_war_335 : decode cL_war 335 = .ok (.bipush 120, 2) := by decide +kernel
theorem dL_war_337 : decode cL_war 337 = .ok (.invokestatic 43, 3) := by decide +kernel
theorem dL_war_340 : decode cL_war 340 = .ok (.iastore, 1) := by decide +kernel
theorem dL_war_341 : decode cL_war 341 = .ok (.dup, 1) := by decide +kernel
theorem dL_war_342 : decode cL_war 342 = .ok (.iconst 2, 1) := by decide +kernel
theorem dL_war_343 : decode cL_war 343 = .ok (.iload 5, 2) := by decide +kernel
theorem dL_war_345 : decode cL_war 345 = .ok (.bipush 6, 2) := by decide +kernel
theorem dL_war_347 : decode cL_war 347 = .ok (.ishr, 1) := by decide +kernel
theorem dL_war_348 : decode cL_war 348 = .ok (.iconst 1, 1) := by decide +kernel
theorem dL_war_349 : decode cL_war 349 = .ok (.bipush 9, 2) := by decide +kernel
theorem dL_war_351 : decode cL_war 351 = .ok (.invokestatic 43, 3) := by decide +kernel
theorem dL_war_354 : decode cL_war 354 = .ok (.iastore, 1) := by decide +kernel
theorem dL_war_355 : decode cL_war 355 = .ok (.dup, 1) := by decide +kernel
theorem dL_war_356 : decode cL_war 356 = .ok (.iconst 3, 1) := by decide +kernel
theorem dL_war_357 : decode cL_war 357 = .ok (.iload 5, 2) := by decide +kernel
theorem dL_war_359 : decode cL_war 359 = .ok (.iconst 5, 1) := by decide +kernel
theorem dL_war_360 : decode cL_war 360 = .ok (.ishr, 1) := by decide +kernel
theorem dL_war_361 : decode cL_war 361 = .ok (.iconst 0, 1) := by decide +kernel
theorem dL_war_362 : decode cL_war 362 = .ok (.bipush 99, 2) := by decide +kernel
theorem dL_war_364 : decode cL_war 364 = .ok (.invokestatic 43, 3) := by decide +kernel
theorem dL_war_367 : decode cL_war 367 = .ok (.iastore, 1) := by decide +kernel
theorem dL_war_368 : decode cL_war 368 = .ok (.dup, 1) := by decide +kernel
theorem dL_war_369 : decode cL_war 369 = .ok (.iconst 4, 1) := by decide +kernel
theorem dL_war_370 : decode cL_war 370 = .ok (.iload 5, 2) := by decide +kernel
theorem dL_war_372 : decode cL_war 372 = .ok (.iconst 2, 1) := by decide +kernel
theorem dL_war_373 : decode cL_war 373 = .ok (.ishr, 1) := by decide +kernel
theorem dL_war_374 : decode cL_war 374 = .ok (.sipush 255, 3) := by decide +kernel
theorem dL_war_377 : decode cL_war 377 = .ok (.iand, 1) := by decide +kernel
theorem dL_war_378 : decode cL_war 378 = .ok (.iastore, 1) := by decide +kernel
theorem dL_war_379 : decode cL_war 379 = .ok (.dup, 1) := by decide +kernel
theorem dL_war_380 : decode cL_war 380 = .ok (.iconst 5, 1) := by decide +kernel
theorem dL_war_381 : decode cL_war 381 = .ok (.iload 5, 2) := by decide +kernel
theorem dL_war_383 : decode cL_war 383 = .ok (.bipush 7, 2) := by decide +kernel
theorem dL_war_385 : decode cL_war 385 = .ok (.ishr, 1) := by decide +kernel
theorem dL_war_386 : decode cL_war 386 = .ok (.iconst 0, 1) := by decide +kernel
theorem dL_war_387 : decode cL_war 387 = .ok (.sipush 300, 3) := by decide +kernel
theorem dL_war_390 : decode cL_war 390 = .ok (.invokestatic 43, 3) := by decide +kernel
theorem dL_war_393 : decode cL_war 393 = .ok (.iastore, 1) := by decide +kernel
theorem dL_war_394 : decode cL_war 394 = .ok (.dup, 1) := by decide +kernel
theorem dL_war_395 : decode cL_war 395 = .ok (.bipush 6, 2) := by decide +kernel
theorem dL_war_397 : decode cL_war 397 = .ok (.iconst 0, 1) := by decide +kernel
theorem dL_war_398 : decode cL_war 398 = .ok (.iastore, 1) := by decide +kernel
theorem dL_war_399 : decode cL_war 399 = .ok (.dup, 1) := by decide +kernel
theorem dL_war_400 : decode cL_war 400 = .ok (.bipush 7, 2) := by decide +kernel
theorem dL_war_402 : decode cL_war 402 = .ok (.iconst 0, 1) := by decide +kernel
theorem dL_war_403 : decode cL_war 403 = .ok (.iastore, 1) := by decide +kernel
theorem dL_war_404 : decode cL_war 404 = .ok (.dup, 1) := by decide +kernel
theorem dL_war_405 : decode cL_war 405 = .ok (.bipush 8, 2) := by decide +kernel
theorem dL_war_407 : decode cL_war 407 = .ok (.iconst 0, 1) := by decide +kernel
theorem dL_war_408 : decode cL_war 408 = .ok (.iastore, 1) := by decide +kernel
theorem dL_war_409 : decode cL_war 409 = .ok (.aastore, 1) := by decide +kernel
theorem dL_war_410 : decode cL_war 410 = .ok (.aload_n 3, 1) := by decide +kernel
theorem dL_war_411 : decode cL_war 411 = .ok (.getfield 136, 3) := by decide +kernel
theorem dL_war_414 : decode cL_war 414 = .ok (.iload 8, 2) := by decide +kernel
theorem dL_war_416 : decode cL_war 416 = .ok (.aaload, 1) := by decide +kernel
theorem dL_war_417 : decode cL_war 417 = .ok (.astore 9, 2) := by decide +kernel
theorem dL_war_419 : decode cL_war 419 = .ok (.aload_n 0, 1) := by decide +kernel
theorem dL_war_420 : decode cL_war 420 = .ok (.aload 9, 2) := by decide +kernel
theorem dL_war_422 : decode cL_war 422 = .ok (.iconst 0, 1) := by decide +kernel
theorem dL_war_423 : decode cL_war 423 = .ok (.iaload, 1) := by decide +kernel
theorem dL_war_424 : decode cL_war 424 = .ok (.aload 9, 2) := by decide +kernel
theorem dL_war_426 : decode cL_war 426 = .ok (.iconst 1, 1) := by decide +kernel
theorem dL_war_427 : decode cL_war 427 = .ok (.iaload, 1) := by decide +kernel
theorem dL_war_428 : decode cL_war 428 = .ok (.aload 9, 2) := by decide +kernel
theorem dL_war_430 : decode cL_war 430 = .ok (.iconst 2, 1) := by decide +kernel
theorem dL_war_431 : decode cL_war 431 = .ok (.iaload, 1) := by decide +kernel
theorem dL_war_432 : decode cL_war 432 = .ok (.invokevirtual 139, 3) := by decide +kernel
theorem dL_war_435 : decode cL_war 435 = .ok (.iload 8, 2) := by decide +kernel
theorem dL_war_437 : decode cL_war 437 = .ok (.if_icmp .ne 15, 3) := by decide +kernel
theorem dL_war_440 : decode cL_war 440 = .ok (.aload_n 0, 1) := by decide +kernel
theorem dL_war_441 : decode cL_war 441 = .ok (.iload 8, 2) := by decide +kernel
theorem dL_war_443 : decode cL_war 443 = .ok (.iconst 3, 1) := by decide +kernel
theorem dL_war_444 : decode cL_war 444 = .ok (.invokevirtual 141, 3) := by decide +kernel
theorem dL_war_447 : decode cL_war 447 = .ok (.bipush 50, 2) := by decide +kernel
theorem dL_war_449 : decode cL_war 449 = .ok (.if_icmp .eq 5, 3) := by decide +kernel
theorem dL_war_452 : decode cL_war 452 = .ok (.aconst_null, 1) := by decide +kernel
theorem dL_war_453 : decode cL_war 453 = .ok (.areturn, 1) := by decide +kernel
theorem dL_war_454 : decode cL_war 454 = .ok (.aload_n 3, 1) := by decide +kernel
theorem dL_war_455 : decode cL_war 455 = .ok (.dup, 1) := by decide +kernel
theorem dL_war_456 : decode cL_war 456 = .ok (.getfield 37, 3) := by decide +kernel
theorem dL_war_459 : decode cL_war 459 = .ok (.iconst 1, 1) := by decide +kernel
theorem dL_war_460 : decode cL_war 460 = .ok (.iadd, 1) := by decide +kernel
theorem dL_war_461 : decode cL_war 461 = .ok (.putfield 37, 3) := by decide +kernel
theorem dL_war_464 : decode cL_war 464 = .ok (.iconst 0, 1) := by decide +kernel
theorem dL_war_465 : decode cL_war 465 = .ok (.istore 10, 2) := by decide +kernel
theorem dL_war_467 : decode cL_war 467 = .ok (.iload 10, 2) := by decide +kernel
theorem dL_war_469 : decode cL_war 469 = .ok (.bipush 8, 2) := by decide +kernel
theorem dL_war_471 : decode cL_war 471 = .ok (.if_icmp .ge 35, 3) := by decide +kernel
theorem dL_war_474 : decode cL_war 474 = .ok (.aload 9, 2) := by decide +kernel
theorem dL_war_476 : decode cL_war 476 = .ok (.iconst 4, 1) := by decide +kernel
theorem dL_war_477 : decode cL_war 477 = .ok (.iaload, 1) := by decide +kernel
theorem dL_war_478 : decode cL_war 478 = .ok (.iload 10, 2) := by decide +kernel
theorem dL_war_480 : decode cL_war 480 = .ok (.ishr, 1) := by decide +kernel
theorem dL_war_481 : decode cL_war 481 = .ok (.iconst 1, 1) := by decide +kernel
theorem dL_war_482 : decode cL_war 482 = .ok (.iand, 1) := by decide +kernel
theorem dL_war_483 : decode cL_war 483 = .ok (.iconst 1, 1) := by decide +kernel
theorem dL_war_484 : decode cL_war 484 = .ok (.if_icmp .ne 16, 3) := by decide +kernel
theorem dL_war_487 : decode cL_war 487 = .ok (.aload_n 0, 1) := by decide +kernel
theorem dL_war_488 : decode cL_war 488 = .ok (.iload 8, 2) := by decide +kernel
theorem dL_war_490 : decode cL_war 490 = .ok (.iload 10, 2) := by decide +kernel
theorem dL_war_492 : decode cL_war 492 = .ok (.invokevirtual 144, 3) := by decide +kernel
theorem dL_war_495 : decode cL_war 495 = .ok (.ifCond .ne 5, 3) := by decide +kernel
theorem dL_war_498 : decode cL_war 498 = .ok (.aconst_null, 1) := by decide +kernel
theorem dL_war_499 : decode cL_war 499 = .ok (.areturn, 1) := by decide +kernel
theorem dL_war_500 : decode cL_war 500 = .ok (.iinc 10 1, 3) := by decide +kernel
theorem dL_war_503 : decode cL_war 503 = .ok (.goto (-36), 3) := by decide +kernel
theorem dL_war_506 : decode cL_war 506 = .ok (.aload_n 0, 1) := by decide +kernel
theorem dL_war_507 : decode cL_war 507 = .ok (.iconst 5, 1) := by decide +kernel
theorem dL_war_508 : decode cL_war 508 = .ok (.iload 8, 2) := by decide +kernel
theorem dL_war_510 : decode cL_war 510 = .ok (.aload 9, 2) := by decide +kernel
theorem dL_war_512 : decode cL_war 512 = .ok (.iconst 3, 1) := by decide +kernel
theorem dL_war_513 : decode cL_war 513 = .ok (.iaload, 1) := by decide +kernel
theorem dL_war_514 : decode cL_war 514 = .ok (.invokevirtual 148, 3) := by decide +kernel
theorem dL_war_517 : decode cL_war 517 = .ok (.ifCond .eq 18, 3) := by decide +kernel
theorem dL_war_520 : decode cL_war 520 = .ok (.aload_n 0, 1) := by decide +kernel
theorem dL_war_521 : decode cL_war 521 = .ok (.bipush 6, 2) := by decide +kernel
theorem dL_war_523 : decode cL_war 523 = .ok (.iload 8, 2) := by decide +kernel
theorem dL_war_525 : decode cL_war 525 = .ok (.aload 9, 2) := by decide +kernel
theorem dL_war_527 : decode cL_war 527 = .ok (.iconst 5, 1) := by decide +kernel
theorem dL_war_528 : decode cL_war 528 = .ok (.iaload, 1) := by decide +kernel
theorem dL_war_529 : decode cL_war 529 = .ok (.invokevirtual 148, 3) := by decide +kernel
theorem dL_war_532 : decode cL_war 532 = .ok (.ifCond .ne 5, 3) := by decide +kernel
theorem dL_war_535 : decode cL_war 535 = .ok (.aconst_null, 1) := by decide +kernel
theorem dL_war_536 : decode cL_war 536 = .ok (.areturn, 1) := by decide +kernel
theorem dL_war_537 : decode cL_war 537 = .ok (.iinc 8 1, 3) := by decide +kernel
theorem dL_war_540 : decode cL_war 540 = .ok (.goto (-259), 3) := by decide +kernel
theorem dL_war_543 : decode cL_war 543 = .ok (.aload_n 3, 1) := by decide +kernel
theorem dL_war_544 : decode cL_war 544 = .ok (.iload 4, 2) := by decide +kernel
theorem dL_war_546 : decode cL_war 546 = .ok (.bipush 6, 2) := by decide +kernel
theorem dL_war_548 : decode cL_war 548 = .ok (.ishr, 1) := by decide +kernel
theorem dL_war_549 : decode cL_war 549 = .ok (.iconst 0, 1) := by decide +kernel
theorem dL_war_550 : decode cL_war 550 = .ok (.bipush 9, 2) := by decide +kernel
theorem dL_war_552 : decode cL_war 552 = .ok (.invokestatic 43, 3) := by decide +kernel
theorem dL_war_555 : decode cL_war 555 = .ok (.putfield 152, 3) := by decide +kernel
theorem dL_war_558 : decode cL_war 558 = .ok (.aload_n 3, 1) := by decide +kernel
theorem dL_war_559 : decode cL_war 559 = .ok (.iload 4, 2) := by decide +kernel
theorem dL_war_561 : decode cL_war 561 = .ok (.iconst 4, 1) := by decide +kernel
theorem dL_war_562 : decode cL_war 562 = .ok (.ishr, 1) := by decide +kernel
theorem dL_war_563 : decode cL_war 563 = .ok (.iconst 0, 1) := by decide +kernel
theorem dL_war_564 : decode cL_war 564 = .ok (.bipush 9, 2) := by decide +kernel
theorem dL_war_566 : decode cL_war 566 = .ok (.invokestatic 43, 3) := by decide +kernel
theorem dL_war_569 : decode cL_war 569 = .ok (.putfield 155, 3) := by decide +kernel
theorem dL_war_572 : decode cL_war 572 = .ok (.aload_n 3, 1) := by decide +kernel
theorem dL_war_573 : decode cL_war 573 = .ok (.iload 4, 2) := by decide +kernel
theorem dL_war_575 : decode cL_war 575 = .ok (.bipush 7, 2) := by decide +kernel
theorem dL_war_577 : decode cL_war 577 = .ok (.ishr, 1) := by decide +kernel
theorem dL_war_578 : decode cL_war 578 = .ok (.iconst 0, 1) := by decide +kernel
theorem dL_war_579 : decode cL_war 579 = .ok (.bipush 6, 2) := by decide +kernel
theorem dL_war_581 : decode cL_war 581 = .ok (.invokestatic 43, 3) := by decide +kernel
theorem dL_war_584 : decode cL_war 584 = .ok (.putfield 158, 3) := by decide +kernel
theorem dL_war_587 : decode cL_war 587 = .ok (.aload_n 3, 1) := by decide +kernel
theorem dL_war_588 : decode cL_war 588 = .ok (.aload_n 1, 1) := by decide +kernel
theorem dL_war_589 : decode cL_war 589 = .ok (.iload_n 2, 1) := by decide +kernel
theorem dL_war_590 : decode cL_war 590 = .ok (.iconst 5, 1) := by decide +kernel
theorem dL_war_591 : decode cL_war 591 = .ok (.iadd, 1) := by decide +kernel
theorem dL_war_592 : decode cL_war 592 = .ok (.invokestatic 111, 3) := by decide +kernel
theorem dL_war_595 : decode cL_war 595 = .ok (.ldc 161, 2) := by decide +kernel
theorem dL_war_597 : decode cL_war 597 = .ok (.iand, 1) := by decide +kernel
theorem dL_war_598 : decode cL_war 598 = .ok (.aload_n 1, 1) := by decide +kernel
theorem dL_war_599 : decode cL_war 599 = .ok (.iload_n 2, 1) := by decide +kernel
theorem dL_war_600 : decode cL_war 600 = .ok (.iconst 5, 1) := by decide +kernel
theorem dL_war_601 : decode cL_war 601 = .ok (.iadd, 1) := by decide +kernel
theorem dL_war_602 : decode cL_war 602 = .ok (.invokestatic 111, 3) := by decide +kernel
theorem dL_war_605 : decode cL_war 605 = .ok (.bipush 7, 2) := by decide +kernel
theorem dL_war_607 : decode cL_war 607 = .ok (.ishr, 1) := by decide +kernel
theorem dL_war_608 : decode cL_war 608 = .ok (.iand, 1) := by decide +kernel
theorem dL_war_609 : decode cL_war 609 = .ok (.putfield 162, 3) := by decide +kernel
