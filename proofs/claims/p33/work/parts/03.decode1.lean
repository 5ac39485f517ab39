theorem dJ6_bitCount_0f7a4_0 : decode cJ6_bitCount_0f7a4 0 = .ok (.iload_n 0, 1) := by decide +kernel
theorem dJ6_bitCount_0f7a4_1 : decode cJ6_bitCount_0f7a4 1 = .ok (.iload_n 0, 1) := by decide +kernel
theorem dJ6_bitCount_0f7a4_2 : decode cJ6_bitCount_0f7a4 2 = .ok (.iconst 1, 1) := by decide +kernel
theorem dJ6_bitCount_0f7a4_3 : decode cJ6_bitCount_0f7a4 3 = .ok (.iushr, 1) := by decide +kernel
theorem dJ6_bitCount_0f7a4_4 : decode cJ6_bitCount_0f7a4 4 = .ok (.ldc_w 265, 3) := by decide +kernel
theorem dJ6_bitCount_0f7a4_7 : decode cJ6_bitCount_0f7a4 7 = .ok (.iand, 1) := by decide +kernel
theorem dJ6_bitCount_0f7a4_8 : decode cJ6_bitCount_0f7a4 8 = .ok (.isub, 1) := by decide +kernel
theorem dJ6_bitCount_0f7a4_9 : decode cJ6_bitCount_0f7a4 9 = .ok (.istore_n 0, 1) := by decide +kernel
theorem dJ6_bitCount_0f7a4_10 : decode cJ6_bitCount_0f7a4 10 = .ok (.iload_n 0, 1) := by decide +kernel
theorem dJ6_bitCount_0f7a4_11 : decode cJ6_bitCount_0f7a4 11 = .ok (.ldc_w 266, 3) := by decide +kernel
theorem dJ6_bitCount_0f7a4_14 : decode cJ6_bitCount_0f7a4 14 = .ok (.iand, 1) := by decide +kernel
theorem dJ6_bitCount_0f7a4_15 : decode cJ6_bitCount_0f7a4 15 = .ok (.iload_n 0, 1) := by decide +kernel
theorem dJ6_bitCount_0f7a4_16 : decode cJ6_bitCount_0f7a4 16 = .ok (.iconst 2, 1) := by decide +kernel
theorem dJ6_bitCount_0f7a4_17 : decode cJ6_bitCount_0f7a4 17 = .ok (.iushr, 1) := by decide +kernel
theorem dJ6_bitCount_0f7a4_18 : decode cJ6_bitCount_0f7a4 18 = .ok (.ldc_w 266, 3) := by decide +kernel
theorem dJ6_bitCount_0f7a4_21 : decode cJ6_bitCount_0f7a4 21 = .ok (.iand, 1) := by decide +kernel
theorem dJ6_bitCount_0f7a4_22 : decode cJ6_bitCount_0f7a4 22 = .ok (.iadd, 1) := by decide +kernel
theorem dJ6_bitCount_0f7a4_23 : decode cJ6_bitCount_0f7a4 23 = .ok (.istore_n 0, 1) := by decide +kernel
theorem dJ6_bitCount_0f7a4_24 : decode cJ6_bitCount_0f7a4 24 = .ok (.iload_n 0, 1) := by decide +kernel
theorem dJ6_bitCount_0f7a4_25 : decode cJ6_bitCount_0f7a4 25 = .ok (.iload_n 0, 1) := by decide +kernel
theorem dJ6_bitCount_0f7a4_26 : decode cJ6_bitCount_0f7a4 26 = .ok (.iconst 4, 1) := by decide +kernel
theorem dJ6_bitCount_0f7a4_27 : decode cJ6_bitCount_0f7a4 27 = .ok (.iushr, 1) := by decide +kernel
theorem dJ6_bitCount_0f7a4_28 : decode cJ6_bitCount_0f7a4 28 = .ok (.iadd, 1) := by decide +kernel
theorem dJ6_bitCount_0f7a4_29 : decode cJ6_bitCount_0f7a4 29 = .ok (.ldc_w 267, 3) := by decide +kernel
theorem dJ6_bitCount_0f7a4_32 : decode cJ6_bitCount_0f7a4 32 = .ok (.iand, 1) := by decide +kernel
theorem dJ6_bitCount_0f7a4_33 : decode cJ6_bitCount_0f7a4 33 = .ok (.istore_n 0, 1) := by decide +kernel
theorem dJ6_bitCount_0f7a4_34 : decode cJ6_bitCount_0f7a4 34 = .ok (.iload_n 0, 1) := by decide +kernel
theorem dJ6_bitCount_0f7a4_35 : decode cJ6_bitCount_0f7a4 35 = .ok (.iload_n 0, 1) := by decide +kernel
theorem dJ6_bitCount_0f7a4_36 : decode cJ6_bitCount_0f7a4 36 = .ok (.bipush 8, 2) := by decide +kernel
theorem dJ6_bitCount_0f7a4_38 : decode cJ6_bitCount_0f7a4 38 = .ok (.iushr, 1) := by decide +kernel
theorem dJ6_bitCount_0f7a4_39 : decode cJ6_bitCount_0f7a4 39 = .ok (.iadd, 1) := by decide +kernel
theorem dJ6_bitCount_0f7a4_40 : decode cJ6_bitCount_0f7a4 40 = .ok (.istore_n 0, 1) := by decide +kernel
theorem dJ6_bitCount_0f7a4_41 : decode cJ6_bitCount_0f7a4 41 = .ok (.iload_n 0, 1) := by decide +kernel
theorem dJ6_bitCount_0f7a4_42 : decode cJ6_bitCount_0f7a4 42 = .ok (.iload_n 0, 1) := by decide +kernel
theorem dJ6_bitCount_0f7a4_43 : decode cJ6_bitCount_0f7a4 43 = .ok (.bipush 16, 2) := by decide +kernel
theorem dJ6_bitCount_0f7a4_45 : decode cJ6_bitCount_0f7a4 45 = .ok (.iushr, 1) := by decide +kernel
theorem dJ6_bitCount_0f7a4_46 : decode cJ6_bitCount_0f7a4 46 = .ok (.iadd, 1) := by decide +kernel
theorem dJ6_bitCount_0f7a4_47 : decode cJ6_bitCount_0f7a4 47 = .ok (.istore_n 0, 1) := by decide +kernel
theorem dJ6_bitCount_0f7a4_48 : decode cJ6_bitCount_0f7a4 48 = .ok (.iload_n 0, 1) := by decide +kernel
theorem dJ6_bitCount_0f7a4_49 : decode cJ6_bitCount_0f7a4 49 = .ok (.bipush 63, 2) := by decide +kernel
theorem dJ6_bitCount_0f7a4_51 : decode cJ6_bitCount_0f7a4 51 = .ok (.iand, 1) := by decide +kernel
theorem dJ6_bitCount_0f7a4_52 : decode cJ6_bitCount_0f7a4 52 = .ok (.ireturn, 1) := by decide +kernel
theorem dJ7_fill_53178_0 : decode cJ7_fill_53178 0 = .ok (.iconst 0, 1) := by decide +kernel
theorem dJ7_fill_53178_1 : decode cJ7_fill_53178 1 = .ok (.istore_n 2, 1) := by decide +kernel
theorem dJ7_fill_53178_2 : decode cJ7_fill_53178 2 = .ok (.aload_n 0, 1) := by decide +kernel
theorem dJ7_fill_53178_3 : decode cJ7_fill_53178 3 = .ok (.arraylength, 1) := by decide +kernel
theorem dJ7_fill_53178_4 : decode cJ7_fill_53178 4 = .ok (.istore_n 3, 1) := by decide +kernel
theorem dJ7_fill_53178_5 : decode cJ7_fill_53178 5 = .ok (.iload_n 2, 1) := by decide +kernel
theorem dJ7_fill_53178_6 : decode cJ7_fill_53178 6 = .ok (.iload_n 3, 1) := by decide +kernel
theorem dJ7_fill_53178_7 : decode cJ7_fill_53178 7 = .ok (.if_icmp .ge 13, 3) := by decide +kernel
theorem dJ7_fill_53178_10 : decode cJ7_fill_53178 10 = .ok (.aload_n 0, 1) := by decide +kernel
theorem dJ7_fill_53178_11 : decode cJ7_fill_53178 11 = .ok (.iload_n 2, 1) := by decide +kernel
theorem dJ7_fill_53178_12 : decode cJ7_fill_53178 12 = .ok (.iload_n 1, 1) := by decide +kernel
theorem dJ7_fill_53178_13 : decode cJ7_fill_53178 13 = .ok (.iastore, 1) := by decide +kernel
theorem dJ7_fill_53178_14 : decode cJ7_fill_53178 14 = .ok (.iinc 2 1, 3) := by decide +kernel
theorem dJ7_fill_53178_17 : decode cJ7_fill_53178 17 = .ok (.goto (-12), 3) := by decide +kernel
theorem dJ7_fill_53178_20 : decode cJ7_fill_53178 20 = .ok (.return_, 1) := by decide +kernel
theorem dX0_become_0 : decode cX0_become 0 = .ok (.aload_n 1, 1) := by decide +kernel
theorem dX0_become_1 : decode cX0_become 1 = .ok (.getfield 9, 3) := by decide +kernel
theorem dX0_become_4 : decode cX0_become 4 = .ok (.aload_n 0, 1) := by decide +kernel
theorem dX0_become_5 : decode cX0_become 5 = .ok (.getfield 9, 3) := by decide +kernel
theorem dX0_become_8 : decode cX0_become 8 = .ok (.invokestatic 34, 3) := by decide +kernel
theorem dX0_become_11 : decode cX0_become 11 = .ok (.aload_n 1, 1) := by decide +kernel
theorem dX0_become_12 : decode cX0_become 12 = .ok (.getfield 15, 3) := by decide +kernel
theorem dX0_become_15 : decode cX0_become 15 = .ok (.aload_n 0, 1) := by decide +kernel
theorem dX0_become_16 : decode cX0_become 16 = .ok (.getfield 15, 3) := by decide +kernel
theorem dX0_become_19 : decode cX0_become 19 = .ok (.invokestatic 34, 3) := by decide +kernel
theorem dX0_become_22 : decode cX0_become 22 = .ok (.aload_n 1, 1) := by decide +kernel
theorem dX0_become_23 : decode cX0_become 23 = .ok (.getfield 18, 3) := by decide +kernel
theorem dX0_become_26 : decode cX0_become 26 = .ok (.aload_n 0, 1) := by decide +kernel
theorem dX0_become_27 : decode cX0_become 27 = .ok (.getfield 18, 3) := by decide +kernel
theorem dX0_become_30 : decode cX0_become 30 = .ok (.invokestatic 34, 3) := by decide +kernel
theorem dX0_become_33 : decode cX0_become 33 = .ok (.aload_n 1, 1) := by decide +kernel
theorem dX0_become_34 : decode cX0_become 34 = .ok (.getfield 21, 3) := by decide +kernel
theorem dX0_become_37 : decode cX0_become 37 = .ok (.aload_n 0, 1) := by decide +kernel
theorem dX0_become_38 : decode cX0_become 38 = .ok (.getfield 21, 3) := by decide +kernel
theorem dX0_become_41 : decode cX0_become 41 = .ok (.invokestatic 34, 3) := by decide +kernel
theorem dX0_become_44 : decode cX0_become 44 = .ok (.aload_n 1, 1) := by decide +kernel
theorem dX0_become_45 : decode cX0_become 45 = .ok (.getfield 24, 3) := by decide +kernel
theorem dX0_become_48 : decode cX0_become 48 = .ok (.aload_n 0, 1) := by decide +kernel
theorem dX0_become_49 : decode cX0_become 49 = .ok (.getfield 24, 3) := by decide +kernel
theorem dX0_become_52 : decode cX0_become 52 = .ok (.invokestatic 34, 3) := by decide +kernel
theorem dX0_become_55 : decode cX0_become 55 = .ok (.aload_n 1, 1) := by decide +kernel
theorem dX0_become_56 : decode cX0_become 56 = .ok (.getfield 27, 3) := by decide +kernel
theorem dX0_become_59 : decode cX0_become 59 = .ok (.aload_n 0, 1) := by decide +kernel
theorem dX0_become_60 : decode cX0_become 60 = .ok (.getfield 27, 3) := by decide +kernel
theorem dX0_become_63 : decode cX0_become 63 = .ok (.invokestatic 34, 3) := by decide +kernel
theorem dX0_become_66 : decode cX0_become 66 = .ok (.aload_n 0, 1) := by decide +kernel
theorem dX0_become_67 : decode cX0_become 67 = .ok (.aload_n 1, 1) := by decide +kernel
theorem dX0_become_68 : decode cX0_become 68 = .ok (.getfield 30, 3) := by decide +kernel
theorem dX0_become_71 : decode cX0_become 71 = .ok (.putfield 30, 3) := by decide +kernel
theorem dX0_become_74 : decode cX0_become 74 = .ok (.aload_n 0, 1) := by decide +kernel
theorem dX0_become_75 : decode cX0_become 75 = .ok (.aload_n 1, 1) := by decide +kernel
theorem dX0_become_76 : decode cX0_become 76 = .ok (.getfield 38, 3) := by decide +kernel
theorem dX0_become_79 : decode cX0_become 79 = .ok (.putfield 38, 3) := by decide +kernel
theorem dX0_become_82 : decode cX0_become 82 = .ok (.aload_n 0, 1) := by decide +kernel
theorem dX0_become_83 : decode cX0_become 83 = .ok (.aload_n 1, 1) := by decide +kernel
theorem dX0_become_84 : decode cX0_become 84 = .ok (.getfield 41, 3) := by decide +kernel
theorem dX0_become_87 : decode cX0_become 87 = .ok (.putfield 41, 3) := by decide +kernel
theorem dX0_become_90 : decode cX0_become 90 = .ok (.aload_n 0, 1) := by decide +kernel
theorem dX0_become_91 : decode cX0_become 91 = .ok (.aload_n 1, 1) := by decide +kernel
theorem dX0_become_92 : decode cX0_become 92 = .ok (.getfield 44, 3) := by decide +kernel
theorem dX0_become_95 : decode cX0_become 95 = .ok (.putfield 44, 3) := by decide +kernel
theorem dX0_become_98 : decode cX0_become 98 = .ok (.return_, 1) := by decide +kernel
theorem dX0_draw_0 : decode cX0_draw 0 = .ok (.aload_n 0, 1) := by decide +kernel
theorem dX0_draw_1 : decode cX0_draw 1 = .ok (.aload_n 0, 1) := by decide +kernel
theorem dX0_draw_2 : decode cX0_draw 2 = .ok (.getfield 41, 3) := by decide +kernel
theorem dX0_draw_5 : decode cX0_draw 5 = .ok (.ldc 51, 2) := by decide +kernel
theorem dX0_draw_7 : decode cX0_draw 7 = .ok (.imul, 1) := by decide +kernel
theorem dX0_draw_8 : decode cX0_draw 8 = .ok (.ldc 52, 2) := by decide +kernel
theorem dX0_draw_10 : decode cX0_draw 10 = .ok (.iadd, 1) := by decide +kernel
theorem dX0_draw_11 : decode cX0_draw 11 = .ok (.putfield 41, 3) := by decide +kernel
theorem dX0_draw_14 : decode cX0_draw 14 = .ok (.iload_n 1, 1) := by decide +kernel
theorem dX0_draw_15 : decode cX0_draw 15 = .ok (.ifCond .le 15, 3) := by decide +kernel
theorem dX0_draw_18 : decode cX0_draw 18 = .ok (.aload_n 0, 1) := by decide +kernel
theorem dX0_draw_19 : decode cX0_draw 19 = .ok (.getfield 41, 3) := by decide +kernel
theorem dX0_draw_22 : decode cX0_draw 22 = .ok (.bipush 8, 2) := by decide +kernel
theorem dX0_draw_24 : decode cX0_draw 24 = .ok (.iushr, 1) := by decide +kernel
theorem dX0_draw_25 : decode cX0_draw 25 = .ok (.iload_n 1, 1) := by decide +kernel
theorem dX0_draw_26 : decode cX0_draw 26 = .ok (.irem, 1) := by decide +kernel
theorem dX0_draw_27 : decode cX0_draw 27 = .ok (.goto 4, 3) := by decide +kernel
theorem dX0_draw_30 : decode cX0_draw 30 = .ok (.iconst 0, 1) := by decide +kernel
theorem dX0_draw_31 : decode cX0_draw 31 = .ok (.ireturn, 1) := by decide +kernel
theorem dX0_init_0 : decode cX0_init 0 = .ok (.aload_n 0, 1) := by decide +kernel
theorem dX0_init_1 : decode cX0_init 1 = .ok (.invokespecial 3, 3) := by decide +kernel
theorem dX0_init_4 : decode cX0_init 4 = .ok (.aload_n 0, 1) := by decide +kernel
theorem dX0_init_5 : decode cX0_init 5 = .ok (.bipush 12, 2) := by decide +kernel
theorem dX0_init_7 : decode cX0_init 7 = .ok (.newarray .int, 2) := by decide +kernel
theorem dX0_init_9 : decode cX0_init 9 = .ok (.putfield 9, 3) := by decide +kernel
theorem dX0_init_12 : decode cX0_init 12 = .ok (.aload_n 0, 1) := by decide +kernel
theorem dX0_init_13 : decode cX0_init 13 = .ok (.bipush 12, 2) := by decide +kernel
theorem dX0_init_15 : decode cX0_init 15 = .ok (.newarray .int, 2) := by decide +kernel
theorem dX0_init_17 : decode cX0_init 17 = .ok (.putfield 15, 3) := by decide +kernel
theorem dX0_init_20 : decode cX0_init 20 = .ok (.aload_n 0, 1) := by decide +kernel
theorem dX0_init_21 : decode cX0_init 21 = .ok (.bipush 12, 2) := by decide +kernel
theorem dX0_init_23 : decode cX0_init 23 = .ok (.newarray .int, 2) := by decide +kernel
theorem dX0_init_25 : decode cX0_init 25 = .ok (.putfield 18, 3) := by decide +kernel
theorem dX0_init_28 : decode cX0_init 28 = .ok (.aload_n 0, 1) := by decide +kernel
theorem dX0_init_29 : decode cX0_init 29 = .ok (.bipush 12, 2) := by decide +kernel
theorem dX0_init_31 : decode cX0_init 31 = .ok (.newarray .int, 2) := by decide +kernel
theorem dX0_init_33 : decode cX0_init 33 = .ok (.putfield 21, 3) := by decide +kernel
theorem dX0_init_36 : decode cX0_init 36 = .ok (.aload_n 0, 1) := by decide +kernel
theorem dX0_init_37 : decode cX0_init 37 = .ok (.bipush 12, 2) := by decide +kernel
theorem dX0_init_39 : decode cX0_init 39 = .ok (.newarray .int, 2) := by decide +kernel
theorem dX0_init_41 : decode cX0_init 41 = .ok (.putfield 24, 3) := by decide +kernel
theorem dX0_init_44 : decode cX0_init 44 = .ok (.aload_n 0, 1) := by decide +kernel
theorem dX0_init_45 : decode cX0_init 45 = .ok (.bipush 12, 2) := by decide +kernel
theorem dX0_init_47 : decode cX0_init 47 = .ok (.newarray .int, 2) := by decide +kernel
theorem dX0_init_49 : decode cX0_init 49 = .ok (.putfield 27, 3) := by decide +kernel
theorem dX0_init_52 : decode cX0_init 52 = .ok (.aload_n 0, 1) := by decide +kernel
theorem dX0_init_53 : decode cX0_init 53 = .ok (.iconst 1, 1) := by decide +kernel
theorem dX0_init_54 : decode cX0_init 54 = .ok (.putfield 30, 3) := by decide +kernel
theorem dX0_init_57 : decode cX0_init 57 = .ok (.return_, 1) := by decide +kernel
theorem dX0_knows_0 : decode cX0_knows 0 = .ok (.iload_n 1, 1) := by decide +kernel
theorem dX0_knows_1 : decode cX0_knows 1 = .ok (.ifCond .lt 26, 3) := by decide +kernel
theorem dX0_knows_4 : decode cX0_knows 4 = .ok (.iload_n 1, 1) := by decide +kernel
theorem dX0_knows_5 : decode cX0_knows 5 = .ok (.bipush 12, 2) := by decide +kernel
theorem dX0_knows_7 : decode cX0_knows 7 = .ok (.if_icmp .ge 20, 3) := by decide +kernel
theorem dX0_knows_10 : decode cX0_knows 10 = .ok (.aload_n 0, 1) := by decide +kernel
theorem dX0_knows_11 : decode cX0_knows 11 = .ok (.getfield 15, 3) := by decide +kernel
theorem dX0_knows_14 : decode cX0_knows 14 = .ok (.iload_n 1, 1) := by decide +kernel
theorem dX0_knows_15 : decode cX0_knows 15 = .ok (.iaload, 1) := by decide +kernel
theorem dX0_knows_16 : decode cX0_knows 16 = .ok (.iload_n 2, 1) := by decide +kernel
theorem dX0_knows_17 : decode cX0_knows 17 = .ok (.invokestatic 47, 3) := by decide +kernel
theorem dX0_knows_20 : decode cX0_knows 20 = .ok (.ifCond .eq 7, 3) := by decide +kernel
theorem dX0_knows_23 : decode cX0_knows 23 = .ok (.iconst 1, 1) := by decide +kernel
theorem dX0_knows_24 : decode cX0_knows 24 = .ok (.goto 4, 3) := by decide +kernel
theorem dX0_knows_27 : decode cX0_knows 27 = .ok (.iconst 0, 1) := by decide +kernel
theorem dX0_knows_28 : decode cX0_knows 28 = .ok (.ireturn, 1) := by decide +kernel
theorem dX0_start_0 : decode cX0_start 0 = .ok (.iload_n 1, 1) := by decide +kernel
theorem dX0_start_1 : decode cX0_start 1 = .ok (.ifCond .lt 9, 3) := by decide +kernel
theorem dX0_start_4 : decode cX0_start 4 = .ok (.iload_n 1, 1) := by decide +kernel
theorem dX0_start_5 : decode cX0_start 5 = .ok (.bipush 12, 2) := by decide +kernel
theorem dX0_start_7 : decode cX0_start 7 = .ok (.if_icmp .lt 4, 3) := by decide +kernel
theorem dX0_start_10 : decode cX0_start 10 = .ok (.return_, 1) := by decide +kernel
theorem dX0_start_11 : decode cX0_start 11 = .ok (.aload_n 0, 1) := by decide +kernel
theorem dX0_start_12 : decode cX0_start 12 = .ok (.getfield 9, 3) := by decide +kernel
theorem dX0_start_15 : decode cX0_start 15 = .ok (.iload_n 1, 1) := by decide +kernel
theorem dX0_start_16 : decode cX0_start 16 = .ok (.bipush 50, 2) := by decide +kernel
theorem dX0_start_18 : decode cX0_start 18 = .ok (.iastore, 1) := by decide +kernel
theorem dX0_start_19 : decode cX0_start 19 = .ok (.aload_n 0, 1) := by decide +kernel
theorem dX0_start_20 : decode cX0_start 20 = .ok (.getfield 15, 3) := by decide +kernel
theorem dX0_start_23 : decode cX0_start 23 = .ok (.iload_n 1, 1) := by decide +kernel
theorem dX0_start_24 : decode cX0_start 24 = .ok (.iconst 0, 1) := by decide +kernel
theorem dX0_start_25 : decode cX0_start 25 = .ok (.iastore, 1) := by decide +kernel
theorem dX0_start_26 : decode cX0_start 26 = .ok (.aload_n 0, 1) := by decide +kernel
theorem dX0_start_27 : decode cX0_start 27 = .ok (.getfield 18, 3) := by decide +kernel
theorem dX0_start_30 : decode cX0_start 30 = .ok (.iload_n 1, 1) := by decide +kernel
theorem dX0_start_31 : decode cX0_start 31 = .ok (.iconst 0, 1) := by decide +kernel
theorem dX0_start_32 : decode cX0_start 32 = .ok (.iastore, 1) := by decide +kernel
theorem dX0_start_33 : decode cX0_start 33 = .ok (.aload_n 0, 1) := by decide +kernel
theorem dX0_start_34 : decode cX0_start 34 = .ok (.getfield 21, 3) := by decide +kernel
theorem dX0_start_37 : decode cX0_start 37 = .ok (.iload_n 1, 1) := by decide +kernel
theorem dX0_start_38 : decode cX0_start 38 = .ok (.iconst 0, 1) := by decide +kernel
theorem dX0_start_39 : decode cX0_start 39 = .ok (.iastore, 1) := by decide +kernel
theorem dX0_start_40 : decode cX0_start 40 = .ok (.aload_n 0, 1) := by decide +kernel
theorem dX0_start_41 : decode cX0_start 41 = .ok (.getfield 24, 3) := by decide +kernel
theorem dX0_start_44 : decode cX0_start 44 = .ok (.iload_n 1, 1) := by decide +kernel
theorem dX0_start_45 : decode cX0_start 45 = .ok (.iconst 0, 1) := by decide +kernel
theorem dX0_start_46 : decode cX0_start 46 = .ok (.iastore, 1) := by decide +kernel
theorem dX0_start_47 : decode cX0_start 47 = .ok (.aload_n 0, 1) := by decide +kernel
theorem dX0_start_48 : decode cX0_start 48 = .ok (.getfield 27, 3) := by decide +kernel
theorem dX0_start_51 : decode cX0_start 51 = .ok (.iload_n 1, 1) := by decide +kernel
theorem dX0_start_52 : decode cX0_start 52 = .ok (.iconst 0, 1) := by decide +kernel
theorem dX0_start_53 : decode cX0_start 53 = .ok (.iastore, 1) := by decide +kernel
theorem dX0_start_54 : decode cX0_start 54 = .ok (.return_, 1) := by decide +kernel
theorem dX10_forgetAll_0 : decode cX10_forgetAll 0 = .ok (.aload_n 0, 1) := by decide +kernel
theorem dX10_forgetAll_1 : decode cX10_forgetAll 1 = .ok (.iconst 0, 1) := by decide +kernel
theorem dX10_forgetAll_2 : decode cX10_forgetAll 2 = .ok (.putfield 16, 3) := by decide +kernel
theorem dX10_forgetAll_5 : decode cX10_forgetAll 5 = .ok (.return_, 1) := by decide +kernel
theorem dX10_goBack_0 : decode cX10_goBack 0 = .ok (.aload_n 0, 1) := by decide +kernel
theorem dX10_goBack_1 : decode cX10_goBack 1 = .ok (.getfield 20, 3) := by decide +kernel
theorem dX10_goBack_4 : decode cX10_goBack 4 = .ok (.bipush 6, 2) := by decide +kernel
theorem dX10_goBack_6 : decode cX10_goBack 6 = .ok (.iadd, 1) := by decide +kernel
theorem dX10_goBack_7 : decode cX10_goBack 7 = .ok (.iconst 1, 1) := by decide +kernel
theorem dX10_goBack_8 : decode cX10_goBack 8 = .ok (.isub, 1) := by decide +kernel
theorem dX10_goBack_9 : decode cX10_goBack 9 = .ok (.bipush 6, 2) := by decide +kernel
theorem dX10_goBack_11 : decode cX10_goBack 11 = .ok (.irem, 1) := by decide +kernel
theorem dX10_goBack_12 : decode cX10_goBack 12 = .ok (.istore_n 2, 1) := by decide +kernel
theorem dX10_goBack_13 : decode cX10_goBack 13 = .ok (.aload_n 0, 1) := by decide +kernel
theorem dX10_goBack_14 : decode cX10_goBack 14 = .ok (.getfield 16, 3) := by decide +kernel
theorem dX10_goBack_17 : decode cX10_goBack 17 = .ok (.ifCond .le 22, 3) := by decide +kernel
theorem dX10_goBack_20 : decode cX10_goBack 20 = .ok (.iload_n 2, 1) := by decide +kernel
theorem dX10_goBack_21 : decode cX10_goBack 21 = .ok (.ifCond .lt 18, 3) := by decide +kernel
theorem dX10_goBack_24 : decode cX10_goBack 24 = .ok (.iload_n 2, 1) := by decide +kernel
theorem dX10_goBack_25 : decode cX10_goBack 25 = .ok (.bipush 6, 2) := by decide +kernel
theorem dX10_goBack_27 : decode cX10_goBack 27 = .ok (.if_icmp .ge 12, 3) := by decide +kernel
theorem dX10_goBack_30 : decode cX10_goBack 30 = .ok (.aload_n 0, 1) := by decide +kernel
theorem dX10_goBack_31 : decode cX10_goBack 31 = .ok (.getfield 11, 3) := by decide +kernel
theorem dX10_goBack_34 : decode cX10_goBack 34 = .ok (.iload_n 2, 1) := by decide +kernel
theorem dX10_goBack_35 : decode cX10_goBack 35 = .ok (.aaload, 1) := by decide +kernel
theorem dX10_goBack_36 : decode cX10_goBack 36 = .ok (.ifnonnull 5, 3) := by decide +kernel
theorem dX10_goBack_39 : decode cX10_goBack 39 = .ok (.iconst 0, 1) := by decide +kernel
theorem dX10_goBack_40 : decode cX10_goBack 40 = .ok (.ireturn, 1) := by decide +kernel
theorem dX10_goBack_41 : decode cX10_goBack 41 = .ok (.aload_n 1, 1) := by decide +kernel
theorem dX10_goBack_42 : decode cX10_goBack 42 = .ok (.aload_n 0, 1) := by decide +kernel
theorem dX10_goBack_43 : decode cX10_goBack 43 = .ok (.getfield 11, 3) := by decide +kernel
theorem dX10_goBack_46 : decode cX10_goBack 46 = .ok (.iload_n 2, 1) := by decide +kernel
theorem dX10_goBack_47 : decode cX10_goBack 47 = .ok (.aaload, 1) := by decide +kernel
theorem dX10_goBack_48 : decode cX10_goBack 48 = .ok (.invokevirtual 23, 3) := by decide +kernel
theorem dX10_goBack_51 : decode cX10_goBack 51 = .ok (.aload_n 0, 1) := by decide +kernel
theorem dX10_goBack_52 : decode cX10_goBack 52 = .ok (.iload_n 2, 1) := by decide +kernel
theorem dX10_goBack_53 : decode cX10_goBack 53 = .ok (.putfield 20, 3) := by decide +kernel
theorem dX10_goBack_56 : decode cX10_goBack 56 = .ok (.aload_n 0, 1) := by decide +kernel
theorem dX10_goBack_57 : decode cX10_goBack 57 = .ok (.dup, 1) := by decide +kernel
theorem dX10_goBack_58 : decode cX10_goBack 58 = .ok (.getfield 16, 3) := by decide +kernel
theorem dX10_goBack_61 : decode cX10_goBack 61 = .ok (.iconst 1, 1) := by decide +kernel
theorem dX10_goBack_62 : decode cX10_goBack 62 = .ok (.isub, 1) := by decide +kernel
theorem dX10_goBack_63 : decode cX10_goBack 63 = .ok (.putfield 16, 3) := by decide +kernel
theorem dX10_goBack_66 : decode cX10_goBack 66 = .ok (.iconst 1, 1) := by decide +kernel
theorem dX10_goBack_67 : decode cX10_goBack 67 = .ok (.ireturn, 1) := by decide +kernel
theorem dX10_init_0 : decode cX10_init 0 = .ok (.aload_n 0, 1) := by decide +kernel
theorem dX10_init_1 : decode cX10_init 1 = .ok (.invokespecial 1, 3) := by decide +kernel
theorem dX10_init_4 : decode cX10_init 4 = .ok (.aload_n 0, 1) := by decide +kernel
theorem dX10_init_5 : decode cX10_init 5 = .ok (.bipush 6, 2) := by decide +kernel
theorem dX10_init_7 : decode cX10_init 7 = .ok (.anewarray 9, 3) := by decide +kernel
theorem dX10_init_10 : decode cX10_init 10 = .ok (.putfield 11, 3) := by decide +kernel
theorem dX10_init_13 : decode cX10_init 13 = .ok (.iconst 0, 1) := by decide +kernel
theorem dX10_init_14 : decode cX10_init 14 = .ok (.istore_n 1, 1) := by decide +kernel
theorem dX10_init_15 : decode cX10_init 15 = .ok (.iload_n 1, 1) := by decide +kernel
theorem dX10_init_16 : decode cX10_init 16 = .ok (.bipush 6, 2) := by decide +kernel
theorem dX10_init_18 : decode cX10_init 18 = .ok (.if_icmp .ge 22, 3) := by decide +kernel
theorem dX10_init_21 : decode cX10_init 21 = .ok (.aload_n 0, 1) := by decide +kernel
theorem dX10_init_22 : decode cX10_init 22 = .ok (.getfield 11, 3) := by decide +kernel
theorem dX10_init_25 : decode cX10_init 25 = .ok (.iload_n 1, 1) := by decide +kernel
theorem dX10_init_26 : decode cX10_init 26 = .ok (.new 9, 3) := by decide +kernel
theorem dX10_init_29 : decode cX10_init 29 = .ok (.dup, 1) := by decide +kernel
theorem dX10_init_30 : decode cX10_init 30 = .ok (.invokespecial 15, 3) := by decide +kernel
theorem dX10_init_33 : decode cX10_init 33 = .ok (.aastore, 1) := by decide +kernel
theorem dX10_init_34 : decode cX10_init 34 = .ok (.iinc 1 1, 3) := by decide +kernel
theorem dX10_init_37 : decode cX10_init 37 = .ok (.goto (-22), 3) := by decide +kernel
theorem dX10_init_40 : decode cX10_init 40 = .ok (.return_, 1) := by decide +kernel
theorem dX10_remember_0 : decode cX10_remember 0 = .ok (.aload_n 0, 1) := by decide +kernel
theorem dX10_remember_1 : decode cX10_remember 1 = .ok (.getfield 20, 3) := by decide +kernel
theorem dX10_remember_4 : decode cX10_remember 4 = .ok (.ifCond .lt 65, 3) := by decide +kernel
theorem dX10_remember_7 : decode cX10_remember 7 = .ok (.aload_n 0, 1) := by decide +kernel
theorem dX10_remember_8 : decode cX10_remember 8 = .ok (.getfield 20, 3) := by decide +kernel
theorem dX10_remember_11 : decode cX10_remember 11 = .ok (.bipush 6, 2) := by decide +kernel
theorem dX10_remember_13 : decode cX10_remember 13 = .ok (.if_icmp .ge 56, 3) := by decide +kernel
theorem dX10_remember_16 : decode cX10_remember 16 = .ok (.aload_n 0, 1) := by decide +kernel
theorem dX10_remember_17 : decode cX10_remember 17 = .ok (.getfield 11, 3) := by decide +kernel
theorem dX10_remember_20 : decode cX10_remember 20 = .ok (.aload_n 0, 1) := by decide +kernel
theorem dX10_remember_21 : decode cX10_remember 21 = .ok (.getfield 20, 3) := by decide +kernel
theorem dX10_remember_24 : decode cX10_remember 24 = .ok (.aaload, 1) := by decide +kernel
theorem dX10_remember_25 : decode cX10_remember 25 = .ok (.ifnull 44, 3) := by decide +kernel
theorem dX10_remember_28 : decode cX10_remember 28 = .ok (.aload_n 0, 1) := by decide +kernel
theorem dX10_remember_29 : decode cX10_remember 29 = .ok (.getfield 11, 3) := by decide +kernel
theorem dX10_remember_32 : decode cX10_remember 32 = .ok (.aload_n 0, 1) := by decide +kernel
theorem dX10_remember_33 : decode cX10_remember 33 = .ok (.getfield 20, 3) := by decide +kernel
theorem dX10_remember_36 : decode cX10_remember 36 = .ok (.aaload, 1) := by decide +kernel
theorem dX10_remember_37 : decode cX10_remember 37 = .ok (.aload_n 1, 1) := by decide +kernel
theorem dX10_remember_38 : decode cX10_remember 38 = .ok (.invokevirtual 23, 3) := by decide +kernel
theorem dX10_remember_41 : decode cX10_remember 41 = .ok (.aload_n 0, 1) := by decide +kernel
theorem dX10_remember_42 : decode cX10_remember 42 = .ok (.aload_n 0, 1) := by decide +kernel
theorem dX10_remember_43 : decode cX10_remember 43 = .ok (.getfield 20, 3) := by decide +kernel
theorem dX10_remember_46 : decode cX10_remember 46 = .ok (.iconst 1, 1) := by decide +kernel
theorem dX10_remember_47 : decode cX10_remember 47 = .ok (.iadd, 1) := by decide +kernel
theorem dX10_remember_48 : decode cX10_remember 48 = .ok (.bipush 6, 2) := by decide +kernel
theorem dX10_remember_50 : decode cX10_remember 50 = .ok (.irem, 1) := by decide +kernel
theorem dX10_remember_51 : decode cX10_remember 51 = .ok (.putfield 20, 3) := by decide +kernel
theorem dX10_remember_54 : decode cX10_remember 54 = .ok (.aload_n 0, 1) := by decide +kernel
theorem dX10_remember_55 : decode cX10_remember 55 = .ok (.bipush 6, 2) := by decide +kernel
theorem dX10_remember_57 : decode cX10_remember 57 = .ok (.aload_n 0, 1) := by decide +kernel
theorem dX10_remember_58 : decode cX10_remember 58 = .ok (.getfield 16, 3) := by decide +kernel
theorem dX10_remember_61 : decode cX10_remember 61 = .ok (.iconst 1, 1) := by decide +kernel
theorem dX10_remember_62 : decode cX10_remember 62 = .ok (.iadd, 1) := by decide +kernel
theorem dX10_remember_63 : decode cX10_remember 63 = .ok (.invokestatic 27, 3) := by decide +kernel
theorem dX10_remember_66 : decode cX10_remember 66 = .ok (.putfield 16, 3) := by decide +kernel
theorem dX10_remember_69 : decode cX10_remember 69 = .ok (.return_, 1) := by decide +kernel
theorem dX11_book_0 : decode cX11_book 0 = .ok (.iload_n 1, 1) := by decide +kernel
theorem dX11_book_1 : decode cX11_book 1 = .ok (.ifCond .lt 27, 3) := by decide +kernel
theorem dX11_book_4 : decode cX11_book 4 = .ok (.iload_n 1, 1) := by decide +kernel
theorem dX11_book_5 : decode cX11_book 5 = .ok (.aload_n 0, 1) := by decide +kernel
theorem dX11_book_6 : decode cX11_book 6 = .ok (.getfield 19, 3) := by decide +kernel
theorem dX11_book_9 : decode cX11_book 9 = .ok (.getfield 210, 3) := by decide +kernel
theorem dX11_book_12 : decode cX11_book 12 = .ok (.if_icmp .ge 16, 3) := by decide +kernel
theorem dX11_book_15 : decode cX11_book 15 = .ok (.iload_n 2, 1) := by decide +kernel
theorem dX11_book_16 : decode cX11_book 16 = .ok (.ifCond .lt 12, 3) := by decide +kernel
theorem dX11_book_19 : decode cX11_book 19 = .ok (.iload_n 2, 1) := by decide +kernel
theorem dX11_book_20 : decode cX11_book 20 = .ok (.iconst 4, 1) := by decide +kernel
theorem dX11_book_21 : decode cX11_book 21 = .ok (.if_icmp .ge 7, 3) := by decide +kernel
theorem dX11_book_24 : decode cX11_book 24 = .ok (.iconst 1, 1) := by decide +kernel
theorem dX11_book_25 : decode cX11_book 25 = .ok (.goto 4, 3) := by decide +kernel
theorem dX11_book_28 : decode cX11_book 28 = .ok (.iconst 0, 1) := by decide +kernel
theorem dX11_book_29 : decode cX11_book 29 = .ok (.istore_n 3, 1) := by decide +kernel
theorem dX11_book_30 : decode cX11_book 30 = .ok (.iload_n 3, 1) := by decide +kernel
theorem dX11_book_31 : decode cX11_book 31 = .ok (.ifCond .eq 15, 3) := by decide +kernel
theorem dX11_book_34 : decode cX11_book 34 = .ok (.aload_n 0, 1) := by decide +kernel
theorem dX11_book_35 : decode cX11_book 35 = .ok (.getfield 26, 3) := by decide +kernel
theorem dX11_book_38 : decode cX11_book 38 = .ok (.iload_n 1, 1) := by decide +kernel
theorem dX11_book_39 : decode cX11_book 39 = .ok (.iload_n 2, 1) := by decide +kernel
theorem dX11_book_40 : decode cX11_book 40 = .ok (.invokevirtual 213, 3) := by decide +kernel
theorem dX11_book_43 : decode cX11_book 43 = .ok (.goto 5, 3) := by decide +kernel
theorem dX11_book_46 : decode cX11_book 46 = .ok (.bipush (-2), 2) := by decide +kernel
theorem dX11_book_48 : decode cX11_book 48 = .ok (.ireturn, 1) := by decide +kernel
theorem dX11_copy_0 : decode cX11_copy 0 = .ok (.aload_n 0, 1) := by decide +kernel
theorem dX11_copy_1 : decode cX11_copy 1 = .ok (.iconst 0, 1) := by decide +kernel
theorem dX11_copy_2 : decode cX11_copy 2 = .ok (.aload_n 1, 1) := by decide +kernel
theorem dX11_copy_3 : decode cX11_copy 3 = .ok (.iconst 0, 1) := by decide +kernel
theorem dX11_copy_4 : decode cX11_copy 4 = .ok (.aload_n 0, 1) := by decide +kernel
theorem dX11_copy_5 : decode cX11_copy 5 = .ok (.arraylength, 1) := by decide +kernel
theorem dX11_copy_6 : decode cX11_copy 6 = .ok (.aload_n 1, 1) := by decide +kernel
theorem dX11_copy_7 : decode cX11_copy 7 = .ok (.arraylength, 1) := by decide +kernel
theorem dX11_copy_8 : decode cX11_copy 8 = .ok (.invokestatic 147, 3) := by decide +kernel
theorem dX11_copy_11 : decode cX11_copy 11 = .ok (.invokestatic 310, 3) := by decide +kernel
theorem dX11_copy_14 : decode cX11_copy 14 = .ok (.return_, 1) := by decide +kernel
theorem dX11_country_0 : decode cX11_country 0 = .ok (.iload_n 1, 1) := by decide +kernel
theorem dX11_country_1 : decode cX11_country 1 = .ok (.invokestatic 91, 3) := by decide +kernel
theorem dX11_country_4 : decode cX11_country 4 = .ok (.ifCond .ne 5, 3) := by decide +kernel
theorem dX11_country_7 : decode cX11_country 7 = .ok (.iconst (-1), 1) := by decide +kernel
theorem dX11_country_8 : decode cX11_country 8 = .ok (.ireturn, 1) := by decide +kernel
theorem dX11_country_9 : decode cX11_country 9 = .ok (.iload_n 2, 1) := by decide +kernel
theorem dX11_country_10 : decode cX11_country 10 = .ok (.tableswitch 105 0 4 #[34, 43, 52, 68, 78], 34) := by decide +kernel
theorem dX11_country_44 : decode cX11_country 44 = .ok (.aload_n 0, 1) := by decide +kernel
theorem dX11_country_45 : decode cX11_country 45 = .ok (.getfield 35, 3) := by decide +kernel
theorem dX11_country_48 : decode cX11_country 48 = .ok (.iload_n 1, 1) := by decide +kernel
theorem dX11_country_49 : decode cX11_country 49 = .ok (.invokevirtual 188, 3) := by decide +kernel
theorem dX11_country_52 : decode cX11_country 52 = .ok (.ireturn, 1) := by decide +kernel
theorem dX11_country_53 : decode cX11_country 53 = .ok (.aload_n 0, 1) := by decide +kernel
theorem dX11_country_54 : decode cX11_country 54 = .ok (.getfield 35, 3) := by decide +kernel
theorem dX11_country_57 : decode cX11_country 57 = .ok (.iload_n 1, 1) := by decide +kernel
theorem dX11_country_58 : decode cX11_country 58 = .ok (.invokevirtual 192, 3) := by decide +kernel
theorem dX11_country_61 : decode cX11_country 61 = .ok (.ireturn, 1) := by decide +kernel
theorem dX11_country_62 : decode cX11_country 62 = .ok (.aload_n 0, 1) := by decide +kernel
theorem dX11_country_63 : decode cX11_country 63 = .ok (.getfield 10, 3) := by decide +kernel
theorem dX11_country_66 : decode cX11_country 66 = .ok (.aload_n 0, 1) := by decide +kernel
theorem dX11_country_67 : decode cX11_country 67 = .ok (.getfield 35, 3) := by decide +kernel
theorem dX11_country_70 : decode cX11_country 70 = .ok (.iload_n 1, 1) := by decide +kernel
theorem dX11_country_71 : decode cX11_country 71 = .ok (.invokevirtual 192, 3) := by decide +kernel
theorem dX11_country_74 : decode cX11_country 74 = .ok (.invokevirtual 195, 3) := by decide +kernel
theorem dX11_country_77 : decode cX11_country 77 = .ok (.ireturn, 1) := by decide +kernel
theorem dX11_country_78 : decode cX11_country 78 = .ok (.aload_n 0, 1) := by decide +kernel
theorem dX11_country_79 : decode cX11_country 79 = .ok (.getfield 10, 3) := by decide +kernel
theorem dX11_country_82 : decode cX11_country 82 = .ok (.getfield 198, 3) := by decide +kernel
theorem dX11_country_85 : decode cX11_country 85 = .ok (.iload_n 1, 1) := by decide +kernel
theorem dX11_country_86 : decode cX11_country 86 = .ok (.iaload, 1) := by decide +kernel
theorem dX11_country_87 : decode cX11_country 87 = .ok (.ireturn, 1) := by decide +kernel
theorem dX11_country_88 : decode cX11_country 88 = .ok (.aload_n 0, 1) := by decide +kernel
theorem dX11_country_89 : decode cX11_country 89 = .ok (.getfield 10, 3) := by decide +kernel
theorem dX11_country_92 : decode cX11_country 92 = .ok (.getfield 201, 3) := by decide +kernel
theorem dX11_country_95 : decode cX11_country 95 = .ok (.aload_n 0, 1) := by decide +kernel
theorem dX11_country_96 : decode cX11_country 96 = .ok (.getfield 19, 3) := by decide +kernel
theorem dX11_country_99 : decode cX11_country 99 = .ok (.getfield 153, 3) := by decide +kernel
theorem dX11_country_102 : decode cX11_country 102 = .ok (.iload_n 1, 1) := by decide +kernel
theorem dX11_country_103 : decode cX11_country 103 = .ok (.invokevirtual 205, 3) := by decide +kernel
theorem dX11_country_106 : decode cX11_country 106 = .ok (.ifCond .eq 7, 3) := by decide +kernel
theorem dX11_country_109 : decode cX11_country 109 = .ok (.iconst 1, 1) := by decide +kernel
theorem dX11_country_110 : decode cX11_country 110 = .ok (.goto 4, 3) := by decide +kernel
theorem dX11_country_113 : decode cX11_country 113 = .ok (.iconst 0, 1) := by decide +kernel
theorem dX11_country_114 : decode cX11_country 114 = .ok (.ireturn, 1) := by decide +kernel
theorem dX11_country_115 : decode cX11_country 115 = .ok (.iconst (-1), 1) := by decide +kernel
theorem dX11_country_116 : decode cX11_country 116 = .ok (.ireturn, 1) := by decide +kernel
theorem dX11_days_0 : decode cX11_days 0 = .ok (.iload_n 1, 1) := by decide +kernel
theorem dX11_days_1 : decode cX11_days 1 = .ok (.iconst 1, 1) := by decide +kernel
theorem dX11_days_2 : decode cX11_days 2 = .ok (.if_icmp .lt 24, 3) := by decide +kernel
theorem dX11_days_5 : decode cX11_days 5 = .ok (.iload_n 1, 1) := by decide +kernel
theorem dX11_days_6 : decode cX11_days 6 = .ok (.bipush 60, 2) := by decide +kernel
theorem dX11_days_8 : decode cX11_days 8 = .ok (.if_icmp .gt 18, 3) := by decide +kernel
theorem dX11_days_11 : decode cX11_days 11 = .ok (.aload_n 0, 1) := by decide +kernel
theorem dX11_days_12 : decode cX11_days 12 = .ok (.getfield 19, 3) := by decide +kernel
theorem dX11_days_15 : decode cX11_days 15 = .ok (.getfield 153, 3) := by decide +kernel
theorem dX11_days_18 : decode cX11_days 18 = .ok (.iload_n 1, 1) := by decide +kernel
theorem dX11_days_19 : decode cX11_days 19 = .ok (.iadd, 1) := by decide +kernel
theorem dX11_days_20 : decode cX11_days 20 = .ok (.sipush 9999, 3) := by decide +kernel
theorem dX11_days_23 : decode cX11_days 23 = .ok (.if_icmp .le 5, 3) := by decide +kernel
theorem dX11_days_26 : decode cX11_days 26 = .ok (.iconst (-1), 1) := by decide +kernel
theorem dX11_days_27 : decode cX11_days 27 = .ok (.ireturn, 1) := by decide +kernel
theorem dX11_days_28 : decode cX11_days 28 = .ok (.iconst 0, 1) := by decide +kernel
theorem dX11_days_29 : decode cX11_days 29 = .ok (.istore_n 2, 1) := by decide +kernel
theorem dX11_days_30 : decode cX11_days 30 = .ok (.iconst 0, 1) := by decide +kernel
theorem dX11_days_31 : decode cX11_days 31 = .ok (.istore_n 3, 1) := by decide +kernel
theorem dX11_days_32 : decode cX11_days 32 = .ok (.iload_n 3, 1) := by decide +kernel
theorem dX11_days_33 : decode cX11_days 33 = .ok (.iload_n 1, 1) := by decide +kernel
theorem dX11_days_34 : decode cX11_days 34 = .ok (.if_icmp .ge 37, 3) := by decide +kernel
theorem dX11_days_37 : decode cX11_days 37 = .ok (.aload_n 0, 1) := by decide +kernel
theorem dX11_days_38 : decode cX11_days 38 = .ok (.getfield 49, 3) := by decide +kernel
theorem dX11_days_41 : decode cX11_days 41 = .ok (.aload_n 0, 1) := by decide +kernel
theorem dX11_days_42 : decode cX11_days 42 = .ok (.getfield 19, 3) := by decide +kernel
theorem dX11_days_45 : decode cX11_days 45 = .ok (.invokevirtual 135, 3) := by decide +kernel
theorem dX11_days_48 : decode cX11_days 48 = .ok (.iload_n 2, 1) := by decide +kernel
theorem dX11_days_49 : decode cX11_days 49 = .ok (.aload_n 0, 1) := by decide +kernel
theorem dX11_days_50 : decode cX11_days 50 = .ok (.getfield 19, 3) := by decide +kernel
theorem dX11_days_53 : decode cX11_days 53 = .ok (.getfield 156, 3) := by decide +kernel
theorem dX11_days_56 : decode cX11_days 56 = .ok (.iadd, 1) := by decide +kernel
theorem dX11_days_57 : decode cX11_days 57 = .ok (.istore_n 2, 1) := by decide +kernel
theorem dX11_days_58 : decode cX11_days 58 = .ok (.aload_n 0, 1) := by decide +kernel
theorem dX11_days_59 : decode cX11_days 59 = .ok (.getfield 35, 3) := by decide +kernel
theorem dX11_days_62 : decode cX11_days 62 = .ok (.invokevirtual 159, 3) := by decide +kernel
theorem dX11_days_65 : decode cX11_days 65 = .ok (.iinc 3 1, 3) := by decide +kernel
theorem dX11_days_68 : decode cX11_days 68 = .ok (.goto (-36), 3) := by decide +kernel
theorem dX11_days_71 : decode cX11_days 71 = .ok (.iload_n 2, 1) := by decide +kernel
theorem dX11_days_72 : decode cX11_days 72 = .ok (.ireturn, 1) := by decide +kernel
theorem dX11_end_0 : decode cX11_end 0 = .ok (.iload_n 1, 1) := by decide +kernel
theorem dX11_end_1 : decode cX11_end 1 = .ok (.ifCond .lt 14, 3) := by decide +kernel
theorem dX11_end_4 : decode cX11_end 4 = .ok (.iload_n 1, 1) := by decide +kernel
theorem dX11_end_5 : decode cX11_end 5 = .ok (.aload_n 0, 1) := by decide +kernel
theorem dX11_end_6 : decode cX11_end 6 = .ok (.getfield 42, 3) := by decide +kernel
theorem dX11_end_9 : decode cX11_end 9 = .ok (.getfield 169, 3) := by decide +kernel
theorem dX11_end_12 : decode cX11_end 12 = .ok (.if_icmp .le 5, 3) := by decide +kernel
theorem dX11_end_15 : decode cX11_end 15 = .ok (.iconst 0, 1) := by decide +kernel
theorem dX11_end_16 : decode cX11_end 16 = .ok (.ireturn, 1) := by decide +kernel
theorem dX11_end_17 : decode cX11_end 17 = .ok (.aload_n 0, 1) := by decide +kernel
theorem dX11_end_18 : decode cX11_end 18 = .ok (.getfield 42, 3) := by decide +kernel
theorem dX11_end_21 : decode cX11_end 21 = .ok (.iload_n 1, 1) := by decide +kernel
theorem dX11_end_22 : decode cX11_end 22 = .ok (.putfield 169, 3) := by decide +kernel
theorem dX11_end_25 : decode cX11_end 25 = .ok (.iconst 1, 1) := by decide +kernel
theorem dX11_end_26 : decode cX11_end 26 = .ok (.ireturn, 1) := by decide +kernel
theorem dX11_endOf_0 : decode cX11_endOf 0 = .ok (.iload_n 0, 1) := by decide +kernel
theorem dX11_endOf_1 : decode cX11_endOf 1 = .ok (.ifCond .ne 7, 3) := by decide +kernel
theorem dX11_endOf_4 : decode cX11_endOf 4 = .ok (.iconst 0, 1) := by decide +kernel
theorem dX11_endOf_5 : decode cX11_endOf 5 = .ok (.goto 5, 3) := by decide +kernel
theorem dX11_endOf_8 : decode cX11_endOf 8 = .ok (.bipush 15, 2) := by decide +kernel
theorem dX11_endOf_10 : decode cX11_endOf 10 = .ok (.ireturn, 1) := by decide +kernel
theorem dX11_feed_0 : decode cX11_feed 0 = .ok (.aload_n 0, 1) := by decide +kernel
theorem dX11_feed_1 : decode cX11_feed 1 = .ok (.getfield 42, 3) := by decide +kernel
theorem dX11_feed_4 : decode cX11_feed 4 = .ok (.invokevirtual 162, 3) := by decide +kernel
theorem dX11_feed_7 : decode cX11_feed 7 = .ok (.ifCond .ne 5, 3) := by decide +kernel
theorem dX11_feed_10 : decode cX11_feed 10 = .ok (.iconst (-1), 1) := by decide +kernel
theorem dX11_feed_11 : decode cX11_feed 11 = .ok (.ireturn, 1) := by decide +kernel
theorem dX11_feed_12 : decode cX11_feed 12 = .ok (.aload_n 0, 1) := by decide +kernel
theorem dX11_feed_13 : decode cX11_feed 13 = .ok (.getfield 42, 3) := by decide +kernel
theorem dX11_feed_16 : decode cX11_feed 16 = .ok (.iload_n 1, 1) := by decide +kernel
theorem dX11_feed_17 : decode cX11_feed 17 = .ok (.invokevirtual 166, 3) := by decide +kernel
theorem dX11_feed_20 : decode cX11_feed 20 = .ok (.aload_n 0, 1) := by decide +kernel
theorem dX11_feed_21 : decode cX11_feed 21 = .ok (.getfield 42, 3) := by decide +kernel
theorem dX11_feed_24 : decode cX11_feed 24 = .ok (.iload_n 2, 1) := by decide +kernel
theorem dX11_feed_25 : decode cX11_feed 25 = .ok (.invokevirtual 166, 3) := by decide +kernel
theorem dX11_feed_28 : decode cX11_feed 28 = .ok (.aload_n 0, 1) := by decide +kernel
theorem dX11_feed_29 : decode cX11_feed 29 = .ok (.getfield 42, 3) := by decide +kernel
theorem dX11_feed_32 : decode cX11_feed 32 = .ok (.iload_n 3, 1) := by decide +kernel
theorem dX11_feed_33 : decode cX11_feed 33 = .ok (.invokevirtual 166, 3) := by decide +kernel
theorem dX11_feed_36 : decode cX11_feed 36 = .ok (.aload_n 0, 1) := by decide +kernel
theorem dX11_feed_37 : decode cX11_feed 37 = .ok (.getfield 42, 3) := by decide +kernel
theorem dX11_feed_40 : decode cX11_feed 40 = .ok (.iload 4, 2) := by decide +kernel
theorem dX11_feed_42 : decode cX11_feed 42 = .ok (.invokevirtual 166, 3) := by decide +kernel
theorem dX11_feed_45 : decode cX11_feed 45 = .ok (.aload_n 0, 1) := by decide +kernel
theorem dX11_feed_46 : decode cX11_feed 46 = .ok (.getfield 42, 3) := by decide +kernel
theorem dX11_feed_49 : decode cX11_feed 49 = .ok (.iload 5, 2) := by decide +kernel
theorem dX11_feed_51 : decode cX11_feed 51 = .ok (.invokevirtual 166, 3) := by decide +kernel
theorem dX11_feed_54 : decode cX11_feed 54 = .ok (.aload_n 0, 1) := by decide +kernel
theorem dX11_feed_55 : decode cX11_feed 55 = .ok (.getfield 42, 3) := by decide +kernel
theorem dX11_feed_58 : decode cX11_feed 58 = .ok (.getfield 169, 3) := by decide +kernel
theorem dX11_feed_61 : decode cX11_feed 61 = .ok (.ireturn, 1) := by decide +kernel
theorem dX11_holds_0 : decode cX11_holds 0 = .ok (.iload_n 0, 1) := by decide +kernel
theorem dX11_holds_1 : decode cX11_holds 1 = .ok (.iload_n 1, 1) := by decide +kernel
theorem dX11_holds_2 : decode cX11_holds 2 = .ok (.ishr, 1) := by decide +kernel
theorem dX11_holds_3 : decode cX11_holds 3 = .ok (.iconst 1, 1) := by decide +kernel
theorem dX11_holds_4 : decode cX11_holds 4 = .ok (.iand, 1) := by decide +kernel
theorem dX11_holds_5 : decode cX11_holds 5 = .ok (.iconst 1, 1) := by decide +kernel
theorem dX11_holds_6 : decode cX11_holds 6 = .ok (.if_icmp .ne 7, 3) := by decide +kernel
theorem dX11_holds_9 : decode cX11_holds 9 = .ok (.iconst 1, 1) := by decide +kernel
theorem dX11_holds_10 : decode cX11_holds 10 = .ok (.goto 4, 3) := by decide +kernel
theorem dX11_holds_13 : decode cX11_holds 13 = .ok (.iconst 0, 1) := by decide +kernel
theorem dX11_holds_14 : decode cX11_holds 14 = .ok (.ireturn, 1) := by decide +kernel
theorem dX11_init_0 : decode cX11_init 0 = .ok (.aload_n 0, 1) := by decide +kernel
theorem dX11_init_1 : decode cX11_init 1 = .ok (.invokespecial 1, 3) := by decide +kernel
theorem dX11_init_4 : decode cX11_init 4 = .ok (.aload_n 0, 1) := by decide +kernel
theorem dX11_init_5 : decode cX11_init 5 = .ok (.new 7, 3) := by decide +kernel
theorem dX11_init_8 : decode cX11_init 8 = .ok (.dup, 1) := by decide +kernel
theorem dX11_init_9 : decode cX11_init 9 = .ok (.invokespecial 9, 3) := by decide +kernel
theorem dX11_init_12 : decode cX11_init 12 = .ok (.putfield 10, 3) := by decide +kernel
theorem dX11_init_15 : decode cX11_init 15 = .ok (.aload_n 0, 1) := by decide +kernel
theorem dX11_init_16 : decode cX11_init 16 = .ok (.new 16, 3) := by decide +kernel
theorem dX11_init_19 : decode cX11_init 19 = .ok (.dup, 1) := by decide +kernel
theorem dX11_init_20 : decode cX11_init 20 = .ok (.invokespecial 18, 3) := by decide +kernel
theorem dX11_init_23 : decode cX11_init 23 = .ok (.putfield 19, 3) := by decide +kernel
theorem dX11_init_26 : decode cX11_init 26 = .ok (.aload_n 0, 1) := by decide +kernel
theorem dX11_init_27 : decode cX11_init 27 = .ok (.new 23, 3) := by decide +kernel
theorem dX11_init_30 : decode cX11_init 30 = .ok (.dup, 1) := by decide +kernel
theorem dX11_init_31 : decode cX11_init 31 = .ok (.invokespecial 25, 3) := by decide +kernel
theorem dX11_init_34 : decode cX11_init 34 = .ok (.putfield 26, 3) := by decide +kernel
theorem dX11_init_37 : decode cX11_init 37 = .ok (.aload_n 0, 1) := by decide +kernel
theorem dX11_init_38 : decode cX11_init 38 = .ok (.new 30, 3) := by decide +kernel
theorem dX11_init_41 : decode cX11_init 41 = .ok (.dup, 1) := by decide +kernel
theorem dX11_init_42 : decode cX11_init 42 = .ok (.aload_n 0, 1) := by decide +kernel
theorem dX11_init_43 : decode cX11_init 43 = .ok (.getfield 10, 3) := by decide +kernel
theorem dX11_init_46 : decode cX11_init 46 = .ok (.aload_n 0, 1) := by decide +kernel
theorem dX11_init_47 : decode cX11_init 47 = .ok (.getfield 19, 3) := by decide +kernel
theorem dX11_init_50 : decode cX11_init 50 = .ok (.aload_n 0, 1) := by decide +kernel
theorem dX11_init_51 : decode cX11_init 51 = .ok (.getfield 26, 3) := by decide +kernel
theorem dX11_init_54 : decode cX11_init 54 = .ok (.iconst 1, 1) := by decide +kernel
theorem dX11_init_55 : decode cX11_init 55 = .ok (.invokespecial 32, 3) := by decide +kernel
theorem dX11_init_58 : decode cX11_init 58 = .ok (.putfield 35, 3) := by decide +kernel
theorem dX11_init_61 : decode cX11_init 61 = .ok (.aload_n 0, 1) := by decide +kernel
theorem dX11_init_62 : decode cX11_init 62 = .ok (.new 39, 3) := by decide +kernel
theorem dX11_init_65 : decode cX11_init 65 = .ok (.dup, 1) := by decide +kernel
theorem dX11_init_66 : decode cX11_init 66 = .ok (.invokespecial 41, 3) := by decide +kernel
theorem dX11_init_69 : decode cX11_init 69 = .ok (.putfield 42, 3) := by decide +kernel
theorem dX11_init_72 : decode cX11_init 72 = .ok (.aload_n 0, 1) := by decide +kernel
theorem dX11_init_73 : decode cX11_init 73 = .ok (.new 46, 3) := by decide +kernel
theorem dX11_init_76 : decode cX11_init 76 = .ok (.dup, 1) := by decide +kernel
theorem dX11_init_77 : decode cX11_init 77 = .ok (.invokespecial 48, 3) := by decide +kernel
theorem dX11_init_80 : decode cX11_init 80 = .ok (.putfield 49, 3) := by decide +kernel
theorem dX11_init_83 : decode cX11_init 83 = .ok (.aload_n 0, 1) := by decide +kernel
theorem dX11_init_84 : decode cX11_init 84 = .ok (.new 53, 3) := by decide +kernel
theorem dX11_init_87 : decode cX11_init 87 = .ok (.dup, 1) := by decide +kernel
theorem dX11_init_88 : decode cX11_init 88 = .ok (.aload_n 0, 1) := by decide +kernel
theorem dX11_init_89 : decode cX11_init 89 = .ok (.getfield 10, 3) := by decide +kernel
theorem dX11_init_92 : decode cX11_init 92 = .ok (.aload_n 0, 1) := by decide +kernel
theorem dX11_init_93 : decode cX11_init 93 = .ok (.getfield 19, 3) := by decide +kernel
theorem dX11_init_96 : decode cX11_init 96 = .ok (.aload_n 0, 1) := by decide +kernel
theorem dX11_init_97 : decode cX11_init 97 = .ok (.getfield 26, 3) := by decide +kernel
theorem dX11_init_100 : decode cX11_init 100 = .ok (.invokespecial 55, 3) := by decide +kernel
theorem dX11_init_103 : decode cX11_init 103 = .ok (.putfield 58, 3) := by decide +kernel
theorem dX11_init_106 : decode cX11_init 106 = .ok (.aload_n 0, 1) := by decide +kernel
theorem dX11_init_107 : decode cX11_init 107 = .ok (.new 62, 3) := by decide +kernel
theorem dX11_init_110 : decode cX11_init 110 = .ok (.dup, 1) := by decide +kernel
theorem dX11_init_111 : decode cX11_init 111 = .ok (.aload_n 0, 1) := by decide +kernel
theorem dX11_init_112 : decode cX11_init 112 = .ok (.getfield 10, 3) := by decide +kernel
theorem dX11_init_115 : decode cX11_init 115 = .ok (.aload_n 0, 1) := by decide +kernel
theorem dX11_init_116 : decode cX11_init 116 = .ok (.getfield 19, 3) := by decide +kernel
theorem dX11_init_119 : decode cX11_init 119 = .ok (.aload_n 0, 1) := by decide +kernel
theorem dX11_init_120 : decode cX11_init 120 = .ok (.getfield 35, 3) := by decide +kernel
theorem dX11_init_123 : decode cX11_init 123 = .ok (.invokespecial 64, 3) := by decide +kernel
theorem dX11_init_126 : decode cX11_init 126 = .ok (.putfield 67, 3) := by decide +kernel
theorem dX11_init_129 : decode cX11_init 129 = .ok (.aload_n 0, 1) := by decide +kernel
theorem dX11_init_130 : decode cX11_init 130 = .ok (.new 7, 3) := by decide +kernel
theorem dX11_init_133 : decode cX11_init 133 = .ok (.dup, 1) := by decide +kernel
theorem dX11_init_134 : decode cX11_init 134 = .ok (.invokespecial 9, 3) := by decide +kernel
theorem dX11_init_137 : decode cX11_init 137 = .ok (.putfield 71, 3) := by decide +kernel
theorem dX11_init_140 : decode cX11_init 140 = .ok (.aload_n 0, 1) := by decide +kernel
theorem dX11_init_141 : decode cX11_init 141 = .ok (.new 16, 3) := by decide +kernel
theorem dX11_init_144 : decode cX11_init 144 = .ok (.dup, 1) := by decide +kernel
theorem dX11_init_145 : decode cX11_init 145 = .ok (.invokespecial 18, 3) := by decide +kernel
theorem dX11_init_148 : decode cX11_init 148 = .ok (.putfield 74, 3) := by decide +kernel
theorem dX11_init_151 : decode cX11_init 151 = .ok (.aload_n 0, 1) := by decide +kernel
theorem dX11_init_152 : decode cX11_init 152 = .ok (.new 23, 3) := by decide +kernel
theorem dX11_init_155 : decode cX11_init 155 = .ok (.dup, 1) := by decide +kernel
theorem dX11_init_156 : decode cX11_init 156 = .ok (.invokespecial 25, 3) := by decide +kernel
theorem dX11_init_159 : decode cX11_init 159 = .ok (.putfield 77, 3) := by decide +kernel
theorem dX11_init_162 : decode cX11_init 162 = .ok (.aload_n 0, 1) := by decide +kernel
theorem dX11_init_163 : decode cX11_init 163 = .ok (.iconst 0, 1) := by decide +kernel
theorem dX11_init_164 : decode cX11_init 164 = .ok (.putfield 80, 3) := by decide +kernel
theorem dX11_init_167 : decode cX11_init 167 = .ok (.return_, 1) := by decide +kernel
theorem dX11_isCountry_0 : decode cX11_isCountry 0 = .ok (.iload_n 0, 1) := by decide +kernel
theorem dX11_isCountry_1 : decode cX11_isCountry 1 = .ok (.ifCond .eq 8, 3) := by decide +kernel
theorem dX11_isCountry_4 : decode cX11_isCountry 4 = .ok (.iload_n 0, 1) := by decide +kernel
theorem dX11_isCountry_5 : decode cX11_isCountry 5 = .ok (.iconst 1, 1) := by decide +kernel
theorem dX11_isCountry_6 : decode cX11_isCountry 6 = .ok (.if_icmp .ne 7, 3) := by decide +kernel
theorem dX11_isCountry_9 : decode cX11_isCountry 9 = .ok (.iconst 1, 1) := by decide +kernel
theorem dX11_isCountry_10 : decode cX11_isCountry 10 = .ok (.goto 4, 3) := by decide +kernel
theorem dX11_isCountry_13 : decode cX11_isCountry 13 = .ok (.iconst 0, 1) := by decide +kernel
theorem dX11_isCountry_14 : decode cX11_isCountry 14 = .ok (.ireturn, 1) := by decide +kernel
theorem dX11_isFact_0 : decode cX11_isFact 0 = .ok (.iload_n 0, 1) := by decide +kernel
theorem dX11_isFact_1 : decode cX11_isFact 1 = .ok (.ifCond .lt 13, 3) := by decide +kernel
theorem dX11_isFact_4 : decode cX11_isFact 4 = .ok (.iload_n 0, 1) := by decide +kernel
theorem dX11_isFact_5 : decode cX11_isFact 5 = .ok (.bipush 8, 2) := by decide +kernel
theorem dX11_isFact_7 : decode cX11_isFact 7 = .ok (.if_icmp .ge 7, 3) := by decide +kernel
theorem dX11_isFact_10 : decode cX11_isFact 10 = .ok (.iconst 1, 1) := by decide +kernel
theorem dX11_isFact_11 : decode cX11_isFact 11 = .ok (.goto 4, 3) := by decide +kernel
theorem dX11_isFact_14 : decode cX11_isFact 14 = .ok (.iconst 0, 1) := by decide +kernel
theorem dX11_isFact_15 : decode cX11_isFact 15 = .ok (.ireturn, 1) := by decide +kernel
theorem dX11_look_0 : decode cX11_look 0 = .ok (.iload_n 1, 1) := by decide +kernel
theorem dX11_look_1 : decode cX11_look 1 = .ok (.tableswitch 204 0 14 #[75, 83, 91, 99, 107, 115, 123, 131, 139, 147, 158, 166, 174, 185, 196], 75) := by decide +kernel
theorem dX11_look_76 : decode cX11_look 76 = .ok (.aload_n 0, 1) := by decide +kernel
theorem dX11_look_77 : decode cX11_look 77 = .ok (.getfield 10, 3) := by decide +kernel
theorem dX11_look_80 : decode cX11_look 80 = .ok (.getfield 95, 3) := by decide +kernel
theorem dX11_look_83 : decode cX11_look 83 = .ok (.ireturn, 1) := by decide +kernel
theorem dX11_look_84 : decode cX11_look 84 = .ok (.aload_n 0, 1) := by decide +kernel
theorem dX11_look_85 : decode cX11_look 85 = .ok (.getfield 19, 3) := by decide +kernel
theorem dX11_look_88 : decode cX11_look 88 = .ok (.getfield 153, 3) := by decide +kernel
theorem dX11_look_91 : decode cX11_look 91 = .ok (.ireturn, 1) := by decide +kernel
theorem dX11_look_92 : decode cX11_look 92 = .ok (.aload_n 0, 1) := by decide +kernel
theorem dX11_look_93 : decode cX11_look 93 = .ok (.getfield 19, 3) := by decide +kernel
theorem dX11_look_96 : decode cX11_look 96 = .ok (.getfield 156, 3) := by decide +kernel
theorem dX11_look_99 : decode cX11_look 99 = .ok (.ireturn, 1) := by decide +kernel
theorem dX11_look_100 : decode cX11_look 100 = .ok (.aload_n 0, 1) := by decide +kernel
theorem dX11_look_101 : decode cX11_look 101 = .ok (.getfield 10, 3) := by decide +kernel
theorem dX11_look_104 : decode cX11_look 104 = .ok (.getfield 280, 3) := by decide +kernel
theorem dX11_look_107 : decode cX11_look 107 = .ok (.ireturn, 1) := by decide +kernel
theorem dX11_look_108 : decode cX11_look 108 = .ok (.aload_n 0, 1) := by decide +kernel
theorem dX11_look_109 : decode cX11_look 109 = .ok (.getfield 10, 3) := by decide +kernel
theorem dX11_look_112 : decode cX11_look 112 = .ok (.getfield 283, 3) := by decide +kernel
theorem dX11_look_115 : decode cX11_look 115 = .ok (.ireturn, 1) := by decide +kernel
theorem dX11_look_116 : decode cX11_look 116 = .ok (.aload_n 0, 1) := by decide +kernel
theorem dX11_look_117 : decode cX11_look 117 = .ok (.getfield 10, 3) := by decide +kernel
theorem dX11_look_120 : decode cX11_look 120 = .ok (.getfield 286, 3) := by decide +kernel
theorem dX11_look_123 : decode cX11_look 123 = .ok (.ireturn, 1) := by decide +kernel
theorem dX11_look_124 : decode cX11_look 124 = .ok (.aload_n 0, 1) := by decide +kernel
theorem dX11_look_125 : decode cX11_look 125 = .ok (.getfield 10, 3) := by decide +kernel
theorem dX11_look_128 : decode cX11_look 128 = .ok (.getfield 289, 3) := by decide +kernel
theorem dX11_look_131 : decode cX11_look 131 = .ok (.ireturn, 1) := by decide +kernel
theorem dX11_look_132 : decode cX11_look 132 = .ok (.aload_n 0, 1) := by decide +kernel
theorem dX11_look_133 : decode cX11_look 133 = .ok (.getfield 19, 3) := by decide +kernel
theorem dX11_look_136 : decode cX11_look 136 = .ok (.getfield 210, 3) := by decide +kernel
theorem dX11_look_139 : decode cX11_look 139 = .ok (.ireturn, 1) := by decide +kernel
theorem dX11_look_140 : decode cX11_look 140 = .ok (.aload_n 0, 1) := by decide +kernel
theorem dX11_look_141 : decode cX11_look 141 = .ok (.getfield 19, 3) := by decide +kernel
theorem dX11_look_144 : decode cX11_look 144 = .ok (.getfield 84, 3) := by decide +kernel
theorem dX11_look_147 : decode cX11_look 147 = .ok (.ireturn, 1) := by decide +kernel
theorem dX11_look_148 : decode cX11_look 148 = .ok (.aload_n 0, 1) := by decide +kernel
theorem dX11_look_149 : decode cX11_look 149 = .ok (.getfield 10, 3) := by decide +kernel
theorem dX11_look_152 : decode cX11_look 152 = .ok (.getfield 292, 3) := by decide +kernel
theorem dX11_look_155 : decode cX11_look 155 = .ok (.getfield 296, 3) := by decide +kernel
theorem dX11_look_158 : decode cX11_look 158 = .ok (.ireturn, 1) := by decide +kernel
theorem dX11_look_159 : decode cX11_look 159 = .ok (.aload_n 0, 1) := by decide +kernel
theorem dX11_look_160 : decode cX11_look 160 = .ok (.getfield 10, 3) := by decide +kernel
theorem dX11_look_163 : decode cX11_look 163 = .ok (.getfield 299, 3) := by decide +kernel
theorem dX11_look_166 : decode cX11_look 166 = .ok (.ireturn, 1) := by decide +kernel
theorem dX11_look_167 : decode cX11_look 167 = .ok (.aload_n 0, 1) := by decide +kernel
theorem dX11_look_168 : decode cX11_look 168 = .ok (.getfield 10, 3) := by decide +kernel
theorem dX11_look_171 : decode cX11_look 171 = .ok (.getfield 302, 3) := by decide +kernel
theorem dX11_look_174 : decode cX11_look 174 = .ok (.ireturn, 1) := by decide +kernel
theorem dX11_look_175 : decode cX11_look 175 = .ok (.aload_n 0, 1) := by decide +kernel
theorem dX11_look_176 : decode cX11_look 176 = .ok (.getfield 10, 3) := by decide +kernel
theorem dX11_look_179 : decode cX11_look 179 = .ok (.getfield 201, 3) := by decide +kernel
theorem dX11_look_182 : decode cX11_look 182 = .ok (.getfield 305, 3) := by decide +kernel
theorem dX11_look_185 : decode cX11_look 185 = .ok (.ireturn, 1) := by decide +kernel
theorem dX11_look_186 : decode cX11_look 186 = .ok (.aload_n 0, 1) := by decide +kernel
theorem dX11_look_187 : decode cX11_look 187 = .ok (.getfield 10, 3) := by decide +kernel
theorem dX11_look_190 : decode cX11_look 190 = .ok (.getfield 241, 3) := by decide +kernel
theorem dX11_look_193 : decode cX11_look 193 = .ok (.getfield 306, 3) := by decide +kernel
theorem dX11_look_196 : decode cX11_look 196 = .ok (.ireturn, 1) := by decide +kernel
theorem dX11_look_197 : decode cX11_look 197 = .ok (.aload_n 0, 1) := by decide +kernel
theorem dX11_look_198 : decode cX11_look 198 = .ok (.getfield 49, 3) := by decide +kernel
theorem dX11_look_201 : decode cX11_look 201 = .ok (.getfield 309, 3) := by decide +kernel
theorem dX11_look_204 : decode cX11_look 204 = .ok (.ireturn, 1) := by decide +kernel
theorem dX11_look_205 : decode cX11_look 205 = .ok (.iconst (-1), 1) := by decide +kernel
theorem dX11_look_206 : decode cX11_look 206 = .ok (.ireturn, 1) := by decide +kernel
theorem dX11_man_0 : decode cX11_man 0 = .ok (.iload_n 1, 1) := by decide +kernel
theorem dX11_man_1 : decode cX11_man 1 = .ok (.invokestatic 91, 3) := by decide +kernel
theorem dX11_man_4 : decode cX11_man 4 = .ok (.ifCond .eq 28, 3) := by decide +kernel
theorem dX11_man_7 : decode cX11_man 7 = .ok (.iload_n 2, 1) := by decide +kernel
theorem dX11_man_8 : decode cX11_man 8 = .ok (.ifCond .lt 24, 3) := by decide +kernel
theorem dX11_man_11 : decode cX11_man 11 = .ok (.iload_n 2, 1) := by decide +kernel
theorem dX11_man_12 : decode cX11_man 12 = .ok (.bipush 120, 2) := by decide +kernel
theorem dX11_man_14 : decode cX11_man 14 = .ok (.if_icmp .gt 18, 3) := by decide +kernel
theorem dX11_man_17 : decode cX11_man 17 = .ok (.iload_n 3, 1) := by decide +kernel
theorem dX11_man_18 : decode cX11_man 18 = .ok (.iconst 1, 1) := by decide +kernel
theorem dX11_man_19 : decode cX11_man 19 = .ok (.if_icmp .lt 13, 3) := by decide +kernel
theorem dX11_man_22 : decode cX11_man 22 = .ok (.iload_n 3, 1) := by decide +kernel
theorem dX11_man_23 : decode cX11_man 23 = .ok (.bipush 9, 2) := by decide +kernel
theorem dX11_man_25 : decode cX11_man 25 = .ok (.if_icmp .gt 7, 3) := by decide +kernel
theorem dX11_man_28 : decode cX11_man 28 = .ok (.iconst 1, 1) := by decide +kernel
theorem dX11_man_29 : decode cX11_man 29 = .ok (.goto 4, 3) := by decide +kernel
theorem dX11_man_32 : decode cX11_man 32 = .ok (.iconst 0, 1) := by decide +kernel
theorem dX11_man_33 : decode cX11_man 33 = .ok (.istore 4, 2) := by decide +kernel
theorem dX11_man_35 : decode cX11_man 35 = .ok (.aload_n 0, 1) := by decide +kernel
theorem dX11_man_36 : decode cX11_man 36 = .ok (.getfield 10, 3) := by decide +kernel
theorem dX11_man_39 : decode cX11_man 39 = .ok (.getfield 95, 3) := by decide +kernel
theorem dX11_man_42 : decode cX11_man 42 = .ok (.istore 5, 2) := by decide +kernel
theorem dX11_man_44 : decode cX11_man 44 = .ok (.iload 4, 2) := by decide +kernel
theorem dX11_man_46 : decode cX11_man 46 = .ok (.ifCond .eq 15, 3) := by decide +kernel
theorem dX11_man_49 : decode cX11_man 49 = .ok (.iload 5, 2) := by decide +kernel
theorem dX11_man_51 : decode cX11_man 51 = .ok (.ifCond .lt 10, 3) := by decide +kernel
theorem dX11_man_54 : decode cX11_man 54 = .ok (.iload 5, 2) := by decide +kernel
theorem dX11_man_56 : decode cX11_man 56 = .ok (.bipush 12, 2) := by decide +kernel
theorem dX11_man_58 : decode cX11_man 58 = .ok (.if_icmp .lt 5, 3) := by decide +kernel
theorem dX11_man_61 : decode cX11_man 61 = .ok (.iconst (-1), 1) := by decide +kernel
theorem dX11_man_62 : decode cX11_man 62 = .ok (.ireturn, 1) := by decide +kernel
theorem dX11_man_63 : decode cX11_man 63 = .ok (.aload_n 0, 1) := by decide +kernel
theorem dX11_man_64 : decode cX11_man 64 = .ok (.getfield 10, 3) := by decide +kernel
theorem dX11_man_67 : decode cX11_man 67 = .ok (.getfield 98, 3) := by decide +kernel
theorem dX11_man_70 : decode cX11_man 70 = .ok (.iload 5, 2) := by decide +kernel
theorem dX11_man_72 : decode cX11_man 72 = .ok (.iload_n 1, 1) := by decide +kernel
theorem dX11_man_73 : decode cX11_man 73 = .ok (.iastore, 1) := by decide +kernel
theorem dX11_man_74 : decode cX11_man 74 = .ok (.aload_n 0, 1) := by decide +kernel
theorem dX11_man_75 : decode cX11_man 75 = .ok (.getfield 10, 3) := by decide +kernel
theorem dX11_man_78 : decode cX11_man 78 = .ok (.getfield 102, 3) := by decide +kernel
theorem dX11_man_81 : decode cX11_man 81 = .ok (.iload 5, 2) := by decide +kernel
theorem dX11_man_83 : decode cX11_man 83 = .ok (.iload_n 2, 1) := by decide +kernel
theorem dX11_man_84 : decode cX11_man 84 = .ok (.iastore, 1) := by decide +kernel
theorem dX11_man_85 : decode cX11_man 85 = .ok (.aload_n 0, 1) := by decide +kernel
theorem dX11_man_86 : decode cX11_man 86 = .ok (.getfield 10, 3) := by decide +kernel
theorem dX11_man_89 : decode cX11_man 89 = .ok (.getfield 105, 3) := by decide +kernel
theorem dX11_man_92 : decode cX11_man 92 = .ok (.iload 5, 2) := by decide +kernel
theorem dX11_man_94 : decode cX11_man 94 = .ok (.iload_n 3, 1) := by decide +kernel
theorem dX11_man_95 : decode cX11_man 95 = .ok (.iastore, 1) := by decide +kernel
theorem dX11_man_96 : decode cX11_man 96 = .ok (.aload_n 0, 1) := by decide +kernel
theorem dX11_man_97 : decode cX11_man 97 = .ok (.getfield 10, 3) := by decide +kernel
theorem dX11_man_100 : decode cX11_man 100 = .ok (.getfield 108, 3) := by decide +kernel
theorem dX11_man_103 : decode cX11_man 103 = .ok (.iload 5, 2) := by decide +kernel
theorem dX11_man_105 : decode cX11_man 105 = .ok (.iconst 0, 1) := by decide +kernel
theorem dX11_man_106 : decode cX11_man 106 = .ok (.iastore, 1) := by decide +kernel
theorem dX11_man_107 : decode cX11_man 107 = .ok (.aload_n 0, 1) := by decide +kernel
theorem dX11_man_108 : decode cX11_man 108 = .ok (.getfield 19, 3) := by decide +kernel
theorem dX11_man_111 : decode cX11_man 111 = .ok (.iload 5, 2) := by decide +kernel
theorem dX11_man_113 : decode cX11_man 113 = .ok (.invokevirtual 111, 3) := by decide +kernel
theorem dX11_man_116 : decode cX11_man 116 = .ok (.aload_n 0, 1) := by decide +kernel
theorem dX11_man_117 : decode cX11_man 117 = .ok (.getfield 10, 3) := by decide +kernel
theorem dX11_man_120 : decode cX11_man 120 = .ok (.iload 5, 2) := by decide +kernel
theorem dX11_man_122 : decode cX11_man 122 = .ok (.iconst 1, 1) := by decide +kernel
theorem dX11_man_123 : decode cX11_man 123 = .ok (.iadd, 1) := by decide +kernel
theorem dX11_man_124 : decode cX11_man 124 = .ok (.putfield 95, 3) := by decide +kernel
theorem dX11_man_127 : decode cX11_man 127 = .ok (.aload_n 0, 1) := by decide +kernel
theorem dX11_man_128 : decode cX11_man 128 = .ok (.getfield 49, 3) := by decide +kernel
theorem dX11_man_131 : decode cX11_man 131 = .ok (.invokevirtual 88, 3) := by decide +kernel
theorem dX11_man_134 : decode cX11_man 134 = .ok (.iload 5, 2) := by decide +kernel
theorem dX11_man_136 : decode cX11_man 136 = .ok (.ireturn, 1) := by decide +kernel
theorem dX11_of_0 : decode cX11_of 0 = .ok (.aload_n 0, 1) := by decide +kernel
theorem dX11_of_1 : decode cX11_of 1 = .ok (.getfield 10, 3) := by decide +kernel
theorem dX11_of_4 : decode cX11_of 4 = .ok (.iload_n 1, 1) := by decide +kernel
theorem dX11_of_5 : decode cX11_of 5 = .ok (.invokevirtual 119, 3) := by decide +kernel
theorem dX11_of_8 : decode cX11_of 8 = .ok (.ifCond .ne 6, 3) := by decide +kernel
theorem dX11_of_11 : decode cX11_of 11 = .ok (.bipush (-2), 2) := by decide +kernel
theorem dX11_of_13 : decode cX11_of 13 = .ok (.ireturn, 1) := by decide +kernel
theorem dX11_of_14 : decode cX11_of 14 = .ok (.iload_n 2, 1) := by decide +kernel
theorem dX11_of_15 : decode cX11_of 15 = .ok (.tableswitch 216 0 13 #[69, 79, 89, 99, 109, 119, 129, 139, 166, 216, 176, 186, 196, 206], 69) := by decide +kernel
theorem dX11_of_84 : decode cX11_of 84 = .ok (.aload_n 0, 1) := by decide +kernel
theorem dX11_of_85 : decode cX11_of 85 = .ok (.getfield 10, 3) := by decide +kernel
theorem dX11_of_88 : decode cX11_of 88 = .ok (.getfield 98, 3) := by decide +kernel
theorem dX11_of_91 : decode cX11_of 91 = .ok (.iload_n 1, 1) := by decide +kernel
theorem dX11_of_92 : decode cX11_of 92 = .ok (.iaload, 1) := by decide +kernel
theorem dX11_of_93 : decode cX11_of 93 = .ok (.ireturn, 1) := by decide +kernel
theorem dX11_of_94 : decode cX11_of 94 = .ok (.aload_n 0, 1) := by decide +kernel
theorem dX11_of_95 : decode cX11_of 95 = .ok (.getfield 10, 3) := by decide +kernel
theorem dX11_of_98 : decode cX11_of 98 = .ok (.getfield 102, 3) := by decide +kernel
theorem dX11_of_101 : decode cX11_of 101 = .ok (.iload_n 1, 1) := by decide +kernel
theorem dX11_of_102 : decode cX11_of 102 = .ok (.iaload, 1) := by decide +kernel
theorem dX11_of_103 : decode cX11_of 103 = .ok (.ireturn, 1) := by decide +kernel
theorem dX11_of_104 : decode cX11_of 104 = .ok (.aload_n 0, 1) := by decide +kernel
theorem dX11_of_105 : decode cX11_of 105 = .ok (.getfield 10, 3) := by decide +kernel
theorem dX11_of_108 : decode cX11_of 108 = .ok (.getfield 105, 3) := by decide +kernel
theorem dX11_of_111 : decode cX11_of 111 = .ok (.iload_n 1, 1) := by decide +kernel
theorem dX11_of_112 : decode cX11_of 112 = .ok (.iaload, 1) := by decide +kernel
theorem dX11_of_113 : decode cX11_of 113 = .ok (.ireturn, 1) := by decide +kernel
theorem dX11_of_114 : decode cX11_of 114 = .ok (.aload_n 0, 1) := by decide +kernel
theorem dX11_of_115 : decode cX11_of 115 = .ok (.getfield 19, 3) := by decide +kernel
theorem dX11_of_118 : decode cX11_of 118 = .ok (.getfield 122, 3) := by decide +kernel
theorem dX11_of_121 : decode cX11_of 121 = .ok (.iload_n 1, 1) := by decide +kernel
theorem dX11_of_122 : decode cX11_of 122 = .ok (.iaload, 1) := by decide +kernel
theorem dX11_of_123 : decode cX11_of 123 = .ok (.ireturn, 1) := by decide +kernel
theorem dX11_of_124 : decode cX11_of 124 = .ok (.aload_n 0, 1) := by decide +kernel
theorem dX11_of_125 : decode cX11_of 125 = .ok (.getfield 19, 3) := by decide +kernel
theorem dX11_of_128 : decode cX11_of 128 = .ok (.getfield 139, 3) := by decide +kernel
theorem dX11_of_131 : decode cX11_of 131 = .ok (.iload_n 1, 1) := by decide +kernel
theorem dX11_of_132 : decode cX11_of 132 = .ok (.iaload, 1) := by decide +kernel
theorem dX11_of_133 : decode cX11_of 133 = .ok (.ireturn, 1) := by decide +kernel
theorem dX11_of_134 : decode cX11_of 134 = .ok (.aload_n 0, 1) := by decide +kernel
theorem dX11_of_135 : decode cX11_of 135 = .ok (.getfield 19, 3) := by decide +kernel
theorem dX11_of_138 : decode cX11_of 138 = .ok (.getfield 125, 3) := by decide +kernel
theorem dX11_of_141 : decode cX11_of 141 = .ok (.iload_n 1, 1) := by decide +kernel
theorem dX11_of_142 : decode cX11_of 142 = .ok (.iaload, 1) := by decide +kernel
theorem dX11_of_143 : decode cX11_of 143 = .ok (.ireturn, 1) := by decide +kernel
theorem dX11_of_144 : decode cX11_of 144 = .ok (.aload_n 0, 1) := by decide +kernel
theorem dX11_of_145 : decode cX11_of 145 = .ok (.getfield 19, 3) := by decide +kernel
theorem dX11_of_148 : decode cX11_of 148 = .ok (.getfield 141, 3) := by decide +kernel
theorem dX11_of_151 : decode cX11_of 151 = .ok (.iload_n 1, 1) := by decide +kernel
theorem dX11_of_152 : decode cX11_of 152 = .ok (.iaload, 1) := by decide +kernel
theorem dX11_of_153 : decode cX11_of 153 = .ok (.ireturn, 1) := by decide +kernel
theorem dX11_of_154 : decode cX11_of 154 = .ok (.aload_n 0, 1) := by decide +kernel
theorem dX11_of_155 : decode cX11_of 155 = .ok (.getfield 19, 3) := by decide +kernel
theorem dX11_of_158 : decode cX11_of 158 = .ok (.getfield 141, 3) := by decide +kernel
theorem dX11_of_161 : decode cX11_of 161 = .ok (.iload_n 1, 1) := by decide +kernel
theorem dX11_of_162 : decode cX11_of 162 = .ok (.iaload, 1) := by decide +kernel
theorem dX11_of_163 : decode cX11_of 163 = .ok (.iconst 1, 1) := by decide +kernel
theorem dX11_of_164 : decode cX11_of 164 = .ok (.if_icmp .ne 15, 3) := by decide +kernel
theorem dX11_of_167 : decode cX11_of 167 = .ok (.aload_n 0, 1) := by decide +kernel
theorem dX11_of_168 : decode cX11_of 168 = .ok (.getfield 19, 3) := by decide +kernel
theorem dX11_of_171 : decode cX11_of 171 = .ok (.getfield 144, 3) := by decide +kernel
theorem dX11_of_174 : decode cX11_of 174 = .ok (.iload_n 1, 1) := by decide +kernel
theorem dX11_of_175 : decode cX11_of 175 = .ok (.iaload, 1) := by decide +kernel
theorem dX11_of_176 : decode cX11_of 176 = .ok (.goto 4, 3) := by decide +kernel
theorem dX11_of_179 : decode cX11_of 179 = .ok (.iconst (-1), 1) := by decide +kernel
theorem dX11_of_180 : decode cX11_of 180 = .ok (.ireturn, 1) := by decide +kernel
theorem dX11_of_181 : decode cX11_of 181 = .ok (.aload_n 0, 1) := by decide +kernel
theorem dX11_of_182 : decode cX11_of 182 = .ok (.getfield 10, 3) := by decide +kernel
theorem dX11_of_185 : decode cX11_of 185 = .ok (.getfield 108, 3) := by decide +kernel
theorem dX11_of_188 : decode cX11_of 188 = .ok (.iload_n 1, 1) := by decide +kernel
theorem dX11_of_189 : decode cX11_of 189 = .ok (.iaload, 1) := by decide +kernel
theorem dX11_of_190 : decode cX11_of 190 = .ok (.ireturn, 1) := by decide +kernel
theorem dX11_of_191 : decode cX11_of 191 = .ok (.aload_n 0, 1) := by decide +kernel
theorem dX11_of_192 : decode cX11_of 192 = .ok (.getfield 35, 3) := by decide +kernel
theorem dX11_of_195 : decode cX11_of 195 = .ok (.iload_n 1, 1) := by decide +kernel
theorem dX11_of_196 : decode cX11_of 196 = .ok (.iconst 0, 1) := by decide +kernel
theorem dX11_of_197 : decode cX11_of 197 = .ok (.invokevirtual 182, 3) := by decide +kernel
theorem dX11_of_200 : decode cX11_of 200 = .ok (.ireturn, 1) := by decide +kernel
theorem dX11_of_201 : decode cX11_of 201 = .ok (.aload_n 0, 1) := by decide +kernel
theorem dX11_of_202 : decode cX11_of 202 = .ok (.getfield 35, 3) := by decide +kernel
theorem dX11_of_205 : decode cX11_of 205 = .ok (.iload_n 1, 1) := by decide +kernel
theorem dX11_of_206 : decode cX11_of 206 = .ok (.iconst 1, 1) := by decide +kernel
theorem dX11_of_207 : decode cX11_of 207 = .ok (.invokevirtual 182, 3) := by decide +kernel
theorem dX11_of_210 : decode cX11_of 210 = .ok (.ireturn, 1) := by decide +kernel
theorem dX11_of_211 : decode cX11_of 211 = .ok (.aload_n 0, 1) := by decide +kernel
theorem dX11_of_212 : decode cX11_of 212 = .ok (.getfield 35, 3) := by decide +kernel
theorem dX11_of_215 : decode cX11_of 215 = .ok (.iload_n 1, 1) := by decide +kernel
theorem dX11_of_216 : decode cX11_of 216 = .ok (.iconst 2, 1) := by decide +kernel
theorem dX11_of_217 : decode cX11_of 217 = .ok (.invokevirtual 182, 3) := by decide +kernel
theorem dX11_of_220 : decode cX11_of 220 = .ok (.ireturn, 1) := by decide +kernel
theorem dX11_of_221 : decode cX11_of 221 = .ok (.aload_n 0, 1) := by decide +kernel
theorem dX11_of_222 : decode cX11_of 222 = .ok (.getfield 35, 3) := by decide +kernel
theorem dX11_of_225 : decode cX11_of 225 = .ok (.iload_n 1, 1) := by decide +kernel
theorem dX11_of_226 : decode cX11_of 226 = .ok (.iconst 3, 1) := by decide +kernel
theorem dX11_of_227 : decode cX11_of 227 = .ok (.invokevirtual 182, 3) := by decide +kernel
theorem dX11_of_230 : decode cX11_of 230 = .ok (.ireturn, 1) := by decide +kernel
theorem dX11_of_231 : decode cX11_of 231 = .ok (.bipush (-2), 2) := by decide +kernel
theorem dX11_of_233 : decode cX11_of 233 = .ok (.ireturn, 1) := by decide +kernel
theorem dX11_send_0 : decode cX11_send 0 = .ok (.aload_n 0, 1) := by decide +kernel
theorem dX11_send_1 : decode cX11_send 1 = .ok (.getfield 10, 3) := by decide +kernel
theorem dX11_send_4 : decode cX11_send 4 = .ok (.iload_n 1, 1) := by decide +kernel
theorem dX11_send_5 : decode cX11_send 5 = .ok (.invokevirtual 119, 3) := by decide +kernel
theorem dX11_send_8 : decode cX11_send 8 = .ok (.ifCond .eq 14, 3) := by decide +kernel
theorem dX11_send_11 : decode cX11_send 11 = .ok (.aload_n 0, 1) := by decide +kernel
theorem dX11_send_12 : decode cX11_send 12 = .ok (.getfield 10, 3) := by decide +kernel
theorem dX11_send_15 : decode cX11_send 15 = .ok (.iload_n 2, 1) := by decide +kernel
theorem dX11_send_16 : decode cX11_send 16 = .ok (.invokevirtual 119, 3) := by decide +kernel
theorem dX11_send_19 : decode cX11_send 19 = .ok (.ifCond .ne 5, 3) := by decide +kernel
theorem dX11_send_22 : decode cX11_send 22 = .ok (.iconst 0, 1) := by decide +kernel
theorem dX11_send_23 : decode cX11_send 23 = .ok (.ireturn, 1) := by decide +kernel
theorem dX11_send_24 : decode cX11_send 24 = .ok (.aload_n 0, 1) := by decide +kernel
theorem dX11_send_25 : decode cX11_send 25 = .ok (.getfield 19, 3) := by decide +kernel
theorem dX11_send_28 : decode cX11_send 28 = .ok (.getfield 141, 3) := by decide +kernel
theorem dX11_send_31 : decode cX11_send 31 = .ok (.iload_n 1, 1) := by decide +kernel
theorem dX11_send_32 : decode cX11_send 32 = .ok (.iaload, 1) := by decide +kernel
theorem dX11_send_33 : decode cX11_send 33 = .ok (.ifCond .ne 20, 3) := by decide +kernel
theorem dX11_send_36 : decode cX11_send 36 = .ok (.aload_n 0, 1) := by decide +kernel
theorem dX11_send_37 : decode cX11_send 37 = .ok (.getfield 19, 3) := by decide +kernel
theorem dX11_send_40 : decode cX11_send 40 = .ok (.getfield 141, 3) := by decide +kernel
theorem dX11_send_43 : decode cX11_send 43 = .ok (.iload_n 2, 1) := by decide +kernel
theorem dX11_send_44 : decode cX11_send 44 = .ok (.iaload, 1) := by decide +kernel
theorem dX11_send_45 : decode cX11_send 45 = .ok (.iconst 1, 1) := by decide +kernel
theorem dX11_send_46 : decode cX11_send 46 = .ok (.if_icmp .ne 7, 3) := by decide +kernel
theorem dX11_send_49 : decode cX11_send 49 = .ok (.iconst 1, 1) := by decide +kernel
theorem dX11_send_50 : decode cX11_send 50 = .ok (.goto 4, 3) := by decide +kernel
theorem dX11_send_53 : decode cX11_send 53 = .ok (.iconst 0, 1) := by decide +kernel
theorem dX11_send_54 : decode cX11_send 54 = .ok (.istore 4, 2) := by decide +kernel
theorem dX11_send_56 : decode cX11_send 56 = .ok (.aload_n 0, 1) := by decide +kernel
theorem dX11_send_57 : decode cX11_send 57 = .ok (.getfield 10, 3) := by decide +kernel
theorem dX11_send_60 : decode cX11_send 60 = .ok (.getfield 98, 3) := by decide +kernel
theorem dX11_send_63 : decode cX11_send 63 = .ok (.iload_n 1, 1) := by decide +kernel
theorem dX11_send_64 : decode cX11_send 64 = .ok (.iaload, 1) := by decide +kernel
theorem dX11_send_65 : decode cX11_send 65 = .ok (.aload_n 0, 1) := by decide +kernel
theorem dX11_send_66 : decode cX11_send 66 = .ok (.getfield 10, 3) := by decide +kernel
theorem dX11_send_69 : decode cX11_send 69 = .ok (.getfield 98, 3) := by decide +kernel
theorem dX11_send_72 : decode cX11_send 72 = .ok (.iload_n 2, 1) := by decide +kernel
theorem dX11_send_73 : decode cX11_send 73 = .ok (.iaload, 1) := by decide +kernel
theorem dX11_send_74 : decode cX11_send 74 = .ok (.if_icmp .ne 28, 3) := by decide +kernel
theorem dX11_send_77 : decode cX11_send 77 = .ok (.aload_n 0, 1) := by decide +kernel
theorem dX11_send_78 : decode cX11_send 78 = .ok (.getfield 10, 3) := by decide +kernel
theorem dX11_send_81 : decode cX11_send 81 = .ok (.getfield 102, 3) := by decide +kernel
theorem dX11_send_84 : decode cX11_send 84 = .ok (.iload_n 1, 1) := by decide +kernel
theorem dX11_send_85 : decode cX11_send 85 = .ok (.iaload, 1) := by decide +kernel
theorem dX11_send_86 : decode cX11_send 86 = .ok (.aload_n 0, 1) := by decide +kernel
theorem dX11_send_87 : decode cX11_send 87 = .ok (.getfield 10, 3) := by decide +kernel
theorem dX11_send_90 : decode cX11_send 90 = .ok (.getfield 102, 3) := by decide +kernel
theorem dX11_send_93 : decode cX11_send 93 = .ok (.iload_n 2, 1) := by decide +kernel
theorem dX11_send_94 : decode cX11_send 94 = .ok (.iaload, 1) := by decide +kernel
theorem dX11_send_95 : decode cX11_send 95 = .ok (.if_icmp .le 7, 3) := by decide +kernel
theorem dX11_send_98 : decode cX11_send 98 = .ok (.iconst 1, 1) := by decide +kernel
theorem dX11_send_99 : decode cX11_send 99 = .ok (.goto 4, 3) := by decide +kernel
theorem dX11_send_102 : decode cX11_send 102 = .ok (.iconst 0, 1) := by decide +kernel
theorem dX11_send_103 : decode cX11_send 103 = .ok (.istore 5, 2) := by decide +kernel
theorem dX11_send_105 : decode cX11_send 105 = .ok (.iload 4, 2) := by decide +kernel
theorem dX11_send_107 : decode cX11_send 107 = .ok (.ifCond .eq 25, 3) := by decide +kernel
theorem dX11_send_110 : decode cX11_send 110 = .ok (.iload 5, 2) := by decide +kernel
theorem dX11_send_112 : decode cX11_send 112 = .ok (.ifCond .eq 20, 3) := by decide +kernel
theorem dX11_send_115 : decode cX11_send 115 = .ok (.iload_n 3, 1) := by decide +kernel
theorem dX11_send_116 : decode cX11_send 116 = .ok (.ifCond .lt 16, 3) := by decide +kernel
theorem dX11_send_119 : decode cX11_send 119 = .ok (.iload_n 3, 1) := by decide +kernel
theorem dX11_send_120 : decode cX11_send 120 = .ok (.aload_n 0, 1) := by decide +kernel
theorem dX11_send_121 : decode cX11_send 121 = .ok (.getfield 19, 3) := by decide +kernel
theorem dX11_send_124 : decode cX11_send 124 = .ok (.getfield 125, 3) := by decide +kernel
theorem dX11_send_127 : decode cX11_send 127 = .ok (.iload_n 2, 1) := by decide +kernel
theorem dX11_send_128 : decode cX11_send 128 = .ok (.iaload, 1) := by decide +kernel
theorem dX11_send_129 : decode cX11_send 129 = .ok (.if_icmp .le 5, 3) := by decide +kernel
theorem dX11_send_132 : decode cX11_send 132 = .ok (.iconst 0, 1) := by decide +kernel
theorem dX11_send_133 : decode cX11_send 133 = .ok (.ireturn, 1) := by decide +kernel
theorem dX11_send_134 : decode cX11_send 134 = .ok (.aload_n 0, 1) := by decide +kernel
theorem dX11_send_135 : decode cX11_send 135 = .ok (.getfield 49, 3) := by decide +kernel
theorem dX11_send_138 : decode cX11_send 138 = .ok (.aload_n 0, 1) := by decide +kernel
theorem dX11_send_139 : decode cX11_send 139 = .ok (.getfield 19, 3) := by decide +kernel
theorem dX11_send_142 : decode cX11_send 142 = .ok (.invokevirtual 135, 3) := by decide +kernel
theorem dX11_send_145 : decode cX11_send 145 = .ok (.aload_n 0, 1) := by decide +kernel
theorem dX11_send_146 : decode cX11_send 146 = .ok (.getfield 19, 3) := by decide +kernel
theorem dX11_send_149 : decode cX11_send 149 = .ok (.getfield 141, 3) := by decide +kernel
theorem dX11_send_152 : decode cX11_send 152 = .ok (.iload_n 1, 1) := by decide +kernel
theorem dX11_send_153 : decode cX11_send 153 = .ok (.iconst 1, 1) := by decide +kernel
theorem dX11_send_154 : decode cX11_send 154 = .ok (.iastore, 1) := by decide +kernel
theorem dX11_send_155 : decode cX11_send 155 = .ok (.aload_n 0, 1) := by decide +kernel
theorem dX11_send_156 : decode cX11_send 156 = .ok (.getfield 19, 3) := by decide +kernel
theorem dX11_send_159 : decode cX11_send 159 = .ok (.getfield 144, 3) := by decide +kernel
theorem dX11_send_162 : decode cX11_send 162 = .ok (.iload_n 1, 1) := by decide +kernel
theorem dX11_send_163 : decode cX11_send 163 = .ok (.aload_n 0, 1) := by decide +kernel
theorem dX11_send_164 : decode cX11_send 164 = .ok (.getfield 19, 3) := by decide +kernel
theorem dX11_send_167 : decode cX11_send 167 = .ok (.getfield 144, 3) := by decide +kernel
theorem dX11_send_170 : decode cX11_send 170 = .ok (.iload_n 2, 1) := by decide +kernel
theorem dX11_send_171 : decode cX11_send 171 = .ok (.iaload, 1) := by decide +kernel
theorem dX11_send_172 : decode cX11_send 172 = .ok (.iastore, 1) := by decide +kernel
theorem dX11_send_173 : decode cX11_send 173 = .ok (.aload_n 0, 1) := by decide +kernel
theorem dX11_send_174 : decode cX11_send 174 = .ok (.getfield 19, 3) := by decide +kernel
theorem dX11_send_177 : decode cX11_send 177 = .ok (.getfield 141, 3) := by decide +kernel
theorem dX11_send_180 : decode cX11_send 180 = .ok (.iload_n 2, 1) := by decide +kernel
theorem dX11_send_181 : decode cX11_send 181 = .ok (.iconst 0, 1) := by decide +kernel
theorem dX11_send_182 : decode cX11_send 182 = .ok (.iastore, 1) := by decide +kernel
theorem dX11_send_183 : decode cX11_send 183 = .ok (.aload_n 0, 1) := by decide +kernel
theorem dX11_send_184 : decode cX11_send 184 = .ok (.getfield 19, 3) := by decide +kernel
theorem dX11_send_187 : decode cX11_send 187 = .ok (.getfield 125, 3) := by decide +kernel
theorem dX11_send_190 : decode cX11_send 190 = .ok (.iload_n 2, 1) := by decide +kernel
theorem dX11_send_191 : decode cX11_send 191 = .ok (.dup2, 1) := by decide +kernel
theorem dX11_send_192 : decode cX11_send 192 = .ok (.iaload, 1) := by decide +kernel
theorem dX11_send_193 : decode cX11_send 193 = .ok (.iload_n 3, 1) := by decide +kernel
theorem dX11_send_194 : decode cX11_send 194 = .ok (.isub, 1) := by decide +kernel
theorem dX11_send_195 : decode cX11_send 195 = .ok (.iastore, 1) := by decide +kernel
theorem dX11_send_196 : decode cX11_send 196 = .ok (.aload_n 0, 1) := by decide +kernel
theorem dX11_send_197 : decode cX11_send 197 = .ok (.getfield 19, 3) := by decide +kernel
theorem dX11_send_200 : decode cX11_send 200 = .ok (.getfield 125, 3) := by decide +kernel
theorem dX11_send_203 : decode cX11_send 203 = .ok (.iload_n 1, 1) := by decide +kernel
theorem dX11_send_204 : decode cX11_send 204 = .ok (.sipush 999, 3) := by decide +kernel
theorem dX11_send_207 : decode cX11_send 207 = .ok (.aload_n 0, 1) := by decide +kernel
theorem dX11_send_208 : decode cX11_send 208 = .ok (.getfield 19, 3) := by decide +kernel
theorem dX11_send_211 : decode cX11_send 211 = .ok (.getfield 125, 3) := by decide +kernel
theorem dX11_send_214 : decode cX11_send 214 = .ok (.iload_n 1, 1) := by decide +kernel
theorem dX11_send_215 : decode cX11_send 215 = .ok (.iaload, 1) := by decide +kernel
theorem dX11_send_216 : decode cX11_send 216 = .ok (.iload_n 3, 1) := by decide +kernel
theorem dX11_send_217 : decode cX11_send 217 = .ok (.iadd, 1) := by decide +kernel
theorem dX11_send_218 : decode cX11_send 218 = .ok (.invokestatic 147, 3) := by decide +kernel
theorem dX11_send_221 : decode cX11_send 221 = .ok (.iastore, 1) := by decide +kernel
theorem dX11_send_222 : decode cX11_send 222 = .ok (.iconst 1, 1) := by decide +kernel
theorem dX11_send_223 : decode cX11_send 223 = .ok (.ireturn, 1) := by decide +kernel
theorem dX11_set_0 : decode cX11_set 0 = .ok (.iconst 0, 1) := by decide +kernel
theorem dX11_set_1 : decode cX11_set 1 = .ok (.istore 4, 2) := by decide +kernel
theorem dX11_set_3 : decode cX11_set 3 = .ok (.iload_n 1, 1) := by decide +kernel
theorem dX11_set_4 : decode cX11_set 4 = .ok (.ifCond .lt 23, 3) := by decide +kernel
theorem dX11_set_7 : decode cX11_set 7 = .ok (.iload_n 1, 1) := by decide +kernel
theorem dX11_set_8 : decode cX11_set 8 = .ok (.iconst 4, 1) := by decide +kernel
theorem dX11_set_9 : decode cX11_set 9 = .ok (.if_icmp .gt 18, 3) := by decide +kernel
theorem dX11_set_12 : decode cX11_set 12 = .ok (.aload_n 0, 1) := by decide +kernel
theorem dX11_set_13 : decode cX11_set 13 = .ok (.getfield 10, 3) := by decide +kernel
theorem dX11_set_16 : decode cX11_set 16 = .ok (.iload_n 1, 1) := by decide +kernel
theorem dX11_set_17 : decode cX11_set 17 = .ok (.iload_n 2, 1) := by decide +kernel
theorem dX11_set_18 : decode cX11_set 18 = .ok (.iload_n 3, 1) := by decide +kernel
theorem dX11_set_19 : decode cX11_set 19 = .ok (.invokevirtual 115, 3) := by decide +kernel
theorem dX11_set_22 : decode cX11_set 22 = .ok (.istore 4, 2) := by decide +kernel
theorem dX11_set_24 : decode cX11_set 24 = .ok (.goto 86, 3) := by decide +kernel
theorem dX11_set_27 : decode cX11_set 27 = .ok (.iload_n 1, 1) := by decide +kernel
theorem dX11_set_28 : decode cX11_set 28 = .ok (.iconst 5, 1) := by decide +kernel
theorem dX11_set_29 : decode cX11_set 29 = .ok (.if_icmp .ne 40, 3) := by decide +kernel
theorem dX11_set_32 : decode cX11_set 32 = .ok (.aload_n 0, 1) := by decide +kernel
theorem dX11_set_33 : decode cX11_set 33 = .ok (.getfield 10, 3) := by decide +kernel
theorem dX11_set_36 : decode cX11_set 36 = .ok (.iload_n 2, 1) := by decide +kernel
theorem dX11_set_37 : decode cX11_set 37 = .ok (.invokevirtual 119, 3) := by decide +kernel
theorem dX11_set_40 : decode cX11_set 40 = .ok (.ifCond .eq 29, 3) := by decide +kernel
theorem dX11_set_43 : decode cX11_set 43 = .ok (.iload_n 3, 1) := by decide +kernel
theorem dX11_set_44 : decode cX11_set 44 = .ok (.ifCond .lt 25, 3) := by decide +kernel
theorem dX11_set_47 : decode cX11_set 47 = .ok (.iload_n 3, 1) := by decide +kernel
theorem dX11_set_48 : decode cX11_set 48 = .ok (.bipush 99, 2) := by decide +kernel
theorem dX11_set_50 : decode cX11_set 50 = .ok (.if_icmp .gt 19, 3) := by decide +kernel
theorem dX11_set_53 : decode cX11_set 53 = .ok (.aload_n 0, 1) := by decide +kernel
theorem dX11_set_54 : decode cX11_set 54 = .ok (.getfield 19, 3) := by decide +kernel
theorem dX11_set_57 : decode cX11_set 57 = .ok (.getfield 122, 3) := by decide +kernel
theorem dX11_set_60 : decode cX11_set 60 = .ok (.iload_n 2, 1) := by decide +kernel
theorem dX11_set_61 : decode cX11_set 61 = .ok (.iload_n 3, 1) := by decide +kernel
theorem dX11_set_62 : decode cX11_set 62 = .ok (.iastore, 1) := by decide +kernel
theorem dX11_set_63 : decode cX11_set 63 = .ok (.iconst 1, 1) := by decide +kernel
theorem dX11_set_64 : decode cX11_set 64 = .ok (.istore 4, 2) := by decide +kernel
theorem dX11_set_66 : decode cX11_set 66 = .ok (.goto 44, 3) := by decide +kernel
theorem dX11_set_69 : decode cX11_set 69 = .ok (.iload_n 1, 1) := by decide +kernel
theorem dX11_set_70 : decode cX11_set 70 = .ok (.bipush 6, 2) := by decide +kernel
theorem dX11_set_72 : decode cX11_set 72 = .ok (.if_icmp .ne 38, 3) := by decide +kernel
theorem dX11_set_75 : decode cX11_set 75 = .ok (.aload_n 0, 1) := by decide +kernel
theorem dX11_set_76 : decode cX11_set 76 = .ok (.getfield 10, 3) := by decide +kernel
theorem dX11_set_79 : decode cX11_set 79 = .ok (.iload_n 2, 1) := by decide +kernel
theorem dX11_set_80 : decode cX11_set 80 = .ok (.invokevirtual 119, 3) := by decide +kernel
theorem dX11_set_83 : decode cX11_set 83 = .ok (.ifCond .eq 27, 3) := by decide +kernel
theorem dX11_set_86 : decode cX11_set 86 = .ok (.iload_n 3, 1) := by decide +kernel
theorem dX11_set_87 : decode cX11_set 87 = .ok (.ifCond .lt 23, 3) := by decide +kernel
theorem dX11_set_90 : decode cX11_set 90 = .ok (.iload_n 3, 1) := by decide +kernel
theorem dX11_set_91 : decode cX11_set 91 = .ok (.sipush 999, 3) := by decide +kernel
theorem dX11_set_94 : decode cX11_set 94 = .ok (.if_icmp .gt 16, 3) := by decide +kernel
theorem dX11_set_97 : decode cX11_set 97 = .ok (.aload_n 0, 1) := by decide +kernel
theorem dX11_set_98 : decode cX11_set 98 = .ok (.getfield 19, 3) := by decide +kernel
theorem dX11_set_101 : decode cX11_set 101 = .ok (.getfield 125, 3) := by decide +kernel
theorem dX11_set_104 : decode cX11_set 104 = .ok (.iload_n 2, 1) := by decide +kernel
theorem dX11_set_105 : decode cX11_set 105 = .ok (.iload_n 3, 1) := by decide +kernel
theorem dX11_set_106 : decode cX11_set 106 = .ok (.iastore, 1) := by decide +kernel
theorem dX11_set_107 : decode cX11_set 107 = .ok (.iconst 1, 1) := by decide +kernel
theorem dX11_set_108 : decode cX11_set 108 = .ok (.istore 4, 2) := by decide +kernel
theorem dX11_set_110 : decode cX11_set 110 = .ok (.iload 4, 2) := by decide +kernel
theorem dX11_set_112 : decode cX11_set 112 = .ok (.ifCond .eq 10, 3) := by decide +kernel
theorem dX11_set_115 : decode cX11_set 115 = .ok (.aload_n 0, 1) := by decide +kernel
theorem dX11_set_116 : decode cX11_set 116 = .ok (.getfield 49, 3) := by decide +kernel
theorem dX11_set_119 : decode cX11_set 119 = .ok (.invokevirtual 88, 3) := by decide +kernel
theorem dX11_set_122 : decode cX11_set 122 = .ok (.iload 4, 2) := by decide +kernel
theorem dX11_set_124 : decode cX11_set 124 = .ok (.ireturn, 1) := by decide +kernel
theorem dX11_state_0 : decode cX11_state 0 = .ok (.aload_n 0, 1) := by decide +kernel
theorem dX11_state_1 : decode cX11_state 1 = .ok (.getfield 19, 3) := by decide +kernel
theorem dX11_state_4 : decode cX11_state 4 = .ok (.getfield 84, 3) := by decide +kernel
theorem dX11_state_7 : decode cX11_state 7 = .ok (.istore_n 2, 1) := by decide +kernel
theorem dX11_state_8 : decode cX11_state 8 = .ok (.aload_n 0, 1) := by decide +kernel
theorem dX11_state_9 : decode cX11_state 9 = .ok (.getfield 19, 3) := by decide +kernel
theorem dX11_state_12 : decode cX11_state 12 = .ok (.iload_n 1, 1) := by decide +kernel
theorem dX11_state_13 : decode cX11_state 13 = .ok (.putfield 84, 3) := by decide +kernel
theorem dX11_state_16 : decode cX11_state 16 = .ok (.aload_n 0, 1) := by decide +kernel
theorem dX11_state_17 : decode cX11_state 17 = .ok (.getfield 49, 3) := by decide +kernel
theorem dX11_state_20 : decode cX11_state 20 = .ok (.invokevirtual 88, 3) := by decide +kernel
theorem dX11_state_23 : decode cX11_state 23 = .ok (.iload_n 2, 1) := by decide +kernel
theorem dX11_state_24 : decode cX11_state 24 = .ok (.ireturn, 1) := by decide +kernel
theorem dX11_teach_0 : decode cX11_teach 0 = .ok (.aload_n 0, 1) := by decide +kernel
theorem dX11_teach_1 : decode cX11_teach 1 = .ok (.getfield 10, 3) := by decide +kernel
theorem dX11_teach_4 : decode cX11_teach 4 = .ok (.iload_n 1, 1) := by decide +kernel
theorem dX11_teach_5 : decode cX11_teach 5 = .ok (.invokevirtual 119, 3) := by decide +kernel
theorem dX11_teach_8 : decode cX11_teach 8 = .ok (.ifCond .eq 22, 3) := by decide +kernel
theorem dX11_teach_11 : decode cX11_teach 11 = .ok (.iload_n 2, 1) := by decide +kernel
theorem dX11_teach_12 : decode cX11_teach 12 = .ok (.invokestatic 128, 3) := by decide +kernel
theorem dX11_teach_15 : decode cX11_teach 15 = .ok (.ifCond .eq 15, 3) := by decide +kernel
theorem dX11_teach_18 : decode cX11_teach 18 = .ok (.aload_n 0, 1) := by decide +kernel
theorem dX11_teach_19 : decode cX11_teach 19 = .ok (.getfield 19, 3) := by decide +kernel
theorem dX11_teach_22 : decode cX11_teach 22 = .ok (.iload_n 1, 1) := by decide +kernel
theorem dX11_teach_23 : decode cX11_teach 23 = .ok (.iload_n 2, 1) := by decide +kernel
theorem dX11_teach_24 : decode cX11_teach 24 = .ok (.invokevirtual 131, 3) := by decide +kernel
theorem dX11_teach_27 : decode cX11_teach 27 = .ok (.ifCond .eq 5, 3) := by decide +kernel
theorem dX11_teach_30 : decode cX11_teach 30 = .ok (.iconst 0, 1) := by decide +kernel
theorem dX11_teach_31 : decode cX11_teach 31 = .ok (.ireturn, 1) := by decide +kernel
theorem dX11_teach_32 : decode cX11_teach 32 = .ok (.aload_n 0, 1) := by decide +kernel
theorem dX11_teach_33 : decode cX11_teach 33 = .ok (.getfield 49, 3) := by decide +kernel
theorem dX11_teach_36 : decode cX11_teach 36 = .ok (.aload_n 0, 1) := by decide +kernel
theorem dX11_teach_37 : decode cX11_teach 37 = .ok (.getfield 19, 3) := by decide +kernel
theorem dX11_teach_40 : decode cX11_teach 40 = .ok (.invokevirtual 135, 3) := by decide +kernel
theorem dX11_teach_43 : decode cX11_teach 43 = .ok (.aload_n 0, 1) := by decide +kernel
theorem dX11_teach_44 : decode cX11_teach 44 = .ok (.getfield 19, 3) := by decide +kernel
theorem dX11_teach_47 : decode cX11_teach 47 = .ok (.getfield 139, 3) := by decide +kernel
theorem dX11_teach_50 : decode cX11_teach 50 = .ok (.iload_n 1, 1) := by decide +kernel
theorem dX11_teach_51 : decode cX11_teach 51 = .ok (.dup2, 1) := by decide +kernel
theorem dX11_teach_52 : decode cX11_teach 52 = .ok (.iaload, 1) := by decide +kernel
theorem dX11_teach_53 : decode cX11_teach 53 = .ok (.iconst 1, 1) := by decide +kernel
theorem dX11_teach_54 : decode cX11_teach 54 = .ok (.iload_n 2, 1) := by decide +kernel
theorem dX11_teach_55 : decode cX11_teach 55 = .ok (.ishl, 1) := by decide +kernel
theorem dX11_teach_56 : decode cX11_teach 56 = .ok (.ior, 1) := by decide +kernel
theorem dX11_teach_57 : decode cX11_teach 57 = .ok (.iastore, 1) := by decide +kernel
theorem dX11_teach_58 : decode cX11_teach 58 = .ok (.iconst 1, 1) := by decide +kernel
theorem dX11_teach_59 : decode cX11_teach 59 = .ok (.ireturn, 1) := by decide +kernel
theorem dX11_text_0 : decode cX11_text 0 = .ok (.aload_n 0, 1) := by decide +kernel
theorem dX11_text_1 : decode cX11_text 1 = .ok (.getfield 42, 3) := by decide +kernel
theorem dX11_text_4 : decode cX11_text 4 = .ok (.iload_n 1, 1) := by decide +kernel
theorem dX11_text_5 : decode cX11_text 5 = .ok (.aload_n 0, 1) := by decide +kernel
theorem dX11_text_6 : decode cX11_text 6 = .ok (.getfield 10, 3) := by decide +kernel
theorem dX11_text_9 : decode cX11_text 9 = .ok (.invokevirtual 172, 3) := by decide +kernel
theorem dX11_text_12 : decode cX11_text 12 = .ok (.istore_n 2, 1) := by decide +kernel
theorem dX11_text_13 : decode cX11_text 13 = .ok (.iload_n 2, 1) := by decide +kernel
theorem dX11_text_14 : decode cX11_text 14 = .ok (.iconst (-1), 1) := by decide +kernel
theorem dX11_text_15 : decode cX11_text 15 = .ok (.if_icmp .eq 20, 3) := by decide +kernel
theorem dX11_text_18 : decode cX11_text 18 = .ok (.iload_n 1, 1) := by decide +kernel
theorem dX11_text_19 : decode cX11_text 19 = .ok (.iconst 1, 1) := by decide +kernel
theorem dX11_text_20 : decode cX11_text 20 = .ok (.if_icmp .eq 8, 3) := by decide +kernel
theorem dX11_text_23 : decode cX11_text 23 = .ok (.iload_n 1, 1) := by decide +kernel
theorem dX11_text_24 : decode cX11_text 24 = .ok (.iconst 3, 1) := by decide +kernel
theorem dX11_text_25 : decode cX11_text 25 = .ok (.if_icmp .ne 10, 3) := by decide +kernel
theorem dX11_text_28 : decode cX11_text 28 = .ok (.aload_n 0, 1) := by decide +kernel
theorem dX11_text_29 : decode cX11_text 29 = .ok (.getfield 49, 3) := by decide +kernel
theorem dX11_text_32 : decode cX11_text 32 = .ok (.invokevirtual 88, 3) := by decide +kernel
theorem dX11_text_35 : decode cX11_text 35 = .ok (.iload_n 2, 1) := by decide +kernel
theorem dX11_text_36 : decode cX11_text 36 = .ok (.ireturn, 1) := by decide +kernel
theorem dX11_undo_0 : decode cX11_undo 0 = .ok (.aload_n 0, 1) := by decide +kernel
theorem dX11_undo_1 : decode cX11_undo 1 = .ok (.getfield 49, 3) := by decide +kernel
theorem dX11_undo_4 : decode cX11_undo 4 = .ok (.aload_n 0, 1) := by decide +kernel
theorem dX11_undo_5 : decode cX11_undo 5 = .ok (.getfield 19, 3) := by decide +kernel
theorem dX11_undo_8 : decode cX11_undo 8 = .ok (.invokevirtual 267, 3) := by decide +kernel
theorem dX11_undo_11 : decode cX11_undo 11 = .ok (.ireturn, 1) := by decide +kernel
theorem dX11_weight_0 : decode cX11_weight 0 = .ok (.iload_n 1, 1) := by decide +kernel
theorem dX11_weight_1 : decode cX11_weight 1 = .ok (.invokestatic 128, 3) := by decide +kernel
theorem dX11_weight_4 : decode cX11_weight 4 = .ok (.ifCond .eq 15, 3) := by decide +kernel
theorem dX11_weight_7 : decode cX11_weight 7 = .ok (.aload_n 0, 1) := by decide +kernel
theorem dX11_weight_8 : decode cX11_weight 8 = .ok (.getfield 10, 3) := by decide +kernel
theorem dX11_weight_11 : decode cX11_weight 11 = .ok (.getfield 185, 3) := by decide +kernel
theorem dX11_weight_14 : decode cX11_weight 14 = .ok (.iload_n 1, 1) := by decide +kernel
theorem dX11_weight_15 : decode cX11_weight 15 = .ok (.iaload, 1) := by decide +kernel
theorem dX11_weight_16 : decode cX11_weight 16 = .ok (.goto 4, 3) := by decide +kernel
theorem dX11_weight_19 : decode cX11_weight 19 = .ok (.iconst (-1), 1) := by decide +kernel
theorem dX11_weight_20 : decode cX11_weight 20 = .ok (.ireturn, 1) := by decide +kernel
theorem dX12_init_0 : decode cX12_init 0 = .ok (.aload_n 0, 1) := by decide +kernel
theorem dX12_init_1 : decode cX12_init 1 = .ok (.invokespecial 1, 3) := by decide +kernel
theorem dX12_init_4 : decode cX12_init 4 = .ok (.aload_n 0, 1) := by decide +kernel
theorem dX12_init_5 : decode cX12_init 5 = .ok (.iconst 1, 1) := by decide +kernel
theorem dX12_init_6 : decode cX12_init 6 = .ok (.putfield 7, 3) := by decide +kernel
theorem dX12_init_9 : decode cX12_init 9 = .ok (.aload_n 0, 1) := by decide +kernel
theorem dX12_init_10 : decode cX12_init 10 = .ok (.iconst 1, 1) := by decide +kernel
theorem dX12_init_11 : decode cX12_init 11 = .ok (.putfield 13, 3) := by decide +kernel
theorem dX12_init_14 : decode cX12_init 14 = .ok (.aload_n 0, 1) := by decide +kernel
theorem dX12_init_15 : decode cX12_init 15 = .ok (.iconst 3, 1) := by decide +kernel
theorem dX12_init_16 : decode cX12_init 16 = .ok (.putfield 16, 3) := by decide +kernel
theorem dX12_init_19 : decode cX12_init 19 = .ok (.aload_n 0, 1) := by decide +kernel
theorem dX12_init_20 : decode cX12_init 20 = .ok (.iconst 2, 1) := by decide +kernel
theorem dX12_init_21 : decode cX12_init 21 = .ok (.newarray .int, 2) := by decide +kernel
theorem dX12_init_23 : decode cX12_init 23 = .ok (.dup, 1) := by decide +kernel
theorem dX12_init_24 : decode cX12_init 24 = .ok (.iconst 0, 1) := by decide +kernel
theorem dX12_init_25 : decode cX12_init 25 = .ok (.iconst 2, 1) := by decide +kernel
theorem dX12_init_26 : decode cX12_init 26 = .ok (.iastore, 1) := by decide +kernel
theorem dX12_init_27 : decode cX12_init 27 = .ok (.dup, 1) := by decide +kernel
theorem dX12_init_28 : decode cX12_init 28 = .ok (.iconst 1, 1) := by decide +kernel
theorem dX12_init_29 : decode cX12_init 29 = .ok (.iconst 2, 1) := by decide +kernel
theorem dX12_init_30 : decode cX12_init 30 = .ok (.iastore, 1) := by decide +kernel
theorem dX12_init_31 : decode cX12_init 31 = .ok (.putfield 19, 3) := by decide +kernel
theorem dX12_init_34 : decode cX12_init 34 = .ok (.aload_n 0, 1) := by decide +kernel
theorem dX12_init_35 : decode cX12_init 35 = .ok (.bipush 12, 2) := by decide +kernel
theorem dX12_init_37 : decode cX12_init 37 = .ok (.newarray .int, 2) := by decide +kernel
theorem dX12_init_39 : decode cX12_init 39 = .ok (.putfield 23, 3) := by decide +kernel
theorem dX12_init_42 : decode cX12_init 42 = .ok (.aload_n 0, 1) := by decide +kernel
theorem dX12_init_43 : decode cX12_init 43 = .ok (.bipush 8, 2) := by decide +kernel
theorem dX12_init_45 : decode cX12_init 45 = .ok (.newarray .int, 2) := by decide +kernel
theorem dX12_init_47 : decode cX12_init 47 = .ok (.dup, 1) := by decide +kernel
theorem dX12_init_48 : decode cX12_init 48 = .ok (.iconst 0, 1) := by decide +kernel
theorem dX12_init_49 : decode cX12_init 49 = .ok (.iconst 1, 1) := by decide +kernel
theorem dX12_init_50 : decode cX12_init 50 = .ok (.iastore, 1) := by decide +kernel
theorem dX12_init_51 : decode cX12_init 51 = .ok (.dup, 1) := by decide +kernel
theorem dX12_init_52 : decode cX12_init 52 = .ok (.iconst 1, 1) := by decide +kernel
theorem dX12_init_53 : decode cX12_init 53 = .ok (.iconst 1, 1) := by decide +kernel
theorem dX12_init_54 : decode cX12_init 54 = .ok (.iastore, 1) := by decide +kernel
theorem dX12_init_55 : decode cX12_init 55 = .ok (.dup, 1) := by decide +kernel
theorem dX12_init_56 : decode cX12_init 56 = .ok (.iconst 2, 1) := by decide +kernel
theorem dX12_init_57 : decode cX12_init 57 = .ok (.iconst 1, 1) := by decide +kernel
theorem dX12_init_58 : decode cX12_init 58 = .ok (.iastore, 1) := by decide +kernel
theorem dX12_init_59 : decode cX12_init 59 = .ok (.dup, 1) := by decide +kernel
theorem dX12_init_60 : decode cX12_init 60 = .ok (.iconst 3, 1) := by decide +kernel
theorem dX12_init_61 : decode cX12_init 61 = .ok (.iconst 1, 1) := by decide +kernel
theorem dX12_init_62 : decode cX12_init 62 = .ok (.iastore, 1) := by decide +kernel
theorem dX12_init_63 : decode cX12_init 63 = .ok (.dup, 1) := by decide +kernel
theorem dX12_init_64 : decode cX12_init 64 = .ok (.iconst 4, 1) := by decide +kernel
theorem dX12_init_65 : decode cX12_init 65 = .ok (.iconst 1, 1) := by decide +kernel
theorem dX12_init_66 : decode cX12_init 66 = .ok (.iastore, 1) := by decide +kernel
theorem dX12_init_67 : decode cX12_init 67 = .ok (.dup, 1) := by decide +kernel
theorem dX12_init_68 : decode cX12_init 68 = .ok (.iconst 5, 1) := by decide +kernel
theorem dX12_init_69 : decode cX12_init 69 = .ok (.iconst 1, 1) := by decide +kernel
theorem dX12_init_70 : decode cX12_init 70 = .ok (.iastore, 1) := by decide +kernel
theorem dX12_init_71 : decode cX12_init 71 = .ok (.dup, 1) := by decide +kernel
theorem dX12_init_72 : decode cX12_init 72 = .ok (.bipush 6, 2) := by decide +kernel
theorem dX12_init_74 : decode cX12_init 74 = .ok (.iconst 1, 1) := by decide +kernel
theorem dX12_init_75 : decode cX12_init 75 = .ok (.iastore, 1) := by decide +kernel
theorem dX12_init_76 : decode cX12_init 76 = .ok (.dup, 1) := by decide +kernel
theorem dX12_init_77 : decode cX12_init 77 = .ok (.bipush 7, 2) := by decide +kernel
theorem dX12_init_79 : decode cX12_init 79 = .ok (.iconst 1, 1) := by decide +kernel
theorem dX12_init_80 : decode cX12_init 80 = .ok (.iastore, 1) := by decide +kernel
theorem dX12_init_81 : decode cX12_init 81 = .ok (.putfield 26, 3) := by decide +kernel
theorem dX12_init_84 : decode cX12_init 84 = .ok (.aload_n 0, 1) := by decide +kernel
theorem dX12_init_85 : decode cX12_init 85 = .ok (.bipush 12, 2) := by decide +kernel
theorem dX12_init_87 : decode cX12_init 87 = .ok (.anewarray 29, 3) := by decide +kernel
theorem dX12_init_90 : decode cX12_init 90 = .ok (.putfield 30, 3) := by decide +kernel
theorem dX12_init_93 : decode cX12_init 93 = .ok (.aload_n 0, 1) := by decide +kernel
theorem dX12_init_94 : decode cX12_init 94 = .ok (.sipush 150, 3) := by decide +kernel
theorem dX12_init_97 : decode cX12_init 97 = .ok (.anewarray 29, 3) := by decide +kernel
theorem dX12_init_100 : decode cX12_init 100 = .ok (.putfield 34, 3) := by decide +kernel
theorem dX12_init_103 : decode cX12_init 103 = .ok (.aload_n 0, 1) := by decide +kernel
theorem dX12_init_104 : decode cX12_init 104 = .ok (.iconst 0, 1) := by decide +kernel
theorem dX12_init_105 : decode cX12_init 105 = .ok (.anewarray 29, 3) := by decide +kernel
theorem dX12_init_108 : decode cX12_init 108 = .ok (.putfield 37, 3) := by decide +kernel
theorem dX12_init_111 : decode cX12_init 111 = .ok (.return_, 1) := by decide +kernel
theorem dX1_init_0 : decode cX1_init 0 = .ok (.aload_n 0, 1) := by decide +kernel
theorem dX1_init_1 : decode cX1_init 1 = .ok (.invokespecial 3, 3) := by decide +kernel
theorem dX1_init_4 : decode cX1_init 4 = .ok (.aload_n 0, 1) := by decide +kernel
theorem dX1_init_5 : decode cX1_init 5 = .ok (.sipush 600, 3) := by decide +kernel
theorem dX1_init_8 : decode cX1_init 8 = .ok (.newarray .int, 2) := by decide +kernel
theorem dX1_init_10 : decode cX1_init 10 = .ok (.putfield 11, 3) := by decide +kernel
theorem dX1_init_13 : decode cX1_init 13 = .ok (.return_, 1) := by decide +kernel
theorem dX1_part_0 : decode cX1_part 0 = .ok (.iload_n 1, 1) := by decide +kernel
theorem dX1_part_1 : decode cX1_part 1 = .ok (.ifCond .lt 23, 3) := by decide +kernel
theorem dX1_part_4 : decode cX1_part 4 = .ok (.iload_n 1, 1) := by decide +kernel
theorem dX1_part_5 : decode cX1_part 5 = .ok (.sipush 150, 3) := by decide +kernel
theorem dX1_part_8 : decode cX1_part 8 = .ok (.if_icmp .ge 16, 3) := by decide +kernel
theorem dX1_part_11 : decode cX1_part 11 = .ok (.iload_n 2, 1) := by decide +kernel
theorem dX1_part_12 : decode cX1_part 12 = .ok (.ifCond .lt 12, 3) := by decide +kernel
theorem dX1_part_15 : decode cX1_part 15 = .ok (.iload_n 2, 1) := by decide +kernel
theorem dX1_part_16 : decode cX1_part 16 = .ok (.iconst 4, 1) := by decide +kernel
theorem dX1_part_17 : decode cX1_part 17 = .ok (.if_icmp .ge 7, 3) := by decide +kernel
theorem dX1_part_20 : decode cX1_part 20 = .ok (.iconst 1, 1) := by decide +kernel
theorem dX1_part_21 : decode cX1_part 21 = .ok (.goto 4, 3) := by decide +kernel
theorem dX1_part_24 : decode cX1_part 24 = .ok (.iconst 0, 1) := by decide +kernel
theorem dX1_part_25 : decode cX1_part 25 = .ok (.istore_n 3, 1) := by decide +kernel
theorem dX1_part_26 : decode cX1_part 26 = .ok (.iload_n 3, 1) := by decide +kernel
theorem dX1_part_27 : decode cX1_part 27 = .ok (.ifCond .eq 16, 3) := by decide +kernel
theorem dX1_part_30 : decode cX1_part 30 = .ok (.aload_n 0, 1) := by decide +kernel
theorem dX1_part_31 : decode cX1_part 31 = .ok (.getfield 11, 3) := by decide +kernel
theorem dX1_part_34 : decode cX1_part 34 = .ok (.iload_n 1, 1) := by decide +kernel
theorem dX1_part_35 : decode cX1_part 35 = .ok (.iconst 4, 1) := by decide +kernel
theorem dX1_part_36 : decode cX1_part 36 = .ok (.imul, 1) := by decide +kernel
theorem dX1_part_37 : decode cX1_part 37 = .ok (.iload_n 2, 1) := by decide +kernel
theorem dX1_part_38 : decode cX1_part 38 = .ok (.iadd, 1) := by decide +kernel
theorem dX1_part_39 : decode cX1_part 39 = .ok (.iaload, 1) := by decide +kernel
theorem dX1_part_40 : decode cX1_part 40 = .ok (.goto 4, 3) := by decide +kernel
theorem dX1_part_43 : decode cX1_part 43 = .ok (.iconst (-1), 1) := by decide +kernel
theorem dX1_part_44 : decode cX1_part 44 = .ok (.ireturn, 1) := by decide +kernel
theorem dX1_write_0 : decode cX1_write 0 = .ok (.iload_n 1, 1) := by decide +kernel
theorem dX1_write_1 : decode cX1_write 1 = .ok (.ifCond .lt 54, 3) := by decide +kernel
theorem dX1_write_4 : decode cX1_write 4 = .ok (.iload_n 1, 1) := by decide +kernel
theorem dX1_write_5 : decode cX1_write 5 = .ok (.sipush 150, 3) := by decide +kernel
theorem dX1_write_8 : decode cX1_write 8 = .ok (.if_icmp .ge 47, 3) := by decide +kernel
theorem dX1_write_11 : decode cX1_write 11 = .ok (.aload_n 0, 1) := by decide +kernel
theorem dX1_write_12 : decode cX1_write 12 = .ok (.getfield 11, 3) := by decide +kernel
theorem dX1_write_15 : decode cX1_write 15 = .ok (.iload_n 1, 1) := by decide +kernel
theorem dX1_write_16 : decode cX1_write 16 = .ok (.iconst 4, 1) := by decide +kernel
theorem dX1_write_17 : decode cX1_write 17 = .ok (.imul, 1) := by decide +kernel
theorem dX1_write_18 : decode cX1_write 18 = .ok (.iload_n 2, 1) := by decide +kernel
theorem dX1_write_19 : decode cX1_write 19 = .ok (.iastore, 1) := by decide +kernel
theorem dX1_write_20 : decode cX1_write 20 = .ok (.aload_n 0, 1) := by decide +kernel
theorem dX1_write_21 : decode cX1_write 21 = .ok (.getfield 11, 3) := by decide +kernel
theorem dX1_write_24 : decode cX1_write 24 = .ok (.iload_n 1, 1) := by decide +kernel
theorem dX1_write_25 : decode cX1_write 25 = .ok (.iconst 4, 1) := by decide +kernel
theorem dX1_write_26 : decode cX1_write 26 = .ok (.imul, 1) := by decide +kernel
theorem dX1_write_27 : decode cX1_write 27 = .ok (.iconst 1, 1) := by decide +kernel
theorem dX1_write_28 : decode cX1_write 28 = .ok (.iadd, 1) := by decide +kernel
theorem dX1_write_29 : decode cX1_write 29 = .ok (.iload_n 3, 1) := by decide +kernel
theorem dX1_write_30 : decode cX1_write 30 = .ok (.iastore, 1) := by decide +kernel
theorem dX1_write_31 : decode cX1_write 31 = .ok (.aload_n 0, 1) := by decide +kernel
theorem dX1_write_32 : decode cX1_write 32 = .ok (.getfield 11, 3) := by decide +kernel
theorem dX1_write_35 : decode cX1_write 35 = .ok (.iload_n 1, 1) := by decide +kernel
theorem dX1_write_36 : decode cX1_write 36 = .ok (.iconst 4, 1) := by decide +kernel
theorem dX1_write_37 : decode cX1_write 37 = .ok (.imul, 1) := by decide +kernel
theorem dX1_write_38 : decode cX1_write 38 = .ok (.iconst 2, 1) := by decide +kernel
theorem dX1_write_39 : decode cX1_write 39 = .ok (.iadd, 1) := by decide +kernel
theorem dX1_write_40 : decode cX1_write 40 = .ok (.iload 4, 2) := by decide +kernel
theorem dX1_write_42 : decode cX1_write 42 = .ok (.iastore, 1) := by decide +kernel
theorem dX1_write_43 : decode cX1_write 43 = .ok (.aload_n 0, 1) := by decide +kernel
theorem dX1_write_44 : decode cX1_write 44 = .ok (.getfield 11, 3) := by decide +kernel
theorem dX1_write_47 : decode cX1_write 47 = .ok (.iload_n 1, 1) := by decide +kernel
theorem dX1_write_48 : decode cX1_write 48 = .ok (.iconst 4, 1) := by decide +kernel
theorem dX1_write_49 : decode cX1_write 49 = .ok (.imul, 1) := by decide +kernel
theorem dX1_write_50 : decode cX1_write 50 = .ok (.iconst 3, 1) := by decide +kernel
theorem dX1_write_51 : decode cX1_write 51 = .ok (.iadd, 1) := by decide +kernel
theorem dX1_write_52 : decode cX1_write 52 = .ok (.iload 5, 2) := by decide +kernel
theorem dX1_write_54 : decode cX1_write 54 = .ok (.iastore, 1) := by decide +kernel
theorem dX1_write_55 : decode cX1_write 55 = .ok (.return_, 1) := by decide +kernel
theorem dX2_init_0 : decode cX2_init 0 = .ok (.aload_n 0, 1) := by decide +kernel
theorem dX2_init_1 : decode cX2_init 1 = .ok (.invokespecial 3, 3) := by decide +kernel
theorem dX2_init_4 : decode cX2_init 4 = .ok (.aload_n 0, 1) := by decide +kernel
theorem dX2_init_5 : decode cX2_init 5 = .ok (.new 9, 3) := by decide +kernel
theorem dX2_init_8 : decode cX2_init 8 = .ok (.dup, 1) := by decide +kernel
theorem dX2_init_9 : decode cX2_init 9 = .ok (.invokespecial 11, 3) := by decide +kernel
theorem dX2_init_12 : decode cX2_init 12 = .ok (.putfield 12, 3) := by decide +kernel
theorem dX2_init_15 : decode cX2_init 15 = .ok (.aload_n 0, 1) := by decide +kernel
theorem dX2_init_16 : decode cX2_init 16 = .ok (.aload_n 1, 1) := by decide +kernel
theorem dX2_init_17 : decode cX2_init 17 = .ok (.putfield 18, 3) := by decide +kernel
theorem dX2_init_20 : decode cX2_init 20 = .ok (.aload_n 0, 1) := by decide +kernel
theorem dX2_init_21 : decode cX2_init 21 = .ok (.aload_n 2, 1) := by decide +kernel
theorem dX2_init_22 : decode cX2_init 22 = .ok (.putfield 22, 3) := by decide +kernel
theorem dX2_init_25 : decode cX2_init 25 = .ok (.aload_n 0, 1) := by decide +kernel
theorem dX2_init_26 : decode cX2_init 26 = .ok (.new 25, 3) := by decide +kernel
theorem dX2_init_29 : decode cX2_init 29 = .ok (.dup, 1) := by decide +kernel
theorem dX2_init_30 : decode cX2_init 30 = .ok (.aload_n 1, 1) := by decide +kernel
theorem dX2_init_31 : decode cX2_init 31 = .ok (.aload_n 0, 1) := by decide +kernel
theorem dX2_init_32 : decode cX2_init 32 = .ok (.getfield 12, 3) := by decide +kernel
theorem dX2_init_35 : decode cX2_init 35 = .ok (.aload_n 3, 1) := by decide +kernel
theorem dX2_init_36 : decode cX2_init 36 = .ok (.iconst 0, 1) := by decide +kernel
theorem dX2_init_37 : decode cX2_init 37 = .ok (.invokespecial 27, 3) := by decide +kernel
theorem dX2_init_40 : decode cX2_init 40 = .ok (.putfield 30, 3) := by decide +kernel
theorem dX2_init_43 : decode cX2_init 43 = .ok (.return_, 1) := by decide +kernel
theorem dX3_arrive_0 : decode cX3_arrive 0 = .ok (.aload_n 0, 1) := by decide +kernel
theorem dX3_arrive_1 : decode cX3_arrive 1 = .ok (.iconst 0, 1) := by decide +kernel
theorem dX3_arrive_2 : decode cX3_arrive 2 = .ok (.invokevirtual 171, 3) := by decide +kernel
theorem dX3_arrive_5 : decode cX3_arrive 5 = .ok (.istore_n 1, 1) := by decide +kernel
theorem dX3_arrive_6 : decode cX3_arrive 6 = .ok (.aload_n 0, 1) := by decide +kernel
theorem dX3_arrive_7 : decode cX3_arrive 7 = .ok (.iconst 1, 1) := by decide +kernel
theorem dX3_arrive_8 : decode cX3_arrive 8 = .ok (.invokevirtual 171, 3) := by decide +kernel
theorem dX3_arrive_11 : decode cX3_arrive 11 = .ok (.istore_n 2, 1) := by decide +kernel
theorem dX3_arrive_12 : decode cX3_arrive 12 = .ok (.iload_n 1, 1) := by decide +kernel
theorem dX3_arrive_13 : decode cX3_arrive 13 = .ok (.iconst 1, 1) := by decide +kernel
theorem dX3_arrive_14 : decode cX3_arrive 14 = .ok (.invokestatic 150, 3) := by decide +kernel
theorem dX3_arrive_17 : decode cX3_arrive 17 = .ok (.invokestatic 174, 3) := by decide +kernel
theorem dX3_arrive_20 : decode cX3_arrive 20 = .ok (.ifCond .eq 18, 3) := by decide +kernel
theorem dX3_arrive_23 : decode cX3_arrive 23 = .ok (.iload_n 2, 1) := by decide +kernel
theorem dX3_arrive_24 : decode cX3_arrive 24 = .ok (.iconst 1, 1) := by decide +kernel
theorem dX3_arrive_25 : decode cX3_arrive 25 = .ok (.invokestatic 150, 3) := by decide +kernel
theorem dX3_arrive_28 : decode cX3_arrive 28 = .ok (.invokestatic 174, 3) := by decide +kernel
theorem dX3_arrive_31 : decode cX3_arrive 31 = .ok (.ifCond .ne 7, 3) := by decide +kernel
theorem dX3_arrive_34 : decode cX3_arrive 34 = .ok (.iconst 1, 1) := by decide +kernel
theorem dX3_arrive_35 : decode cX3_arrive 35 = .ok (.goto 4, 3) := by decide +kernel
theorem dX3_arrive_38 : decode cX3_arrive 38 = .ok (.iconst 0, 1) := by decide +kernel
theorem dX3_arrive_39 : decode cX3_arrive 39 = .ok (.istore_n 3, 1) := by decide +kernel
theorem dX3_arrive_40 : decode cX3_arrive 40 = .ok (.iload_n 3, 1) := by decide +kernel
theorem dX3_arrive_41 : decode cX3_arrive 41 = .ok (.ifCond .ne 25, 3) := by decide +kernel
theorem dX3_arrive_44 : decode cX3_arrive 44 = .ok (.iload_n 2, 1) := by decide +kernel
theorem dX3_arrive_45 : decode cX3_arrive 45 = .ok (.iconst 0, 1) := by decide +kernel
theorem dX3_arrive_46 : decode cX3_arrive 46 = .ok (.invokestatic 150, 3) := by decide +kernel
theorem dX3_arrive_49 : decode cX3_arrive 49 = .ok (.invokestatic 174, 3) := by decide +kernel
theorem dX3_arrive_52 : decode cX3_arrive 52 = .ok (.ifCond .eq 22, 3) := by decide +kernel
theorem dX3_arrive_55 : decode cX3_arrive 55 = .ok (.iload_n 1, 1) := by decide +kernel
theorem dX3_arrive_56 : decode cX3_arrive 56 = .ok (.iconst 0, 1) := by decide +kernel
theorem dX3_arrive_57 : decode cX3_arrive 57 = .ok (.invokestatic 150, 3) := by decide +kernel
theorem dX3_arrive_60 : decode cX3_arrive 60 = .ok (.invokestatic 174, 3) := by decide +kernel
theorem dX3_arrive_63 : decode cX3_arrive 63 = .ok (.ifCond .ne 11, 3) := by decide +kernel
theorem dX3_arrive_66 : decode cX3_arrive 66 = .ok (.aload_n 0, 1) := by decide +kernel
theorem dX3_arrive_67 : decode cX3_arrive 67 = .ok (.getfield 21, 3) := by decide +kernel
theorem dX3_arrive_70 : decode cX3_arrive 70 = .ok (.iconst 0, 1) := by decide +kernel
theorem dX3_arrive_71 : decode cX3_arrive 71 = .ok (.putfield 33, 3) := by decide +kernel
theorem dX3_arrive_74 : decode cX3_arrive 74 = .ok (.return_, 1) := by decide +kernel
theorem dX3_asked_0 : decode cX3_asked 0 = .ok (.aload_n 0, 1) := by decide +kernel
theorem dX3_asked_1 : decode cX3_asked 1 = .ok (.getfield 17, 3) := by decide +kernel
theorem dX3_asked_4 : decode cX3_asked 4 = .ok (.iload_n 1, 1) := by decide +kernel
theorem dX3_asked_5 : decode cX3_asked 5 = .ok (.invokevirtual 64, 3) := by decide +kernel
theorem dX3_asked_8 : decode cX3_asked 8 = .ok (.ifCond .ne 5, 3) := by decide +kernel
theorem dX3_asked_11 : decode cX3_asked 11 = .ok (.iconst 0, 1) := by decide +kernel
theorem dX3_asked_12 : decode cX3_asked 12 = .ok (.ireturn, 1) := by decide +kernel
theorem dX3_asked_13 : decode cX3_asked 13 = .ok (.aload_n 0, 1) := by decide +kernel
theorem dX3_asked_14 : decode cX3_asked 14 = .ok (.getfield 21, 3) := by decide +kernel
theorem dX3_asked_17 : decode cX3_asked 17 = .ok (.getfield 70, 3) := by decide +kernel
theorem dX3_asked_20 : decode cX3_asked 20 = .ok (.iload_n 1, 1) := by decide +kernel
theorem dX3_asked_21 : decode cX3_asked 21 = .ok (.iaload, 1) := by decide +kernel
theorem dX3_asked_22 : decode cX3_asked 22 = .ok (.iconst 1, 1) := by decide +kernel
theorem dX3_asked_23 : decode cX3_asked 23 = .ok (.if_icmp .ne 7, 3) := by decide +kernel
theorem dX3_asked_26 : decode cX3_asked 26 = .ok (.iconst 1, 1) := by decide +kernel
theorem dX3_asked_27 : decode cX3_asked 27 = .ok (.goto 4, 3) := by decide +kernel
theorem dX3_asked_30 : decode cX3_asked 30 = .ok (.iconst 0, 1) := by decide +kernel
theorem dX3_asked_31 : decode cX3_asked 31 = .ok (.istore_n 3, 1) := by decide +kernel
theorem dX3_asked_32 : decode cX3_asked 32 = .ok (.aload_n 0, 1) := by decide +kernel
theorem dX3_asked_33 : decode cX3_asked 33 = .ok (.getfield 11, 3) := by decide +kernel
theorem dX3_asked_36 : decode cX3_asked 36 = .ok (.iconst 0, 1) := by decide +kernel
theorem dX3_asked_37 : decode cX3_asked 37 = .ok (.aload_n 0, 1) := by decide +kernel
theorem dX3_asked_38 : decode cX3_asked 38 = .ok (.getfield 17, 3) := by decide +kernel
theorem dX3_asked_41 : decode cX3_asked 41 = .ok (.getfield 73, 3) := by decide +kernel
theorem dX3_asked_44 : decode cX3_asked 44 = .ok (.iload_n 1, 1) := by decide +kernel
theorem dX3_asked_45 : decode cX3_asked 45 = .ok (.iaload, 1) := by decide +kernel
theorem dX3_asked_46 : decode cX3_asked 46 = .ok (.iastore, 1) := by decide +kernel
theorem dX3_asked_47 : decode cX3_asked 47 = .ok (.aload_n 0, 1) := by decide +kernel
theorem dX3_asked_48 : decode cX3_asked 48 = .ok (.getfield 11, 3) := by decide +kernel
theorem dX3_asked_51 : decode cX3_asked 51 = .ok (.iconst 1, 1) := by decide +kernel
theorem dX3_asked_52 : decode cX3_asked 52 = .ok (.aload_n 0, 1) := by decide +kernel
theorem dX3_asked_53 : decode cX3_asked 53 = .ok (.getfield 17, 3) := by decide +kernel
theorem dX3_asked_56 : decode cX3_asked 56 = .ok (.getfield 76, 3) := by decide +kernel
theorem dX3_asked_59 : decode cX3_asked 59 = .ok (.iload_n 1, 1) := by decide +kernel
theorem dX3_asked_60 : decode cX3_asked 60 = .ok (.iaload, 1) := by decide +kernel
theorem dX3_asked_61 : decode cX3_asked 61 = .ok (.iastore, 1) := by decide +kernel
theorem dX3_asked_62 : decode cX3_asked 62 = .ok (.aload_n 0, 1) := by decide +kernel
theorem dX3_asked_63 : decode cX3_asked 63 = .ok (.getfield 11, 3) := by decide +kernel
theorem dX3_asked_66 : decode cX3_asked 66 = .ok (.iconst 2, 1) := by decide +kernel
theorem dX3_asked_67 : decode cX3_asked 67 = .ok (.aload_n 0, 1) := by decide +kernel
theorem dX3_asked_68 : decode cX3_asked 68 = .ok (.getfield 17, 3) := by decide +kernel
theorem dX3_asked_71 : decode cX3_asked 71 = .ok (.getfield 79, 3) := by decide +kernel
theorem dX3_asked_74 : decode cX3_asked 74 = .ok (.iload_n 1, 1) := by decide +kernel
theorem dX3_asked_75 : decode cX3_asked 75 = .ok (.iaload, 1) := by decide +kernel
theorem dX3_asked_76 : decode cX3_asked 76 = .ok (.iastore, 1) := by decide +kernel
theorem dX3_asked_77 : decode cX3_asked 77 = .ok (.aload_n 0, 1) := by decide +kernel
theorem dX3_asked_78 : decode cX3_asked 78 = .ok (.getfield 11, 3) := by decide +kernel
theorem dX3_asked_81 : decode cX3_asked 81 = .ok (.iconst 3, 1) := by decide +kernel
theorem dX3_asked_82 : decode cX3_asked 82 = .ok (.aload_n 0, 1) := by decide +kernel
theorem dX3_asked_83 : decode cX3_asked 83 = .ok (.getfield 21, 3) := by decide +kernel
theorem dX3_asked_86 : decode cX3_asked 86 = .ok (.getfield 82, 3) := by decide +kernel
theorem dX3_asked_89 : decode cX3_asked 89 = .ok (.iload_n 1, 1) := by decide +kernel
theorem dX3_asked_90 : decode cX3_asked 90 = .ok (.iaload, 1) := by decide +kernel
theorem dX3_asked_91 : decode cX3_asked 91 = .ok (.iastore, 1) := by decide +kernel
theorem dX3_asked_92 : decode cX3_asked 92 = .ok (.aload_n 0, 1) := by decide +kernel
theorem dX3_asked_93 : decode cX3_asked 93 = .ok (.getfield 11, 3) := by decide +kernel
theorem dX3_asked_96 : decode cX3_asked 96 = .ok (.iconst 4, 1) := by decide +kernel
theorem dX3_asked_97 : decode cX3_asked 97 = .ok (.aload_n 0, 1) := by decide +kernel
theorem dX3_asked_98 : decode cX3_asked 98 = .ok (.getfield 21, 3) := by decide +kernel
theorem dX3_asked_101 : decode cX3_asked 101 = .ok (.getfield 85, 3) := by decide +kernel
theorem dX3_asked_104 : decode cX3_asked 104 = .ok (.iload_n 1, 1) := by decide +kernel
theorem dX3_asked_105 : decode cX3_asked 105 = .ok (.iaload, 1) := by decide +kernel
theorem dX3_asked_106 : decode cX3_asked 106 = .ok (.invokestatic 88, 3) := by decide +kernel
theorem dX3_asked_109 : decode cX3_asked 109 = .ok (.iastore, 1) := by decide +kernel
theorem dX3_asked_110 : decode cX3_asked 110 = .ok (.aload_n 0, 1) := by decide +kernel
theorem dX3_asked_111 : decode cX3_asked 111 = .ok (.getfield 11, 3) := by decide +kernel
theorem dX3_asked_114 : decode cX3_asked 114 = .ok (.iconst 5, 1) := by decide +kernel
theorem dX3_asked_115 : decode cX3_asked 115 = .ok (.iload_n 3, 1) := by decide +kernel
theorem dX3_asked_116 : decode cX3_asked 116 = .ok (.ifCond .eq 15, 3) := by decide +kernel
theorem dX3_asked_119 : decode cX3_asked 119 = .ok (.aload_n 0, 1) := by decide +kernel
theorem dX3_asked_120 : decode cX3_asked 120 = .ok (.getfield 21, 3) := by decide +kernel
theorem dX3_asked_123 : decode cX3_asked 123 = .ok (.getfield 94, 3) := by decide +kernel
theorem dX3_asked_126 : decode cX3_asked 126 = .ok (.iload_n 1, 1) := by decide +kernel
theorem dX3_asked_127 : decode cX3_asked 127 = .ok (.iaload, 1) := by decide +kernel
theorem dX3_asked_128 : decode cX3_asked 128 = .ok (.goto 4, 3) := by decide +kernel
theorem dX3_asked_131 : decode cX3_asked 131 = .ok (.iconst 0, 1) := by decide +kernel
theorem dX3_asked_132 : decode cX3_asked 132 = .ok (.iastore, 1) := by decide +kernel
theorem dX3_asked_133 : decode cX3_asked 133 = .ok (.aload_n 0, 1) := by decide +kernel
theorem dX3_asked_134 : decode cX3_asked 134 = .ok (.getfield 11, 3) := by decide +kernel
theorem dX3_asked_137 : decode cX3_asked 137 = .ok (.bipush 6, 2) := by decide +kernel
theorem dX3_asked_139 : decode cX3_asked 139 = .ok (.aload_n 0, 1) := by decide +kernel
theorem dX3_asked_140 : decode cX3_asked 140 = .ok (.getfield 21, 3) := by decide +kernel
theorem dX3_asked_143 : decode cX3_asked 143 = .ok (.getfield 52, 3) := by decide +kernel
theorem dX3_asked_146 : decode cX3_asked 146 = .ok (.iastore, 1) := by decide +kernel
theorem dX3_asked_147 : decode cX3_asked 147 = .ok (.aload_n 0, 1) := by decide +kernel
theorem dX3_asked_148 : decode cX3_asked 148 = .ok (.getfield 11, 3) := by decide +kernel
theorem dX3_asked_151 : decode cX3_asked 151 = .ok (.bipush 7, 2) := by decide +kernel
theorem dX3_asked_153 : decode cX3_asked 153 = .ok (.aload_n 0, 1) := by decide +kernel
theorem dX3_asked_154 : decode cX3_asked 154 = .ok (.getfield 17, 3) := by decide +kernel
theorem dX3_asked_157 : decode cX3_asked 157 = .ok (.getfield 97, 3) := by decide +kernel
theorem dX3_asked_160 : decode cX3_asked 160 = .ok (.iastore, 1) := by decide +kernel
theorem dX3_asked_161 : decode cX3_asked 161 = .ok (.aload_n 0, 1) := by decide +kernel
theorem dX3_asked_162 : decode cX3_asked 162 = .ok (.getfield 11, 3) := by decide +kernel
theorem dX3_asked_165 : decode cX3_asked 165 = .ok (.bipush 8, 2) := by decide +kernel
theorem dX3_asked_167 : decode cX3_asked 167 = .ok (.iload_n 3, 1) := by decide +kernel
theorem dX3_asked_168 : decode cX3_asked 168 = .ok (.ifCond .eq 26, 3) := by decide +kernel
theorem dX3_asked_171 : decode cX3_asked 171 = .ok (.aload_n 0, 1) := by decide +kernel
theorem dX3_asked_172 : decode cX3_asked 172 = .ok (.getfield 17, 3) := by decide +kernel
theorem dX3_asked_175 : decode cX3_asked 175 = .ok (.aload_n 0, 1) := by decide +kernel
theorem dX3_asked_176 : decode cX3_asked 176 = .ok (.getfield 21, 3) := by decide +kernel
theorem dX3_asked_179 : decode cX3_asked 179 = .ok (.getfield 94, 3) := by decide +kernel
theorem dX3_asked_182 : decode cX3_asked 182 = .ok (.iload_n 1, 1) := by decide +kernel
theorem dX3_asked_183 : decode cX3_asked 183 = .ok (.iaload, 1) := by decide +kernel
theorem dX3_asked_184 : decode cX3_asked 184 = .ok (.invokevirtual 100, 3) := by decide +kernel
theorem dX3_asked_187 : decode cX3_asked 187 = .ok (.ifCond .eq 7, 3) := by decide +kernel
theorem dX3_asked_190 : decode cX3_asked 190 = .ok (.iconst 1, 1) := by decide +kernel
theorem dX3_asked_191 : decode cX3_asked 191 = .ok (.goto 4, 3) := by decide +kernel
theorem dX3_asked_194 : decode cX3_asked 194 = .ok (.iconst 0, 1) := by decide +kernel
theorem dX3_asked_195 : decode cX3_asked 195 = .ok (.iastore, 1) := by decide +kernel
theorem dX3_asked_196 : decode cX3_asked 196 = .ok (.iload_n 2, 1) := by decide +kernel
theorem dX3_asked_197 : decode cX3_asked 197 = .ok (.tableswitch 112 0 2 #[27, 60, 90], 27) := by decide +kernel
theorem dX3_asked_224 : decode cX3_asked 224 = .ok (.aload_n 0, 1) := by decide +kernel
theorem dX3_asked_225 : decode cX3_asked 225 = .ok (.getfield 17, 3) := by decide +kernel
theorem dX3_asked_228 : decode cX3_asked 228 = .ok (.getfield 103, 3) := by decide +kernel
theorem dX3_asked_231 : decode cX3_asked 231 = .ok (.iconst 0, 1) := by decide +kernel
theorem dX3_asked_232 : decode cX3_asked 232 = .ok (.aload_n 0, 1) := by decide +kernel
theorem dX3_asked_233 : decode cX3_asked 233 = .ok (.getfield 11, 3) := by decide +kernel
theorem dX3_asked_236 : decode cX3_asked 236 = .ok (.aload_n 0, 1) := by decide +kernel
theorem dX3_asked_237 : decode cX3_asked 237 = .ok (.getfield 17, 3) := by decide +kernel
theorem dX3_asked_240 : decode cX3_asked 240 = .ok (.getfield 76, 3) := by decide +kernel
theorem dX3_asked_243 : decode cX3_asked 243 = .ok (.iload_n 1, 1) := by decide +kernel
theorem dX3_asked_244 : decode cX3_asked 244 = .ok (.iaload, 1) := by decide +kernel
theorem dX3_asked_245 : decode cX3_asked 245 = .ok (.bipush 59, 2) := by decide +kernel
theorem dX3_asked_247 : decode cX3_asked 247 = .ok (.isub, 1) := by decide +kernel
theorem dX3_asked_248 : decode cX3_asked 248 = .ok (.invokevirtual 107, 3) := by decide +kernel
theorem dX3_asked_251 : decode cX3_asked 251 = .ok (.bipush 120, 2) := by decide +kernel
theorem dX3_asked_253 : decode cX3_asked 253 = .ok (.invokestatic 111, 3) := by decide +kernel
theorem dX3_asked_256 : decode cX3_asked 256 = .ok (.ireturn, 1) := by decide +kernel
theorem dX3_asked_257 : decode cX3_asked 257 = .ok (.aload_n 0, 1) := by decide +kernel
theorem dX3_asked_258 : decode cX3_asked 258 = .ok (.getfield 17, 3) := by decide +kernel
theorem dX3_asked_261 : decode cX3_asked 261 = .ok (.getfield 103, 3) := by decide +kernel
theorem dX3_asked_264 : decode cX3_asked 264 = .ok (.iconst 1, 1) := by decide +kernel
theorem dX3_asked_265 : decode cX3_asked 265 = .ok (.aload_n 0, 1) := by decide +kernel
theorem dX3_asked_266 : decode cX3_asked 266 = .ok (.getfield 11, 3) := by decide +kernel
theorem dX3_asked_269 : decode cX3_asked 269 = .ok (.aload_n 0, 1) := by decide +kernel
theorem dX3_asked_270 : decode cX3_asked 270 = .ok (.getfield 17, 3) := by decide +kernel
theorem dX3_asked_273 : decode cX3_asked 273 = .ok (.getfield 79, 3) := by decide +kernel
theorem dX3_asked_276 : decode cX3_asked 276 = .ok (.iload_n 1, 1) := by decide +kernel
theorem dX3_asked_277 : decode cX3_asked 277 = .ok (.iaload, 1) := by decide +kernel
theorem dX3_asked_278 : decode cX3_asked 278 = .ok (.invokevirtual 107, 3) := by decide +kernel
theorem dX3_asked_281 : decode cX3_asked 281 = .ok (.bipush 9, 2) := by decide +kernel
theorem dX3_asked_283 : decode cX3_asked 283 = .ok (.invokestatic 111, 3) := by decide +kernel
theorem dX3_asked_286 : decode cX3_asked 286 = .ok (.ireturn, 1) := by decide +kernel
theorem dX3_asked_287 : decode cX3_asked 287 = .ok (.aload_n 0, 1) := by decide +kernel
theorem dX3_asked_288 : decode cX3_asked 288 = .ok (.getfield 17, 3) := by decide +kernel
theorem dX3_asked_291 : decode cX3_asked 291 = .ok (.getfield 103, 3) := by decide +kernel
theorem dX3_asked_294 : decode cX3_asked 294 = .ok (.iconst 2, 1) := by decide +kernel
theorem dX3_asked_295 : decode cX3_asked 295 = .ok (.aload_n 0, 1) := by decide +kernel
theorem dX3_asked_296 : decode cX3_asked 296 = .ok (.getfield 11, 3) := by decide +kernel
theorem dX3_asked_299 : decode cX3_asked 299 = .ok (.iconst 0, 1) := by decide +kernel
theorem dX3_asked_300 : decode cX3_asked 300 = .ok (.invokevirtual 107, 3) := by decide +kernel
theorem dX3_asked_303 : decode cX3_asked 303 = .ok (.bipush 99, 2) := by decide +kernel
theorem dX3_asked_305 : decode cX3_asked 305 = .ok (.invokestatic 111, 3) := by decide +kernel
theorem dX3_asked_308 : decode cX3_asked 308 = .ok (.ireturn, 1) := by decide +kernel
theorem dX3_asked_309 : decode cX3_asked 309 = .ok (.aload_n 0, 1) := by decide +kernel
theorem dX3_asked_310 : decode cX3_asked 310 = .ok (.getfield 17, 3) := by decide +kernel
theorem dX3_asked_313 : decode cX3_asked 313 = .ok (.getfield 103, 3) := by decide +kernel
theorem dX3_asked_316 : decode cX3_asked 316 = .ok (.iconst 3, 1) := by decide +kernel
theorem dX3_asked_317 : decode cX3_asked 317 = .ok (.aload_n 0, 1) := by decide +kernel
theorem dX3_asked_318 : decode cX3_asked 318 = .ok (.getfield 11, 3) := by decide +kernel
theorem dX3_asked_321 : decode cX3_asked 321 = .ok (.bipush 50, 2) := by decide +kernel
theorem dX3_asked_323 : decode cX3_asked 323 = .ok (.invokevirtual 107, 3) := by decide +kernel
theorem dX3_asked_326 : decode cX3_asked 326 = .ok (.sipush 1000, 3) := by decide +kernel
theorem dX3_asked_329 : decode cX3_asked 329 = .ok (.invokestatic 111, 3) := by decide +kernel
theorem dX3_asked_332 : decode cX3_asked 332 = .ok (.ireturn, 1) := by decide +kernel
theorem dX3_beat_0 : decode cX3_beat 0 = .ok (.iconst 0, 1) := by decide +kernel
theorem dX3_beat_1 : decode cX3_beat 1 = .ok (.istore_n 3, 1) := by decide +kernel
theorem dX3_beat_2 : decode cX3_beat 2 = .ok (.iload_n 3, 1) := by decide +kernel
theorem dX3_beat_3 : decode cX3_beat 3 = .ok (.bipush 12, 2) := by decide +kernel
theorem dX3_beat_5 : decode cX3_beat 5 = .ok (.if_icmp .ge 103, 3) := by decide +kernel
theorem dX3_beat_8 : decode cX3_beat 8 = .ok (.iload_n 3, 1) := by decide +kernel
theorem dX3_beat_9 : decode cX3_beat 9 = .ok (.aload_n 0, 1) := by decide +kernel
theorem dX3_beat_10 : decode cX3_beat 10 = .ok (.getfield 17, 3) := by decide +kernel
theorem dX3_beat_13 : decode cX3_beat 13 = .ok (.getfield 123, 3) := by decide +kernel
theorem dX3_beat_16 : decode cX3_beat 16 = .ok (.if_icmp .ge 92, 3) := by decide +kernel
theorem dX3_beat_19 : decode cX3_beat 19 = .ok (.aload_n 0, 1) := by decide +kernel
theorem dX3_beat_20 : decode cX3_beat 20 = .ok (.iload_n 3, 1) := by decide +kernel
theorem dX3_beat_21 : decode cX3_beat 21 = .ok (.iload_n 2, 1) := by decide +kernel
theorem dX3_beat_22 : decode cX3_beat 22 = .ok (.invokevirtual 189, 3) := by decide +kernel
theorem dX3_beat_25 : decode cX3_beat 25 = .ok (.ifCond .ne 6, 3) := by decide +kernel
theorem dX3_beat_28 : decode cX3_beat 28 = .ok (.goto 74, 3) := by decide +kernel
theorem dX3_beat_31 : decode cX3_beat 31 = .ok (.aload_n 0, 1) := by decide +kernel
theorem dX3_beat_32 : decode cX3_beat 32 = .ok (.getfield 17, 3) := by decide +kernel
theorem dX3_beat_35 : decode cX3_beat 35 = .ok (.getfield 73, 3) := by decide +kernel
theorem dX3_beat_38 : decode cX3_beat 38 = .ok (.iload_n 3, 1) := by decide +kernel
theorem dX3_beat_39 : decode cX3_beat 39 = .ok (.iaload, 1) := by decide +kernel
theorem dX3_beat_40 : decode cX3_beat 40 = .ok (.iload_n 1, 1) := by decide +kernel
theorem dX3_beat_41 : decode cX3_beat 41 = .ok (.if_icmp .eq 31, 3) := by decide +kernel
theorem dX3_beat_44 : decode cX3_beat 44 = .ok (.aload_n 0, 1) := by decide +kernel
theorem dX3_beat_45 : decode cX3_beat 45 = .ok (.getfield 21, 3) := by decide +kernel
theorem dX3_beat_48 : decode cX3_beat 48 = .ok (.getfield 82, 3) := by decide +kernel
theorem dX3_beat_51 : decode cX3_beat 51 = .ok (.iload_n 3, 1) := by decide +kernel
theorem dX3_beat_52 : decode cX3_beat 52 = .ok (.iconst 0, 1) := by decide +kernel
theorem dX3_beat_53 : decode cX3_beat 53 = .ok (.aload_n 0, 1) := by decide +kernel
theorem dX3_beat_54 : decode cX3_beat 54 = .ok (.getfield 21, 3) := by decide +kernel
theorem dX3_beat_57 : decode cX3_beat 57 = .ok (.getfield 82, 3) := by decide +kernel
theorem dX3_beat_60 : decode cX3_beat 60 = .ok (.iload_n 3, 1) := by decide +kernel
theorem dX3_beat_61 : decode cX3_beat 61 = .ok (.iaload, 1) := by decide +kernel
theorem dX3_beat_62 : decode cX3_beat 62 = .ok (.bipush 10, 2) := by decide +kernel
theorem dX3_beat_64 : decode cX3_beat 64 = .ok (.isub, 1) := by decide +kernel
theorem dX3_beat_65 : decode cX3_beat 65 = .ok (.invokestatic 120, 3) := by decide +kernel
theorem dX3_beat_68 : decode cX3_beat 68 = .ok (.iastore, 1) := by decide +kernel
theorem dX3_beat_69 : decode cX3_beat 69 = .ok (.goto 33, 3) := by decide +kernel
theorem dX3_beat_72 : decode cX3_beat 72 = .ok (.aload_n 0, 1) := by decide +kernel
theorem dX3_beat_73 : decode cX3_beat 73 = .ok (.getfield 21, 3) := by decide +kernel
theorem dX3_beat_76 : decode cX3_beat 76 = .ok (.getfield 70, 3) := by decide +kernel
theorem dX3_beat_79 : decode cX3_beat 79 = .ok (.iload_n 3, 1) := by decide +kernel
theorem dX3_beat_80 : decode cX3_beat 80 = .ok (.iconst 0, 1) := by decide +kernel
theorem dX3_beat_81 : decode cX3_beat 81 = .ok (.iastore, 1) := by decide +kernel
theorem dX3_beat_82 : decode cX3_beat 82 = .ok (.aload_n 0, 1) := by decide +kernel
theorem dX3_beat_83 : decode cX3_beat 83 = .ok (.getfield 21, 3) := by decide +kernel
theorem dX3_beat_86 : decode cX3_beat 86 = .ok (.getfield 82, 3) := by decide +kernel
theorem dX3_beat_89 : decode cX3_beat 89 = .ok (.iload_n 3, 1) := by decide +kernel
theorem dX3_beat_90 : decode cX3_beat 90 = .ok (.dup2, 1) := by decide +kernel
theorem dX3_beat_91 : decode cX3_beat 91 = .ok (.iaload, 1) := by decide +kernel
theorem dX3_beat_92 : decode cX3_beat 92 = .ok (.iconst 2, 1) := by decide +kernel
theorem dX3_beat_93 : decode cX3_beat 93 = .ok (.idiv, 1) := by decide +kernel
theorem dX3_beat_94 : decode cX3_beat 94 = .ok (.iastore, 1) := by decide +kernel
theorem dX3_beat_95 : decode cX3_beat 95 = .ok (.aload_n 0, 1) := by decide +kernel
theorem dX3_beat_96 : decode cX3_beat 96 = .ok (.iconst 2, 1) := by decide +kernel
theorem dX3_beat_97 : decode cX3_beat 97 = .ok (.iload_n 3, 1) := by decide +kernel
theorem dX3_beat_98 : decode cX3_beat 98 = .ok (.iload_n 2, 1) := by decide +kernel
theorem dX3_beat_99 : decode cX3_beat 99 = .ok (.invokevirtual 153, 3) := by decide +kernel
theorem dX3_beat_102 : decode cX3_beat 102 = .ok (.iinc 3 1, 3) := by decide +kernel
theorem dX3_beat_105 : decode cX3_beat 105 = .ok (.goto (-103), 3) := by decide +kernel
theorem dX3_beat_108 : decode cX3_beat 108 = .ok (.return_, 1) := by decide +kernel
theorem dX3_breathAt_0 : decode cX3_breathAt 0 = .ok (.iconst 0, 1) := by decide +kernel
theorem dX3_breathAt_1 : decode cX3_breathAt 1 = .ok (.istore_n 3, 1) := by decide +kernel
theorem dX3_breathAt_2 : decode cX3_breathAt 2 = .ok (.iconst 0, 1) := by decide +kernel
theorem dX3_breathAt_3 : decode cX3_breathAt 3 = .ok (.istore 4, 2) := by decide +kernel
theorem dX3_breathAt_5 : decode cX3_breathAt 5 = .ok (.iload 4, 2) := by decide +kernel
theorem dX3_breathAt_7 : decode cX3_breathAt 7 = .ok (.bipush 12, 2) := by decide +kernel
theorem dX3_breathAt_9 : decode cX3_breathAt 9 = .ok (.if_icmp .ge 62, 3) := by decide +kernel
theorem dX3_breathAt_12 : decode cX3_breathAt 12 = .ok (.iload 4, 2) := by decide +kernel
theorem dX3_breathAt_14 : decode cX3_breathAt 14 = .ok (.aload_n 0, 1) := by decide +kernel
theorem dX3_breathAt_15 : decode cX3_breathAt 15 = .ok (.getfield 17, 3) := by decide +kernel
theorem dX3_breathAt_18 : decode cX3_breathAt 18 = .ok (.getfield 123, 3) := by decide +kernel
theorem dX3_breathAt_21 : decode cX3_breathAt 21 = .ok (.if_icmp .ge 50, 3) := by decide +kernel
theorem dX3_breathAt_24 : decode cX3_breathAt 24 = .ok (.iload_n 3, 1) := by decide +kernel
theorem dX3_breathAt_25 : decode cX3_breathAt 25 = .ok (.aload_n 0, 1) := by decide +kernel
theorem dX3_breathAt_26 : decode cX3_breathAt 26 = .ok (.getfield 17, 3) := by decide +kernel
theorem dX3_breathAt_29 : decode cX3_breathAt 29 = .ok (.getfield 73, 3) := by decide +kernel
theorem dX3_breathAt_32 : decode cX3_breathAt 32 = .ok (.iload 4, 2) := by decide +kernel
theorem dX3_breathAt_34 : decode cX3_breathAt 34 = .ok (.iaload, 1) := by decide +kernel
theorem dX3_breathAt_35 : decode cX3_breathAt 35 = .ok (.iload_n 1, 1) := by decide +kernel
theorem dX3_breathAt_36 : decode cX3_breathAt 36 = .ok (.if_icmp .ne 26, 3) := by decide +kernel
theorem dX3_breathAt_39 : decode cX3_breathAt 39 = .ok (.aload_n 0, 1) := by decide +kernel
theorem dX3_breathAt_40 : decode cX3_breathAt 40 = .ok (.iload 4, 2) := by decide +kernel
theorem dX3_breathAt_42 : decode cX3_breathAt 42 = .ok (.iload_n 2, 1) := by decide +kernel
theorem dX3_breathAt_43 : decode cX3_breathAt 43 = .ok (.invokevirtual 189, 3) := by decide +kernel
theorem dX3_breathAt_46 : decode cX3_breathAt 46 = .ok (.ifCond .eq 16, 3) := by decide +kernel
theorem dX3_breathAt_49 : decode cX3_breathAt 49 = .ok (.aload_n 0, 1) := by decide +kernel
theorem dX3_breathAt_50 : decode cX3_breathAt 50 = .ok (.getfield 21, 3) := by decide +kernel
theorem dX3_breathAt_53 : decode cX3_breathAt 53 = .ok (.getfield 82, 3) := by decide +kernel
theorem dX3_breathAt_56 : decode cX3_breathAt 56 = .ok (.iload 4, 2) := by decide +kernel
theorem dX3_breathAt_58 : decode cX3_breathAt 58 = .ok (.iaload, 1) := by decide +kernel
theorem dX3_breathAt_59 : decode cX3_breathAt 59 = .ok (.goto 4, 3) := by decide +kernel
theorem dX3_breathAt_62 : decode cX3_breathAt 62 = .ok (.iconst 0, 1) := by decide +kernel
theorem dX3_breathAt_63 : decode cX3_breathAt 63 = .ok (.iadd, 1) := by decide +kernel
theorem dX3_breathAt_64 : decode cX3_breathAt 64 = .ok (.istore_n 3, 1) := by decide +kernel
theorem dX3_breathAt_65 : decode cX3_breathAt 65 = .ok (.iinc 4 1, 3) := by decide +kernel
theorem dX3_breathAt_68 : decode cX3_breathAt 68 = .ok (.goto (-63), 3) := by decide +kernel
theorem dX3_breathAt_71 : decode cX3_breathAt 71 = .ok (.iload_n 3, 1) := by decide +kernel
theorem dX3_breathAt_72 : decode cX3_breathAt 72 = .ok (.ireturn, 1) := by decide +kernel
theorem dX3_callUp_0 : decode cX3_callUp 0 = .ok (.iload_n 1, 1) := by decide +kernel
theorem dX3_callUp_1 : decode cX3_callUp 1 = .ok (.invokestatic 135, 3) := by decide +kernel
theorem dX3_callUp_4 : decode cX3_callUp 4 = .ok (.ifCond .eq 20, 3) := by decide +kernel
theorem dX3_callUp_7 : decode cX3_callUp 7 = .ok (.aload_n 0, 1) := by decide +kernel
theorem dX3_callUp_8 : decode cX3_callUp 8 = .ok (.iload_n 1, 1) := by decide +kernel
theorem dX3_callUp_9 : decode cX3_callUp 9 = .ok (.invokevirtual 138, 3) := by decide +kernel
theorem dX3_callUp_12 : decode cX3_callUp 12 = .ok (.aload_n 0, 1) := by decide +kernel
theorem dX3_callUp_13 : decode cX3_callUp 13 = .ok (.getfield 17, 3) := by decide +kernel
theorem dX3_callUp_16 : decode cX3_callUp 16 = .ok (.getfield 141, 3) := by decide +kernel
theorem dX3_callUp_19 : decode cX3_callUp 19 = .ok (.iload_n 1, 1) := by decide +kernel
theorem dX3_callUp_20 : decode cX3_callUp 20 = .ok (.iaload, 1) := by decide +kernel
theorem dX3_callUp_21 : decode cX3_callUp 21 = .ok (.if_icmp .lt 4, 3) := by decide +kernel
theorem dX3_callUp_24 : decode cX3_callUp 24 = .ok (.return_, 1) := by decide +kernel
theorem dX3_callUp_25 : decode cX3_callUp 25 = .ok (.iconst (-1), 1) := by decide +kernel
theorem dX3_callUp_26 : decode cX3_callUp 26 = .ok (.istore_n 2, 1) := by decide +kernel
theorem dX3_callUp_27 : decode cX3_callUp 27 = .ok (.iconst 0, 1) := by decide +kernel
theorem dX3_callUp_28 : decode cX3_callUp 28 = .ok (.istore_n 3, 1) := by decide +kernel
theorem dX3_callUp_29 : decode cX3_callUp 29 = .ok (.iconst 0, 1) := by decide +kernel
theorem dX3_callUp_30 : decode cX3_callUp 30 = .ok (.istore 4, 2) := by decide +kernel
theorem dX3_callUp_32 : decode cX3_callUp 32 = .ok (.iload 4, 2) := by decide +kernel
theorem dX3_callUp_34 : decode cX3_callUp 34 = .ok (.bipush 12, 2) := by decide +kernel
theorem dX3_callUp_36 : decode cX3_callUp 36 = .ok (.if_icmp .ge 139, 3) := by decide +kernel
theorem dX3_callUp_39 : decode cX3_callUp 39 = .ok (.iload 4, 2) := by decide +kernel
theorem dX3_callUp_41 : decode cX3_callUp 41 = .ok (.aload_n 0, 1) := by decide +kernel
theorem dX3_callUp_42 : decode cX3_callUp 42 = .ok (.getfield 17, 3) := by decide +kernel
theorem dX3_callUp_45 : decode cX3_callUp 45 = .ok (.getfield 123, 3) := by decide +kernel
theorem dX3_callUp_48 : decode cX3_callUp 48 = .ok (.if_icmp .ge 127, 3) := by decide +kernel
theorem dX3_callUp_51 : decode cX3_callUp 51 = .ok (.aload_n 0, 1) := by decide +kernel
theorem dX3_callUp_52 : decode cX3_callUp 52 = .ok (.getfield 17, 3) := by decide +kernel
theorem dX3_callUp_55 : decode cX3_callUp 55 = .ok (.getfield 73, 3) := by decide +kernel
theorem dX3_callUp_58 : decode cX3_callUp 58 = .ok (.iload 4, 2) := by decide +kernel
theorem dX3_callUp_60 : decode cX3_callUp 60 = .ok (.iaload, 1) := by decide +kernel
theorem dX3_callUp_61 : decode cX3_callUp 61 = .ok (.iload_n 1, 1) := by decide +kernel
theorem dX3_callUp_62 : decode cX3_callUp 62 = .ok (.if_icmp .ne 107, 3) := by decide +kernel
theorem dX3_callUp_65 : decode cX3_callUp 65 = .ok (.aload_n 0, 1) := by decide +kernel
theorem dX3_callUp_66 : decode cX3_callUp 66 = .ok (.getfield 21, 3) := by decide +kernel
theorem dX3_callUp_69 : decode cX3_callUp 69 = .ok (.getfield 70, 3) := by decide +kernel
theorem dX3_callUp_72 : decode cX3_callUp 72 = .ok (.iload 4, 2) := by decide +kernel
theorem dX3_callUp_74 : decode cX3_callUp 74 = .ok (.iaload, 1) := by decide +kernel
theorem dX3_callUp_75 : decode cX3_callUp 75 = .ok (.ifCond .ne 94, 3) := by decide +kernel
theorem dX3_callUp_78 : decode cX3_callUp 78 = .ok (.aload_n 0, 1) := by decide +kernel
theorem dX3_callUp_79 : decode cX3_callUp 79 = .ok (.getfield 17, 3) := by decide +kernel
theorem dX3_callUp_82 : decode cX3_callUp 82 = .ok (.getfield 76, 3) := by decide +kernel
theorem dX3_callUp_85 : decode cX3_callUp 85 = .ok (.iload 4, 2) := by decide +kernel
theorem dX3_callUp_87 : decode cX3_callUp 87 = .ok (.iaload, 1) := by decide +kernel
theorem dX3_callUp_88 : decode cX3_callUp 88 = .ok (.aload_n 0, 1) := by decide +kernel
theorem dX3_callUp_89 : decode cX3_callUp 89 = .ok (.getfield 144, 3) := by decide +kernel
theorem dX3_callUp_92 : decode cX3_callUp 92 = .ok (.if_icmp .ge 6, 3) := by decide +kernel
theorem dX3_callUp_95 : decode cX3_callUp 95 = .ok (.goto 74, 3) := by decide +kernel
theorem dX3_callUp_98 : decode cX3_callUp 98 = .ok (.aload_n 0, 1) := by decide +kernel
theorem dX3_callUp_99 : decode cX3_callUp 99 = .ok (.iload 4, 2) := by decide +kernel
theorem dX3_callUp_101 : decode cX3_callUp 101 = .ok (.iconst 0, 1) := by decide +kernel
theorem dX3_callUp_102 : decode cX3_callUp 102 = .ok (.invokevirtual 147, 3) := by decide +kernel
theorem dX3_callUp_105 : decode cX3_callUp 105 = .ok (.istore 5, 2) := by decide +kernel
theorem dX3_callUp_107 : decode cX3_callUp 107 = .ok (.iload_n 2, 1) := by decide +kernel
theorem dX3_callUp_108 : decode cX3_callUp 108 = .ok (.iconst (-1), 1) := by decide +kernel
theorem dX3_callUp_109 : decode cX3_callUp 109 = .ok (.if_icmp .eq 29, 3) := by decide +kernel
theorem dX3_callUp_112 : decode cX3_callUp 112 = .ok (.aload_n 0, 1) := by decide +kernel
theorem dX3_callUp_113 : decode cX3_callUp 113 = .ok (.getfield 17, 3) := by decide +kernel
theorem dX3_callUp_116 : decode cX3_callUp 116 = .ok (.getfield 76, 3) := by decide +kernel
theorem dX3_callUp_119 : decode cX3_callUp 119 = .ok (.iload 4, 2) := by decide +kernel
theorem dX3_callUp_121 : decode cX3_callUp 121 = .ok (.iaload, 1) := by decide +kernel
theorem dX3_callUp_122 : decode cX3_callUp 122 = .ok (.aload_n 0, 1) := by decide +kernel
theorem dX3_callUp_123 : decode cX3_callUp 123 = .ok (.getfield 17, 3) := by decide +kernel
theorem dX3_callUp_126 : decode cX3_callUp 126 = .ok (.getfield 76, 3) := by decide +kernel
theorem dX3_callUp_129 : decode cX3_callUp 129 = .ok (.iload_n 2, 1) := by decide +kernel
theorem dX3_callUp_130 : decode cX3_callUp 130 = .ok (.iaload, 1) := by decide +kernel
theorem dX3_callUp_131 : decode cX3_callUp 131 = .ok (.if_icmp .le 7, 3) := by decide +kernel
theorem dX3_callUp_134 : decode cX3_callUp 134 = .ok (.iconst 1, 1) := by decide +kernel
theorem dX3_callUp_135 : decode cX3_callUp 135 = .ok (.goto 4, 3) := by decide +kernel
theorem dX3_callUp_138 : decode cX3_callUp 138 = .ok (.iconst 0, 1) := by decide +kernel
theorem dX3_callUp_139 : decode cX3_callUp 139 = .ok (.istore 6, 2) := by decide +kernel
theorem dX3_callUp_141 : decode cX3_callUp 141 = .ok (.iload 5, 2) := by decide +kernel
theorem dX3_callUp_143 : decode cX3_callUp 143 = .ok (.iload_n 3, 1) := by decide +kernel
theorem dX3_callUp_144 : decode cX3_callUp 144 = .ok (.if_icmp .gt 19, 3) := by decide +kernel
theorem dX3_callUp_147 : decode cX3_callUp 147 = .ok (.iload_n 2, 1) := by decide +kernel
theorem dX3_callUp_148 : decode cX3_callUp 148 = .ok (.iconst (-1), 1) := by decide +kernel
theorem dX3_callUp_149 : decode cX3_callUp 149 = .ok (.if_icmp .eq 20, 3) := by decide +kernel
theorem dX3_callUp_152 : decode cX3_callUp 152 = .ok (.iload 5, 2) := by decide +kernel
theorem dX3_callUp_154 : decode cX3_callUp 154 = .ok (.iload_n 3, 1) := by decide +kernel
theorem dX3_callUp_155 : decode cX3_callUp 155 = .ok (.if_icmp .ne 14, 3) := by decide +kernel
theorem dX3_callUp_158 : decode cX3_callUp 158 = .ok (.iload 6, 2) := by decide +kernel
theorem dX3_callUp_160 : decode cX3_callUp 160 = .ok (.ifCond .eq 9, 3) := by decide +kernel
theorem dX3_callUp_163 : decode cX3_callUp 163 = .ok (.iload 4, 2) := by decide +kernel
theorem dX3_callUp_165 : decode cX3_callUp 165 = .ok (.istore_n 2, 1) := by decide +kernel
theorem dX3_callUp_166 : decode cX3_callUp 166 = .ok (.iload 5, 2) := by decide +kernel
theorem dX3_callUp_168 : decode cX3_callUp 168 = .ok (.istore_n 3, 1) := by decide +kernel
theorem dX3_callUp_169 : decode cX3_callUp 169 = .ok (.iinc 4 1, 3) := by decide +kernel
theorem dX3_callUp_172 : decode cX3_callUp 172 = .ok (.goto (-140), 3) := by decide +kernel
theorem dX3_callUp_175 : decode cX3_callUp 175 = .ok (.iload_n 2, 1) := by decide +kernel
theorem dX3_callUp_176 : decode cX3_callUp 176 = .ok (.iconst (-1), 1) := by decide +kernel
theorem dX3_callUp_177 : decode cX3_callUp 177 = .ok (.if_icmp .eq 36, 3) := by decide +kernel
theorem dX3_callUp_180 : decode cX3_callUp 180 = .ok (.aload_n 0, 1) := by decide +kernel
theorem dX3_callUp_181 : decode cX3_callUp 181 = .ok (.getfield 21, 3) := by decide +kernel
theorem dX3_callUp_184 : decode cX3_callUp 184 = .ok (.getfield 70, 3) := by decide +kernel
theorem dX3_callUp_187 : decode cX3_callUp 187 = .ok (.iload_n 2, 1) := by decide +kernel
theorem dX3_callUp_188 : decode cX3_callUp 188 = .ok (.iconst 1, 1) := by decide +kernel
theorem dX3_callUp_189 : decode cX3_callUp 189 = .ok (.iastore, 1) := by decide +kernel
theorem dX3_callUp_190 : decode cX3_callUp 190 = .ok (.aload_n 0, 1) := by decide +kernel
theorem dX3_callUp_191 : decode cX3_callUp 191 = .ok (.getfield 21, 3) := by decide +kernel
theorem dX3_callUp_194 : decode cX3_callUp 194 = .ok (.getfield 94, 3) := by decide +kernel
theorem dX3_callUp_197 : decode cX3_callUp 197 = .ok (.iload_n 2, 1) := by decide +kernel
theorem dX3_callUp_198 : decode cX3_callUp 198 = .ok (.iload_n 1, 1) := by decide +kernel
theorem dX3_callUp_199 : decode cX3_callUp 199 = .ok (.invokestatic 150, 3) := by decide +kernel
theorem dX3_callUp_202 : decode cX3_callUp 202 = .ok (.iastore, 1) := by decide +kernel
theorem dX3_callUp_203 : decode cX3_callUp 203 = .ok (.aload_n 0, 1) := by decide +kernel
theorem dX3_callUp_204 : decode cX3_callUp 204 = .ok (.iconst 0, 1) := by decide +kernel
theorem dX3_callUp_205 : decode cX3_callUp 205 = .ok (.iload_n 2, 1) := by decide +kernel
theorem dX3_callUp_206 : decode cX3_callUp 206 = .ok (.iload_n 1, 1) := by decide +kernel
theorem dX3_callUp_207 : decode cX3_callUp 207 = .ok (.invokestatic 150, 3) := by decide +kernel
theorem dX3_callUp_210 : decode cX3_callUp 210 = .ok (.invokevirtual 153, 3) := by decide +kernel
theorem dX3_callUp_213 : decode cX3_callUp 213 = .ok (.return_, 1) := by decide +kernel
theorem dX3_catchYoungest_0 : decode cX3_catchYoungest 0 = .ok (.iconst (-1), 1) := by decide +kernel
theorem dX3_catchYoungest_1 : decode cX3_catchYoungest 1 = .ok (.istore_n 3, 1) := by decide +kernel
theorem dX3_catchYoungest_2 : decode cX3_catchYoungest 2 = .ok (.iconst 0, 1) := by decide +kernel
theorem dX3_catchYoungest_3 : decode cX3_catchYoungest 3 = .ok (.istore 4, 2) := by decide +kernel
theorem dX3_catchYoungest_5 : decode cX3_catchYoungest 5 = .ok (.iload 4, 2) := by decide +kernel
theorem dX3_catchYoungest_7 : decode cX3_catchYoungest 7 = .ok (.bipush 12, 2) := by decide +kernel
theorem dX3_catchYoungest_9 : decode cX3_catchYoungest 9 = .ok (.if_icmp .ge 87, 3) := by decide +kernel
theorem dX3_catchYoungest_12 : decode cX3_catchYoungest 12 = .ok (.iload 4, 2) := by decide +kernel
theorem dX3_catchYoungest_14 : decode cX3_catchYoungest 14 = .ok (.aload_n 0, 1) := by decide +kernel
theorem dX3_catchYoungest_15 : decode cX3_catchYoungest 15 = .ok (.getfield 17, 3) := by decide +kernel
theorem dX3_catchYoungest_18 : decode cX3_catchYoungest 18 = .ok (.getfield 123, 3) := by decide +kernel
theorem dX3_catchYoungest_21 : decode cX3_catchYoungest 21 = .ok (.if_icmp .ge 75, 3) := by decide +kernel
theorem dX3_catchYoungest_24 : decode cX3_catchYoungest 24 = .ok (.aload_n 0, 1) := by decide +kernel
theorem dX3_catchYoungest_25 : decode cX3_catchYoungest 25 = .ok (.getfield 17, 3) := by decide +kernel
theorem dX3_catchYoungest_28 : decode cX3_catchYoungest 28 = .ok (.getfield 73, 3) := by decide +kernel
theorem dX3_catchYoungest_31 : decode cX3_catchYoungest 31 = .ok (.iload 4, 2) := by decide +kernel
theorem dX3_catchYoungest_33 : decode cX3_catchYoungest 33 = .ok (.iaload, 1) := by decide +kernel
theorem dX3_catchYoungest_34 : decode cX3_catchYoungest 34 = .ok (.iload_n 1, 1) := by decide +kernel
theorem dX3_catchYoungest_35 : decode cX3_catchYoungest 35 = .ok (.if_icmp .ne 17, 3) := by decide +kernel
theorem dX3_catchYoungest_38 : decode cX3_catchYoungest 38 = .ok (.aload_n 0, 1) := by decide +kernel
theorem dX3_catchYoungest_39 : decode cX3_catchYoungest 39 = .ok (.iload 4, 2) := by decide +kernel
theorem dX3_catchYoungest_41 : decode cX3_catchYoungest 41 = .ok (.iload_n 2, 1) := by decide +kernel
theorem dX3_catchYoungest_42 : decode cX3_catchYoungest 42 = .ok (.invokevirtual 189, 3) := by decide +kernel
theorem dX3_catchYoungest_45 : decode cX3_catchYoungest 45 = .ok (.ifCond .eq 7, 3) := by decide +kernel
theorem dX3_catchYoungest_48 : decode cX3_catchYoungest 48 = .ok (.iconst 1, 1) := by decide +kernel
theorem dX3_catchYoungest_49 : decode cX3_catchYoungest 49 = .ok (.goto 4, 3) := by decide +kernel
theorem dX3_catchYoungest_52 : decode cX3_catchYoungest 52 = .ok (.iconst 0, 1) := by decide +kernel
theorem dX3_catchYoungest_53 : decode cX3_catchYoungest 53 = .ok (.istore 5, 2) := by decide +kernel
theorem dX3_catchYoungest_55 : decode cX3_catchYoungest 55 = .ok (.iload 5, 2) := by decide +kernel
theorem dX3_catchYoungest_57 : decode cX3_catchYoungest 57 = .ok (.ifCond .eq 33, 3) := by decide +kernel
theorem dX3_catchYoungest_60 : decode cX3_catchYoungest 60 = .ok (.iload_n 3, 1) := by decide +kernel
theorem dX3_catchYoungest_61 : decode cX3_catchYoungest 61 = .ok (.iconst (-1), 1) := by decide +kernel
theorem dX3_catchYoungest_62 : decode cX3_catchYoungest 62 = .ok (.if_icmp .eq 25, 3) := by decide +kernel
theorem dX3_catchYoungest_65 : decode cX3_catchYoungest 65 = .ok (.aload_n 0, 1) := by decide +kernel
theorem dX3_catchYoungest_66 : decode cX3_catchYoungest 66 = .ok (.getfield 17, 3) := by decide +kernel
theorem dX3_catchYoungest_69 : decode cX3_catchYoungest 69 = .ok (.getfield 76, 3) := by decide +kernel
theorem dX3_catchYoungest_72 : decode cX3_catchYoungest 72 = .ok (.iload 4, 2) := by decide +kernel
theorem dX3_catchYoungest_74 : decode cX3_catchYoungest 74 = .ok (.iaload, 1) := by decide +kernel
theorem dX3_catchYoungest_75 : decode cX3_catchYoungest 75 = .ok (.aload_n 0, 1) := by decide +kernel
theorem dX3_catchYoungest_76 : decode cX3_catchYoungest 76 = .ok (.getfield 17, 3) := by decide +kernel
theorem dX3_catchYoungest_79 : decode cX3_catchYoungest 79 = .ok (.getfield 76, 3) := by decide +kernel
theorem dX3_catchYoungest_82 : decode cX3_catchYoungest 82 = .ok (.iload_n 3, 1) := by decide +kernel
theorem dX3_catchYoungest_83 : decode cX3_catchYoungest 83 = .ok (.iaload, 1) := by decide +kernel
theorem dX3_catchYoungest_84 : decode cX3_catchYoungest 84 = .ok (.if_icmp .ge 6, 3) := by decide +kernel
theorem dX3_catchYoungest_87 : decode cX3_catchYoungest 87 = .ok (.iload 4, 2) := by decide +kernel
theorem dX3_catchYoungest_89 : decode cX3_catchYoungest 89 = .ok (.istore_n 3, 1) := by decide +kernel
theorem dX3_catchYoungest_90 : decode cX3_catchYoungest 90 = .ok (.iinc 4 1, 3) := by decide +kernel
theorem dX3_catchYoungest_93 : decode cX3_catchYoungest 93 = .ok (.goto (-88), 3) := by decide +kernel
theorem dX3_catchYoungest_96 : decode cX3_catchYoungest 96 = .ok (.iload_n 3, 1) := by decide +kernel
theorem dX3_catchYoungest_97 : decode cX3_catchYoungest 97 = .ok (.iconst (-1), 1) := by decide +kernel
theorem dX3_catchYoungest_98 : decode cX3_catchYoungest 98 = .ok (.if_icmp .eq 46, 3) := by decide +kernel
theorem dX3_catchYoungest_101 : decode cX3_catchYoungest 101 = .ok (.aload_n 0, 1) := by decide +kernel
theorem dX3_catchYoungest_102 : decode cX3_catchYoungest 102 = .ok (.getfield 21, 3) := by decide +kernel
theorem dX3_catchYoungest_105 : decode cX3_catchYoungest 105 = .ok (.getfield 70, 3) := by decide +kernel
theorem dX3_catchYoungest_108 : decode cX3_catchYoungest 108 = .ok (.iload_n 3, 1) := by decide +kernel
theorem dX3_catchYoungest_109 : decode cX3_catchYoungest 109 = .ok (.iconst 2, 1) := by decide +kernel
theorem dX3_catchYoungest_110 : decode cX3_catchYoungest 110 = .ok (.iastore, 1) := by decide +kernel
theorem dX3_catchYoungest_111 : decode cX3_catchYoungest 111 = .ok (.aload_n 0, 1) := by decide +kernel
theorem dX3_catchYoungest_112 : decode cX3_catchYoungest 112 = .ok (.getfield 21, 3) := by decide +kernel
theorem dX3_catchYoungest_115 : decode cX3_catchYoungest 115 = .ok (.getfield 192, 3) := by decide +kernel
theorem dX3_catchYoungest_118 : decode cX3_catchYoungest 118 = .ok (.iload_n 3, 1) := by decide +kernel
theorem dX3_catchYoungest_119 : decode cX3_catchYoungest 119 = .ok (.aload_n 0, 1) := by decide +kernel
theorem dX3_catchYoungest_120 : decode cX3_catchYoungest 120 = .ok (.getfield 21, 3) := by decide +kernel
theorem dX3_catchYoungest_123 : decode cX3_catchYoungest 123 = .ok (.getfield 52, 3) := by decide +kernel
theorem dX3_catchYoungest_126 : decode cX3_catchYoungest 126 = .ok (.iastore, 1) := by decide +kernel
theorem dX3_catchYoungest_127 : decode cX3_catchYoungest 127 = .ok (.aload_n 0, 1) := by decide +kernel
theorem dX3_catchYoungest_128 : decode cX3_catchYoungest 128 = .ok (.dup, 1) := by decide +kernel
theorem dX3_catchYoungest_129 : decode cX3_catchYoungest 129 = .ok (.getfield 195, 3) := by decide +kernel
theorem dX3_catchYoungest_132 : decode cX3_catchYoungest 132 = .ok (.iconst 1, 1) := by decide +kernel
theorem dX3_catchYoungest_133 : decode cX3_catchYoungest 133 = .ok (.iadd, 1) := by decide +kernel
theorem dX3_catchYoungest_134 : decode cX3_catchYoungest 134 = .ok (.putfield 195, 3) := by decide +kernel
theorem dX3_catchYoungest_137 : decode cX3_catchYoungest 137 = .ok (.aload_n 0, 1) := by decide +kernel
theorem dX3_catchYoungest_138 : decode cX3_catchYoungest 138 = .ok (.iconst 1, 1) := by decide +kernel
theorem dX3_catchYoungest_139 : decode cX3_catchYoungest 139 = .ok (.iload_n 3, 1) := by decide +kernel
theorem dX3_catchYoungest_140 : decode cX3_catchYoungest 140 = .ok (.iload_n 2, 1) := by decide +kernel
theorem dX3_catchYoungest_141 : decode cX3_catchYoungest 141 = .ok (.invokevirtual 153, 3) := by decide +kernel
theorem dX3_catchYoungest_144 : decode cX3_catchYoungest 144 = .ok (.return_, 1) := by decide +kernel
theorem dX3_cellsOf_0 : decode cX3_cellsOf 0 = .ok (.iconst 0, 1) := by decide +kernel
theorem dX3_cellsOf_1 : decode cX3_cellsOf 1 = .ok (.istore_n 2, 1) := by decide +kernel
theorem dX3_cellsOf_2 : decode cX3_cellsOf 2 = .ok (.iconst 0, 1) := by decide +kernel
theorem dX3_cellsOf_3 : decode cX3_cellsOf 3 = .ok (.istore_n 3, 1) := by decide +kernel
theorem dX3_cellsOf_4 : decode cX3_cellsOf 4 = .ok (.iload_n 3, 1) := by decide +kernel
theorem dX3_cellsOf_5 : decode cX3_cellsOf 5 = .ok (.bipush 12, 2) := by decide +kernel
theorem dX3_cellsOf_7 : decode cX3_cellsOf 7 = .ok (.if_icmp .ge 64, 3) := by decide +kernel
theorem dX3_cellsOf_10 : decode cX3_cellsOf 10 = .ok (.iload_n 3, 1) := by decide +kernel
theorem dX3_cellsOf_11 : decode cX3_cellsOf 11 = .ok (.aload_n 0, 1) := by decide +kernel
theorem dX3_cellsOf_12 : decode cX3_cellsOf 12 = .ok (.getfield 17, 3) := by decide +kernel
theorem dX3_cellsOf_15 : decode cX3_cellsOf 15 = .ok (.getfield 123, 3) := by decide +kernel
theorem dX3_cellsOf_18 : decode cX3_cellsOf 18 = .ok (.if_icmp .ge 53, 3) := by decide +kernel
theorem dX3_cellsOf_21 : decode cX3_cellsOf 21 = .ok (.iload_n 2, 1) := by decide +kernel
theorem dX3_cellsOf_22 : decode cX3_cellsOf 22 = .ok (.aload_n 0, 1) := by decide +kernel
theorem dX3_cellsOf_23 : decode cX3_cellsOf 23 = .ok (.getfield 17, 3) := by decide +kernel
theorem dX3_cellsOf_26 : decode cX3_cellsOf 26 = .ok (.getfield 73, 3) := by decide +kernel
theorem dX3_cellsOf_29 : decode cX3_cellsOf 29 = .ok (.iload_n 3, 1) := by decide +kernel
theorem dX3_cellsOf_30 : decode cX3_cellsOf 30 = .ok (.iaload, 1) := by decide +kernel
theorem dX3_cellsOf_31 : decode cX3_cellsOf 31 = .ok (.iload_n 1, 1) := by decide +kernel
theorem dX3_cellsOf_32 : decode cX3_cellsOf 32 = .ok (.if_icmp .ne 30, 3) := by decide +kernel
theorem dX3_cellsOf_35 : decode cX3_cellsOf 35 = .ok (.aload_n 0, 1) := by decide +kernel
theorem dX3_cellsOf_36 : decode cX3_cellsOf 36 = .ok (.getfield 21, 3) := by decide +kernel
theorem dX3_cellsOf_39 : decode cX3_cellsOf 39 = .ok (.getfield 70, 3) := by decide +kernel
theorem dX3_cellsOf_42 : decode cX3_cellsOf 42 = .ok (.iload_n 3, 1) := by decide +kernel
theorem dX3_cellsOf_43 : decode cX3_cellsOf 43 = .ok (.iaload, 1) := by decide +kernel
theorem dX3_cellsOf_44 : decode cX3_cellsOf 44 = .ok (.iconst 1, 1) := by decide +kernel
theorem dX3_cellsOf_45 : decode cX3_cellsOf 45 = .ok (.if_icmp .ne 17, 3) := by decide +kernel
theorem dX3_cellsOf_48 : decode cX3_cellsOf 48 = .ok (.iconst 1, 1) := by decide +kernel
theorem dX3_cellsOf_49 : decode cX3_cellsOf 49 = .ok (.aload_n 0, 1) := by decide +kernel
theorem dX3_cellsOf_50 : decode cX3_cellsOf 50 = .ok (.getfield 21, 3) := by decide +kernel
theorem dX3_cellsOf_53 : decode cX3_cellsOf 53 = .ok (.getfield 94, 3) := by decide +kernel
theorem dX3_cellsOf_56 : decode cX3_cellsOf 56 = .ok (.iload_n 3, 1) := by decide +kernel
theorem dX3_cellsOf_57 : decode cX3_cellsOf 57 = .ok (.iaload, 1) := by decide +kernel
theorem dX3_cellsOf_58 : decode cX3_cellsOf 58 = .ok (.ishl, 1) := by decide +kernel
theorem dX3_cellsOf_59 : decode cX3_cellsOf 59 = .ok (.goto 4, 3) := by decide +kernel
theorem dX3_cellsOf_62 : decode cX3_cellsOf 62 = .ok (.iconst 0, 1) := by decide +kernel
theorem dX3_cellsOf_63 : decode cX3_cellsOf 63 = .ok (.ior, 1) := by decide +kernel
theorem dX3_cellsOf_64 : decode cX3_cellsOf 64 = .ok (.istore_n 2, 1) := by decide +kernel
theorem dX3_cellsOf_65 : decode cX3_cellsOf 65 = .ok (.iinc 3 1, 3) := by decide +kernel
theorem dX3_cellsOf_68 : decode cX3_cellsOf 68 = .ok (.goto (-64), 3) := by decide +kernel
theorem dX3_cellsOf_71 : decode cX3_cellsOf 71 = .ok (.iload_n 2, 1) := by decide +kernel
theorem dX3_cellsOf_72 : decode cX3_cellsOf 72 = .ok (.ireturn, 1) := by decide +kernel
theorem dX3_endDay_0 : decode cX3_endDay 0 = .ok (.aload_n 0, 1) := by decide +kernel
theorem dX3_endDay_1 : decode cX3_endDay 1 = .ok (.getfield 17, 3) := by decide +kernel
theorem dX3_endDay_4 : decode cX3_endDay 4 = .ok (.aload_n 0, 1) := by decide +kernel
theorem dX3_endDay_5 : decode cX3_endDay 5 = .ok (.iconst 0, 1) := by decide +kernel
theorem dX3_endDay_6 : decode cX3_endDay 6 = .ok (.invokevirtual 207, 3) := by decide +kernel
theorem dX3_endDay_9 : decode cX3_endDay 9 = .ok (.invokevirtual 210, 3) := by decide +kernel
theorem dX3_endDay_12 : decode cX3_endDay 12 = .ok (.aload_n 0, 1) := by decide +kernel
theorem dX3_endDay_13 : decode cX3_endDay 13 = .ok (.getfield 17, 3) := by decide +kernel
theorem dX3_endDay_16 : decode cX3_endDay 16 = .ok (.getfield 213, 3) := by decide +kernel
theorem dX3_endDay_19 : decode cX3_endDay 19 = .ok (.if_icmp .lt 25, 3) := by decide +kernel
theorem dX3_endDay_22 : decode cX3_endDay 22 = .ok (.aload_n 0, 1) := by decide +kernel
theorem dX3_endDay_23 : decode cX3_endDay 23 = .ok (.getfield 17, 3) := by decide +kernel
theorem dX3_endDay_26 : decode cX3_endDay 26 = .ok (.aload_n 0, 1) := by decide +kernel
theorem dX3_endDay_27 : decode cX3_endDay 27 = .ok (.iconst 1, 1) := by decide +kernel
theorem dX3_endDay_28 : decode cX3_endDay 28 = .ok (.invokevirtual 207, 3) := by decide +kernel
theorem dX3_endDay_31 : decode cX3_endDay 31 = .ok (.invokevirtual 210, 3) := by decide +kernel
theorem dX3_endDay_34 : decode cX3_endDay 34 = .ok (.aload_n 0, 1) := by decide +kernel
theorem dX3_endDay_35 : decode cX3_endDay 35 = .ok (.getfield 17, 3) := by decide +kernel
theorem dX3_endDay_38 : decode cX3_endDay 38 = .ok (.getfield 213, 3) := by decide +kernel
theorem dX3_endDay_41 : decode cX3_endDay 41 = .ok (.if_icmp .ge 11, 3) := by decide +kernel
theorem dX3_endDay_44 : decode cX3_endDay 44 = .ok (.aload_n 0, 1) := by decide +kernel
theorem dX3_endDay_45 : decode cX3_endDay 45 = .ok (.getfield 21, 3) := by decide +kernel
theorem dX3_endDay_48 : decode cX3_endDay 48 = .ok (.iconst 0, 1) := by decide +kernel
theorem dX3_endDay_49 : decode cX3_endDay 49 = .ok (.putfield 33, 3) := by decide +kernel
theorem dX3_endDay_52 : decode cX3_endDay 52 = .ok (.iconst 0, 1) := by decide +kernel
theorem dX3_endDay_53 : decode cX3_endDay 53 = .ok (.istore_n 1, 1) := by decide +kernel
theorem dX3_endDay_54 : decode cX3_endDay 54 = .ok (.iload_n 1, 1) := by decide +kernel
theorem dX3_endDay_55 : decode cX3_endDay 55 = .ok (.bipush 12, 2) := by decide +kernel
theorem dX3_endDay_57 : decode cX3_endDay 57 = .ok (.if_icmp .ge 77, 3) := by decide +kernel
theorem dX3_endDay_60 : decode cX3_endDay 60 = .ok (.iload_n 1, 1) := by decide +kernel
theorem dX3_endDay_61 : decode cX3_endDay 61 = .ok (.aload_n 0, 1) := by decide +kernel
theorem dX3_endDay_62 : decode cX3_endDay 62 = .ok (.getfield 17, 3) := by decide +kernel
theorem dX3_endDay_65 : decode cX3_endDay 65 = .ok (.getfield 123, 3) := by decide +kernel
theorem dX3_endDay_68 : decode cX3_endDay 68 = .ok (.if_icmp .ge 66, 3) := by decide +kernel
theorem dX3_endDay_71 : decode cX3_endDay 71 = .ok (.aload_n 0, 1) := by decide +kernel
theorem dX3_endDay_72 : decode cX3_endDay 72 = .ok (.getfield 21, 3) := by decide +kernel
theorem dX3_endDay_75 : decode cX3_endDay 75 = .ok (.getfield 70, 3) := by decide +kernel
theorem dX3_endDay_78 : decode cX3_endDay 78 = .ok (.iload_n 1, 1) := by decide +kernel
theorem dX3_endDay_79 : decode cX3_endDay 79 = .ok (.iaload, 1) := by decide +kernel
theorem dX3_endDay_80 : decode cX3_endDay 80 = .ok (.iconst 2, 1) := by decide +kernel
theorem dX3_endDay_81 : decode cX3_endDay 81 = .ok (.if_icmp .ne 47, 3) := by decide +kernel
theorem dX3_endDay_84 : decode cX3_endDay 84 = .ok (.aload_n 0, 1) := by decide +kernel
theorem dX3_endDay_85 : decode cX3_endDay 85 = .ok (.getfield 21, 3) := by decide +kernel
theorem dX3_endDay_88 : decode cX3_endDay 88 = .ok (.getfield 52, 3) := by decide +kernel
theorem dX3_endDay_91 : decode cX3_endDay 91 = .ok (.aload_n 0, 1) := by decide +kernel
theorem dX3_endDay_92 : decode cX3_endDay 92 = .ok (.getfield 21, 3) := by decide +kernel
theorem dX3_endDay_95 : decode cX3_endDay 95 = .ok (.getfield 192, 3) := by decide +kernel
theorem dX3_endDay_98 : decode cX3_endDay 98 = .ok (.iload_n 1, 1) := by decide +kernel
theorem dX3_endDay_99 : decode cX3_endDay 99 = .ok (.iaload, 1) := by decide +kernel
theorem dX3_endDay_100 : decode cX3_endDay 100 = .ok (.isub, 1) := by decide +kernel
theorem dX3_endDay_101 : decode cX3_endDay 101 = .ok (.aload_n 0, 1) := by decide +kernel
theorem dX3_endDay_102 : decode cX3_endDay 102 = .ok (.getfield 17, 3) := by decide +kernel
theorem dX3_endDay_105 : decode cX3_endDay 105 = .ok (.getfield 216, 3) := by decide +kernel
theorem dX3_endDay_108 : decode cX3_endDay 108 = .ok (.if_icmp .lt 20, 3) := by decide +kernel
theorem dX3_endDay_111 : decode cX3_endDay 111 = .ok (.aload_n 0, 1) := by decide +kernel
theorem dX3_endDay_112 : decode cX3_endDay 112 = .ok (.getfield 21, 3) := by decide +kernel
theorem dX3_endDay_115 : decode cX3_endDay 115 = .ok (.getfield 70, 3) := by decide +kernel
theorem dX3_endDay_118 : decode cX3_endDay 118 = .ok (.iload_n 1, 1) := by decide +kernel
theorem dX3_endDay_119 : decode cX3_endDay 119 = .ok (.iconst 0, 1) := by decide +kernel
theorem dX3_endDay_120 : decode cX3_endDay 120 = .ok (.iastore, 1) := by decide +kernel
theorem dX3_endDay_121 : decode cX3_endDay 121 = .ok (.aload_n 0, 1) := by decide +kernel
theorem dX3_endDay_122 : decode cX3_endDay 122 = .ok (.iconst 5, 1) := by decide +kernel
theorem dX3_endDay_123 : decode cX3_endDay 123 = .ok (.iload_n 1, 1) := by decide +kernel
theorem dX3_endDay_124 : decode cX3_endDay 124 = .ok (.iconst 0, 1) := by decide +kernel
theorem dX3_endDay_125 : decode cX3_endDay 125 = .ok (.invokevirtual 153, 3) := by decide +kernel
theorem dX3_endDay_128 : decode cX3_endDay 128 = .ok (.iinc 1 1, 3) := by decide +kernel
theorem dX3_endDay_131 : decode cX3_endDay 131 = .ok (.goto (-77), 3) := by decide +kernel
theorem dX3_endDay_134 : decode cX3_endDay 134 = .ok (.aload_n 0, 1) := by decide +kernel
theorem dX3_endDay_135 : decode cX3_endDay 135 = .ok (.getfield 21, 3) := by decide +kernel
theorem dX3_endDay_138 : decode cX3_endDay 138 = .ok (.getfield 33, 3) := by decide +kernel
theorem dX3_endDay_141 : decode cX3_endDay 141 = .ok (.ifCond .ne 21, 3) := by decide +kernel
theorem dX3_endDay_144 : decode cX3_endDay 144 = .ok (.aload_n 0, 1) := by decide +kernel
theorem dX3_endDay_145 : decode cX3_endDay 145 = .ok (.getfield 21, 3) := by decide +kernel
theorem dX3_endDay_148 : decode cX3_endDay 148 = .ok (.getfield 70, 3) := by decide +kernel
theorem dX3_endDay_151 : decode cX3_endDay 151 = .ok (.iconst 0, 1) := by decide +kernel
theorem dX3_endDay_152 : decode cX3_endDay 152 = .ok (.invokestatic 219, 3) := by decide +kernel
theorem dX3_endDay_155 : decode cX3_endDay 155 = .ok (.aload_n 0, 1) := by decide +kernel
theorem dX3_endDay_156 : decode cX3_endDay 156 = .ok (.iconst 4, 1) := by decide +kernel
theorem dX3_endDay_157 : decode cX3_endDay 157 = .ok (.iconst (-1), 1) := by decide +kernel
theorem dX3_endDay_158 : decode cX3_endDay 158 = .ok (.iconst 0, 1) := by decide +kernel
theorem dX3_endDay_159 : decode cX3_endDay 159 = .ok (.invokevirtual 153, 3) := by decide +kernel
theorem dX3_endDay_162 : decode cX3_endDay 162 = .ok (.return_, 1) := by decide +kernel
theorem dX3_fade_0 : decode cX3_fade 0 = .ok (.iconst 0, 1) := by decide +kernel
theorem dX3_fade_1 : decode cX3_fade 1 = .ok (.istore_n 1, 1) := by decide +kernel
theorem dX3_fade_2 : decode cX3_fade 2 = .ok (.iload_n 1, 1) := by decide +kernel
theorem dX3_fade_3 : decode cX3_fade 3 = .ok (.bipush 12, 2) := by decide +kernel
theorem dX3_fade_5 : decode cX3_fade 5 = .ok (.if_icmp .ge 88, 3) := by decide +kernel
theorem dX3_fade_8 : decode cX3_fade 8 = .ok (.iload_n 1, 1) := by decide +kernel
theorem dX3_fade_9 : decode cX3_fade 9 = .ok (.aload_n 0, 1) := by decide +kernel
theorem dX3_fade_10 : decode cX3_fade 10 = .ok (.getfield 17, 3) := by decide +kernel
theorem dX3_fade_13 : decode cX3_fade 13 = .ok (.getfield 123, 3) := by decide +kernel
theorem dX3_fade_16 : decode cX3_fade 16 = .ok (.if_icmp .ge 77, 3) := by decide +kernel
theorem dX3_fade_19 : decode cX3_fade 19 = .ok (.aload_n 0, 1) := by decide +kernel
theorem dX3_fade_20 : decode cX3_fade 20 = .ok (.getfield 21, 3) := by decide +kernel
theorem dX3_fade_23 : decode cX3_fade 23 = .ok (.getfield 85, 3) := by decide +kernel
theorem dX3_fade_26 : decode cX3_fade 26 = .ok (.iload_n 1, 1) := by decide +kernel
theorem dX3_fade_27 : decode cX3_fade 27 = .ok (.iaload, 1) := by decide +kernel
theorem dX3_fade_28 : decode cX3_fade 28 = .ok (.ifCond .eq 59, 3) := by decide +kernel
theorem dX3_fade_31 : decode cX3_fade 31 = .ok (.aload_n 0, 1) := by decide +kernel
theorem dX3_fade_32 : decode cX3_fade 32 = .ok (.getfield 21, 3) := by decide +kernel
theorem dX3_fade_35 : decode cX3_fade 35 = .ok (.sipush 1000, 3) := by decide +kernel
theorem dX3_fade_38 : decode cX3_fade 38 = .ok (.invokevirtual 201, 3) := by decide +kernel
theorem dX3_fade_41 : decode cX3_fade 41 = .ok (.aload_n 0, 1) := by decide +kernel
theorem dX3_fade_42 : decode cX3_fade 42 = .ok (.iload_n 1, 1) := by decide +kernel
theorem dX3_fade_43 : decode cX3_fade 43 = .ok (.iconst 3, 1) := by decide +kernel
theorem dX3_fade_44 : decode cX3_fade 44 = .ok (.invokevirtual 147, 3) := by decide +kernel
theorem dX3_fade_47 : decode cX3_fade 47 = .ok (.if_icmp .ge 40, 3) := by decide +kernel
theorem dX3_fade_50 : decode cX3_fade 50 = .ok (.aload_n 0, 1) := by decide +kernel
theorem dX3_fade_51 : decode cX3_fade 51 = .ok (.getfield 21, 3) := by decide +kernel
theorem dX3_fade_54 : decode cX3_fade 54 = .ok (.getfield 85, 3) := by decide +kernel
theorem dX3_fade_57 : decode cX3_fade 57 = .ok (.iload_n 1, 1) := by decide +kernel
theorem dX3_fade_58 : decode cX3_fade 58 = .ok (.iaload, 1) := by decide +kernel
theorem dX3_fade_59 : decode cX3_fade 59 = .ok (.invokestatic 204, 3) := by decide +kernel
theorem dX3_fade_62 : decode cX3_fade 62 = .ok (.istore_n 2, 1) := by decide +kernel
theorem dX3_fade_63 : decode cX3_fade 63 = .ok (.aload_n 0, 1) := by decide +kernel
theorem dX3_fade_64 : decode cX3_fade 64 = .ok (.getfield 21, 3) := by decide +kernel
theorem dX3_fade_67 : decode cX3_fade 67 = .ok (.getfield 85, 3) := by decide +kernel
theorem dX3_fade_70 : decode cX3_fade 70 = .ok (.iload_n 1, 1) := by decide +kernel
theorem dX3_fade_71 : decode cX3_fade 71 = .ok (.dup2, 1) := by decide +kernel
theorem dX3_fade_72 : decode cX3_fade 72 = .ok (.iaload, 1) := by decide +kernel
theorem dX3_fade_73 : decode cX3_fade 73 = .ok (.iconst 1, 1) := by decide +kernel
theorem dX3_fade_74 : decode cX3_fade 74 = .ok (.iload_n 2, 1) := by decide +kernel
theorem dX3_fade_75 : decode cX3_fade 75 = .ok (.ishl, 1) := by decide +kernel
theorem dX3_fade_76 : decode cX3_fade 76 = .ok (.iconst (-1), 1) := by decide +kernel
theorem dX3_fade_77 : decode cX3_fade 77 = .ok (.ixor, 1) := by decide +kernel
theorem dX3_fade_78 : decode cX3_fade 78 = .ok (.iand, 1) := by decide +kernel
theorem dX3_fade_79 : decode cX3_fade 79 = .ok (.iastore, 1) := by decide +kernel
theorem dX3_fade_80 : decode cX3_fade 80 = .ok (.aload_n 0, 1) := by decide +kernel
theorem dX3_fade_81 : decode cX3_fade 81 = .ok (.iconst 3, 1) := by decide +kernel
theorem dX3_fade_82 : decode cX3_fade 82 = .ok (.iload_n 1, 1) := by decide +kernel
theorem dX3_fade_83 : decode cX3_fade 83 = .ok (.iload_n 2, 1) := by decide +kernel
theorem dX3_fade_84 : decode cX3_fade 84 = .ok (.invokevirtual 153, 3) := by decide +kernel
theorem dX3_fade_87 : decode cX3_fade 87 = .ok (.iinc 1 1, 3) := by decide +kernel
theorem dX3_fade_90 : decode cX3_fade 90 = .ok (.goto (-88), 3) := by decide +kernel
theorem dX3_fade_93 : decode cX3_fade 93 = .ok (.return_, 1) := by decide +kernel
theorem dX3_fight_0 : decode cX3_fight 0 = .ok (.aload_n 0, 1) := by decide +kernel
theorem dX3_fight_1 : decode cX3_fight 1 = .ok (.iconst 0, 1) := by decide +kernel
theorem dX3_fight_2 : decode cX3_fight 2 = .ok (.invokevirtual 171, 3) := by decide +kernel
theorem dX3_fight_5 : decode cX3_fight 5 = .ok (.aload_n 0, 1) := by decide +kernel
theorem dX3_fight_6 : decode cX3_fight 6 = .ok (.iconst 1, 1) := by decide +kernel
theorem dX3_fight_7 : decode cX3_fight 7 = .ok (.invokevirtual 171, 3) := by decide +kernel
theorem dX3_fight_10 : decode cX3_fight 10 = .ok (.iand, 1) := by decide +kernel
theorem dX3_fight_11 : decode cX3_fight 11 = .ok (.istore_n 1, 1) := by decide +kernel
theorem dX3_fight_12 : decode cX3_fight 12 = .ok (.iconst 0, 1) := by decide +kernel
theorem dX3_fight_13 : decode cX3_fight 13 = .ok (.istore_n 2, 1) := by decide +kernel
theorem dX3_fight_14 : decode cX3_fight 14 = .ok (.iload_n 2, 1) := by decide +kernel
theorem dX3_fight_15 : decode cX3_fight 15 = .ok (.bipush 16, 2) := by decide +kernel
theorem dX3_fight_17 : decode cX3_fight 17 = .ok (.if_icmp .ge 74, 3) := by decide +kernel
theorem dX3_fight_20 : decode cX3_fight 20 = .ok (.iload_n 1, 1) := by decide +kernel
theorem dX3_fight_21 : decode cX3_fight 21 = .ok (.iload_n 2, 1) := by decide +kernel
theorem dX3_fight_22 : decode cX3_fight 22 = .ok (.invokestatic 174, 3) := by decide +kernel
theorem dX3_fight_25 : decode cX3_fight 25 = .ok (.ifCond .ne 6, 3) := by decide +kernel
theorem dX3_fight_28 : decode cX3_fight 28 = .ok (.goto 57, 3) := by decide +kernel
theorem dX3_fight_31 : decode cX3_fight 31 = .ok (.aload_n 0, 1) := by decide +kernel
theorem dX3_fight_32 : decode cX3_fight 32 = .ok (.iconst 0, 1) := by decide +kernel
theorem dX3_fight_33 : decode cX3_fight 33 = .ok (.iload_n 2, 1) := by decide +kernel
theorem dX3_fight_34 : decode cX3_fight 34 = .ok (.invokevirtual 177, 3) := by decide +kernel
theorem dX3_fight_37 : decode cX3_fight 37 = .ok (.aload_n 0, 1) := by decide +kernel
theorem dX3_fight_38 : decode cX3_fight 38 = .ok (.iconst 1, 1) := by decide +kernel
theorem dX3_fight_39 : decode cX3_fight 39 = .ok (.iload_n 2, 1) := by decide +kernel
theorem dX3_fight_40 : decode cX3_fight 40 = .ok (.invokevirtual 177, 3) := by decide +kernel
theorem dX3_fight_43 : decode cX3_fight 43 = .ok (.isub, 1) := by decide +kernel
theorem dX3_fight_44 : decode cX3_fight 44 = .ok (.istore_n 3, 1) := by decide +kernel
theorem dX3_fight_45 : decode cX3_fight 45 = .ok (.iload_n 3, 1) := by decide +kernel
theorem dX3_fight_46 : decode cX3_fight 46 = .ok (.ifCond .ne 11, 3) := by decide +kernel
theorem dX3_fight_49 : decode cX3_fight 49 = .ok (.aload_n 0, 1) := by decide +kernel
theorem dX3_fight_50 : decode cX3_fight 50 = .ok (.iload_n 2, 1) := by decide +kernel
theorem dX3_fight_51 : decode cX3_fight 51 = .ok (.invokevirtual 180, 3) := by decide +kernel
theorem dX3_fight_54 : decode cX3_fight 54 = .ok (.goto 31, 3) := by decide +kernel
theorem dX3_fight_57 : decode cX3_fight 57 = .ok (.aload_n 0, 1) := by decide +kernel
theorem dX3_fight_58 : decode cX3_fight 58 = .ok (.iload_n 3, 1) := by decide +kernel
theorem dX3_fight_59 : decode cX3_fight 59 = .ok (.ifCond .ge 7, 3) := by decide +kernel
theorem dX3_fight_62 : decode cX3_fight 62 = .ok (.iconst 0, 1) := by decide +kernel
theorem dX3_fight_63 : decode cX3_fight 63 = .ok (.goto 4, 3) := by decide +kernel
theorem dX3_fight_66 : decode cX3_fight 66 = .ok (.iconst 1, 1) := by decide +kernel
theorem dX3_fight_67 : decode cX3_fight 67 = .ok (.iload_n 2, 1) := by decide +kernel
theorem dX3_fight_68 : decode cX3_fight 68 = .ok (.invokevirtual 183, 3) := by decide +kernel
theorem dX3_fight_71 : decode cX3_fight 71 = .ok (.aload_n 0, 1) := by decide +kernel
theorem dX3_fight_72 : decode cX3_fight 72 = .ok (.iload_n 3, 1) := by decide +kernel
theorem dX3_fight_73 : decode cX3_fight 73 = .ok (.ifCond .ge 7, 3) := by decide +kernel
theorem dX3_fight_76 : decode cX3_fight 76 = .ok (.iconst 0, 1) := by decide +kernel
theorem dX3_fight_77 : decode cX3_fight 77 = .ok (.goto 4, 3) := by decide +kernel
theorem dX3_fight_80 : decode cX3_fight 80 = .ok (.iconst 1, 1) := by decide +kernel
theorem dX3_fight_81 : decode cX3_fight 81 = .ok (.iload_n 2, 1) := by decide +kernel
theorem dX3_fight_82 : decode cX3_fight 82 = .ok (.invokevirtual 186, 3) := by decide +kernel
theorem dX3_fight_85 : decode cX3_fight 85 = .ok (.iinc 2 1, 3) := by decide +kernel
theorem dX3_fight_88 : decode cX3_fight 88 = .ok (.goto (-74), 3) := by decide +kernel
theorem dX3_fight_91 : decode cX3_fight 91 = .ok (.return_, 1) := by decide +kernel
theorem dX3_goOn_0 : decode cX3_goOn 0 = .ok (.aload_n 0, 1) := by decide +kernel
theorem dX3_goOn_1 : decode cX3_goOn 1 = .ok (.getfield 17, 3) := by decide +kernel
theorem dX3_goOn_4 : decode cX3_goOn 4 = .ok (.getfield 157, 3) := by decide +kernel
theorem dX3_goOn_7 : decode cX3_goOn 7 = .ok (.aload_n 0, 1) := by decide +kernel
theorem dX3_goOn_8 : decode cX3_goOn 8 = .ok (.getfield 21, 3) := by decide +kernel
theorem dX3_goOn_11 : decode cX3_goOn 11 = .ok (.getfield 52, 3) := by decide +kernel
theorem dX3_goOn_14 : decode cX3_goOn 14 = .ok (.iconst 0, 1) := by decide +kernel
theorem dX3_goOn_15 : decode cX3_goOn 15 = .ok (.invokevirtual 161, 3) := by decide +kernel
theorem dX3_goOn_18 : decode cX3_goOn 18 = .ok (.istore_n 1, 1) := by decide +kernel
theorem dX3_goOn_19 : decode cX3_goOn 19 = .ok (.aload_n 0, 1) := by decide +kernel
theorem dX3_goOn_20 : decode cX3_goOn 20 = .ok (.getfield 17, 3) := by decide +kernel
theorem dX3_goOn_23 : decode cX3_goOn 23 = .ok (.getfield 157, 3) := by decide +kernel
theorem dX3_goOn_26 : decode cX3_goOn 26 = .ok (.aload_n 0, 1) := by decide +kernel
theorem dX3_goOn_27 : decode cX3_goOn 27 = .ok (.getfield 21, 3) := by decide +kernel
theorem dX3_goOn_30 : decode cX3_goOn 30 = .ok (.getfield 52, 3) := by decide +kernel
theorem dX3_goOn_33 : decode cX3_goOn 33 = .ok (.iconst 1, 1) := by decide +kernel
theorem dX3_goOn_34 : decode cX3_goOn 34 = .ok (.invokevirtual 161, 3) := by decide +kernel
theorem dX3_goOn_37 : decode cX3_goOn 37 = .ok (.istore_n 2, 1) := by decide +kernel
theorem dX3_goOn_38 : decode cX3_goOn 38 = .ok (.iconst 0, 1) := by decide +kernel
theorem dX3_goOn_39 : decode cX3_goOn 39 = .ok (.istore_n 3, 1) := by decide +kernel
theorem dX3_goOn_40 : decode cX3_goOn 40 = .ok (.iload_n 3, 1) := by decide +kernel
theorem dX3_goOn_41 : decode cX3_goOn 41 = .ok (.bipush 12, 2) := by decide +kernel
theorem dX3_goOn_43 : decode cX3_goOn 43 = .ok (.if_icmp .ge 118, 3) := by decide +kernel
theorem dX3_goOn_46 : decode cX3_goOn 46 = .ok (.iload_n 3, 1) := by decide +kernel
theorem dX3_goOn_47 : decode cX3_goOn 47 = .ok (.aload_n 0, 1) := by decide +kernel
theorem dX3_goOn_48 : decode cX3_goOn 48 = .ok (.getfield 17, 3) := by decide +kernel
theorem dX3_goOn_51 : decode cX3_goOn 51 = .ok (.getfield 123, 3) := by decide +kernel
theorem dX3_goOn_54 : decode cX3_goOn 54 = .ok (.if_icmp .ge 107, 3) := by decide +kernel
theorem dX3_goOn_57 : decode cX3_goOn 57 = .ok (.aload_n 0, 1) := by decide +kernel
theorem dX3_goOn_58 : decode cX3_goOn 58 = .ok (.getfield 21, 3) := by decide +kernel
theorem dX3_goOn_61 : decode cX3_goOn 61 = .ok (.getfield 70, 3) := by decide +kernel
theorem dX3_goOn_64 : decode cX3_goOn 64 = .ok (.iload_n 3, 1) := by decide +kernel
theorem dX3_goOn_65 : decode cX3_goOn 65 = .ok (.iaload, 1) := by decide +kernel
theorem dX3_goOn_66 : decode cX3_goOn 66 = .ok (.iconst 1, 1) := by decide +kernel
theorem dX3_goOn_67 : decode cX3_goOn 67 = .ok (.if_icmp .eq 6, 3) := by decide +kernel
theorem dX3_goOn_70 : decode cX3_goOn 70 = .ok (.goto 85, 3) := by decide +kernel
theorem dX3_goOn_73 : decode cX3_goOn 73 = .ok (.aload_n 0, 1) := by decide +kernel
theorem dX3_goOn_74 : decode cX3_goOn 74 = .ok (.getfield 17, 3) := by decide +kernel
theorem dX3_goOn_77 : decode cX3_goOn 77 = .ok (.getfield 73, 3) := by decide +kernel
theorem dX3_goOn_80 : decode cX3_goOn 80 = .ok (.iload_n 3, 1) := by decide +kernel
theorem dX3_goOn_81 : decode cX3_goOn 81 = .ok (.iaload, 1) := by decide +kernel
theorem dX3_goOn_82 : decode cX3_goOn 82 = .ok (.ifCond .ne 7, 3) := by decide +kernel
theorem dX3_goOn_85 : decode cX3_goOn 85 = .ok (.iload_n 1, 1) := by decide +kernel
theorem dX3_goOn_86 : decode cX3_goOn 86 = .ok (.goto 4, 3) := by decide +kernel
theorem dX3_goOn_89 : decode cX3_goOn 89 = .ok (.iload_n 2, 1) := by decide +kernel
theorem dX3_goOn_90 : decode cX3_goOn 90 = .ok (.istore 4, 2) := by decide +kernel
theorem dX3_goOn_92 : decode cX3_goOn 92 = .ok (.iload 4, 2) := by decide +kernel
theorem dX3_goOn_94 : decode cX3_goOn 94 = .ok (.ifCond .eq 8, 3) := by decide +kernel
theorem dX3_goOn_97 : decode cX3_goOn 97 = .ok (.bipush 10, 2) := by decide +kernel
theorem dX3_goOn_99 : decode cX3_goOn 99 = .ok (.goto 9, 3) := by decide +kernel
theorem dX3_goOn_102 : decode cX3_goOn 102 = .ok (.aload_n 0, 1) := by decide +kernel
theorem dX3_goOn_103 : decode cX3_goOn 103 = .ok (.iload_n 3, 1) := by decide +kernel
theorem dX3_goOn_104 : decode cX3_goOn 104 = .ok (.iconst 2, 1) := by decide +kernel
theorem dX3_goOn_105 : decode cX3_goOn 105 = .ok (.invokevirtual 147, 3) := by decide +kernel
theorem dX3_goOn_108 : decode cX3_goOn 108 = .ok (.istore 5, 2) := by decide +kernel
theorem dX3_goOn_110 : decode cX3_goOn 110 = .ok (.iload 5, 2) := by decide +kernel
theorem dX3_goOn_112 : decode cX3_goOn 112 = .ok (.ifCond .le 32, 3) := by decide +kernel
theorem dX3_goOn_115 : decode cX3_goOn 115 = .ok (.aload_n 0, 1) := by decide +kernel
theorem dX3_goOn_116 : decode cX3_goOn 116 = .ok (.getfield 21, 3) := by decide +kernel
theorem dX3_goOn_119 : decode cX3_goOn 119 = .ok (.getfield 82, 3) := by decide +kernel
theorem dX3_goOn_122 : decode cX3_goOn 122 = .ok (.iload_n 3, 1) := by decide +kernel
theorem dX3_goOn_123 : decode cX3_goOn 123 = .ok (.bipush 99, 2) := by decide +kernel
theorem dX3_goOn_125 : decode cX3_goOn 125 = .ok (.aload_n 0, 1) := by decide +kernel
theorem dX3_goOn_126 : decode cX3_goOn 126 = .ok (.getfield 21, 3) := by decide +kernel
theorem dX3_goOn_129 : decode cX3_goOn 129 = .ok (.getfield 82, 3) := by decide +kernel
theorem dX3_goOn_132 : decode cX3_goOn 132 = .ok (.iload_n 3, 1) := by decide +kernel
theorem dX3_goOn_133 : decode cX3_goOn 133 = .ok (.iaload, 1) := by decide +kernel
theorem dX3_goOn_134 : decode cX3_goOn 134 = .ok (.iload 5, 2) := by decide +kernel
theorem dX3_goOn_136 : decode cX3_goOn 136 = .ok (.iadd, 1) := by decide +kernel
theorem dX3_goOn_137 : decode cX3_goOn 137 = .ok (.invokestatic 115, 3) := by decide +kernel
theorem dX3_goOn_140 : decode cX3_goOn 140 = .ok (.iastore, 1) := by decide +kernel
theorem dX3_goOn_141 : decode cX3_goOn 141 = .ok (.goto 14, 3) := by decide +kernel
theorem dX3_goOn_144 : decode cX3_goOn 144 = .ok (.aload_n 0, 1) := by decide +kernel
theorem dX3_goOn_145 : decode cX3_goOn 145 = .ok (.iload_n 3, 1) := by decide +kernel
theorem dX3_goOn_146 : decode cX3_goOn 146 = .ok (.aload_n 0, 1) := by decide +kernel
theorem dX3_goOn_147 : decode cX3_goOn 147 = .ok (.iload_n 3, 1) := by decide +kernel
theorem dX3_goOn_148 : decode cX3_goOn 148 = .ok (.iconst 1, 1) := by decide +kernel
theorem dX3_goOn_149 : decode cX3_goOn 149 = .ok (.invokevirtual 147, 3) := by decide +kernel
theorem dX3_goOn_152 : decode cX3_goOn 152 = .ok (.invokevirtual 167, 3) := by decide +kernel
theorem dX3_goOn_155 : decode cX3_goOn 155 = .ok (.iinc 3 1, 3) := by decide +kernel
theorem dX3_goOn_158 : decode cX3_goOn 158 = .ok (.goto (-118), 3) := by decide +kernel
theorem dX3_goOn_161 : decode cX3_goOn 161 = .ok (.return_, 1) := by decide +kernel
theorem dX3_halve_0 : decode cX3_halve 0 = .ok (.iconst 0, 1) := by decide +kernel
theorem dX3_halve_1 : decode cX3_halve 1 = .ok (.istore_n 2, 1) := by decide +kernel
theorem dX3_halve_2 : decode cX3_halve 2 = .ok (.iload_n 2, 1) := by decide +kernel
theorem dX3_halve_3 : decode cX3_halve 3 = .ok (.bipush 12, 2) := by decide +kernel
theorem dX3_halve_5 : decode cX3_halve 5 = .ok (.if_icmp .ge 42, 3) := by decide +kernel
theorem dX3_halve_8 : decode cX3_halve 8 = .ok (.iload_n 2, 1) := by decide +kernel
theorem dX3_halve_9 : decode cX3_halve 9 = .ok (.aload_n 0, 1) := by decide +kernel
theorem dX3_halve_10 : decode cX3_halve 10 = .ok (.getfield 17, 3) := by decide +kernel
theorem dX3_halve_13 : decode cX3_halve 13 = .ok (.getfield 123, 3) := by decide +kernel
theorem dX3_halve_16 : decode cX3_halve 16 = .ok (.if_icmp .ge 31, 3) := by decide +kernel
theorem dX3_halve_19 : decode cX3_halve 19 = .ok (.aload_n 0, 1) := by decide +kernel
theorem dX3_halve_20 : decode cX3_halve 20 = .ok (.iload_n 2, 1) := by decide +kernel
theorem dX3_halve_21 : decode cX3_halve 21 = .ok (.iload_n 1, 1) := by decide +kernel
theorem dX3_halve_22 : decode cX3_halve 22 = .ok (.invokevirtual 189, 3) := by decide +kernel
theorem dX3_halve_25 : decode cX3_halve 25 = .ok (.ifCond .eq 16, 3) := by decide +kernel
theorem dX3_halve_28 : decode cX3_halve 28 = .ok (.aload_n 0, 1) := by decide +kernel
theorem dX3_halve_29 : decode cX3_halve 29 = .ok (.getfield 21, 3) := by decide +kernel
theorem dX3_halve_32 : decode cX3_halve 32 = .ok (.getfield 82, 3) := by decide +kernel
theorem dX3_halve_35 : decode cX3_halve 35 = .ok (.iload_n 2, 1) := by decide +kernel
theorem dX3_halve_36 : decode cX3_halve 36 = .ok (.dup2, 1) := by decide +kernel
theorem dX3_halve_37 : decode cX3_halve 37 = .ok (.iaload, 1) := by decide +kernel
theorem dX3_halve_38 : decode cX3_halve 38 = .ok (.iconst 2, 1) := by decide +kernel
theorem dX3_halve_39 : decode cX3_halve 39 = .ok (.idiv, 1) := by decide +kernel
theorem dX3_halve_40 : decode cX3_halve 40 = .ok (.iastore, 1) := by decide +kernel
theorem dX3_halve_41 : decode cX3_halve 41 = .ok (.iinc 2 1, 3) := by decide +kernel
theorem dX3_halve_44 : decode cX3_halve 44 = .ok (.goto (-42), 3) := by decide +kernel
theorem dX3_halve_47 : decode cX3_halve 47 = .ok (.return_, 1) := by decide +kernel
theorem dX3_held_0 : decode cX3_held 0 = .ok (.iconst 0, 1) := by decide +kernel
theorem dX3_held_1 : decode cX3_held 1 = .ok (.iload_n 0, 1) := by decide +kernel
theorem dX3_held_2 : decode cX3_held 2 = .ok (.iload_n 1, 1) := by decide +kernel
theorem dX3_held_3 : decode cX3_held 3 = .ok (.invokestatic 115, 3) := by decide +kernel
theorem dX3_held_6 : decode cX3_held 6 = .ok (.invokestatic 120, 3) := by decide +kernel
theorem dX3_held_9 : decode cX3_held 9 = .ok (.ireturn, 1) := by decide +kernel
theorem dX3_howManyInField_0 : decode cX3_howManyInField 0 = .ok (.iconst 0, 1) := by decide +kernel
theorem dX3_howManyInField_1 : decode cX3_howManyInField 1 = .ok (.istore_n 2, 1) := by decide +kernel
theorem dX3_howManyInField_2 : decode cX3_howManyInField 2 = .ok (.iconst 0, 1) := by decide +kernel
theorem dX3_howManyInField_3 : decode cX3_howManyInField 3 = .ok (.istore_n 3, 1) := by decide +kernel
theorem dX3_howManyInField_4 : decode cX3_howManyInField 4 = .ok (.iload_n 3, 1) := by decide +kernel
theorem dX3_howManyInField_5 : decode cX3_howManyInField 5 = .ok (.bipush 12, 2) := by decide +kernel
theorem dX3_howManyInField_7 : decode cX3_howManyInField 7 = .ok (.if_icmp .ge 54, 3) := by decide +kernel
theorem dX3_howManyInField_10 : decode cX3_howManyInField 10 = .ok (.iload_n 3, 1) := by decide +kernel
theorem dX3_howManyInField_11 : decode cX3_howManyInField 11 = .ok (.aload_n 0, 1) := by decide +kernel
theorem dX3_howManyInField_12 : decode cX3_howManyInField 12 = .ok (.getfield 17, 3) := by decide +kernel
theorem dX3_howManyInField_15 : decode cX3_howManyInField 15 = .ok (.getfield 123, 3) := by decide +kernel
theorem dX3_howManyInField_18 : decode cX3_howManyInField 18 = .ok (.if_icmp .ge 43, 3) := by decide +kernel
theorem dX3_howManyInField_21 : decode cX3_howManyInField 21 = .ok (.iload_n 2, 1) := by decide +kernel
theorem dX3_howManyInField_22 : decode cX3_howManyInField 22 = .ok (.aload_n 0, 1) := by decide +kernel
theorem dX3_howManyInField_23 : decode cX3_howManyInField 23 = .ok (.getfield 17, 3) := by decide +kernel
theorem dX3_howManyInField_26 : decode cX3_howManyInField 26 = .ok (.getfield 73, 3) := by decide +kernel
theorem dX3_howManyInField_29 : decode cX3_howManyInField 29 = .ok (.iload_n 3, 1) := by decide +kernel
theorem dX3_howManyInField_30 : decode cX3_howManyInField 30 = .ok (.iaload, 1) := by decide +kernel
theorem dX3_howManyInField_31 : decode cX3_howManyInField 31 = .ok (.iload_n 1, 1) := by decide +kernel
theorem dX3_howManyInField_32 : decode cX3_howManyInField 32 = .ok (.if_icmp .ne 20, 3) := by decide +kernel
theorem dX3_howManyInField_35 : decode cX3_howManyInField 35 = .ok (.aload_n 0, 1) := by decide +kernel
theorem dX3_howManyInField_36 : decode cX3_howManyInField 36 = .ok (.getfield 21, 3) := by decide +kernel
theorem dX3_howManyInField_39 : decode cX3_howManyInField 39 = .ok (.getfield 70, 3) := by decide +kernel
theorem dX3_howManyInField_42 : decode cX3_howManyInField 42 = .ok (.iload_n 3, 1) := by decide +kernel
theorem dX3_howManyInField_43 : decode cX3_howManyInField 43 = .ok (.iaload, 1) := by decide +kernel
theorem dX3_howManyInField_44 : decode cX3_howManyInField 44 = .ok (.iconst 1, 1) := by decide +kernel
theorem dX3_howManyInField_45 : decode cX3_howManyInField 45 = .ok (.if_icmp .ne 7, 3) := by decide +kernel
theorem dX3_howManyInField_48 : decode cX3_howManyInField 48 = .ok (.iconst 1, 1) := by decide +kernel
theorem dX3_howManyInField_49 : decode cX3_howManyInField 49 = .ok (.goto 4, 3) := by decide +kernel
theorem dX3_howManyInField_52 : decode cX3_howManyInField 52 = .ok (.iconst 0, 1) := by decide +kernel
theorem dX3_howManyInField_53 : decode cX3_howManyInField 53 = .ok (.iadd, 1) := by decide +kernel
theorem dX3_howManyInField_54 : decode cX3_howManyInField 54 = .ok (.istore_n 2, 1) := by decide +kernel
theorem dX3_howManyInField_55 : decode cX3_howManyInField 55 = .ok (.iinc 3 1, 3) := by decide +kernel
theorem dX3_howManyInField_58 : decode cX3_howManyInField 58 = .ok (.goto (-54), 3) := by decide +kernel
theorem dX3_howManyInField_61 : decode cX3_howManyInField 61 = .ok (.iload_n 2, 1) := by decide +kernel
theorem dX3_howManyInField_62 : decode cX3_howManyInField 62 = .ok (.ireturn, 1) := by decide +kernel
theorem dX3_init_0 : decode cX3_init 0 = .ok (.aload_n 0, 1) := by decide +kernel
theorem dX3_init_1 : decode cX3_init 1 = .ok (.invokespecial 3, 3) := by decide +kernel
theorem dX3_init_4 : decode cX3_init 4 = .ok (.aload_n 0, 1) := by decide +kernel
theorem dX3_init_5 : decode cX3_init 5 = .ok (.bipush 9, 2) := by decide +kernel
theorem dX3_init_7 : decode cX3_init 7 = .ok (.newarray .int, 2) := by decide +kernel
theorem dX3_init_9 : decode cX3_init 9 = .ok (.putfield 11, 3) := by decide +kernel
theorem dX3_init_12 : decode cX3_init 12 = .ok (.aload_n 0, 1) := by decide +kernel
theorem dX3_init_13 : decode cX3_init 13 = .ok (.aload_n 1, 1) := by decide +kernel
theorem dX3_init_14 : decode cX3_init 14 = .ok (.putfield 17, 3) := by decide +kernel
theorem dX3_init_17 : decode cX3_init 17 = .ok (.aload_n 0, 1) := by decide +kernel
theorem dX3_init_18 : decode cX3_init 18 = .ok (.aload_n 2, 1) := by decide +kernel
theorem dX3_init_19 : decode cX3_init 19 = .ok (.putfield 21, 3) := by decide +kernel
theorem dX3_init_22 : decode cX3_init 22 = .ok (.aload_n 0, 1) := by decide +kernel
theorem dX3_init_23 : decode cX3_init 23 = .ok (.aload_n 3, 1) := by decide +kernel
theorem dX3_init_24 : decode cX3_init 24 = .ok (.putfield 25, 3) := by decide +kernel
theorem dX3_init_27 : decode cX3_init 27 = .ok (.aload_n 0, 1) := by decide +kernel
theorem dX3_init_28 : decode cX3_init 28 = .ok (.iload 4, 2) := by decide +kernel
theorem dX3_init_30 : decode cX3_init 30 = .ok (.putfield 29, 3) := by decide +kernel
theorem dX3_init_33 : decode cX3_init 33 = .ok (.return_, 1) := by decide +kernel
theorem dX3_isAt_0 : decode cX3_isAt 0 = .ok (.aload_n 0, 1) := by decide +kernel
theorem dX3_isAt_1 : decode cX3_isAt 1 = .ok (.getfield 17, 3) := by decide +kernel
theorem dX3_isAt_4 : decode cX3_isAt 4 = .ok (.iload_n 1, 1) := by decide +kernel
theorem dX3_isAt_5 : decode cX3_isAt 5 = .ok (.invokevirtual 64, 3) := by decide +kernel
theorem dX3_isAt_8 : decode cX3_isAt 8 = .ok (.ifCond .eq 33, 3) := by decide +kernel
theorem dX3_isAt_11 : decode cX3_isAt 11 = .ok (.aload_n 0, 1) := by decide +kernel
theorem dX3_isAt_12 : decode cX3_isAt 12 = .ok (.getfield 21, 3) := by decide +kernel
theorem dX3_isAt_15 : decode cX3_isAt 15 = .ok (.getfield 70, 3) := by decide +kernel
theorem dX3_isAt_18 : decode cX3_isAt 18 = .ok (.iload_n 1, 1) := by decide +kernel
theorem dX3_isAt_19 : decode cX3_isAt 19 = .ok (.iaload, 1) := by decide +kernel
theorem dX3_isAt_20 : decode cX3_isAt 20 = .ok (.iconst 1, 1) := by decide +kernel
theorem dX3_isAt_21 : decode cX3_isAt 21 = .ok (.if_icmp .ne 20, 3) := by decide +kernel
theorem dX3_isAt_24 : decode cX3_isAt 24 = .ok (.aload_n 0, 1) := by decide +kernel
theorem dX3_isAt_25 : decode cX3_isAt 25 = .ok (.getfield 21, 3) := by decide +kernel
theorem dX3_isAt_28 : decode cX3_isAt 28 = .ok (.getfield 94, 3) := by decide +kernel
theorem dX3_isAt_31 : decode cX3_isAt 31 = .ok (.iload_n 1, 1) := by decide +kernel
theorem dX3_isAt_32 : decode cX3_isAt 32 = .ok (.iaload, 1) := by decide +kernel
theorem dX3_isAt_33 : decode cX3_isAt 33 = .ok (.iload_n 2, 1) := by decide +kernel
theorem dX3_isAt_34 : decode cX3_isAt 34 = .ok (.if_icmp .ne 7, 3) := by decide +kernel
theorem dX3_isAt_37 : decode cX3_isAt 37 = .ok (.iconst 1, 1) := by decide +kernel
theorem dX3_isAt_38 : decode cX3_isAt 38 = .ok (.goto 4, 3) := by decide +kernel
theorem dX3_isAt_41 : decode cX3_isAt 41 = .ok (.iconst 0, 1) := by decide +kernel
theorem dX3_isAt_42 : decode cX3_isAt 42 = .ok (.ireturn, 1) := by decide +kernel
theorem dX3_known_0 : decode cX3_known 0 = .ok (.iconst 0, 1) := by decide +kernel
theorem dX3_known_1 : decode cX3_known 1 = .ok (.istore_n 2, 1) := by decide +kernel
theorem dX3_known_2 : decode cX3_known 2 = .ok (.iconst 0, 1) := by decide +kernel
theorem dX3_known_3 : decode cX3_known 3 = .ok (.istore_n 3, 1) := by decide +kernel
theorem dX3_known_4 : decode cX3_known 4 = .ok (.iload_n 3, 1) := by decide +kernel
theorem dX3_known_5 : decode cX3_known 5 = .ok (.bipush 12, 2) := by decide +kernel
theorem dX3_known_7 : decode cX3_known 7 = .ok (.if_icmp .ge 49, 3) := by decide +kernel
theorem dX3_known_10 : decode cX3_known 10 = .ok (.iload_n 3, 1) := by decide +kernel
theorem dX3_known_11 : decode cX3_known 11 = .ok (.aload_n 0, 1) := by decide +kernel
theorem dX3_known_12 : decode cX3_known 12 = .ok (.getfield 17, 3) := by decide +kernel
theorem dX3_known_15 : decode cX3_known 15 = .ok (.getfield 123, 3) := by decide +kernel
theorem dX3_known_18 : decode cX3_known 18 = .ok (.if_icmp .ge 38, 3) := by decide +kernel
theorem dX3_known_21 : decode cX3_known 21 = .ok (.iload_n 2, 1) := by decide +kernel
theorem dX3_known_22 : decode cX3_known 22 = .ok (.aload_n 0, 1) := by decide +kernel
theorem dX3_known_23 : decode cX3_known 23 = .ok (.getfield 17, 3) := by decide +kernel
theorem dX3_known_26 : decode cX3_known 26 = .ok (.getfield 73, 3) := by decide +kernel
theorem dX3_known_29 : decode cX3_known 29 = .ok (.iload_n 3, 1) := by decide +kernel
theorem dX3_known_30 : decode cX3_known 30 = .ok (.iaload, 1) := by decide +kernel
theorem dX3_known_31 : decode cX3_known 31 = .ok (.iload_n 1, 1) := by decide +kernel
theorem dX3_known_32 : decode cX3_known 32 = .ok (.if_icmp .ne 15, 3) := by decide +kernel
theorem dX3_known_35 : decode cX3_known 35 = .ok (.aload_n 0, 1) := by decide +kernel
theorem dX3_known_36 : decode cX3_known 36 = .ok (.getfield 21, 3) := by decide +kernel
theorem dX3_known_39 : decode cX3_known 39 = .ok (.getfield 85, 3) := by decide +kernel
theorem dX3_known_42 : decode cX3_known 42 = .ok (.iload_n 3, 1) := by decide +kernel
theorem dX3_known_43 : decode cX3_known 43 = .ok (.iaload, 1) := by decide +kernel
theorem dX3_known_44 : decode cX3_known 44 = .ok (.goto 4, 3) := by decide +kernel
theorem dX3_known_47 : decode cX3_known 47 = .ok (.iconst 0, 1) := by decide +kernel
theorem dX3_known_48 : decode cX3_known 48 = .ok (.ior, 1) := by decide +kernel
theorem dX3_known_49 : decode cX3_known 49 = .ok (.istore_n 2, 1) := by decide +kernel
theorem dX3_known_50 : decode cX3_known 50 = .ok (.iinc 3 1, 3) := by decide +kernel
theorem dX3_known_53 : decode cX3_known 53 = .ok (.goto (-49), 3) := by decide +kernel
theorem dX3_known_56 : decode cX3_known 56 = .ok (.iload_n 2, 1) := by decide +kernel
theorem dX3_known_57 : decode cX3_known 57 = .ok (.ireturn, 1) := by decide +kernel
theorem dX3_leastOf_0 : decode cX3_leastOf 0 = .ok (.iconst 0, 1) := by decide +kernel
theorem dX3_leastOf_1 : decode cX3_leastOf 1 = .ok (.istore_n 1, 1) := by decide +kernel
theorem dX3_leastOf_2 : decode cX3_leastOf 2 = .ok (.iload_n 1, 1) := by decide +kernel
theorem dX3_leastOf_3 : decode cX3_leastOf 3 = .ok (.bipush 7, 2) := by decide +kernel
theorem dX3_leastOf_5 : decode cX3_leastOf 5 = .ok (.if_icmp .ge 17, 3) := by decide +kernel
theorem dX3_leastOf_8 : decode cX3_leastOf 8 = .ok (.iload_n 0, 1) := by decide +kernel
theorem dX3_leastOf_9 : decode cX3_leastOf 9 = .ok (.iload_n 1, 1) := by decide +kernel
theorem dX3_leastOf_10 : decode cX3_leastOf 10 = .ok (.invokestatic 174, 3) := by decide +kernel
theorem dX3_leastOf_13 : decode cX3_leastOf 13 = .ok (.ifCond .ne 9, 3) := by decide +kernel
theorem dX3_leastOf_16 : decode cX3_leastOf 16 = .ok (.iinc 1 1, 3) := by decide +kernel
theorem dX3_leastOf_19 : decode cX3_leastOf 19 = .ok (.goto (-17), 3) := by decide +kernel
theorem dX3_leastOf_22 : decode cX3_leastOf 22 = .ok (.iload_n 1, 1) := by decide +kernel
theorem dX3_leastOf_23 : decode cX3_leastOf 23 = .ok (.ireturn, 1) := by decide +kernel
theorem dX3_note_0 : decode cX3_note 0 = .ok (.aload_n 0, 1) := by decide +kernel
theorem dX3_note_1 : decode cX3_note 1 = .ok (.getfield 29, 3) := by decide +kernel
theorem dX3_note_4 : decode cX3_note 4 = .ok (.ifCond .eq 53, 3) := by decide +kernel
theorem dX3_note_7 : decode cX3_note 7 = .ok (.aload_n 0, 1) := by decide +kernel
theorem dX3_note_8 : decode cX3_note 8 = .ok (.getfield 21, 3) := by decide +kernel
theorem dX3_note_11 : decode cX3_note 11 = .ok (.getfield 126, 3) := by decide +kernel
theorem dX3_note_14 : decode cX3_note 14 = .ok (.sipush 150, 3) := by decide +kernel
theorem dX3_note_17 : decode cX3_note 17 = .ok (.if_icmp .ge 40, 3) := by decide +kernel
theorem dX3_note_20 : decode cX3_note 20 = .ok (.aload_n 0, 1) := by decide +kernel
theorem dX3_note_21 : decode cX3_note 21 = .ok (.getfield 25, 3) := by decide +kernel
theorem dX3_note_24 : decode cX3_note 24 = .ok (.aload_n 0, 1) := by decide +kernel
theorem dX3_note_25 : decode cX3_note 25 = .ok (.getfield 21, 3) := by decide +kernel
theorem dX3_note_28 : decode cX3_note 28 = .ok (.getfield 126, 3) := by decide +kernel
theorem dX3_note_31 : decode cX3_note 31 = .ok (.aload_n 0, 1) := by decide +kernel
theorem dX3_note_32 : decode cX3_note 32 = .ok (.getfield 21, 3) := by decide +kernel
theorem dX3_note_35 : decode cX3_note 35 = .ok (.getfield 52, 3) := by decide +kernel
theorem dX3_note_38 : decode cX3_note 38 = .ok (.iload_n 1, 1) := by decide +kernel
theorem dX3_note_39 : decode cX3_note 39 = .ok (.iload_n 2, 1) := by decide +kernel
theorem dX3_note_40 : decode cX3_note 40 = .ok (.iload_n 3, 1) := by decide +kernel
theorem dX3_note_41 : decode cX3_note 41 = .ok (.invokevirtual 129, 3) := by decide +kernel
theorem dX3_note_44 : decode cX3_note 44 = .ok (.aload_n 0, 1) := by decide +kernel
theorem dX3_note_45 : decode cX3_note 45 = .ok (.getfield 21, 3) := by decide +kernel
theorem dX3_note_48 : decode cX3_note 48 = .ok (.dup, 1) := by decide +kernel
theorem dX3_note_49 : decode cX3_note 49 = .ok (.getfield 126, 3) := by decide +kernel
theorem dX3_note_52 : decode cX3_note 52 = .ok (.iconst 1, 1) := by decide +kernel
theorem dX3_note_53 : decode cX3_note 53 = .ok (.iadd, 1) := by decide +kernel
theorem dX3_note_54 : decode cX3_note 54 = .ok (.putfield 126, 3) := by decide +kernel
theorem dX3_note_57 : decode cX3_note 57 = .ok (.return_, 1) := by decide +kernel
theorem dX3_pass_0 : decode cX3_pass 0 = .ok (.aload_n 0, 1) := by decide +kernel
theorem dX3_pass_1 : decode cX3_pass 1 = .ok (.getfield 21, 3) := by decide +kernel
theorem dX3_pass_4 : decode cX3_pass 4 = .ok (.getfield 33, 3) := by decide +kernel
theorem dX3_pass_7 : decode cX3_pass 7 = .ok (.iconst 1, 1) := by decide +kernel
theorem dX3_pass_8 : decode cX3_pass 8 = .ok (.if_icmp .ne 7, 3) := by decide +kernel
theorem dX3_pass_11 : decode cX3_pass 11 = .ok (.iconst 1, 1) := by decide +kernel
theorem dX3_pass_12 : decode cX3_pass 12 = .ok (.goto 4, 3) := by decide +kernel
theorem dX3_pass_15 : decode cX3_pass 15 = .ok (.iconst 0, 1) := by decide +kernel
theorem dX3_pass_16 : decode cX3_pass 16 = .ok (.istore_n 1, 1) := by decide +kernel
theorem dX3_pass_17 : decode cX3_pass 17 = .ok (.iload_n 1, 1) := by decide +kernel
theorem dX3_pass_18 : decode cX3_pass 18 = .ok (.ifCond .eq 25, 3) := by decide +kernel
theorem dX3_pass_21 : decode cX3_pass 21 = .ok (.aload_n 0, 1) := by decide +kernel
theorem dX3_pass_22 : decode cX3_pass 22 = .ok (.iconst 0, 1) := by decide +kernel
theorem dX3_pass_23 : decode cX3_pass 23 = .ok (.invokevirtual 39, 3) := by decide +kernel
theorem dX3_pass_26 : decode cX3_pass 26 = .ok (.aload_n 0, 1) := by decide +kernel
theorem dX3_pass_27 : decode cX3_pass 27 = .ok (.iconst 1, 1) := by decide +kernel
theorem dX3_pass_28 : decode cX3_pass 28 = .ok (.invokevirtual 39, 3) := by decide +kernel
theorem dX3_pass_31 : decode cX3_pass 31 = .ok (.aload_n 0, 1) := by decide +kernel
theorem dX3_pass_32 : decode cX3_pass 32 = .ok (.invokevirtual 43, 3) := by decide +kernel
theorem dX3_pass_35 : decode cX3_pass 35 = .ok (.aload_n 0, 1) := by decide +kernel
theorem dX3_pass_36 : decode cX3_pass 36 = .ok (.invokevirtual 46, 3) := by decide +kernel
theorem dX3_pass_39 : decode cX3_pass 39 = .ok (.aload_n 0, 1) := by decide +kernel
theorem dX3_pass_40 : decode cX3_pass 40 = .ok (.invokevirtual 49, 3) := by decide +kernel
theorem dX3_pass_43 : decode cX3_pass 43 = .ok (.aload_n 0, 1) := by decide +kernel
theorem dX3_pass_44 : decode cX3_pass 44 = .ok (.getfield 21, 3) := by decide +kernel
theorem dX3_pass_47 : decode cX3_pass 47 = .ok (.getfield 52, 3) := by decide +kernel
theorem dX3_pass_50 : decode cX3_pass 50 = .ok (.bipush 7, 2) := by decide +kernel
theorem dX3_pass_52 : decode cX3_pass 52 = .ok (.irem, 1) := by decide +kernel
theorem dX3_pass_53 : decode cX3_pass 53 = .ok (.ifCond .ne 7, 3) := by decide +kernel
theorem dX3_pass_56 : decode cX3_pass 56 = .ok (.aload_n 0, 1) := by decide +kernel
theorem dX3_pass_57 : decode cX3_pass 57 = .ok (.invokevirtual 55, 3) := by decide +kernel
theorem dX3_pass_60 : decode cX3_pass 60 = .ok (.aload_n 0, 1) := by decide +kernel
theorem dX3_pass_61 : decode cX3_pass 61 = .ok (.getfield 29, 3) := by decide +kernel
theorem dX3_pass_64 : decode cX3_pass 64 = .ok (.ifCond .eq 7, 3) := by decide +kernel
theorem dX3_pass_67 : decode cX3_pass 67 = .ok (.aload_n 0, 1) := by decide +kernel
theorem dX3_pass_68 : decode cX3_pass 68 = .ok (.invokevirtual 58, 3) := by decide +kernel
theorem dX3_pass_71 : decode cX3_pass 71 = .ok (.iload_n 1, 1) := by decide +kernel
theorem dX3_pass_72 : decode cX3_pass 72 = .ok (.ifCond .eq 7, 3) := by decide +kernel
theorem dX3_pass_75 : decode cX3_pass 75 = .ok (.aload_n 0, 1) := by decide +kernel
theorem dX3_pass_76 : decode cX3_pass 76 = .ok (.invokevirtual 61, 3) := by decide +kernel
theorem dX3_pass_79 : decode cX3_pass 79 = .ok (.aload_n 0, 1) := by decide +kernel
theorem dX3_pass_80 : decode cX3_pass 80 = .ok (.getfield 21, 3) := by decide +kernel
theorem dX3_pass_83 : decode cX3_pass 83 = .ok (.dup, 1) := by decide +kernel
theorem dX3_pass_84 : decode cX3_pass 84 = .ok (.getfield 52, 3) := by decide +kernel
theorem dX3_pass_87 : decode cX3_pass 87 = .ok (.iconst 1, 1) := by decide +kernel
theorem dX3_pass_88 : decode cX3_pass 88 = .ok (.iadd, 1) := by decide +kernel
theorem dX3_pass_89 : decode cX3_pass 89 = .ok (.putfield 52, 3) := by decide +kernel
theorem dX3_pass_92 : decode cX3_pass 92 = .ok (.return_, 1) := by decide +kernel
theorem dX3_tellOn_0 : decode cX3_tellOn 0 = .ok (.iconst 0, 1) := by decide +kernel
theorem dX3_tellOn_1 : decode cX3_tellOn 1 = .ok (.istore_n 1, 1) := by decide +kernel
theorem dX3_tellOn_2 : decode cX3_tellOn 2 = .ok (.iload_n 1, 1) := by decide +kernel
theorem dX3_tellOn_3 : decode cX3_tellOn 3 = .ok (.bipush 12, 2) := by decide +kernel
theorem dX3_tellOn_5 : decode cX3_tellOn 5 = .ok (.if_icmp .ge 116, 3) := by decide +kernel
theorem dX3_tellOn_8 : decode cX3_tellOn 8 = .ok (.iload_n 1, 1) := by decide +kernel
theorem dX3_tellOn_9 : decode cX3_tellOn 9 = .ok (.aload_n 0, 1) := by decide +kernel
theorem dX3_tellOn_10 : decode cX3_tellOn 10 = .ok (.getfield 17, 3) := by decide +kernel
theorem dX3_tellOn_13 : decode cX3_tellOn 13 = .ok (.getfield 123, 3) := by decide +kernel
theorem dX3_tellOn_16 : decode cX3_tellOn 16 = .ok (.if_icmp .ge 105, 3) := by decide +kernel
theorem dX3_tellOn_19 : decode cX3_tellOn 19 = .ok (.iconst 0, 1) := by decide +kernel
theorem dX3_tellOn_20 : decode cX3_tellOn 20 = .ok (.istore_n 2, 1) := by decide +kernel
theorem dX3_tellOn_21 : decode cX3_tellOn 21 = .ok (.iload_n 2, 1) := by decide +kernel
theorem dX3_tellOn_22 : decode cX3_tellOn 22 = .ok (.bipush 12, 2) := by decide +kernel
theorem dX3_tellOn_24 : decode cX3_tellOn 24 = .ok (.if_icmp .ge 91, 3) := by decide +kernel
theorem dX3_tellOn_27 : decode cX3_tellOn 27 = .ok (.iload_n 2, 1) := by decide +kernel
theorem dX3_tellOn_28 : decode cX3_tellOn 28 = .ok (.aload_n 0, 1) := by decide +kernel
theorem dX3_tellOn_29 : decode cX3_tellOn 29 = .ok (.getfield 17, 3) := by decide +kernel
theorem dX3_tellOn_32 : decode cX3_tellOn 32 = .ok (.getfield 123, 3) := by decide +kernel
theorem dX3_tellOn_35 : decode cX3_tellOn 35 = .ok (.if_icmp .ge 80, 3) := by decide +kernel
theorem dX3_tellOn_38 : decode cX3_tellOn 38 = .ok (.aload_n 0, 1) := by decide +kernel
theorem dX3_tellOn_39 : decode cX3_tellOn 39 = .ok (.getfield 21, 3) := by decide +kernel
theorem dX3_tellOn_42 : decode cX3_tellOn 42 = .ok (.getfield 70, 3) := by decide +kernel
theorem dX3_tellOn_45 : decode cX3_tellOn 45 = .ok (.iload_n 1, 1) := by decide +kernel
theorem dX3_tellOn_46 : decode cX3_tellOn 46 = .ok (.iaload, 1) := by decide +kernel
theorem dX3_tellOn_47 : decode cX3_tellOn 47 = .ok (.ifCond .ne 19, 3) := by decide +kernel
theorem dX3_tellOn_50 : decode cX3_tellOn 50 = .ok (.aload_n 0, 1) := by decide +kernel
theorem dX3_tellOn_51 : decode cX3_tellOn 51 = .ok (.getfield 21, 3) := by decide +kernel
theorem dX3_tellOn_54 : decode cX3_tellOn 54 = .ok (.getfield 70, 3) := by decide +kernel
theorem dX3_tellOn_57 : decode cX3_tellOn 57 = .ok (.iload_n 2, 1) := by decide +kernel
theorem dX3_tellOn_58 : decode cX3_tellOn 58 = .ok (.iaload, 1) := by decide +kernel
theorem dX3_tellOn_59 : decode cX3_tellOn 59 = .ok (.ifCond .ne 7, 3) := by decide +kernel
theorem dX3_tellOn_62 : decode cX3_tellOn 62 = .ok (.iconst 1, 1) := by decide +kernel
theorem dX3_tellOn_63 : decode cX3_tellOn 63 = .ok (.goto 4, 3) := by decide +kernel
theorem dX3_tellOn_66 : decode cX3_tellOn 66 = .ok (.iconst 0, 1) := by decide +kernel
theorem dX3_tellOn_67 : decode cX3_tellOn 67 = .ok (.istore_n 3, 1) := by decide +kernel
theorem dX3_tellOn_68 : decode cX3_tellOn 68 = .ok (.iload_n 3, 1) := by decide +kernel
theorem dX3_tellOn_69 : decode cX3_tellOn 69 = .ok (.ifCond .eq 40, 3) := by decide +kernel
theorem dX3_tellOn_72 : decode cX3_tellOn 72 = .ok (.aload_n 0, 1) := by decide +kernel
theorem dX3_tellOn_73 : decode cX3_tellOn 73 = .ok (.getfield 17, 3) := by decide +kernel
theorem dX3_tellOn_76 : decode cX3_tellOn 76 = .ok (.getfield 198, 3) := by decide +kernel
theorem dX3_tellOn_79 : decode cX3_tellOn 79 = .ok (.iload_n 1, 1) := by decide +kernel
theorem dX3_tellOn_80 : decode cX3_tellOn 80 = .ok (.iaload, 1) := by decide +kernel
theorem dX3_tellOn_81 : decode cX3_tellOn 81 = .ok (.iload_n 2, 1) := by decide +kernel
theorem dX3_tellOn_82 : decode cX3_tellOn 82 = .ok (.invokestatic 174, 3) := by decide +kernel
theorem dX3_tellOn_85 : decode cX3_tellOn 85 = .ok (.ifCond .eq 24, 3) := by decide +kernel
theorem dX3_tellOn_88 : decode cX3_tellOn 88 = .ok (.aload_n 0, 1) := by decide +kernel
theorem dX3_tellOn_89 : decode cX3_tellOn 89 = .ok (.getfield 21, 3) := by decide +kernel
theorem dX3_tellOn_92 : decode cX3_tellOn 92 = .ok (.getfield 85, 3) := by decide +kernel
theorem dX3_tellOn_95 : decode cX3_tellOn 95 = .ok (.iload_n 2, 1) := by decide +kernel
theorem dX3_tellOn_96 : decode cX3_tellOn 96 = .ok (.dup2, 1) := by decide +kernel
theorem dX3_tellOn_97 : decode cX3_tellOn 97 = .ok (.iaload, 1) := by decide +kernel
theorem dX3_tellOn_98 : decode cX3_tellOn 98 = .ok (.aload_n 0, 1) := by decide +kernel
theorem dX3_tellOn_99 : decode cX3_tellOn 99 = .ok (.getfield 21, 3) := by decide +kernel
theorem dX3_tellOn_102 : decode cX3_tellOn 102 = .ok (.getfield 85, 3) := by decide +kernel
theorem dX3_tellOn_105 : decode cX3_tellOn 105 = .ok (.iload_n 1, 1) := by decide +kernel
theorem dX3_tellOn_106 : decode cX3_tellOn 106 = .ok (.iaload, 1) := by decide +kernel
theorem dX3_tellOn_107 : decode cX3_tellOn 107 = .ok (.ior, 1) := by decide +kernel
theorem dX3_tellOn_108 : decode cX3_tellOn 108 = .ok (.iastore, 1) := by decide +kernel
theorem dX3_tellOn_109 : decode cX3_tellOn 109 = .ok (.iinc 2 1, 3) := by decide +kernel
theorem dX3_tellOn_112 : decode cX3_tellOn 112 = .ok (.goto (-91), 3) := by decide +kernel
theorem dX3_tellOn_115 : decode cX3_tellOn 115 = .ok (.iinc 1 1, 3) := by decide +kernel
theorem dX3_tellOn_118 : decode cX3_tellOn 118 = .ok (.goto (-116), 3) := by decide +kernel
theorem dX3_tellOn_121 : decode cX3_tellOn 121 = .ok (.return_, 1) := by decide +kernel
theorem dX3_walk_0 : decode cX3_walk 0 = .ok (.aload_n 0, 1) := by decide +kernel
theorem dX3_walk_1 : decode cX3_walk 1 = .ok (.getfield 17, 3) := by decide +kernel
theorem dX3_walk_4 : decode cX3_walk 4 = .ok (.iload_n 1, 1) := by decide +kernel
theorem dX3_walk_5 : decode cX3_walk 5 = .ok (.invokevirtual 64, 3) := by decide +kernel
theorem dX3_walk_8 : decode cX3_walk 8 = .ok (.ifCond .ne 4, 3) := by decide +kernel
theorem dX3_walk_11 : decode cX3_walk 11 = .ok (.return_, 1) := by decide +kernel
theorem dX3_walk_12 : decode cX3_walk 12 = .ok (.aload_n 0, 1) := by decide +kernel
theorem dX3_walk_13 : decode cX3_walk 13 = .ok (.getfield 17, 3) := by decide +kernel
theorem dX3_walk_16 : decode cX3_walk 16 = .ok (.getfield 73, 3) := by decide +kernel
theorem dX3_walk_19 : decode cX3_walk 19 = .ok (.iload_n 1, 1) := by decide +kernel
theorem dX3_walk_20 : decode cX3_walk 20 = .ok (.iaload, 1) := by decide +kernel
theorem dX3_walk_21 : decode cX3_walk 21 = .ok (.istore_n 3, 1) := by decide +kernel
theorem dX3_walk_22 : decode cX3_walk 22 = .ok (.iload_n 3, 1) := by decide +kernel
theorem dX3_walk_23 : decode cX3_walk 23 = .ok (.ifCond .ne 7, 3) := by decide +kernel
theorem dX3_walk_26 : decode cX3_walk 26 = .ok (.iconst 1, 1) := by decide +kernel
theorem dX3_walk_27 : decode cX3_walk 27 = .ok (.goto 4, 3) := by decide +kernel
theorem dX3_walk_30 : decode cX3_walk 30 = .ok (.iconst (-1), 1) := by decide +kernel
theorem dX3_walk_31 : decode cX3_walk 31 = .ok (.istore 4, 2) := by decide +kernel
theorem dX3_walk_33 : decode cX3_walk 33 = .ok (.aload_n 0, 1) := by decide +kernel
theorem dX3_walk_34 : decode cX3_walk 34 = .ok (.iconst 1, 1) := by decide +kernel
theorem dX3_walk_35 : decode cX3_walk 35 = .ok (.iload_n 3, 1) := by decide +kernel
theorem dX3_walk_36 : decode cX3_walk 36 = .ok (.isub, 1) := by decide +kernel
theorem dX3_walk_37 : decode cX3_walk 37 = .ok (.invokevirtual 171, 3) := by decide +kernel
theorem dX3_walk_40 : decode cX3_walk 40 = .ok (.istore 5, 2) := by decide +kernel
theorem dX3_walk_42 : decode cX3_walk 42 = .ok (.iload_n 2, 1) := by decide +kernel
theorem dX3_walk_43 : decode cX3_walk 43 = .ok (.istore 6, 2) := by decide +kernel
theorem dX3_walk_45 : decode cX3_walk 45 = .ok (.iconst 0, 1) := by decide +kernel
theorem dX3_walk_46 : decode cX3_walk 46 = .ok (.istore 7, 2) := by decide +kernel
theorem dX3_walk_48 : decode cX3_walk 48 = .ok (.iload 7, 2) := by decide +kernel
theorem dX3_walk_50 : decode cX3_walk 50 = .ok (.bipush 16, 2) := by decide +kernel
theorem dX3_walk_52 : decode cX3_walk 52 = .ok (.if_icmp .ge 114, 3) := by decide +kernel
theorem dX3_walk_55 : decode cX3_walk 55 = .ok (.iload 6, 2) := by decide +kernel
theorem dX3_walk_57 : decode cX3_walk 57 = .ok (.ifCond .le 109, 3) := by decide +kernel
theorem dX3_walk_60 : decode cX3_walk 60 = .ok (.aload_n 0, 1) := by decide +kernel
theorem dX3_walk_61 : decode cX3_walk 61 = .ok (.getfield 21, 3) := by decide +kernel
theorem dX3_walk_64 : decode cX3_walk 64 = .ok (.getfield 94, 3) := by decide +kernel
theorem dX3_walk_67 : decode cX3_walk 67 = .ok (.iload_n 1, 1) := by decide +kernel
theorem dX3_walk_68 : decode cX3_walk 68 = .ok (.iaload, 1) := by decide +kernel
theorem dX3_walk_69 : decode cX3_walk 69 = .ok (.iload 4, 2) := by decide +kernel
theorem dX3_walk_71 : decode cX3_walk 71 = .ok (.iadd, 1) := by decide +kernel
theorem dX3_walk_72 : decode cX3_walk 72 = .ok (.istore 8, 2) := by decide +kernel
theorem dX3_walk_74 : decode cX3_walk 74 = .ok (.aload_n 0, 1) := by decide +kernel
theorem dX3_walk_75 : decode cX3_walk 75 = .ok (.getfield 17, 3) := by decide +kernel
theorem dX3_walk_78 : decode cX3_walk 78 = .ok (.iload 8, 2) := by decide +kernel
theorem dX3_walk_80 : decode cX3_walk 80 = .ok (.invokevirtual 100, 3) := by decide +kernel
theorem dX3_walk_83 : decode cX3_walk 83 = .ok (.ifCond .eq 7, 3) := by decide +kernel
theorem dX3_walk_86 : decode cX3_walk 86 = .ok (.iconst 2, 1) := by decide +kernel
theorem dX3_walk_87 : decode cX3_walk 87 = .ok (.goto 4, 3) := by decide +kernel
theorem dX3_walk_90 : decode cX3_walk 90 = .ok (.iconst 1, 1) := by decide +kernel
theorem dX3_walk_91 : decode cX3_walk 91 = .ok (.istore 9, 2) := by decide +kernel
theorem dX3_walk_93 : decode cX3_walk 93 = .ok (.iload 8, 2) := by decide +kernel
theorem dX3_walk_95 : decode cX3_walk 95 = .ok (.ifCond .lt 10, 3) := by decide +kernel
theorem dX3_walk_98 : decode cX3_walk 98 = .ok (.iload 8, 2) := by decide +kernel
theorem dX3_walk_100 : decode cX3_walk 100 = .ok (.bipush 16, 2) := by decide +kernel
theorem dX3_walk_102 : decode cX3_walk 102 = .ok (.if_icmp .lt 7, 3) := by decide +kernel
theorem dX3_walk_105 : decode cX3_walk 105 = .ok (.iconst 1, 1) := by decide +kernel
theorem dX3_walk_106 : decode cX3_walk 106 = .ok (.goto 4, 3) := by decide +kernel
theorem dX3_walk_109 : decode cX3_walk 109 = .ok (.iconst 0, 1) := by decide +kernel
theorem dX3_walk_110 : decode cX3_walk 110 = .ok (.istore 10, 2) := by decide +kernel
theorem dX3_walk_112 : decode cX3_walk 112 = .ok (.iload 10, 2) := by decide +kernel
theorem dX3_walk_114 : decode cX3_walk 114 = .ok (.ifCond .ne 27, 3) := by decide +kernel
theorem dX3_walk_117 : decode cX3_walk 117 = .ok (.iload 9, 2) := by decide +kernel
theorem dX3_walk_119 : decode cX3_walk 119 = .ok (.iload 6, 2) := by decide +kernel
theorem dX3_walk_121 : decode cX3_walk 121 = .ok (.if_icmp .gt 20, 3) := by decide +kernel
theorem dX3_walk_124 : decode cX3_walk 124 = .ok (.iload 5, 2) := by decide +kernel
theorem dX3_walk_126 : decode cX3_walk 126 = .ok (.aload_n 0, 1) := by decide +kernel
theorem dX3_walk_127 : decode cX3_walk 127 = .ok (.getfield 21, 3) := by decide +kernel
theorem dX3_walk_130 : decode cX3_walk 130 = .ok (.getfield 94, 3) := by decide +kernel
theorem dX3_walk_133 : decode cX3_walk 133 = .ok (.iload_n 1, 1) := by decide +kernel
theorem dX3_walk_134 : decode cX3_walk 134 = .ok (.iaload, 1) := by decide +kernel
theorem dX3_walk_135 : decode cX3_walk 135 = .ok (.invokestatic 174, 3) := by decide +kernel
theorem dX3_walk_138 : decode cX3_walk 138 = .ok (.ifCond .eq 4, 3) := by decide +kernel
theorem dX3_walk_141 : decode cX3_walk 141 = .ok (.return_, 1) := by decide +kernel
theorem dX3_walk_142 : decode cX3_walk 142 = .ok (.aload_n 0, 1) := by decide +kernel
theorem dX3_walk_143 : decode cX3_walk 143 = .ok (.getfield 21, 3) := by decide +kernel
theorem dX3_walk_146 : decode cX3_walk 146 = .ok (.getfield 94, 3) := by decide +kernel
theorem dX3_walk_149 : decode cX3_walk 149 = .ok (.iload_n 1, 1) := by decide +kernel
theorem dX3_walk_150 : decode cX3_walk 150 = .ok (.iload 8, 2) := by decide +kernel
theorem dX3_walk_152 : decode cX3_walk 152 = .ok (.iastore, 1) := by decide +kernel
theorem dX3_walk_153 : decode cX3_walk 153 = .ok (.iload 6, 2) := by decide +kernel
theorem dX3_walk_155 : decode cX3_walk 155 = .ok (.iload 9, 2) := by decide +kernel
theorem dX3_walk_157 : decode cX3_walk 157 = .ok (.isub, 1) := by decide +kernel
theorem dX3_walk_158 : decode cX3_walk 158 = .ok (.istore 6, 2) := by decide +kernel
theorem dX3_walk_160 : decode cX3_walk 160 = .ok (.iinc 7 1, 3) := by decide +kernel
theorem dX3_walk_163 : decode cX3_walk 163 = .ok (.goto (-115), 3) := by decide +kernel
theorem dX3_walk_166 : decode cX3_walk 166 = .ok (.return_, 1) := by decide +kernel
theorem dX4_become_0 : decode cX4_become 0 = .ok (.aload_n 1, 1) := by decide +kernel
theorem dX4_become_1 : decode cX4_become 1 = .ok (.getfield 9, 3) := by decide +kernel
theorem dX4_become_4 : decode cX4_become 4 = .ok (.aload_n 0, 1) := by decide +kernel
theorem dX4_become_5 : decode cX4_become 5 = .ok (.getfield 9, 3) := by decide +kernel
theorem dX4_become_8 : decode cX4_become 8 = .ok (.invokestatic 30, 3) := by decide +kernel
theorem dX4_become_11 : decode cX4_become 11 = .ok (.aload_n 1, 1) := by decide +kernel
theorem dX4_become_12 : decode cX4_become 12 = .ok (.getfield 15, 3) := by decide +kernel
theorem dX4_become_15 : decode cX4_become 15 = .ok (.aload_n 0, 1) := by decide +kernel
theorem dX4_become_16 : decode cX4_become 16 = .ok (.getfield 15, 3) := by decide +kernel
theorem dX4_become_19 : decode cX4_become 19 = .ok (.invokestatic 30, 3) := by decide +kernel
theorem dX4_become_22 : decode cX4_become 22 = .ok (.aload_n 1, 1) := by decide +kernel
theorem dX4_become_23 : decode cX4_become 23 = .ok (.getfield 18, 3) := by decide +kernel
theorem dX4_become_26 : decode cX4_become 26 = .ok (.aload_n 0, 1) := by decide +kernel
theorem dX4_become_27 : decode cX4_become 27 = .ok (.getfield 18, 3) := by decide +kernel
theorem dX4_become_30 : decode cX4_become 30 = .ok (.invokestatic 30, 3) := by decide +kernel
theorem dX4_become_33 : decode cX4_become 33 = .ok (.aload_n 1, 1) := by decide +kernel
theorem dX4_become_34 : decode cX4_become 34 = .ok (.getfield 21, 3) := by decide +kernel
theorem dX4_become_37 : decode cX4_become 37 = .ok (.aload_n 0, 1) := by decide +kernel
theorem dX4_become_38 : decode cX4_become 38 = .ok (.getfield 21, 3) := by decide +kernel
theorem dX4_become_41 : decode cX4_become 41 = .ok (.invokestatic 30, 3) := by decide +kernel
theorem dX4_become_44 : decode cX4_become 44 = .ok (.aload_n 1, 1) := by decide +kernel
theorem dX4_become_45 : decode cX4_become 45 = .ok (.getfield 24, 3) := by decide +kernel
theorem dX4_become_48 : decode cX4_become 48 = .ok (.aload_n 0, 1) := by decide +kernel
theorem dX4_become_49 : decode cX4_become 49 = .ok (.getfield 24, 3) := by decide +kernel
theorem dX4_become_52 : decode cX4_become 52 = .ok (.invokestatic 30, 3) := by decide +kernel
theorem dX4_become_55 : decode cX4_become 55 = .ok (.aload_n 0, 1) := by decide +kernel
theorem dX4_become_56 : decode cX4_become 56 = .ok (.aload_n 1, 1) := by decide +kernel
theorem dX4_become_57 : decode cX4_become 57 = .ok (.getfield 34, 3) := by decide +kernel
theorem dX4_become_60 : decode cX4_become 60 = .ok (.putfield 34, 3) := by decide +kernel
theorem dX4_become_63 : decode cX4_become 63 = .ok (.aload_n 0, 1) := by decide +kernel
theorem dX4_become_64 : decode cX4_become 64 = .ok (.aload_n 1, 1) := by decide +kernel
theorem dX4_become_65 : decode cX4_become 65 = .ok (.getfield 38, 3) := by decide +kernel
theorem dX4_become_68 : decode cX4_become 68 = .ok (.putfield 38, 3) := by decide +kernel
theorem dX4_become_71 : decode cX4_become 71 = .ok (.return_, 1) := by decide +kernel
theorem dX4_beginLine_0 : decode cX4_beginLine 0 = .ok (.aload_n 0, 1) := by decide +kernel
theorem dX4_beginLine_1 : decode cX4_beginLine 1 = .ok (.getfield 38, 3) := by decide +kernel
theorem dX4_beginLine_4 : decode cX4_beginLine 4 = .ok (.ifCond .lt 35, 3) := by decide +kernel
theorem dX4_beginLine_7 : decode cX4_beginLine 7 = .ok (.aload_n 0, 1) := by decide +kernel
theorem dX4_beginLine_8 : decode cX4_beginLine 8 = .ok (.getfield 38, 3) := by decide +kernel
theorem dX4_beginLine_11 : decode cX4_beginLine 11 = .ok (.bipush 16, 2) := by decide +kernel
theorem dX4_beginLine_13 : decode cX4_beginLine 13 = .ok (.if_icmp .ge 26, 3) := by decide +kernel
theorem dX4_beginLine_16 : decode cX4_beginLine 16 = .ok (.aload_n 0, 1) := by decide +kernel
theorem dX4_beginLine_17 : decode cX4_beginLine 17 = .ok (.getfield 15, 3) := by decide +kernel
theorem dX4_beginLine_20 : decode cX4_beginLine 20 = .ok (.aload_n 0, 1) := by decide +kernel
theorem dX4_beginLine_21 : decode cX4_beginLine 21 = .ok (.getfield 38, 3) := by decide +kernel
theorem dX4_beginLine_24 : decode cX4_beginLine 24 = .ok (.iload_n 1, 1) := by decide +kernel
theorem dX4_beginLine_25 : decode cX4_beginLine 25 = .ok (.iastore, 1) := by decide +kernel
theorem dX4_beginLine_26 : decode cX4_beginLine 26 = .ok (.aload_n 0, 1) := by decide +kernel
theorem dX4_beginLine_27 : decode cX4_beginLine 27 = .ok (.getfield 18, 3) := by decide +kernel
theorem dX4_beginLine_30 : decode cX4_beginLine 30 = .ok (.aload_n 0, 1) := by decide +kernel
theorem dX4_beginLine_31 : decode cX4_beginLine 31 = .ok (.getfield 38, 3) := by decide +kernel
theorem dX4_beginLine_34 : decode cX4_beginLine 34 = .ok (.aload_n 0, 1) := by decide +kernel
theorem dX4_beginLine_35 : decode cX4_beginLine 35 = .ok (.getfield 34, 3) := by decide +kernel
theorem dX4_beginLine_38 : decode cX4_beginLine 38 = .ok (.iastore, 1) := by decide +kernel
theorem dX4_beginLine_39 : decode cX4_beginLine 39 = .ok (.return_, 1) := by decide +kernel
theorem dX4_beginWhen_0 : decode cX4_beginWhen 0 = .ok (.aload_n 0, 1) := by decide +kernel
theorem dX4_beginWhen_1 : decode cX4_beginWhen 1 = .ok (.getfield 38, 3) := by decide +kernel
theorem dX4_beginWhen_4 : decode cX4_beginWhen 4 = .ok (.ifCond .lt 25, 3) := by decide +kernel
theorem dX4_beginWhen_7 : decode cX4_beginWhen 7 = .ok (.aload_n 0, 1) := by decide +kernel
theorem dX4_beginWhen_8 : decode cX4_beginWhen 8 = .ok (.getfield 38, 3) := by decide +kernel
theorem dX4_beginWhen_11 : decode cX4_beginWhen 11 = .ok (.bipush 16, 2) := by decide +kernel
theorem dX4_beginWhen_13 : decode cX4_beginWhen 13 = .ok (.if_icmp .ge 16, 3) := by decide +kernel
theorem dX4_beginWhen_16 : decode cX4_beginWhen 16 = .ok (.aload_n 0, 1) := by decide +kernel
theorem dX4_beginWhen_17 : decode cX4_beginWhen 17 = .ok (.getfield 21, 3) := by decide +kernel
theorem dX4_beginWhen_20 : decode cX4_beginWhen 20 = .ok (.aload_n 0, 1) := by decide +kernel
theorem dX4_beginWhen_21 : decode cX4_beginWhen 21 = .ok (.getfield 38, 3) := by decide +kernel
theorem dX4_beginWhen_24 : decode cX4_beginWhen 24 = .ok (.aload_n 0, 1) := by decide +kernel
theorem dX4_beginWhen_25 : decode cX4_beginWhen 25 = .ok (.getfield 34, 3) := by decide +kernel
theorem dX4_beginWhen_28 : decode cX4_beginWhen 28 = .ok (.iastore, 1) := by decide +kernel
theorem dX4_beginWhen_29 : decode cX4_beginWhen 29 = .ok (.return_, 1) := by decide +kernel
theorem dX4_clear_0 : decode cX4_clear 0 = .ok (.aload_n 0, 1) := by decide +kernel
theorem dX4_clear_1 : decode cX4_clear 1 = .ok (.iconst 0, 1) := by decide +kernel
theorem dX4_clear_2 : decode cX4_clear 2 = .ok (.putfield 34, 3) := by decide +kernel
theorem dX4_clear_5 : decode cX4_clear 5 = .ok (.aload_n 0, 1) := by decide +kernel
theorem dX4_clear_6 : decode cX4_clear 6 = .ok (.iconst 0, 1) := by decide +kernel
theorem dX4_clear_7 : decode cX4_clear 7 = .ok (.putfield 38, 3) := by decide +kernel
theorem dX4_clear_10 : decode cX4_clear 10 = .ok (.return_, 1) := by decide +kernel
theorem dX4_endLine_0 : decode cX4_endLine 0 = .ok (.aload_n 0, 1) := by decide +kernel
theorem dX4_endLine_1 : decode cX4_endLine 1 = .ok (.getfield 38, 3) := by decide +kernel
theorem dX4_endLine_4 : decode cX4_endLine 4 = .ok (.ifCond .lt 35, 3) := by decide +kernel
theorem dX4_endLine_7 : decode cX4_endLine 7 = .ok (.aload_n 0, 1) := by decide +kernel
theorem dX4_endLine_8 : decode cX4_endLine 8 = .ok (.getfield 38, 3) := by decide +kernel
theorem dX4_endLine_11 : decode cX4_endLine 11 = .ok (.bipush 16, 2) := by decide +kernel
theorem dX4_endLine_13 : decode cX4_endLine 13 = .ok (.if_icmp .ge 26, 3) := by decide +kernel
theorem dX4_endLine_16 : decode cX4_endLine 16 = .ok (.aload_n 0, 1) := by decide +kernel
theorem dX4_endLine_17 : decode cX4_endLine 17 = .ok (.getfield 24, 3) := by decide +kernel
theorem dX4_endLine_20 : decode cX4_endLine 20 = .ok (.aload_n 0, 1) := by decide +kernel
theorem dX4_endLine_21 : decode cX4_endLine 21 = .ok (.getfield 38, 3) := by decide +kernel
theorem dX4_endLine_24 : decode cX4_endLine 24 = .ok (.aload_n 0, 1) := by decide +kernel
theorem dX4_endLine_25 : decode cX4_endLine 25 = .ok (.getfield 34, 3) := by decide +kernel
theorem dX4_endLine_28 : decode cX4_endLine 28 = .ok (.iastore, 1) := by decide +kernel
theorem dX4_endLine_29 : decode cX4_endLine 29 = .ok (.aload_n 0, 1) := by decide +kernel
theorem dX4_endLine_30 : decode cX4_endLine 30 = .ok (.dup, 1) := by decide +kernel
theorem dX4_endLine_31 : decode cX4_endLine 31 = .ok (.getfield 38, 3) := by decide +kernel
theorem dX4_endLine_34 : decode cX4_endLine 34 = .ok (.iconst 1, 1) := by decide +kernel
theorem dX4_endLine_35 : decode cX4_endLine 35 = .ok (.iadd, 1) := by decide +kernel
theorem dX4_endLine_36 : decode cX4_endLine 36 = .ok (.putfield 38, 3) := by decide +kernel
theorem dX4_endLine_39 : decode cX4_endLine 39 = .ok (.return_, 1) := by decide +kernel
theorem dX4_init_0 : decode cX4_init 0 = .ok (.aload_n 0, 1) := by decide +kernel
theorem dX4_init_1 : decode cX4_init 1 = .ok (.invokespecial 3, 3) := by decide +kernel
theorem dX4_init_4 : decode cX4_init 4 = .ok (.aload_n 0, 1) := by decide +kernel
theorem dX4_init_5 : decode cX4_init 5 = .ok (.sipush 400, 3) := by decide +kernel
theorem dX4_init_8 : decode cX4_init 8 = .ok (.newarray .int, 2) := by decide +kernel
theorem dX4_init_10 : decode cX4_init 10 = .ok (.putfield 9, 3) := by decide +kernel
theorem dX4_init_13 : decode cX4_init 13 = .ok (.aload_n 0, 1) := by decide +kernel
theorem dX4_init_14 : decode cX4_init 14 = .ok (.bipush 16, 2) := by decide +kernel
theorem dX4_init_16 : decode cX4_init 16 = .ok (.newarray .int, 2) := by decide +kernel
theorem dX4_init_18 : decode cX4_init 18 = .ok (.putfield 15, 3) := by decide +kernel
theorem dX4_init_21 : decode cX4_init 21 = .ok (.aload_n 0, 1) := by decide +kernel
theorem dX4_init_22 : decode cX4_init 22 = .ok (.bipush 16, 2) := by decide +kernel
theorem dX4_init_24 : decode cX4_init 24 = .ok (.newarray .int, 2) := by decide +kernel
theorem dX4_init_26 : decode cX4_init 26 = .ok (.putfield 18, 3) := by decide +kernel
theorem dX4_init_29 : decode cX4_init 29 = .ok (.aload_n 0, 1) := by decide +kernel
theorem dX4_init_30 : decode cX4_init 30 = .ok (.bipush 16, 2) := by decide +kernel
theorem dX4_init_32 : decode cX4_init 32 = .ok (.newarray .int, 2) := by decide +kernel
theorem dX4_init_34 : decode cX4_init 34 = .ok (.putfield 21, 3) := by decide +kernel
theorem dX4_init_37 : decode cX4_init 37 = .ok (.aload_n 0, 1) := by decide +kernel
theorem dX4_init_38 : decode cX4_init 38 = .ok (.bipush 16, 2) := by decide +kernel
theorem dX4_init_40 : decode cX4_init 40 = .ok (.newarray .int, 2) := by decide +kernel
theorem dX4_init_42 : decode cX4_init 42 = .ok (.putfield 24, 3) := by decide +kernel
theorem dX4_init_45 : decode cX4_init 45 = .ok (.aload_n 0, 1) := by decide +kernel
theorem dX4_init_46 : decode cX4_init 46 = .ok (.bipush 32, 2) := by decide +kernel
theorem dX4_init_48 : decode cX4_init 48 = .ok (.newarray .int, 2) := by decide +kernel
theorem dX4_init_50 : decode cX4_init 50 = .ok (.putfield 27, 3) := by decide +kernel
theorem dX4_init_53 : decode cX4_init 53 = .ok (.return_, 1) := by decide +kernel
theorem dX4_put_0 : decode cX4_put 0 = .ok (.aload_n 0, 1) := by decide +kernel
theorem dX4_put_1 : decode cX4_put 1 = .ok (.getfield 34, 3) := by decide +kernel
theorem dX4_put_4 : decode cX4_put 4 = .ok (.ifCond .lt 35, 3) := by decide +kernel
theorem dX4_put_7 : decode cX4_put 7 = .ok (.aload_n 0, 1) := by decide +kernel
theorem dX4_put_8 : decode cX4_put 8 = .ok (.getfield 34, 3) := by decide +kernel
theorem dX4_put_11 : decode cX4_put 11 = .ok (.aload_n 0, 1) := by decide +kernel
theorem dX4_put_12 : decode cX4_put 12 = .ok (.getfield 9, 3) := by decide +kernel
theorem dX4_put_15 : decode cX4_put 15 = .ok (.arraylength, 1) := by decide +kernel
theorem dX4_put_16 : decode cX4_put 16 = .ok (.if_icmp .ge 23, 3) := by decide +kernel
theorem dX4_put_19 : decode cX4_put 19 = .ok (.aload_n 0, 1) := by decide +kernel
theorem dX4_put_20 : decode cX4_put 20 = .ok (.getfield 9, 3) := by decide +kernel
theorem dX4_put_23 : decode cX4_put 23 = .ok (.aload_n 0, 1) := by decide +kernel
theorem dX4_put_24 : decode cX4_put 24 = .ok (.getfield 34, 3) := by decide +kernel
theorem dX4_put_27 : decode cX4_put 27 = .ok (.iload_n 1, 1) := by decide +kernel
theorem dX4_put_28 : decode cX4_put 28 = .ok (.iastore, 1) := by decide +kernel
theorem dX4_put_29 : decode cX4_put 29 = .ok (.aload_n 0, 1) := by decide +kernel
theorem dX4_put_30 : decode cX4_put 30 = .ok (.dup, 1) := by decide +kernel
theorem dX4_put_31 : decode cX4_put 31 = .ok (.getfield 34, 3) := by decide +kernel
theorem dX4_put_34 : decode cX4_put 34 = .ok (.iconst 1, 1) := by decide +kernel
theorem dX4_put_35 : decode cX4_put 35 = .ok (.iadd, 1) := by decide +kernel
theorem dX4_put_36 : decode cX4_put 36 = .ok (.putfield 34, 3) := by decide +kernel
theorem dX4_put_39 : decode cX4_put 39 = .ok (.return_, 1) := by decide +kernel
theorem dX4_run_0 : decode cX4_run 0 = .ok (.iconst 0, 1) := by decide +kernel
theorem dX4_run_1 : decode cX4_run 1 = .ok (.istore 4, 2) := by decide +kernel
theorem dX4_run_3 : decode cX4_run 3 = .ok (.iload_n 1, 1) := by decide +kernel
theorem dX4_run_4 : decode cX4_run 4 = .ok (.istore 5, 2) := by decide +kernel
theorem dX4_run_6 : decode cX4_run 6 = .ok (.iload 5, 2) := by decide +kernel
theorem dX4_run_8 : decode cX4_run 8 = .ok (.ifCond .lt 367, 3) := by decide +kernel
theorem dX4_run_11 : decode cX4_run 11 = .ok (.iload 5, 2) := by decide +kernel
theorem dX4_run_13 : decode cX4_run 13 = .ok (.iload_n 2, 1) := by decide +kernel
theorem dX4_run_14 : decode cX4_run 14 = .ok (.if_icmp .ge 361, 3) := by decide +kernel
theorem dX4_run_17 : decode cX4_run 17 = .ok (.iload 5, 2) := by decide +kernel
theorem dX4_run_19 : decode cX4_run 19 = .ok (.aload_n 0, 1) := by decide +kernel
theorem dX4_run_20 : decode cX4_run 20 = .ok (.getfield 9, 3) := by decide +kernel
theorem dX4_run_23 : decode cX4_run 23 = .ok (.arraylength, 1) := by decide +kernel
theorem dX4_run_24 : decode cX4_run 24 = .ok (.if_icmp .ge 351, 3) := by decide +kernel
theorem dX4_run_27 : decode cX4_run 27 = .ok (.aload_n 0, 1) := by decide +kernel
theorem dX4_run_28 : decode cX4_run 28 = .ok (.getfield 9, 3) := by decide +kernel
theorem dX4_run_31 : decode cX4_run 31 = .ok (.iload 5, 2) := by decide +kernel
theorem dX4_run_33 : decode cX4_run 33 = .ok (.iaload, 1) := by decide +kernel
theorem dX4_run_34 : decode cX4_run 34 = .ok (.istore 6, 2) := by decide +kernel
theorem dX4_run_36 : decode cX4_run 36 = .ok (.iload 6, 2) := by decide +kernel
theorem dX4_run_38 : decode cX4_run 38 = .ok (.bipush (-9), 2) := by decide +kernel
theorem dX4_run_40 : decode cX4_run 40 = .ok (.if_icmp .lt 62, 3) := by decide +kernel
theorem dX4_run_43 : decode cX4_run 43 = .ok (.iload 4, 2) := by decide +kernel
theorem dX4_run_45 : decode cX4_run 45 = .ok (.ifCond .lt 57, 3) := by decide +kernel
theorem dX4_run_48 : decode cX4_run 48 = .ok (.iload 4, 2) := by decide +kernel
theorem dX4_run_50 : decode cX4_run 50 = .ok (.aload_n 0, 1) := by decide +kernel
theorem dX4_run_51 : decode cX4_run 51 = .ok (.getfield 27, 3) := by decide +kernel
theorem dX4_run_54 : decode cX4_run 54 = .ok (.arraylength, 1) := by decide +kernel
theorem dX4_run_55 : decode cX4_run 55 = .ok (.if_icmp .ge 47, 3) := by decide +kernel
theorem dX4_run_58 : decode cX4_run 58 = .ok (.iconst (-1), 1) := by decide +kernel
theorem dX4_run_59 : decode cX4_run 59 = .ok (.iload 6, 2) := by decide +kernel
theorem dX4_run_61 : decode cX4_run 61 = .ok (.isub, 1) := by decide +kernel
theorem dX4_run_62 : decode cX4_run 62 = .ok (.istore 7, 2) := by decide +kernel
theorem dX4_run_64 : decode cX4_run 64 = .ok (.aload_n 0, 1) := by decide +kernel
theorem dX4_run_65 : decode cX4_run 65 = .ok (.getfield 27, 3) := by decide +kernel
theorem dX4_run_68 : decode cX4_run 68 = .ok (.iload 4, 2) := by decide +kernel
theorem dX4_run_70 : decode cX4_run 70 = .ok (.iload 6, 2) := by decide +kernel
theorem dX4_run_72 : decode cX4_run 72 = .ok (.ifCond .lt 8, 3) := by decide +kernel
theorem dX4_run_75 : decode cX4_run 75 = .ok (.iload 6, 2) := by decide +kernel
theorem dX4_run_77 : decode cX4_run 77 = .ok (.goto 18, 3) := by decide +kernel
theorem dX4_run_80 : decode cX4_run 80 = .ok (.iload 7, 2) := by decide +kernel
theorem dX4_run_82 : decode cX4_run 82 = .ok (.aload_n 3, 1) := by decide +kernel
theorem dX4_run_83 : decode cX4_run 83 = .ok (.arraylength, 1) := by decide +kernel
theorem dX4_run_84 : decode cX4_run 84 = .ok (.if_icmp .ge 10, 3) := by decide +kernel
theorem dX4_run_87 : decode cX4_run 87 = .ok (.aload_n 3, 1) := by decide +kernel
theorem dX4_run_88 : decode cX4_run 88 = .ok (.iload 7, 2) := by decide +kernel
theorem dX4_run_90 : decode cX4_run 90 = .ok (.iaload, 1) := by decide +kernel
theorem dX4_run_91 : decode cX4_run 91 = .ok (.goto 4, 3) := by decide +kernel
theorem dX4_run_94 : decode cX4_run 94 = .ok (.iconst 0, 1) := by decide +kernel
theorem dX4_run_95 : decode cX4_run 95 = .ok (.iastore, 1) := by decide +kernel
theorem dX4_run_96 : decode cX4_run 96 = .ok (.iinc 4 1, 3) := by decide +kernel
theorem dX4_run_99 : decode cX4_run 99 = .ok (.goto 270, 3) := by decide +kernel
theorem dX4_run_102 : decode cX4_run 102 = .ok (.iload 4, 2) := by decide +kernel
theorem dX4_run_104 : decode cX4_run 104 = .ok (.iload 6, 2) := by decide +kernel
theorem dX4_run_106 : decode cX4_run 106 = .ok (.bipush (-19), 2) := by decide +kernel
theorem dX4_run_108 : decode cX4_run 108 = .ok (.if_icmp .ne 7, 3) := by decide +kernel
theorem dX4_run_111 : decode cX4_run 111 = .ok (.iconst 1, 1) := by decide +kernel
theorem dX4_run_112 : decode cX4_run 112 = .ok (.goto 4, 3) := by decide +kernel
theorem dX4_run_115 : decode cX4_run 115 = .ok (.iconst 2, 1) := by decide +kernel
theorem dX4_run_116 : decode cX4_run 116 = .ok (.if_icmp .lt 13, 3) := by decide +kernel
theorem dX4_run_119 : decode cX4_run 119 = .ok (.iload 4, 2) := by decide +kernel
theorem dX4_run_121 : decode cX4_run 121 = .ok (.aload_n 0, 1) := by decide +kernel
theorem dX4_run_122 : decode cX4_run 122 = .ok (.getfield 27, 3) := by decide +kernel
theorem dX4_run_125 : decode cX4_run 125 = .ok (.arraylength, 1) := by decide +kernel
theorem dX4_run_126 : decode cX4_run 126 = .ok (.if_icmp .le 5, 3) := by decide +kernel
theorem dX4_run_129 : decode cX4_run 129 = .ok (.iconst 0, 1) := by decide +kernel
theorem dX4_run_130 : decode cX4_run 130 = .ok (.ireturn, 1) := by decide +kernel
theorem dX4_run_131 : decode cX4_run 131 = .ok (.iload 6, 2) := by decide +kernel
theorem dX4_run_133 : decode cX4_run 133 = .ok (.bipush (-19), 2) := by decide +kernel
theorem dX4_run_135 : decode cX4_run 135 = .ok (.if_icmp .ne 8, 3) := by decide +kernel
theorem dX4_run_138 : decode cX4_run 138 = .ok (.iload 4, 2) := by decide +kernel
theorem dX4_run_140 : decode cX4_run 140 = .ok (.goto 7, 3) := by decide +kernel
theorem dX4_run_143 : decode cX4_run 143 = .ok (.iload 4, 2) := by decide +kernel
theorem dX4_run_145 : decode cX4_run 145 = .ok (.iconst 1, 1) := by decide +kernel
theorem dX4_run_146 : decode cX4_run 146 = .ok (.isub, 1) := by decide +kernel
theorem dX4_run_147 : decode cX4_run 147 = .ok (.istore 4, 2) := by decide +kernel
theorem dX4_run_149 : decode cX4_run 149 = .ok (.aload_n 0, 1) := by decide +kernel
theorem dX4_run_150 : decode cX4_run 150 = .ok (.getfield 27, 3) := by decide +kernel
theorem dX4_run_153 : decode cX4_run 153 = .ok (.iload 4, 2) := by decide +kernel
theorem dX4_run_155 : decode cX4_run 155 = .ok (.iconst 1, 1) := by decide +kernel
theorem dX4_run_156 : decode cX4_run 156 = .ok (.isub, 1) := by decide +kernel
theorem dX4_run_157 : decode cX4_run 157 = .ok (.iaload, 1) := by decide +kernel
theorem dX4_run_158 : decode cX4_run 158 = .ok (.istore 7, 2) := by decide +kernel
theorem dX4_run_160 : decode cX4_run 160 = .ok (.iload 6, 2) := by decide +kernel
theorem dX4_run_162 : decode cX4_run 162 = .ok (.bipush (-19), 2) := by decide +kernel
theorem dX4_run_164 : decode cX4_run 164 = .ok (.if_icmp .ne 7, 3) := by decide +kernel
theorem dX4_run_167 : decode cX4_run 167 = .ok (.iconst 0, 1) := by decide +kernel
theorem dX4_run_168 : decode cX4_run 168 = .ok (.goto 10, 3) := by decide +kernel
theorem dX4_run_171 : decode cX4_run 171 = .ok (.aload_n 0, 1) := by decide +kernel
theorem dX4_run_172 : decode cX4_run 172 = .ok (.getfield 27, 3) := by decide +kernel
theorem dX4_run_175 : decode cX4_run 175 = .ok (.iload 4, 2) := by decide +kernel
theorem dX4_run_177 : decode cX4_run 177 = .ok (.iaload, 1) := by decide +kernel
theorem dX4_run_178 : decode cX4_run 178 = .ok (.istore 8, 2) := by decide +kernel
theorem dX4_run_180 : decode cX4_run 180 = .ok (.iload 6, 2) := by decide +kernel
theorem dX4_run_182 : decode cX4_run 182 = .ok (.tableswitch 170 (-18) (-10) #[160, 150, 133, 116, 99, 80, 70, 60, 50], 50) := by decide +kernel
theorem dX4_run_232 : decode cX4_run 232 = .ok (.iload 7, 2) := by decide +kernel
theorem dX4_run_234 : decode cX4_run 234 = .ok (.iload 8, 2) := by decide +kernel
theorem dX4_run_236 : decode cX4_run 236 = .ok (.iadd, 1) := by decide +kernel
theorem dX4_run_237 : decode cX4_run 237 = .ok (.istore 7, 2) := by decide +kernel
theorem dX4_run_239 : decode cX4_run 239 = .ok (.goto 119, 3) := by decide +kernel
theorem dX4_run_242 : decode cX4_run 242 = .ok (.iload 7, 2) := by decide +kernel
theorem dX4_run_244 : decode cX4_run 244 = .ok (.iload 8, 2) := by decide +kernel
theorem dX4_run_246 : decode cX4_run 246 = .ok (.isub, 1) := by decide +kernel
theorem dX4_run_247 : decode cX4_run 247 = .ok (.istore 7, 2) := by decide +kernel
theorem dX4_run_249 : decode cX4_run 249 = .ok (.goto 109, 3) := by decide +kernel
theorem dX4_run_252 : decode cX4_run 252 = .ok (.iload 7, 2) := by decide +kernel
theorem dX4_run_254 : decode cX4_run 254 = .ok (.iload 8, 2) := by decide +kernel
theorem dX4_run_256 : decode cX4_run 256 = .ok (.imul, 1) := by decide +kernel
theorem dX4_run_257 : decode cX4_run 257 = .ok (.istore 7, 2) := by decide +kernel
theorem dX4_run_259 : decode cX4_run 259 = .ok (.goto 99, 3) := by decide +kernel
theorem dX4_run_262 : decode cX4_run 262 = .ok (.iload 8, 2) := by decide +kernel
theorem dX4_run_264 : decode cX4_run 264 = .ok (.ifCond .le 11, 3) := by decide +kernel
theorem dX4_run_267 : decode cX4_run 267 = .ok (.iload 7, 2) := by decide +kernel
theorem dX4_run_269 : decode cX4_run 269 = .ok (.iload 8, 2) := by decide +kernel
theorem dX4_run_271 : decode cX4_run 271 = .ok (.idiv, 1) := by decide +kernel
theorem dX4_run_272 : decode cX4_run 272 = .ok (.goto 4, 3) := by decide +kernel
theorem dX4_run_275 : decode cX4_run 275 = .ok (.iconst 0, 1) := by decide +kernel
theorem dX4_run_276 : decode cX4_run 276 = .ok (.istore 7, 2) := by decide +kernel
theorem dX4_run_278 : decode cX4_run 278 = .ok (.goto 80, 3) := by decide +kernel
theorem dX4_run_281 : decode cX4_run 281 = .ok (.iload 7, 2) := by decide +kernel
theorem dX4_run_283 : decode cX4_run 283 = .ok (.iload 8, 2) := by decide +kernel
theorem dX4_run_285 : decode cX4_run 285 = .ok (.if_icmp .ge 7, 3) := by decide +kernel
theorem dX4_run_288 : decode cX4_run 288 = .ok (.iconst 1, 1) := by decide +kernel
theorem dX4_run_289 : decode cX4_run 289 = .ok (.goto 4, 3) := by decide +kernel
theorem dX4_run_292 : decode cX4_run 292 = .ok (.iconst 0, 1) := by decide +kernel
theorem dX4_run_293 : decode cX4_run 293 = .ok (.istore 7, 2) := by decide +kernel
theorem dX4_run_295 : decode cX4_run 295 = .ok (.goto 63, 3) := by decide +kernel
theorem dX4_run_298 : decode cX4_run 298 = .ok (.iload 7, 2) := by decide +kernel
theorem dX4_run_300 : decode cX4_run 300 = .ok (.iload 8, 2) := by decide +kernel
theorem dX4_run_302 : decode cX4_run 302 = .ok (.if_icmp .ne 7, 3) := by decide +kernel
theorem dX4_run_305 : decode cX4_run 305 = .ok (.iconst 1, 1) := by decide +kernel
theorem dX4_run_306 : decode cX4_run 306 = .ok (.goto 4, 3) := by decide +kernel
theorem dX4_run_309 : decode cX4_run 309 = .ok (.iconst 0, 1) := by decide +kernel
theorem dX4_run_310 : decode cX4_run 310 = .ok (.istore 7, 2) := by decide +kernel
theorem dX4_run_312 : decode cX4_run 312 = .ok (.goto 46, 3) := by decide +kernel
theorem dX4_run_315 : decode cX4_run 315 = .ok (.iload 7, 2) := by decide +kernel
theorem dX4_run_317 : decode cX4_run 317 = .ok (.iload 8, 2) := by decide +kernel
theorem dX4_run_319 : decode cX4_run 319 = .ok (.if_icmp .le 7, 3) := by decide +kernel
theorem dX4_run_322 : decode cX4_run 322 = .ok (.iconst 1, 1) := by decide +kernel
theorem dX4_run_323 : decode cX4_run 323 = .ok (.goto 4, 3) := by decide +kernel
theorem dX4_run_326 : decode cX4_run 326 = .ok (.iconst 0, 1) := by decide +kernel
theorem dX4_run_327 : decode cX4_run 327 = .ok (.istore 7, 2) := by decide +kernel
theorem dX4_run_329 : decode cX4_run 329 = .ok (.goto 29, 3) := by decide +kernel
theorem dX4_run_332 : decode cX4_run 332 = .ok (.iload 7, 2) := by decide +kernel
theorem dX4_run_334 : decode cX4_run 334 = .ok (.iload 8, 2) := by decide +kernel
theorem dX4_run_336 : decode cX4_run 336 = .ok (.iand, 1) := by decide +kernel
theorem dX4_run_337 : decode cX4_run 337 = .ok (.istore 7, 2) := by decide +kernel
theorem dX4_run_339 : decode cX4_run 339 = .ok (.goto 19, 3) := by decide +kernel
theorem dX4_run_342 : decode cX4_run 342 = .ok (.iload 7, 2) := by decide +kernel
theorem dX4_run_344 : decode cX4_run 344 = .ok (.iload 8, 2) := by decide +kernel
theorem dX4_run_346 : decode cX4_run 346 = .ok (.ior, 1) := by decide +kernel
theorem dX4_run_347 : decode cX4_run 347 = .ok (.istore 7, 2) := by decide +kernel
theorem dX4_run_349 : decode cX4_run 349 = .ok (.goto 9, 3) := by decide +kernel
theorem dX4_run_352 : decode cX4_run 352 = .ok (.iconst 1, 1) := by decide +kernel
theorem dX4_run_353 : decode cX4_run 353 = .ok (.iload 7, 2) := by decide +kernel
theorem dX4_run_355 : decode cX4_run 355 = .ok (.isub, 1) := by decide +kernel
theorem dX4_run_356 : decode cX4_run 356 = .ok (.istore 7, 2) := by decide +kernel
theorem dX4_run_358 : decode cX4_run 358 = .ok (.aload_n 0, 1) := by decide +kernel
theorem dX4_run_359 : decode cX4_run 359 = .ok (.getfield 27, 3) := by decide +kernel
theorem dX4_run_362 : decode cX4_run 362 = .ok (.iload 4, 2) := by decide +kernel
theorem dX4_run_364 : decode cX4_run 364 = .ok (.iconst 1, 1) := by decide +kernel
theorem dX4_run_365 : decode cX4_run 365 = .ok (.isub, 1) := by decide +kernel
theorem dX4_run_366 : decode cX4_run 366 = .ok (.iload 7, 2) := by decide +kernel
theorem dX4_run_368 : decode cX4_run 368 = .ok (.iastore, 1) := by decide +kernel
theorem dX4_run_369 : decode cX4_run 369 = .ok (.iinc 5 1, 3) := by decide +kernel
theorem dX4_run_372 : decode cX4_run 372 = .ok (.goto (-366), 3) := by decide +kernel
theorem dX4_run_375 : decode cX4_run 375 = .ok (.iload 4, 2) := by decide +kernel
theorem dX4_run_377 : decode cX4_run 377 = .ok (.ifCond .le 25, 3) := by decide +kernel
theorem dX4_run_380 : decode cX4_run 380 = .ok (.iload 4, 2) := by decide +kernel
theorem dX4_run_382 : decode cX4_run 382 = .ok (.aload_n 0, 1) := by decide +kernel
theorem dX4_run_383 : decode cX4_run 383 = .ok (.getfield 27, 3) := by decide +kernel
theorem dX4_run_386 : decode cX4_run 386 = .ok (.arraylength, 1) := by decide +kernel
theorem dX4_run_387 : decode cX4_run 387 = .ok (.if_icmp .gt 15, 3) := by decide +kernel
theorem dX4_run_390 : decode cX4_run 390 = .ok (.aload_n 0, 1) := by decide +kernel
theorem dX4_run_391 : decode cX4_run 391 = .ok (.getfield 27, 3) := by decide +kernel
theorem dX4_run_394 : decode cX4_run 394 = .ok (.iload 4, 2) := by decide +kernel
theorem dX4_run_396 : decode cX4_run 396 = .ok (.iconst 1, 1) := by decide +kernel
theorem dX4_run_397 : decode cX4_run 397 = .ok (.isub, 1) := by decide +kernel
theorem dX4_run_398 : decode cX4_run 398 = .ok (.iaload, 1) := by decide +kernel
theorem dX4_run_399 : decode cX4_run 399 = .ok (.goto 4, 3) := by decide +kernel
theorem dX4_run_402 : decode cX4_run 402 = .ok (.iconst 0, 1) := by decide +kernel
theorem dX4_run_403 : decode cX4_run 403 = .ok (.ireturn, 1) := by decide +kernel
theorem dX4_tell_0 : decode cX4_tell 0 = .ok (.iconst 0, 1) := by decide +kernel
theorem dX4_tell_1 : decode cX4_tell 1 = .ok (.istore 4, 2) := by decide +kernel
theorem dX4_tell_3 : decode cX4_tell 3 = .ok (.iload 4, 2) := by decide +kernel
theorem dX4_tell_5 : decode cX4_tell 5 = .ok (.aload_n 0, 1) := by decide +kernel
theorem dX4_tell_6 : decode cX4_tell 6 = .ok (.getfield 38, 3) := by decide +kernel
theorem dX4_tell_9 : decode cX4_tell 9 = .ok (.if_icmp .ge 87, 3) := by decide +kernel
theorem dX4_tell_12 : decode cX4_tell 12 = .ok (.iload 4, 2) := by decide +kernel
theorem dX4_tell_14 : decode cX4_tell 14 = .ok (.bipush 16, 2) := by decide +kernel
theorem dX4_tell_16 : decode cX4_tell 16 = .ok (.if_icmp .ge 80, 3) := by decide +kernel
theorem dX4_tell_19 : decode cX4_tell 19 = .ok (.aload_n 0, 1) := by decide +kernel
theorem dX4_tell_20 : decode cX4_tell 20 = .ok (.getfield 15, 3) := by decide +kernel
theorem dX4_tell_23 : decode cX4_tell 23 = .ok (.iload 4, 2) := by decide +kernel
theorem dX4_tell_25 : decode cX4_tell 25 = .ok (.iaload, 1) := by decide +kernel
theorem dX4_tell_26 : decode cX4_tell 26 = .ok (.iload_n 1, 1) := by decide +kernel
theorem dX4_tell_27 : decode cX4_tell 27 = .ok (.if_icmp .ne 63, 3) := by decide +kernel
theorem dX4_tell_30 : decode cX4_tell 30 = .ok (.aload_n 0, 1) := by decide +kernel
theorem dX4_tell_31 : decode cX4_tell 31 = .ok (.getfield 21, 3) := by decide +kernel
theorem dX4_tell_34 : decode cX4_tell 34 = .ok (.iload 4, 2) := by decide +kernel
theorem dX4_tell_36 : decode cX4_tell 36 = .ok (.iaload, 1) := by decide +kernel
theorem dX4_tell_37 : decode cX4_tell 37 = .ok (.aload_n 0, 1) := by decide +kernel
theorem dX4_tell_38 : decode cX4_tell 38 = .ok (.getfield 24, 3) := by decide +kernel
theorem dX4_tell_41 : decode cX4_tell 41 = .ok (.iload 4, 2) := by decide +kernel
theorem dX4_tell_43 : decode cX4_tell 43 = .ok (.iaload, 1) := by decide +kernel
theorem dX4_tell_44 : decode cX4_tell 44 = .ok (.if_icmp .eq 26, 3) := by decide +kernel
theorem dX4_tell_47 : decode cX4_tell 47 = .ok (.aload_n 0, 1) := by decide +kernel
theorem dX4_tell_48 : decode cX4_tell 48 = .ok (.aload_n 0, 1) := by decide +kernel
theorem dX4_tell_49 : decode cX4_tell 49 = .ok (.getfield 21, 3) := by decide +kernel
theorem dX4_tell_52 : decode cX4_tell 52 = .ok (.iload 4, 2) := by decide +kernel
theorem dX4_tell_54 : decode cX4_tell 54 = .ok (.iaload, 1) := by decide +kernel
theorem dX4_tell_55 : decode cX4_tell 55 = .ok (.aload_n 0, 1) := by decide +kernel
theorem dX4_tell_56 : decode cX4_tell 56 = .ok (.getfield 24, 3) := by decide +kernel
theorem dX4_tell_59 : decode cX4_tell 59 = .ok (.iload 4, 2) := by decide +kernel
theorem dX4_tell_61 : decode cX4_tell 61 = .ok (.iaload, 1) := by decide +kernel
theorem dX4_tell_62 : decode cX4_tell 62 = .ok (.aload_n 2, 1) := by decide +kernel
theorem dX4_tell_63 : decode cX4_tell 63 = .ok (.invokevirtual 41, 3) := by decide +kernel
theorem dX4_tell_66 : decode cX4_tell 66 = .ok (.iconst 1, 1) := by decide +kernel
theorem dX4_tell_67 : decode cX4_tell 67 = .ok (.if_icmp .ne 23, 3) := by decide +kernel
theorem dX4_tell_70 : decode cX4_tell 70 = .ok (.aload_n 0, 1) := by decide +kernel
theorem dX4_tell_71 : decode cX4_tell 71 = .ok (.aload_n 0, 1) := by decide +kernel
theorem dX4_tell_72 : decode cX4_tell 72 = .ok (.getfield 18, 3) := by decide +kernel
theorem dX4_tell_75 : decode cX4_tell 75 = .ok (.iload 4, 2) := by decide +kernel
theorem dX4_tell_77 : decode cX4_tell 77 = .ok (.iaload, 1) := by decide +kernel
theorem dX4_tell_78 : decode cX4_tell 78 = .ok (.aload_n 0, 1) := by decide +kernel
theorem dX4_tell_79 : decode cX4_tell 79 = .ok (.getfield 21, 3) := by decide +kernel
theorem dX4_tell_82 : decode cX4_tell 82 = .ok (.iload 4, 2) := by decide +kernel
theorem dX4_tell_84 : decode cX4_tell 84 = .ok (.iaload, 1) := by decide +kernel
theorem dX4_tell_85 : decode cX4_tell 85 = .ok (.aload_n 2, 1) := by decide +kernel
theorem dX4_tell_86 : decode cX4_tell 86 = .ok (.invokevirtual 41, 3) := by decide +kernel
theorem dX4_tell_89 : decode cX4_tell 89 = .ok (.ireturn, 1) := by decide +kernel
theorem dX4_tell_90 : decode cX4_tell 90 = .ok (.iinc 4 1, 3) := by decide +kernel
theorem dX4_tell_93 : decode cX4_tell 93 = .ok (.goto (-90), 3) := by decide +kernel
theorem dX4_tell_96 : decode cX4_tell 96 = .ok (.iload_n 3, 1) := by decide +kernel
theorem dX4_tell_97 : decode cX4_tell 97 = .ok (.ireturn, 1) := by decide +kernel
theorem dX5_add_0 : decode cX5_add 0 = .ok (.aload_n 0, 1) := by decide +kernel
theorem dX5_add_1 : decode cX5_add 1 = .ok (.getfield 25, 3) := by decide +kernel
theorem dX5_add_4 : decode cX5_add 4 = .ok (.ifCond .lt 60, 3) := by decide +kernel
theorem dX5_add_7 : decode cX5_add 7 = .ok (.aload_n 0, 1) := by decide +kernel
theorem dX5_add_8 : decode cX5_add 8 = .ok (.getfield 25, 3) := by decide +kernel
theorem dX5_add_11 : decode cX5_add 11 = .ok (.bipush 16, 2) := by decide +kernel
theorem dX5_add_13 : decode cX5_add 13 = .ok (.if_icmp .ge 51, 3) := by decide +kernel
theorem dX5_add_16 : decode cX5_add 16 = .ok (.aload_n 0, 1) := by decide +kernel
theorem dX5_add_17 : decode cX5_add 17 = .ok (.getfield 9, 3) := by decide +kernel
theorem dX5_add_20 : decode cX5_add 20 = .ok (.aload_n 0, 1) := by decide +kernel
theorem dX5_add_21 : decode cX5_add 21 = .ok (.getfield 25, 3) := by decide +kernel
theorem dX5_add_24 : decode cX5_add 24 = .ok (.iload_n 1, 1) := by decide +kernel
theorem dX5_add_25 : decode cX5_add 25 = .ok (.iastore, 1) := by decide +kernel
theorem dX5_add_26 : decode cX5_add 26 = .ok (.aload_n 0, 1) := by decide +kernel
theorem dX5_add_27 : decode cX5_add 27 = .ok (.getfield 18, 3) := by decide +kernel
theorem dX5_add_30 : decode cX5_add 30 = .ok (.aload_n 0, 1) := by decide +kernel
theorem dX5_add_31 : decode cX5_add 31 = .ok (.getfield 25, 3) := by decide +kernel
theorem dX5_add_34 : decode cX5_add 34 = .ok (.iload_n 2, 1) := by decide +kernel
theorem dX5_add_35 : decode cX5_add 35 = .ok (.ifCond .eq 7, 3) := by decide +kernel
theorem dX5_add_38 : decode cX5_add 38 = .ok (.iconst 1, 1) := by decide +kernel
theorem dX5_add_39 : decode cX5_add 39 = .ok (.goto 4, 3) := by decide +kernel
theorem dX5_add_42 : decode cX5_add 42 = .ok (.iconst 0, 1) := by decide +kernel
theorem dX5_add_43 : decode cX5_add 43 = .ok (.iastore, 1) := by decide +kernel
theorem dX5_add_44 : decode cX5_add 44 = .ok (.aload_n 0, 1) := by decide +kernel
theorem dX5_add_45 : decode cX5_add 45 = .ok (.getfield 15, 3) := by decide +kernel
theorem dX5_add_48 : decode cX5_add 48 = .ok (.aload_n 0, 1) := by decide +kernel
theorem dX5_add_49 : decode cX5_add 49 = .ok (.getfield 25, 3) := by decide +kernel
theorem dX5_add_52 : decode cX5_add 52 = .ok (.iload_n 3, 1) := by decide +kernel
theorem dX5_add_53 : decode cX5_add 53 = .ok (.iastore, 1) := by decide +kernel
theorem dX5_add_54 : decode cX5_add 54 = .ok (.aload_n 0, 1) := by decide +kernel
theorem dX5_add_55 : decode cX5_add 55 = .ok (.dup, 1) := by decide +kernel
theorem dX5_add_56 : decode cX5_add 56 = .ok (.getfield 25, 3) := by decide +kernel
theorem dX5_add_59 : decode cX5_add 59 = .ok (.iconst 1, 1) := by decide +kernel
theorem dX5_add_60 : decode cX5_add 60 = .ok (.iadd, 1) := by decide +kernel
theorem dX5_add_61 : decode cX5_add 61 = .ok (.putfield 25, 3) := by decide +kernel
theorem dX5_add_64 : decode cX5_add 64 = .ok (.return_, 1) := by decide +kernel
theorem dX5_become_0 : decode cX5_become 0 = .ok (.aload_n 1, 1) := by decide +kernel
theorem dX5_become_1 : decode cX5_become 1 = .ok (.getfield 9, 3) := by decide +kernel
theorem dX5_become_4 : decode cX5_become 4 = .ok (.aload_n 0, 1) := by decide +kernel
theorem dX5_become_5 : decode cX5_become 5 = .ok (.getfield 9, 3) := by decide +kernel
theorem dX5_become_8 : decode cX5_become 8 = .ok (.invokestatic 21, 3) := by decide +kernel
theorem dX5_become_11 : decode cX5_become 11 = .ok (.aload_n 1, 1) := by decide +kernel
theorem dX5_become_12 : decode cX5_become 12 = .ok (.getfield 15, 3) := by decide +kernel
theorem dX5_become_15 : decode cX5_become 15 = .ok (.aload_n 0, 1) := by decide +kernel
theorem dX5_become_16 : decode cX5_become 16 = .ok (.getfield 15, 3) := by decide +kernel
theorem dX5_become_19 : decode cX5_become 19 = .ok (.invokestatic 21, 3) := by decide +kernel
theorem dX5_become_22 : decode cX5_become 22 = .ok (.aload_n 1, 1) := by decide +kernel
theorem dX5_become_23 : decode cX5_become 23 = .ok (.getfield 18, 3) := by decide +kernel
theorem dX5_become_26 : decode cX5_become 26 = .ok (.aload_n 0, 1) := by decide +kernel
theorem dX5_become_27 : decode cX5_become 27 = .ok (.getfield 18, 3) := by decide +kernel
theorem dX5_become_30 : decode cX5_become 30 = .ok (.invokestatic 21, 3) := by decide +kernel
theorem dX5_become_33 : decode cX5_become 33 = .ok (.aload_n 0, 1) := by decide +kernel
theorem dX5_become_34 : decode cX5_become 34 = .ok (.aload_n 1, 1) := by decide +kernel
theorem dX5_become_35 : decode cX5_become 35 = .ok (.getfield 25, 3) := by decide +kernel
theorem dX5_become_38 : decode cX5_become 38 = .ok (.putfield 25, 3) := by decide +kernel
theorem dX5_become_41 : decode cX5_become 41 = .ok (.return_, 1) := by decide +kernel
theorem dX5_init_0 : decode cX5_init 0 = .ok (.aload_n 0, 1) := by decide +kernel
theorem dX5_init_1 : decode cX5_init 1 = .ok (.invokespecial 3, 3) := by decide +kernel
theorem dX5_init_4 : decode cX5_init 4 = .ok (.aload_n 0, 1) := by decide +kernel
theorem dX5_init_5 : decode cX5_init 5 = .ok (.bipush 16, 2) := by decide +kernel
theorem dX5_init_7 : decode cX5_init 7 = .ok (.newarray .int, 2) := by decide +kernel
theorem dX5_init_9 : decode cX5_init 9 = .ok (.putfield 9, 3) := by decide +kernel
theorem dX5_init_12 : decode cX5_init 12 = .ok (.aload_n 0, 1) := by decide +kernel
theorem dX5_init_13 : decode cX5_init 13 = .ok (.bipush 16, 2) := by decide +kernel
theorem dX5_init_15 : decode cX5_init 15 = .ok (.newarray .int, 2) := by decide +kernel
theorem dX5_init_17 : decode cX5_init 17 = .ok (.putfield 15, 3) := by decide +kernel
theorem dX5_init_20 : decode cX5_init 20 = .ok (.aload_n 0, 1) := by decide +kernel
theorem dX5_init_21 : decode cX5_init 21 = .ok (.bipush 16, 2) := by decide +kernel
theorem dX5_init_23 : decode cX5_init 23 = .ok (.newarray .int, 2) := by decide +kernel
theorem dX5_init_25 : decode cX5_init 25 = .ok (.putfield 18, 3) := by decide +kernel
theorem dX5_init_28 : decode cX5_init 28 = .ok (.return_, 1) := by decide +kernel
theorem dX5_rests_0 : decode cX5_rests 0 = .ok (.iconst 0, 1) := by decide +kernel
theorem dX5_rests_1 : decode cX5_rests 1 = .ok (.istore_n 3, 1) := by decide +kernel
theorem dX5_rests_2 : decode cX5_rests 2 = .ok (.iconst 0, 1) := by decide +kernel
theorem dX5_rests_3 : decode cX5_rests 3 = .ok (.istore 4, 2) := by decide +kernel
theorem dX5_rests_5 : decode cX5_rests 5 = .ok (.iload 4, 2) := by decide +kernel
theorem dX5_rests_7 : decode cX5_rests 7 = .ok (.aload_n 0, 1) := by decide +kernel
theorem dX5_rests_8 : decode cX5_rests 8 = .ok (.getfield 25, 3) := by decide +kernel
theorem dX5_rests_11 : decode cX5_rests 11 = .ok (.if_icmp .ge 55, 3) := by decide +kernel
theorem dX5_rests_14 : decode cX5_rests 14 = .ok (.iload 4, 2) := by decide +kernel
theorem dX5_rests_16 : decode cX5_rests 16 = .ok (.bipush 16, 2) := by decide +kernel
theorem dX5_rests_18 : decode cX5_rests 18 = .ok (.if_icmp .ge 48, 3) := by decide +kernel
theorem dX5_rests_21 : decode cX5_rests 21 = .ok (.aload_n 0, 1) := by decide +kernel
theorem dX5_rests_22 : decode cX5_rests 22 = .ok (.getfield 9, 3) := by decide +kernel
theorem dX5_rests_25 : decode cX5_rests 25 = .ok (.iload 4, 2) := by decide +kernel
theorem dX5_rests_27 : decode cX5_rests 27 = .ok (.iaload, 1) := by decide +kernel
theorem dX5_rests_28 : decode cX5_rests 28 = .ok (.iload_n 1, 1) := by decide +kernel
theorem dX5_rests_29 : decode cX5_rests 29 = .ok (.if_icmp .ne 31, 3) := by decide +kernel
theorem dX5_rests_32 : decode cX5_rests 32 = .ok (.aload_n 0, 1) := by decide +kernel
theorem dX5_rests_33 : decode cX5_rests 33 = .ok (.getfield 15, 3) := by decide +kernel
theorem dX5_rests_36 : decode cX5_rests 36 = .ok (.iload 4, 2) := by decide +kernel
theorem dX5_rests_38 : decode cX5_rests 38 = .ok (.iaload, 1) := by decide +kernel
theorem dX5_rests_39 : decode cX5_rests 39 = .ok (.iload_n 2, 1) := by decide +kernel
theorem dX5_rests_40 : decode cX5_rests 40 = .ok (.if_icmp .ne 20, 3) := by decide +kernel
theorem dX5_rests_43 : decode cX5_rests 43 = .ok (.aload_n 0, 1) := by decide +kernel
theorem dX5_rests_44 : decode cX5_rests 44 = .ok (.getfield 18, 3) := by decide +kernel
theorem dX5_rests_47 : decode cX5_rests 47 = .ok (.iload 4, 2) := by decide +kernel
theorem dX5_rests_49 : decode cX5_rests 49 = .ok (.iaload, 1) := by decide +kernel
theorem dX5_rests_50 : decode cX5_rests 50 = .ok (.iconst 1, 1) := by decide +kernel
theorem dX5_rests_51 : decode cX5_rests 51 = .ok (.if_icmp .ne 7, 3) := by decide +kernel
theorem dX5_rests_54 : decode cX5_rests 54 = .ok (.iconst 1, 1) := by decide +kernel
theorem dX5_rests_55 : decode cX5_rests 55 = .ok (.goto 4, 3) := by decide +kernel
theorem dX5_rests_58 : decode cX5_rests 58 = .ok (.iconst 0, 1) := by decide +kernel
theorem dX5_rests_59 : decode cX5_rests 59 = .ok (.istore_n 3, 1) := by decide +kernel
theorem dX5_rests_60 : decode cX5_rests 60 = .ok (.iinc 4 1, 3) := by decide +kernel
theorem dX5_rests_63 : decode cX5_rests 63 = .ok (.goto (-58), 3) := by decide +kernel
theorem dX5_rests_66 : decode cX5_rests 66 = .ok (.iload_n 3, 1) := by decide +kernel
theorem dX5_rests_67 : decode cX5_rests 67 = .ok (.ireturn, 1) := by decide +kernel
theorem dX6_add_0 : decode cX6_add 0 = .ok (.bipush 24, 2) := by decide +kernel
theorem dX6_add_2 : decode cX6_add 2 = .ok (.istore_n 2, 1) := by decide +kernel
theorem dX6_add_3 : decode cX6_add 3 = .ok (.iload_n 2, 1) := by decide +kernel
theorem dX6_add_4 : decode cX6_add 4 = .ok (.ifCond .lt 52, 3) := by decide +kernel
theorem dX6_add_7 : decode cX6_add 7 = .ok (.aload_n 0, 1) := by decide +kernel
theorem dX6_add_8 : decode cX6_add 8 = .ok (.getfield 48, 3) := by decide +kernel
theorem dX6_add_11 : decode cX6_add 11 = .ok (.ifCond .lt 39, 3) := by decide +kernel
theorem dX6_add_14 : decode cX6_add 14 = .ok (.aload_n 0, 1) := by decide +kernel
theorem dX6_add_15 : decode cX6_add 15 = .ok (.getfield 48, 3) := by decide +kernel
theorem dX6_add_18 : decode cX6_add 18 = .ok (.sipush 400, 3) := by decide +kernel
theorem dX6_add_21 : decode cX6_add 21 = .ok (.if_icmp .ge 29, 3) := by decide +kernel
theorem dX6_add_24 : decode cX6_add 24 = .ok (.aload_n 0, 1) := by decide +kernel
theorem dX6_add_25 : decode cX6_add 25 = .ok (.getfield 11, 3) := by decide +kernel
theorem dX6_add_28 : decode cX6_add 28 = .ok (.aload_n 0, 1) := by decide +kernel
theorem dX6_add_29 : decode cX6_add 29 = .ok (.getfield 48, 3) := by decide +kernel
theorem dX6_add_32 : decode cX6_add 32 = .ok (.iload_n 1, 1) := by decide +kernel
theorem dX6_add_33 : decode cX6_add 33 = .ok (.iload_n 2, 1) := by decide +kernel
theorem dX6_add_34 : decode cX6_add 34 = .ok (.iushr, 1) := by decide +kernel
theorem dX6_add_35 : decode cX6_add 35 = .ok (.sipush 255, 3) := by decide +kernel
theorem dX6_add_38 : decode cX6_add 38 = .ok (.iand, 1) := by decide +kernel
theorem dX6_add_39 : decode cX6_add 39 = .ok (.iastore, 1) := by decide +kernel
theorem dX6_add_40 : decode cX6_add 40 = .ok (.aload_n 0, 1) := by decide +kernel
theorem dX6_add_41 : decode cX6_add 41 = .ok (.dup, 1) := by decide +kernel
theorem dX6_add_42 : decode cX6_add 42 = .ok (.getfield 48, 3) := by decide +kernel
theorem dX6_add_45 : decode cX6_add 45 = .ok (.iconst 1, 1) := by decide +kernel
theorem dX6_add_46 : decode cX6_add 46 = .ok (.iadd, 1) := by decide +kernel
theorem dX6_add_47 : decode cX6_add 47 = .ok (.putfield 48, 3) := by decide +kernel
theorem dX6_add_50 : decode cX6_add 50 = .ok (.iinc 2 (-8), 3) := by decide +kernel
theorem dX6_add_53 : decode cX6_add 53 = .ok (.goto (-50), 3) := by decide +kernel
theorem dX6_add_56 : decode cX6_add 56 = .ok (.return_, 1) := by decide +kernel
theorem dX6_beginLine_0 : decode cX6_beginLine 0 = .ok (.aload_n 0, 1) := by decide +kernel
theorem dX6_beginLine_1 : decode cX6_beginLine 1 = .ok (.getfield 67, 3) := by decide +kernel
theorem dX6_beginLine_4 : decode cX6_beginLine 4 = .ok (.iload_n 1, 1) := by decide +kernel
theorem dX6_beginLine_5 : decode cX6_beginLine 5 = .ok (.if_icmp .ne 20, 3) := by decide +kernel
theorem dX6_beginLine_8 : decode cX6_beginLine 8 = .ok (.aload_n 0, 1) := by decide +kernel
theorem dX6_beginLine_9 : decode cX6_beginLine 9 = .ok (.getfield 92, 3) := by decide +kernel
theorem dX6_beginLine_12 : decode cX6_beginLine 12 = .ok (.bipush 16, 2) := by decide +kernel
theorem dX6_beginLine_14 : decode cX6_beginLine 14 = .ok (.if_icmp .ne 11, 3) := by decide +kernel
theorem dX6_beginLine_17 : decode cX6_beginLine 17 = .ok (.aload_n 0, 1) := by decide +kernel
theorem dX6_beginLine_18 : decode cX6_beginLine 18 = .ok (.iconst 3, 1) := by decide +kernel
theorem dX6_beginLine_19 : decode cX6_beginLine 19 = .ok (.invokevirtual 194, 3) := by decide +kernel
theorem dX6_beginLine_22 : decode cX6_beginLine 22 = .ok (.goto 8, 3) := by decide +kernel
theorem dX6_beginLine_25 : decode cX6_beginLine 25 = .ok (.aload_n 0, 1) := by decide +kernel
theorem dX6_beginLine_26 : decode cX6_beginLine 26 = .ok (.iload_n 1, 1) := by decide +kernel
theorem dX6_beginLine_27 : decode cX6_beginLine 27 = .ok (.invokevirtual 197, 3) := by decide +kernel
theorem dX6_beginLine_30 : decode cX6_beginLine 30 = .ok (.return_, 1) := by decide +kernel
theorem dX6_clear_0 : decode cX6_clear 0 = .ok (.aload_n 0, 1) := by decide +kernel
theorem dX6_clear_1 : decode cX6_clear 1 = .ok (.iconst 0, 1) := by decide +kernel
theorem dX6_clear_2 : decode cX6_clear 2 = .ok (.invokevirtual 95, 3) := by decide +kernel
theorem dX6_clear_5 : decode cX6_clear 5 = .ok (.aload_n 0, 1) := by decide +kernel
