theorem dJ6_bitCount_0f7a4_0 : decode cJ6_bitCount_0f7a4 0 = .ok (.iload_n 0, 1) := by decide +kernel
theorem dJ6_bitCount_0f7a4_1 : decode cJ6_bitCount_0f7a4 1 = .ok (.iload_n 0, 1) := by decide +kernel
theorem dJ6_bitCount_0f7a4_2 : decode cJ6_bitCount_0f7a4 2 = .ok (.iconst 1, 1) := by decide +kernel
theorem dJ6_bitCount_0f7a4_3 : decode cJ6_bitCount_0f7a4 3 = .ok (.iushr, 1) := by decide +kernel
theorem dJ6_bitCount_0f7a4_4 : decode cJ6_bitCount_0f7a4 4 = .ok (.ldc_w 265, 3) := by decide +kernel
theorem dJ6_bitCount_0f7a4_7 : decode cJ6_bitCount_0f7a4 7 = .ok (.iand, 1) := by decide +kernel
theorem dJ6_bitCount_0f7a4_8 : decode cJ6_bitCount_0f7a4 8 = .ok (.isub, 1) := by decide +kernel
theorem dJ6_bitCount_0f7a4_9 : decode cJ6_bitCount_0f7a4 9 = .ok (.istore_n 0, 1) := by decide +kernel
theorem dJ6_bitCount_0f7a4_10 : decode cJ6_bitCount_0f7a4 10 = .ok (.iload_n 0, 1) := by decide +kernel
theorem dJ6_bitCount_0f7a4_11 : decode cJ6_bitCount_0f7a4 11 = .ok (.ldc_w 266, 3) := by decide +kernel
theorem dJ6_bitCount_0f7a4_14 : decode cJ6_bitCount_0f7a4 14 = .ok (.iand, 1) := by decide +kernel
theorem dJ6_bitCount_0f7a4_15 : decode cJ6_bitCount_0f7a4 15 = .ok (.iload_n 0, 1) := by decide +kernel
theorem dJ6_bitCount_0f7a4_16 : decode cJ6_bitCount_0f7a4 16 = .ok (.iconst 2, 1) := by decide +kernel
theorem dJ6_bitCount_0f7a4_17 : decode cJ6_bitCount_0f7a4 17 = .ok (.iushr, 1) := by decide +kernel
theorem dJ6_bitCount_0f7a4_18 : decode cJ6_bitCount_0f7a4 18 = .ok (.ldc_w 266, 3) := by decide +kernel
theorem dJ6_bitCount_0f7a4_21 : decode cJ6_bitCount_0f7a4 21 = .ok (.iand, 1) := by decide +kernel
theorem dJ6_bitCount_0f7a4_22 : decode cJ6_bitCount_0f7a4 22 = .ok (.iadd, 1) := by decide +kernel
theorem dJ6_bitCount_0f7a4_23 : decode cJ6_bitCount_0f7a4 23 = .ok (.istore_n 0, 1) := by decide +kernel
theorem dJ6_bitCount_0f7a4_24 : decode cJ6_bitCount_0f7a4 24 = .ok (.iload_n 0, 1) := by decide +kernel
theorem dJ6_bitCount_0f7a4_25 : decode cJ6_bitCount_0f7a4 25 = .ok (.iload_n 0, 1) := by decide +kernel
theorem dJ6_bitCount_0f7a4_26 : decode cJ6_bitCount_0f7a4 26 = .ok (.iconst 4, 1) := by decide +kernel
theorem dJ6_bitCount_0f7a4_27 : decode cJ6_bitCount_0f7a4 27 = .ok (.iushr, 1) := by decide +kernel
theorem dJ6_bitCount_0f7a4_28 : decode cJ6_bitCount_0f7a4 28 = .ok (.iadd, 1) := by decide +kernel
theorem dJ6_bitCount_0f7a4_29 : decode cJ6_bitCount_0f7a4 29 = .ok (.ldc_w 267, 3) := by decide +kernel
theorem dJ6_bitCount_0f7a4_32 : decode cJ6_bitCount_0f7a4 32 = .ok (.iand, 1) := by decide +kernel
theorem dJ6_bitCount_0f7a4_33 : decode cJ6_bitCount_0f7a4 33 = .ok (.istore_n 0, 1) := by decide +kernel
theorem dJ6_bitCount_0f7a4_34 : decode cJ6_bitCount_0f7a4 34 = .ok (.iload_n 0, 1) := by decide +kernel
theorem dJ6_bitCount_0f7a4_35 : decode cJ6_bitCount_0f7a4 35 = .ok (.iload_n 0, 1) := by decide +kernel
theorem dJ6_bitCount_0f7a4_36 : decode cJ6_bitCount_0f7a4 36 = .ok (.bipush 8, 2) := by decide +kernel
theorem dJ6_bitCount_0f7a4_38 : decode cJ6_bitCount_0f7a4 38 = .ok (.iushr, 1) := by decide +kernel
theorem dJ6_bitCount_0f7a4_39 : decode cJ6_bitCount_0f7a4 39 = .ok (.iadd, 1) := by decide +kernel
theorem dJ6_bitCount_0f7a4_40 : decode cJ6_bitCount_0f7a4 40 = .ok (.istore_n 0, 1) := by decide +kernel
theorem dJ6_bitCount_0f7a4_41 : decode cJ6_bitCount_0f7a4 41 = .ok (.iload_n 0, 1) := by decide +kernel
theorem dJ6_bitCount_0f7a4_42 : decode cJ6_bitCount_0f7a4 42 = .ok (.iload_n 0, 1) := by decide +kernel
theorem dJ6_bitCount_0f7a4_43 : decode cJ6_bitCount_0f7a4 43 = .ok (.bipush 16, 2) := by decide +kernel
theorem dJ6_bitCount_0f7a4_45 : decode cJ6_bitCount_0f7a4 45 = .ok (.iushr, 1) := by decide +kernel
theorem dJ6_bitCount_0f7a4_46 : decode cJ6_bitCount_0f7a4 46 = .ok (.iadd, 1) := by decide +kernel
theorem dJ6_bitCount_0f7a4_47 : decode cJ6_bitCount_0f7a4 47 = .ok (.istore_n 0, 1) := by decide +kernel
theorem dJ6_bitCount_0f7a4_48 : decode cJ6_bitCount_0f7a4 48 = .ok (.iload_n 0, 1) := by decide +kernel
theorem dJ6_bitCount_0f7a4_49 : decode cJ6_bitCount_0f7a4 49 = .ok (.bipush 63, 2) := by decide +kernel
theorem dJ6_bitCount_0f7a4_51 : decode cJ6_bitCount_0f7a4 51 = .ok (.iand, 1) := by decide +kernel
theorem dJ6_bitCount_0f7a4_52 : decode cJ6_bitCount_0f7a4 52 = .ok (.ireturn, 1) := by decide +kernel
theorem dJ7_fill_53178_0 : decode cJ7_fill_53178 0 = .ok (.iconst 0, 1) := by decide +kernel
theorem dJ7_fill_53178_1 : decode cJ7_fill_53178 1 = .ok (.istore_n 2, 1) := by decide +kernel
theorem dJ7_fill_53178_2 : decode cJ7_fill_53178 2 = .ok (.aload_n 0, 1) := by decide +kernel
theorem dJ7_fill_53178_3 : decode cJ7_fill_53178 3 = .ok (.arraylength, 1) := by decide +kernel
theorem dJ7_fill_53178_4 : decode cJ7_fill_53178 4 = .ok (.istore_n 3, 1) := by decide +kernel
theorem dJ7_fill_53178_5 : decode cJ7_fill_53178 5 = .ok (.iload_n 2, 1) := by decide +kernel
theorem dJ7_fill_53178_6 : decode cJ7_fill_53178 6 = .ok (.iload_n 3, 1) := by decide +kernel
theorem dJ7_fill_53178_7 : decode cJ7_fill_53178 7 = .ok (.if_icmp .ge 13, 3) := by decide +kernel
theorem dJ7_fill_53178_10 : decode cJ7_fill_53178 10 = .ok (.aload_n 0, 1) := by decide +kernel
theorem dJ7_fill_53178_11 : decode cJ7_fill_53178 11 = .ok (.iload_n 2, 1) := by decide +kernel
theorem dJ7_fill_53178_12 : decode cJ7_fill_53178 12 = .ok (.iload_n 1, 1) := by decide +kernel
theorem dJ7_fill_53178_13 : decode cJ7_fill_53178 13 = .ok (.iastore, 1) := by decide +kernel
theorem dJ7_fill_53178_14 : decode cJ7_fill_53178 14 = .ok (.iinc 2 1, 3) := by decide +kernel
theorem dJ7_fill_53178_17 : decode cJ7_fill_53178 17 = .ok (.goto (-12), 3) := by decide +kernel
theorem dJ7_fill_53178_20 : decode cJ7_fill_53178 20 = .ok (.return_, 1) := by decide +kernel
theorem dX0_become_0 : decode cX0_become 0 = .ok (.aload_n 1, 1) := by decide +kernel
theorem dX0_become_1 : decode cX0_become 1 = .ok (.getfield 9, 3) := by decide +kernel
theorem dX0_become_4 : decode cX0_become 4 = .ok (.aload_n 0, 1) := by decide +kernel
theorem dX0_become_5 : decode cX0_become 5 = .ok (.getfield 9, 3) := by decide +kernel
theorem dX0_become_8 : decode cX0_become 8 = .ok (.invokestatic 34, 3) := by decide +kernel
theorem dX0_become_11 : decode cX0_become 11 = .ok (.aload_n 1, 1) := by decide +kernel
theorem dX0_become_12 : decode cX0_become 12 = .ok (.getfield 15, 3) := by decide +kernel
theorem dX0_become_15 : decode cX0_become 15 = .ok (.aload_n 0, 1) := by decide +kernel
theorem dX0_become_16 : decode cX0_become 16 = .ok (.getfield 15, 3) := by decide +kernel
theorem dX0_become_19 : decode cX0_become 19 = .ok (.invokestatic 34, 3) := by decide +kernel
theorem dX0_become_22 : decode cX0_become 22 = .ok (.aload_n 1, 1) := by decide +kernel
theorem dX0_become_23 : decode cX0_become 23 = .ok (.getfield 18, 3) := by decide +kernel
theorem dX0_become_26 : decode cX0_become 26 = .ok (.aload_n 0, 1) := by decide +kernel
theorem dX0_become_27 : decode cX0_become 27 = .ok (.getfield 18, 3) := by decide +kernel
theorem dX0_become_30 : decode cX0_become 30 = .ok (.invokestatic 34, 3) := by decide +kernel
theorem dX0_become_33 : decode cX0_become 33 = .ok (.aload_n 1, 1) := by decide +kernel
theorem dX0_become_34 : decode cX0_become 34 = .ok (.getfield 21, 3) := by decide +kernel
theorem dX0_become_37 : decode cX0_become 37 = .ok (.aload_n 0, 1) := by decide +kernel
theorem dX0_become_38 : decode cX0_become 38 = .ok (.getfield 21, 3) := by decide +kernel
theorem dX0_become_41 : decode cX0_become 41 = .ok (.invokestatic 34, 3) := by decide +kernel
theorem dX0_become_44 : decode cX0_become 44 = .ok (.aload_n 1, 1) := by decide +kernel
theorem dX0_become_45 : decode cX0_become 45 = .ok (.getfield 24, 3) := by decide +kernel
theorem dX0_become_48 : decode cX0_become 48 = .ok (.aload_n 0, 1) := by decide +kernel
theorem dX0_become_49 : decode cX0_become 49 = .ok (.getfield 24, 3) := by decide +kernel
theorem dX0_become_52 : decode cX0_become 52 = .ok (.invokestatic 34, 3) := by decide +kernel
theorem dX0_become_55 : decode cX0_become 55 = .ok (.aload_n 1, 1) := by decide +kernel
theorem dX0_become_56 : decode cX0_become 56 = .ok (.getfield 27, 3) := by decide +kernel
theorem dX0_become_59 : decode cX0_become 59 = .ok (.aload_n 0, 1) := by decide +kernel
theorem dX0_become_60 : decode cX0_become 60 = .ok (.getfield 27, 3) := by decide +kernel
theorem dX0_become_63 : decode cX0_become 63 = .ok (.invokestatic 34, 3) := by decide +kernel
theorem dX0_become_66 : decode cX0_become 66 = .ok (.aload_n 0, 1) := by decide +kernel
theorem dX0_become_67 : decode cX0_become 67 = .ok (.aload_n 1, 1) := by decide +kernel
theorem dX0_become_68 : decode cX0_become 68 = .ok (.getfield 30, 3) := by decide +kernel
theorem dX0_become_71 : decode cX0_become 71 = .ok (.putfield 30, 3) := by decide +kernel
theorem dX0_become_74 : decode cX0_become 74 = .ok (.aload_n 0, 1) := by decide +kernel
theorem dX0_become_75 : decode cX0_become 75 = .ok (.aload_n 1, 1) := by decide +kernel
theorem dX0_become_76 : decode cX0_become 76 = .ok (.getfield 38, 3) := by decide +kernel
theorem dX0_become_79 : decode cX0_become 79 = .ok (.putfield 38, 3) := by decide +kernel
theorem dX0_become_82 : decode cX0_become 82 = .ok (.aload_n 0, 1) := by decide +kernel
theorem dX0_become_83 : decode cX0_become 83 = .ok (.aload_n 1, 1) := by decide +kernel
theorem dX0_become_84 : decode cX0_become 84 = .ok (.getfield 41, 3) := by decide +kernel
theorem dX0_become_87 : decode cX0_become 87 = .ok (.putfield 41, 3) := by decide +kernel
theorem dX0_become_90 : decode cX0_become 90 = .ok (.aload_n 0, 1) := by decide +kernel
theorem dX0_become_91 : decode cX0_become 91 = .ok (.aload_n 1, 1) := by decide +kernel
theorem dX0_become_92 : decode cX0_become 92 = .ok (.getfield 44, 3) := by decide +kernel
theorem dX0_become_95 : decode cX0_become 95 = .ok (.putfield 44, 3) := by decide +kernel
theorem dX0_become_98 : decode cX0_become 98 = .ok (.return_, 1) := by decide +kernel
theorem dX0_draw_0 : decode cX0_draw 0 = .ok (.aload_n 0, 1) := by decide +kernel
theorem dX0_draw_1 : decode cX0_draw 1 = .ok (.aload_n 0, 1) := by decide +kernel
theorem dX0_draw_2 : decode cX0_draw 2 = .ok (.getfield 41, 3) := by decide +kernel
theorem dX0_draw_5 : decode cX0_draw 5 = .ok (.ldc 51, 2) := by decide +kernel
theorem dX0_draw_7 : decode cX0_draw 7 = .ok (.imul, 1) := by decide +kernel
theorem dX0_draw_8 : decode cX0_draw 8 = .ok (.ldc 52, 2) := by decide +kernel
theorem dX0_draw_10 : decode cX0_draw 10 = .ok (.iadd, 1) := by decide +kernel
theorem dX0_draw_11 : decode cX0_draw 11 = .ok (.putfield 41, 3) := by decide +kernel
theorem dX0_draw_14 : decode cX0_draw 14 = .ok (.iload_n 1, 1) := by decide +kernel
theorem dX0_draw_15 : decode cX0_draw 15 = .ok (.ifCond .le 15, 3) := by decide +kernel
theorem dX0_draw_18 : decode cX0_draw 18 = .ok (.aload_n 0, 1) := by decide +kernel
theorem dX0_draw_19 : decode cX0_draw 19 = .ok (.getfield 41, 3) := by decide +kernel
theorem dX0_draw_22 : decode cX0_draw 22 = .ok (.bipush 8, 2) := by decide +kernel
theorem dX0_draw_24 : decode cX0_draw 24 = .ok (.iushr, 1) := by decide +kernel
theorem dX0_draw_25 : decode cX0_draw 25 = .ok (.iload_n 1, 1) := by decide +kernel
theorem dX0_draw_26 : decode cX0_draw 26 = .ok (.irem, 1) := by decide +kernel
theorem dX0_draw_27 : decode cX0_draw 27 = .ok (.goto 4, 3) := by decide +kernel
theorem dX0_draw_30 : decode cX0_draw 30 = .ok (.iconst 0, 1) := by decide +kernel
theorem dX0_draw_31 : decode cX0_draw 31 = .ok (.ireturn, 1) := by decide +kernel
theorem dX0_init_0 : decode cX0_init 0 = .ok (.aload_n 0, 1) := by decide +kernel
theorem dX0_init_1 : decode cX0_init 1 = .ok (.invokespecial 3, 3) := by decide +kernel
theorem dX0_init_4 : decode cX0_init 4 = .ok (.aload_n 0, 1) := by decide +kernel
theorem dX0_init_5 : decode cX0_init 5 = .ok (.bipush 12, 2) := by decide +kernel
theorem dX0_init_7 : decode cX0_init 7 = .ok (.newarray .int, 2) := by decide +kernel
theorem dX0_init_9 : decode cX0_init 9 = .ok (.putfield 9, 3) := by decide +kernel
theorem dX0_init_12 : decode cX0_init 12 = .ok (.aload_n 0, 1) := by decide +kernel
theorem dX0_init_13 : decode cX0_init 13 = .ok (.bipush 12, 2) := by decide +kernel
theorem dX0_init_15 : decode cX0_init 15 = .ok (.newarray .int, 2) := by decide +kernel
theorem dX0_init_17 : decode cX0_init 17 = .ok (.putfield 15, 3) := by decide +kernel
theorem dX0_init_20 : decode cX0_init 20 = .ok (.aload_n 0, 1) := by decide +kernel
theorem dX0_init_21 : decode cX0_init 21 = .ok (.bipush 12, 2) := by decide +kernel
theorem dX0_init_23 : decode cX0_init 23 = .ok (.newarray .int, 2) := by decide +kernel
theorem dX0_init_25 : decode cX0_init 25 = .ok (.putfield 18, 3) := by decide +kernel
theorem dX0_init_28 : decode cX0_init 28 = .ok (.aload_n 0, 1) := by decide +kernel
theorem dX0_init_29 : decode cX0_init 29 = .ok (.bipush 12, 2) := by decide +kernel
theorem dX0_init_31 : decode cX0_init 31 = .ok (.newarray .int, 2) := by decide +kernel
theorem dX0_init_33 : decode cX0_init 33 = .ok (.putfield 21, 3) := by decide +kernel
theorem dX0_init_36 : decode cX0_init 36 = .ok (.aload_n 0, 1) := by decide +kernel
theorem dX0_init_37 : decode cX0_init 37 = .ok (.bipush 12, 2) := by decide +kernel
theorem dX0_init_39 : decode cX0_init 39 = .ok (.newarray .int, 2) := by decide +kernel
theorem dX0_init_41 : decode cX0_init 41 = .ok (.putfield 24, 3) := by decide +kernel
theorem dX0_init_44 : decode cX0_init 44 = .ok (.aload_n 0, 1) := by decide +kernel
theorem dX0_init_45 : decode cX0_init 45 = .ok (.bipush 12, 2) := by decide +kernel
theorem dX0_init_47 : decode cX0_init 47 = .ok (.newarray .int, 2) := by decide +kernel
theorem dX0_init_49 : decode cX0_init 49 = .ok (.putfield 27, 3) := by decide +kernel
theorem dX0_init_52 : decode cX0_init 52 = .ok (.aload_n 0, 1) := by decide +kernel
theorem dX0_init_53 : decode cX0_init 53 = .ok (.iconst 1, 1) := by decide +kernel
theorem dX0_init_54 : decode cX0_init 54 = .ok (.putfield 30, 3) := by decide +kernel
theorem dX0_init_57 : decode cX0_init 57 = .ok (.return_, 1) := by decide +kernel
theorem dX0_knows_0 : decode cX0_knows 0 = .ok (.iload_n 1, 1) := by decide +kernel
theorem dX0_knows_1 : decode cX0_knows 1 = .ok (.ifCond .lt 26, 3) := by decide +kernel
theorem dX0_knows_4 : decode cX0_knows 4 = .ok (.iload_n 1, 1) := by decide +kernel
theorem dX0_knows_5 : decode cX0_knows 5 = .ok (.bipush 12, 2) := by decide +kernel
theorem dX0_knows_7 : decode cX0_knows 7 = .ok (.if_icmp .ge 20, 3) := by decide +kernel
theorem dX0_knows_10 : decode cX0_knows 10 = .ok (.aload_n 0, 1) := by decide +kernel
theorem dX0_knows_11 : decode cX0_knows 11 = .ok (.getfield 15, 3) := by decide +kernel
theorem dX0_knows_14 : decode cX0_knows 14 = .ok (.iload_n 1, 1) := by decide +kernel
theorem dX0_knows_15 : decode cX0_knows 15 = .ok (.iaload, 1) := by decide +kernel
theorem dX0_knows_16 : decode cX0_knows 16 = .ok (.iload_n 2, 1) := by decide +kernel
theorem dX0_knows_17 : decode cX0_knows 17 = .ok (.invokestatic 47, 3) := by decide +kernel
theorem dX0_knows_20 : decode cX0_knows 20 = .ok (.ifCond .eq 7, 3) := by decide +kernel
theorem dX0_knows_23 : decode cX0_knows 23 = .ok (.iconst 1, 1) := by decide +kernel
theorem dX0_knows_24 : decode cX0_knows 24 = .ok (.goto 4, 3) := by decide +kernel
theorem dX0_knows_27 : decode cX0_knows 27 = .ok (.iconst 0, 1) := by decide +kernel
theorem dX0_knows_28 : decode cX0_knows 28 = .ok (.ireturn, 1) := by decide +kernel
theorem dX0_start_0 : decode cX0_start 0 = .ok (.iload_n 1, 1) := by decide +kernel
theorem dX0_start_1 : decode cX0_start 1 = .ok (.ifCond .lt 9, 3) := by decide +kernel
theorem dX0_start_4 : decode cX0_start 4 = .ok (.iload_n 1, 1) := by decide +kernel
theorem dX0_start_5 : decode cX0_start 5 = .ok (.bipush 12, 2) := by decide +kernel
theorem dX0_start_7 : decode cX0_start 7 = .ok (.if_icmp .lt 4, 3) := by decide +kernel
theorem dX0_start_10 : decode cX0_start 10 = .ok (.return_, 1) := by decide +kernel
theorem dX0_start_11 : decode cX0_start 11 = .ok (.aload_n 0, 1) := by decide +kernel
theorem dX0_start_12 : decode cX0_start 12 = .ok (.getfield 9, 3) := by decide +kernel
theorem dX0_start_15 : decode cX0_start 15 = .ok (.iload_n 1, 1) := by decide +kernel
theorem dX0_start_16 : decode cX0_start 16 = .ok (.bipush 50, 2) := by decide +kernel
theorem dX0_start_18 : decode cX0_start 18 = .ok (.iastore, 1) := by decide +kernel
theorem dX0_start_19 : decode cX0_start 19 = .ok (.aload_n 0, 1) := by decide +kernel
theorem dX0_start_20 : decode cX0_start 20 = .ok (.getfield 15, 3) := by decide +kernel
theorem dX0_start_23 : decode cX0_start 23 = .ok (.iload_n 1, 1) := by decide +kernel
theorem dX0_start_24 : decode cX0_start 24 = .ok (.iconst 0, 1) := by decide +kernel
theorem dX0_start_25 : decode cX0_start 25 = .ok (.iastore, 1) := by decide +kernel
theorem dX0_start_26 : decode cX0_start 26 = .ok (.aload_n 0, 1) := by decide +kernel
theorem dX0_start_27 : decode cX0_start 27 = .ok (.getfield 18, 3) := by decide +kernel
theorem dX0_start_30 : decode cX0_start 30 = .ok (.iload_n 1, 1) := by decide +kernel
theorem dX0_start_31 : decode cX0_start 31 = .ok (.iconst 0, 1) := by decide +kernel
theorem dX0_start_32 : decode cX0_start 32 = .ok (.iastore, 1) := by decide +kernel
theorem dX0_start_33 : decode cX0_start 33 = .ok (.aload_n 0, 1) := by decide +kernel
theorem dX0_start_34 : decode cX0_start 34 = .ok (.getfield 21, 3) := by decide +kernel
theorem dX0_start_37 : decode cX0_start 37 = .ok (.iload_n 1, 1) := by decide +kernel
theorem dX0_start_38 : decode cX0_start 38 = .ok (.iconst 0, 1) := by decide +kernel
theorem dX0_start_39 : decode cX0_start 39 = .ok (.iastore, 1) := by decide +kernel
theorem dX0_start_40 : decode cX0_start 40 = .ok (.aload_n 0, 1) := by decide +kernel
theorem dX0_start_41 : decode cX0_start 41 = .ok (.getfield 24, 3) := by decide +kernel
theorem dX0_start_44 : decode cX0_start 44 = .ok (.iload_n 1, 1) := by decide +kernel
theorem dX0_start_45 : decode cX0_start 45 = .ok (.iconst 0, 1) := by decide +kernel
theorem dX0_start_46 : decode cX0_start 46 = .ok (.iastore, 1) := by decide +kernel
theorem dX0_start_47 : decode cX0_start 47 = .ok (.aload_n 0, 1) := by decide +kernel
theorem dX0_start_48 : decode cX0_start 48 = .ok (.getfield 27, 3) := by decide +kernel
theorem dX0_start_51 : decode cX0_start 51 = .ok (.iload_n 1, 1) := by decide +kernel
theorem dX0_start_52 : decode cX0_start 52 = .ok (.iconst 0, 1) := by decide +kernel
theorem dX0_start_53 : decode cX0_start 53 = .ok (.iastore, 1) := by decide +kernel
theorem dX0_start_54 : decode cX0_start 54 = .ok (.return_, 1) := by decide +kernel
theorem dX10_forgetAll_0 : decode cX10_forgetAll 0 = .ok (.aload_n 0, 1) := by decide +kernel
theorem dX10_forgetAll_1 : decode cX10_forgetAll 1 = .ok (.iconst 0, 1) := by decide +kernel
theorem dX10_forgetAll_2 : decode cX10_forgetAll 2 = .ok (.putfield 16, 3) := by decide +kernel
theorem dX10_forgetAll_5 : decode cX10_forgetAll 5 = .ok (.return_, 1) := by decide +kernel
theorem dX10_goBack_0 : decode cX10_goBack 0 = .ok (.aload_n 0, 1) := by decide +kernel
theorem dX10_goBack_1 : decode cX10_goBack 1 = .ok (.getfield 20, 3) := by decide +kernel
theorem dX10_goBack_4 : decode cX10_goBack 4 = .ok (.bipush 6, 2) := by decide +kernel
theorem dX10_goBack_6 : decode cX10_goBack 6 = .ok (.iadd, 1) := by decide +kernel
theorem dX10_goBack_7 : decode cX10_goBack 7 = .ok (.iconst 1, 1) := by decide +kernel
theorem dX10_goBack_8 : decode cX10_goBack 8 = .ok (.isub, 1) := by decide +kernel
theorem dX10_goBack_9 : decode cX10_goBack 9 = .ok (.bipush 6, 2) := by decide +kernel
theorem dX10_goBack_11 : decode cX10_goBack 11 = .ok (.irem, 1) := by decide +kernel
theorem dX10_goBack_12 : decode cX10_goBack 12 = .ok (.istore_n 2, 1) := by decide +kernel
theorem dX10_goBack_13 : decode cX10_goBack 13 = .ok (.aload_n 0, 1) := by decide +kernel
theorem dX10_goBack_14 : decode cX10_goBack 14 = .ok (.getfield 16, 3) := by decide +kernel
theorem dX10_goBack_17 : decode cX10_goBack 17 = .ok (.ifCond .le 22, 3) := by decide +kernel
theorem dX10_goBack_20 : decode cX10_goBack 20 = .ok (.iload_n 2, 1) := by decide +kernel
theorem dX10_goBack_21 : decode cX10_goBack 21 = .ok (.ifCond .lt 18, 3) := by decide +kernel
theorem dX10_goBack_24 : decode cX10_goBack 24 = .ok (.iload_n 2, 1) := by decide +kernel
theorem dX10_goBack_25 : decode cX10_goBack 25 = .ok (.bipush 6, 2) := by decide +kernel
theorem dX10_goBack_27 : decode cX10_goBack 27 = .ok (.if_icmp .ge 12, 3) := by decide +kernel
theorem dX10_goBack_30 : decode cX10_goBack 30 = .ok (.aload_n 0, 1) := by decide +kernel
theorem dX10_goBack_31 : decode cX10_goBack 31 = .ok (.getfield 11, 3) := by decide +kernel
theorem dX10_goBack_34 : decode cX10_goBack 34 = .ok (.iload_n 2, 1) := by decide +kernel
theorem dX10_goBack_35 : decode cX10_goBack 35 = .ok (.aaload, 1) := by decide +kernel
theorem dX10_goBack_36 : decode cX10_goBack 36 = .ok (.ifnonnull 5, 3) := by decide +kernel
theorem dX10_goBack_39 : decode cX10_goBack 39 = .ok (.iconst 0, 1) := by decide +kernel
theorem dX10_goBack_40 : decode cX10_goBack 40 = .ok (.ireturn, 1) := by decide +kernel
theorem dX10_goBack_41 : decode cX10_goBack 41 = .ok (.aload_n 1, 1) := by decide +kernel
theorem dX10_goBack_42 : decode cX10_goBack 42 = .ok (.aload_n 0, 1) := by decide +kernel
theorem dX10_goBack_43 : decode cX10_goBack 43 = .ok (.getfield 11, 3) := by decide +kernel
theorem dX10_goBack_46 : decode cX10_goBack 46 = .ok (.iload_n 2, 1) := by decide +kernel
theorem dX10_goBack_47 : decode cX10_goBack 47 = .ok (.aaload, 1) := by decide +kernel
theorem dX10_goBack_48 : decode cX10_goBack 48 = .ok (.invokevirtual 23, 3) := by decide +kernel
theorem dX10_goBack_51 : decode cX10_goBack 51 = .ok (.aload_n 0, 1) := by decide +kernel
theorem dX10_goBack_52 : decode cX10_goBack 52 = .ok (.iload_n 2, 1) := by decide +kernel
theorem dX10_goBack_53 : decode cX10_goBack 53 = .ok (.putfield 20, 3) := by decide +kernel
theorem dX10_goBack_56 : decode cX10_goBack 56 = .ok (.aload_n 0, 1) := by decide +kernel
theorem dX10_goBack_57 : decode cX10_goBack 57 = .ok (.dup, 1) := by decide +kernel
theorem dX10_goBack_58 : decode cX10_goBack 58 = .ok (.getfield 16, 3) := by decide +kernel
theorem dX10_goBack_61 : decode cX10_goBack 61 = .ok (.iconst 1, 1) := by decide +kernel
theorem dX10_goBack_62 : decode cX10_goBack 62 = .ok (.isub, 1) := by decide +kernel
theorem dX10_goBack_63 : decode cX10_goBack 63 = .ok (.putfield 16, 3) := by decide +kernel
theorem dX10_goBack_66 : decode cX10_goBack 66 = .ok (.iconst 1, 1) := by decide +kernel
theorem dX10_goBack_67 : decode cX10_goBack 67 = .ok (.ireturn, 1) := by decide +kernel
theorem dX10_init_0 : decode cX10_init 0 = .ok (.aload_n 0, 1) := by decide +kernel
theorem dX10_init_1 : decode cX10_init 1 = .ok (.invokespecial 1, 3) := by decide +kernel
theorem dX10_init_4 : decode cX10_init 4 = .ok (.aload_n 0, 1) := by decide +kernel
theorem dX10_init_5 : decode cX10_init 5 = .ok (.bipush 6, 2) := by decide +kernel
theorem dX10_init_7 : decode cX10_init 7 = .ok (.anewarray 9, 3) := by decide +kernel
theorem dX10_init_10 : decode cX10_init 10 = .ok (.putfield 11, 3) := by decide +kernel
theorem dX10_init_13 : decode cX10_init 13 = .ok (.iconst 0, 1) := by decide +kernel
theorem dX10_init_14 : decode cX10_init 14 = .ok (.istore_n 1, 1) := by decide +kernel
theorem dX10_init_15 : decode cX10_init 15 = .ok (.iload_n 1, 1) := by decide +kernel
theorem dX10_init_16 : decode cX10_init 16 = .ok (.bipush 6, 2) := by decide +kernel
theorem dX10_init_18 : decode cX10_init 18 = .ok (.if_icmp .ge 22, 3) := by decide +kernel
theorem dX10_init_21 : decode cX10_init 21 = .ok (.aload_n 0, 1) := by decide +kernel
theorem dX10_init_22 : decode cX10_init 22 = .ok (.getfield 11, 3) := by decide +kernel
theorem dX10_init_25 : decode cX10_init 25 = .ok (.iload_n 1, 1) := by decide +kernel
theorem dX10_init_26 : decode cX10_init 26 = .ok (.new 9, 3) := by decide +kernel
theorem dX10_init_29 : decode cX10_init 29 = .ok (.dup, 1) := by decide +kernel
theorem dX10_init_30 : decode cX10_init 30 = .ok (.invokespecial 15, 3) := by decide +kernel
theorem dX10_init_33 : decode cX10_init 33 = .ok (.aastore, 1) := by decide +kernel
theorem dX10_init_34 : decode cX10_init 34 = .ok (.iinc 1 1, 3) := by decide +kernel
theorem dX10_init_37 : decode cX10_init 37 = .ok (.goto (-22), 3) := by decide +kernel
theorem dX10_init_40 : decode cX10_init 40 = .ok (.return_, 1) := by decide +kernel
theorem dX10_remember_0 : decode cX10_remember 0 = .ok (.aload_n 0, 1) := by decide +kernel
theorem dX10_remember_1 : decode cX10_remember 1 = .ok (.getfield 20, 3) := by decide +kernel
theorem dX10_remember_4 : decode cX10_remember 4 = .ok (.ifCond .lt 65, 3) := by decide +kernel
theorem dX10_remember_7 : decode cX10_remember 7 = .ok (.aload_n 0, 1) := by decide +kernel
theorem dX10_remember_8 : decode cX10_remember 8 = .ok (.getfield 20, 3) := by decide +kernel
theorem dX10_remember_11 : decode cX10_remember 11 = .ok (.bipush 6, 2) := by decide +kernel
theorem dX10_remember_13 : decode cX10_remember 13 = .ok (.if_icmp .ge 56, 3) := by decide +kernel
theorem dX10_remember_16 : decode cX10_remember 16 = .ok (.aload_n 0, 1) := by decide +kernel
theorem dX10_remember_17 : decode cX10_remember 17 = .ok (.getfield 11, 3) := by decide +kernel
theorem dX10_remember_20 : decode cX10_remember 20 = .ok (.aload_n 0, 1) := by decide +kernel
theorem dX10_remember_21 : decode cX10_remember 21 = .ok (.getfield 20, 3) := by decide +kernel
theorem dX10_remember_24 : decode cX10_remember 24 = .ok (.aaload, 1) := by decide +kernel
theorem dX10_remember_25 : decode cX10_remember 25 = .ok (.ifnull 44, 3) := by decide +kernel
theorem dX10_remember_28 : decode cX10_remember 28 = .ok (.aload_n 0, 1) := by decide +kernel
theorem dX10_remember_29 : decode cX10_remember 29 = .ok (.getfield 11, 3) := by decide +kernel
theorem dX10_remember_32 : decode cX10_remember 32 = .ok (.aload_n 0, 1) := by decide +kernel
theorem dX10_remember_33 : decode cX10_remember 33 = .ok (.getfield 20, 3) := by decide +kernel
theorem dX10_remember_36 : decode cX10_remember 36 = .ok (.aaload, 1) := by decide +kernel
theorem dX10_remember_37 : decode cX10_remember 37 = .ok (.aload_n 1, 1) := by decide +kernel
theorem dX10_remember_38 : decode cX10_remember 38 = .ok (.invokevirtual 23, 3) := by decide +kernel
theorem dX10_remember_41 : decode cX10_remember 41 = .ok (.aload_n 0, 1) := by decide +kernel
theorem dX10_remember_42 : decode cX10_remember 42 = .ok (.aload_n 0, 1) := by decide +kernel
theorem dX10_remember_43 : decode cX10_remember 43 = .ok (.getfield 20, 3) := by decide +kernel
theorem dX10_remember_46 : decode cX10_remember 46 = .ok (.iconst 1, 1) := by decide +kernel
theorem dX10_remember_47 : decode cX10_remember 47 = .ok (.iadd, 1) := by decide +kernel
theorem dX10_remember_48 : decode cX10_remember 48 = .ok (.bipush 6, 2) := by decide +kernel
theorem dX10_remember_50 : decode cX10_remember 50 = .ok (.irem, 1) := by decide +kernel
theorem dX10_remember_51 : decode cX10_remember 51 = .ok (.putfield 20, 3) := by decide +kernel
theorem dX10_remember_54 : decode cX10_remember 54 = .ok (.aload_n 0, 1) := by decide +kernel
theorem dX10_remember_55 : decode cX10_remember 55 = .ok (.bipush 6, 2) := by decide +kernel
theorem dX10_remember_57 : decode cX10_remember 57 = .ok (.aload_n 0, 1) := by decide +kernel
theorem dX10_remember_58 : decode cX10_remember 58 = .ok (.getfield 16, 3) := by decide +kernel
theorem dX10_remember_61 : decode cX10_remember 61 = .ok (.iconst 1, 1) := by decide +kernel
theorem dX10_remember_62 : decode cX10_remember 62 = .ok (.iadd, 1) := by decide +kernel
theorem dX10_remember_63 : decode cX10_remember 63 = .ok (.invokestatic 27, 3) := by decide +kernel
theorem dX10_remember_66 : decode cX10_remember 66 = .ok (.putfield 16, 3) := by decide +kernel
theorem dX10_remember_69 : decode cX10_remember 69 = .ok (.return_, 1) := by decide +kernel
theorem dX11_ask_0 : decode cX11_ask 0 = .ok (.aload_n 0, 1) := by decide +kernel
theorem dX11_ask_1 : decode cX11_ask 1 = .ok (.getfield 67, 3) := by decide +kernel
theorem dX11_ask_4 : decode cX11_ask 4 = .ok (.aload_n 0, 1) := by decide +kernel
theorem dX11_ask_5 : decode cX11_ask 5 = .ok (.getfield 10, 3) := by decide +kernel
theorem dX11_ask_8 : decode cX11_ask 8 = .ok (.invokevirtual 251, 3) := by decide +kernel
theorem dX11_ask_11 : decode cX11_ask 11 = .ok (.invokevirtual 255, 3) := by decide +kernel
theorem dX11_ask_14 : decode cX11_ask 14 = .ok (.ireturn, 1) := by decide +kernel
theorem dX11_book_0 : decode cX11_book 0 = .ok (.iload_n 1, 1) := by decide +kernel
theorem dX11_book_1 : decode cX11_book 1 = .ok (.ifCond .lt 27, 3) := by decide +kernel
theorem dX11_book_4 : decode cX11_book 4 = .ok (.iload_n 1, 1) := by decide +kernel
theorem dX11_book_5 : decode cX11_book 5 = .ok (.aload_n 0, 1) := by decide +kernel
theorem dX11_book_6 : decode cX11_book 6 = .ok (.getfield 19, 3) := by decide +kernel
theorem dX11_book_9 : decode cX11_book 9 = .ok (.getfield 210, 3) := by decide +kernel
theorem dX11_book_12 : decode cX11_book 12 = .ok (.if_icmp .ge 16, 3) := by decide +kernel
theorem dX11_book_15 : decode cX11_book 15 = .ok (.iload_n 2, 1) := by decide +kernel
theorem dX11_book_16 : decode cX11_book 16 = .ok (.ifCond .lt 12, 3) := by decide +kernel
theorem dX11_book_19 : decode cX11_book 19 = .ok (.iload_n 2, 1) := by decide +kernel
theorem dX11_book_20 : decode cX11_book 20 = .ok (.iconst 4, 1) := by decide +kernel
theorem dX11_book_21 : decode cX11_book 21 = .ok (.if_icmp .ge 7, 3) := by decide +kernel
theorem dX11_book_24 : decode cX11_book 24 = .ok (.iconst 1, 1) := by decide +kernel
theorem dX11_book_25 : decode cX11_book 25 = .ok (.goto 4, 3) := by decide +kernel
theorem dX11_book_28 : decode cX11_book 28 = .ok (.iconst 0, 1) := by decide +kernel
theorem dX11_book_29 : decode cX11_book 29 = .ok (.istore_n 3, 1) := by decide +kernel
theorem dX11_book_30 : decode cX11_book 30 = .ok (.iload_n 3, 1) := by decide +kernel
theorem dX11_book_31 : decode cX11_book 31 = .ok (.ifCond .eq 15, 3) := by decide +kernel
theorem dX11_book_34 : decode cX11_book 34 = .ok (.aload_n 0, 1) := by decide +kernel
theorem dX11_book_35 : decode cX11_book 35 = .ok (.getfield 26, 3) := by decide +kernel
theorem dX11_book_38 : decode cX11_book 38 = .ok (.iload_n 1, 1) := by decide +kernel
theorem dX11_book_39 : decode cX11_book 39 = .ok (.iload_n 2, 1) := by decide +kernel
theorem dX11_book_40 : decode cX11_book 40 = .ok (.invokevirtual 213, 3) := by decide +kernel
theorem dX11_book_43 : decode cX11_book 43 = .ok (.goto 5, 3) := by decide +kernel
theorem dX11_book_46 : decode cX11_book 46 = .ok (.bipush (-2), 2) := by decide +kernel
theorem dX11_book_48 : decode cX11_book 48 = .ok (.ireturn, 1) := by decide +kernel
theorem dX11_copy_0 : decode cX11_copy 0 = .ok (.aload_n 0, 1) := by decide +kernel
theorem dX11_copy_1 : decode cX11_copy 1 = .ok (.iconst 0, 1) := by decide +kernel
theorem dX11_copy_2 : decode cX11_copy 2 = .ok (.aload_n 1, 1) := by decide +kernel
theorem dX11_copy_3 : decode cX11_copy 3 = .ok (.iconst 0, 1) := by decide +kernel
theorem dX11_copy_4 : decode cX11_copy 4 = .ok (.aload_n 0, 1) := by decide +kernel
theorem dX11_copy_5 : decode cX11_copy 5 = .ok (.arraylength, 1) := by decide +kernel
theorem dX11_copy_6 : decode cX11_copy 6 = .ok (.aload_n 1, 1) := by decide +kernel
theorem dX11_copy_7 : decode cX11_copy 7 = .ok (.arraylength, 1) := by decide +kernel
theorem dX11_copy_8 : decode cX11_copy 8 = .ok (.invokestatic 147, 3) := by decide +kernel
theorem dX11_copy_11 : decode cX11_copy 11 = .ok (.invokestatic 310, 3) := by decide +kernel
theorem dX11_copy_14 : decode cX11_copy 14 = .ok (.return_, 1) := by decide +kernel
theorem dX11_country_0 : decode cX11_country 0 = .ok (.iload_n 1, 1) := by decide +kernel
theorem dX11_country_1 : decode cX11_country 1 = .ok (.invokestatic 91, 3) := by decide +kernel
theorem dX11_country_4 : decode cX11_country 4 = .ok (.ifCond .ne 5, 3) := by decide +kernel
theorem dX11_country_7 : decode cX11_country 7 = .ok (.iconst (-1), 1) := by decide +kernel
theorem dX11_country_8 : decode cX11_country 8 = .ok (.ireturn, 1) := by decide +kernel
theorem dX11_country_9 : decode cX11_country 9 = .ok (.iload_n 2, 1) := by decide +kernel
theorem dX11_country_10 : decode cX11_country 10 = .ok (.tableswitch 105 0 4 #[34, 43, 52, 68, 78], 34) := by decide +kernel
theorem dX11_country_44 : decode cX11_country 44 = .ok (.aload_n 0, 1) := by decide +kernel
theorem dX11_country_45 : decode cX11_country 45 = .ok (.getfield 35, 3) := by decide +kernel
theorem dX11_country_48 : decode cX11_country 48 = .ok (.iload_n 1, 1) := by decide +kernel
theorem dX11_country_49 : decode cX11_country 49 = .ok (.invokevirtual 188, 3) := by decide +kernel
theorem dX11_country_52 : decode cX11_country 52 = .ok (.ireturn, 1) := by decide +kernel
theorem dX11_country_53 : decode cX11_country 53 = .ok (.aload_n 0, 1) := by decide +kernel
theorem dX11_country_54 : decode cX11_country 54 = .ok (.getfield 35, 3) := by decide +kernel
theorem dX11_country_57 : decode cX11_country 57 = .ok (.iload_n 1, 1) := by decide +kernel
theorem dX11_country_58 : decode cX11_country 58 = .ok (.invokevirtual 192, 3) := by decide +kernel
theorem dX11_country_61 : decode cX11_country 61 = .ok (.ireturn, 1) := by decide +kernel
theorem dX11_country_62 : decode cX11_country 62 = .ok (.aload_n 0, 1) := by decide +kernel
theorem dX11_country_63 : decode cX11_country 63 = .ok (.getfield 10, 3) := by decide +kernel
theorem dX11_country_66 : decode cX11_country 66 = .ok (.aload_n 0, 1) := by decide +kernel
theorem dX11_country_67 : decode cX11_country 67 = .ok (.getfield 35, 3) := by decide +kernel
theorem dX11_country_70 : decode cX11_country 70 = .ok (.iload_n 1, 1) := by decide +kernel
theorem dX11_country_71 : decode cX11_country 71 = .ok (.invokevirtual 192, 3) := by decide +kernel
theorem dX11_country_74 : decode cX11_country 74 = .ok (.invokevirtual 195, 3) := by decide +kernel
theorem dX11_country_77 : decode cX11_country 77 = .ok (.ireturn, 1) := by decide +kernel
theorem dX11_country_78 : decode cX11_country 78 = .ok (.aload_n 0, 1) := by decide +kernel
theorem dX11_country_79 : decode cX11_country 79 = .ok (.getfield 10, 3) := by decide +kernel
theorem dX11_country_82 : decode cX11_country 82 = .ok (.getfield 198, 3) := by decide +kernel
theorem dX11_country_85 : decode cX11_country 85 = .ok (.iload_n 1, 1) := by decide +kernel
theorem dX11_country_86 : decode cX11_country 86 = .ok (.iaload, 1) := by decide +kernel
theorem dX11_country_87 : decode cX11_country 87 = .ok (.ireturn, 1) := by decide +kernel
theorem dX11_country_88 : decode cX11_country 88 = .ok (.aload_n 0, 1) := by decide +kernel
theorem dX11_country_89 : decode cX11_country 89 = .ok (.getfield 10, 3) := by decide +kernel
theorem dX11_country_92 : decode cX11_country 92 = .ok (.getfield 201, 3) := by decide +kernel
theorem dX11_country_95 : decode cX11_country 95 = .ok (.aload_n 0, 1) := by decide +kernel
theorem dX11_country_96 : decode cX11_country 96 = .ok (.getfield 19, 3) := by decide +kernel
theorem dX11_country_99 : decode cX11_country 99 = .ok (.getfield 153, 3) := by decide +kernel
theorem dX11_country_102 : decode cX11_country 102 = .ok (.iload_n 1, 1) := by decide +kernel
theorem dX11_country_103 : decode cX11_country 103 = .ok (.invokevirtual 205, 3) := by decide +kernel
theorem dX11_country_106 : decode cX11_country 106 = .ok (.ifCond .eq 7, 3) := by decide +kernel
theorem dX11_country_109 : decode cX11_country 109 = .ok (.iconst 1, 1) := by decide +kernel
theorem dX11_country_110 : decode cX11_country 110 = .ok (.goto 4, 3) := by decide +kernel
theorem dX11_country_113 : decode cX11_country 113 = .ok (.iconst 0, 1) := by decide +kernel
theorem dX11_country_114 : decode cX11_country 114 = .ok (.ireturn, 1) := by decide +kernel
theorem dX11_country_115 : decode cX11_country 115 = .ok (.iconst (-1), 1) := by decide +kernel
theorem dX11_country_116 : decode cX11_country 116 = .ok (.ireturn, 1) := by decide +kernel
theorem dX11_days_0 : decode cX11_days 0 = .ok (.iload_n 1, 1) := by decide +kernel
theorem dX11_days_1 : decode cX11_days 1 = .ok (.iconst 1, 1) := by decide +kernel
theorem dX11_days_2 : decode cX11_days 2 = .ok (.if_icmp .lt 24, 3) := by decide +kernel
theorem dX11_days_5 : decode cX11_days 5 = .ok (.iload_n 1, 1) := by decide +kernel
theorem dX11_days_6 : decode cX11_days 6 = .ok (.bipush 60, 2) := by decide +kernel
theorem dX11_days_8 : decode cX11_days 8 = .ok (.if_icmp .gt 18, 3) := by decide +kernel
theorem dX11_days_11 : decode cX11_days 11 = .ok (.aload_n 0, 1) := by decide +kernel
theorem dX11_days_12 : decode cX11_days 12 = .ok (.getfield 19, 3) := by decide +kernel
theorem dX11_days_15 : decode cX11_days 15 = .ok (.getfield 153, 3) := by decide +kernel
theorem dX11_days_18 : decode cX11_days 18 = .ok (.iload_n 1, 1) := by decide +kernel
theorem dX11_days_19 : decode cX11_days 19 = .ok (.iadd, 1) := by decide +kernel
theorem dX11_days_20 : decode cX11_days 20 = .ok (.sipush 9999, 3) := by decide +kernel
theorem dX11_days_23 : decode cX11_days 23 = .ok (.if_icmp .le 5, 3) := by decide +kernel
theorem dX11_days_26 : decode cX11_days 26 = .ok (.iconst (-1), 1) := by decide +kernel
theorem dX11_days_27 : decode cX11_days 27 = .ok (.ireturn, 1) := by decide +kernel
theorem dX11_days_28 : decode cX11_days 28 = .ok (.iconst 0, 1) := by decide +kernel
theorem dX11_days_29 : decode cX11_days 29 = .ok (.istore_n 2, 1) := by decide +kernel
theorem dX11_days_30 : decode cX11_days 30 = .ok (.iconst 0, 1) := by decide +kernel
theorem dX11_days_31 : decode cX11_days 31 = .ok (.istore_n 3, 1) := by decide +kernel
theorem dX11_days_32 : decode cX11_days 32 = .ok (.iload_n 3, 1) := by decide +kernel
theorem dX11_days_33 : decode cX11_days 33 = .ok (.iload_n 1, 1) := by decide +kernel
theorem dX11_days_34 : decode cX11_days 34 = .ok (.if_icmp .ge 37, 3) := by decide +kernel
theorem dX11_days_37 : decode cX11_days 37 = .ok (.aload_n 0, 1) := by decide +kernel
theorem dX11_days_38 : decode cX11_days 38 = .ok (.getfield 49, 3) := by decide +kernel
theorem dX11_days_41 : decode cX11_days 41 = .ok (.aload_n 0, 1) := by decide +kernel
theorem dX11_days_42 : decode cX11_days 42 = .ok (.getfield 19, 3) := by decide +kernel
theorem dX11_days_45 : decode cX11_days 45 = .ok (.invokevirtual 135, 3) := by decide +kernel
theorem dX11_days_48 : decode cX11_days 48 = .ok (.iload_n 2, 1) := by decide +kernel
theorem dX11_days_49 : decode cX11_days 49 = .ok (.aload_n 0, 1) := by decide +kernel
theorem dX11_days_50 : decode cX11_days 50 = .ok (.getfield 19, 3) := by decide +kernel
theorem dX11_days_53 : decode cX11_days 53 = .ok (.getfield 156, 3) := by decide +kernel
theorem dX11_days_56 : decode cX11_days 56 = .ok (.iadd, 1) := by decide +kernel
theorem dX11_days_57 : decode cX11_days 57 = .ok (.istore_n 2, 1) := by decide +kernel
theorem dX11_days_58 : decode cX11_days 58 = .ok (.aload_n 0, 1) := by decide +kernel
theorem dX11_days_59 : decode cX11_days 59 = .ok (.getfield 35, 3) := by decide +kernel
theorem dX11_days_62 : decode cX11_days 62 = .ok (.invokevirtual 159, 3) := by decide +kernel
theorem dX11_days_65 : decode cX11_days 65 = .ok (.iinc 3 1, 3) := by decide +kernel
theorem dX11_days_68 : decode cX11_days 68 = .ok (.goto (-36), 3) := by decide +kernel
theorem dX11_days_71 : decode cX11_days 71 = .ok (.iload_n 2, 1) := by decide +kernel
theorem dX11_days_72 : decode cX11_days 72 = .ok (.ireturn, 1) := by decide +kernel
theorem dX11_end_0 : decode cX11_end 0 = .ok (.iload_n 1, 1) := by decide +kernel
theorem dX11_end_1 : decode cX11_end 1 = .ok (.ifCond .lt 14, 3) := by decide +kernel
theorem dX11_end_4 : decode cX11_end 4 = .ok (.iload_n 1, 1) := by decide +kernel
theorem dX11_end_5 : decode cX11_end 5 = .ok (.aload_n 0, 1) := by decide +kernel
theorem dX11_end_6 : decode cX11_end 6 = .ok (.getfield 42, 3) := by decide +kernel
theorem dX11_end_9 : decode cX11_end 9 = .ok (.getfield 169, 3) := by decide +kernel
theorem dX11_end_12 : decode cX11_end 12 = .ok (.if_icmp .le 5, 3) := by decide +kernel
theorem dX11_end_15 : decode cX11_end 15 = .ok (.iconst 0, 1) := by decide +kernel
theorem dX11_end_16 : decode cX11_end 16 = .ok (.ireturn, 1) := by decide +kernel
theorem dX11_end_17 : decode cX11_end 17 = .ok (.aload_n 0, 1) := by decide +kernel
theorem dX11_end_18 : decode cX11_end 18 = .ok (.getfield 42, 3) := by decide +kernel
theorem dX11_end_21 : decode cX11_end 21 = .ok (.iload_n 1, 1) := by decide +kernel
theorem dX11_end_22 : decode cX11_end 22 = .ok (.putfield 169, 3) := by decide +kernel
theorem dX11_end_25 : decode cX11_end 25 = .ok (.iconst 1, 1) := by decide +kernel
theorem dX11_end_26 : decode cX11_end 26 = .ok (.ireturn, 1) := by decide +kernel
theorem dX11_endOf_0 : decode cX11_endOf 0 = .ok (.iload_n 0, 1) := by decide +kernel
theorem dX11_endOf_1 : decode cX11_endOf 1 = .ok (.ifCond .ne 7, 3) := by decide +kernel
theorem dX11_endOf_4 : decode cX11_endOf 4 = .ok (.iconst 0, 1) := by decide +kernel
theorem dX11_endOf_5 : decode cX11_endOf 5 = .ok (.goto 5, 3) := by decide +kernel
theorem dX11_endOf_8 : decode cX11_endOf 8 = .ok (.bipush 15, 2) := by decide +kernel
theorem dX11_endOf_10 : decode cX11_endOf 10 = .ok (.ireturn, 1) := by decide +kernel
theorem dX11_fault_0 : decode cX11_fault 0 = .ok (.iload_n 1, 1) := by decide +kernel
theorem dX11_fault_1 : decode cX11_fault 1 = .ok (.lookupswitch 43 #[(0, 27), (1, 35)], 27) := by decide +kernel
theorem dX11_fault_28 : decode cX11_fault 28 = .ok (.aload_n 0, 1) := by decide +kernel
theorem dX11_fault_29 : decode cX11_fault 29 = .ok (.getfield 42, 3) := by decide +kernel
theorem dX11_fault_32 : decode cX11_fault 32 = .ok (.getfield 176, 3) := by decide +kernel
theorem dX11_fault_35 : decode cX11_fault 35 = .ok (.ireturn, 1) := by decide +kernel
theorem dX11_fault_36 : decode cX11_fault 36 = .ok (.aload_n 0, 1) := by decide +kernel
theorem dX11_fault_37 : decode cX11_fault 37 = .ok (.getfield 42, 3) := by decide +kernel
theorem dX11_fault_40 : decode cX11_fault 40 = .ok (.getfield 179, 3) := by decide +kernel
theorem dX11_fault_43 : decode cX11_fault 43 = .ok (.ireturn, 1) := by decide +kernel
theorem dX11_fault_44 : decode cX11_fault 44 = .ok (.iconst (-1), 1) := by decide +kernel
theorem dX11_fault_45 : decode cX11_fault 45 = .ok (.ireturn, 1) := by decide +kernel
theorem dX11_feed_0 : decode cX11_feed 0 = .ok (.aload_n 0, 1) := by decide +kernel
theorem dX11_feed_1 : decode cX11_feed 1 = .ok (.getfield 42, 3) := by decide +kernel
theorem dX11_feed_4 : decode cX11_feed 4 = .ok (.invokevirtual 162, 3) := by decide +kernel
theorem dX11_feed_7 : decode cX11_feed 7 = .ok (.ifCond .ne 5, 3) := by decide +kernel
theorem dX11_feed_10 : decode cX11_feed 10 = .ok (.iconst (-1), 1) := by decide +kernel
theorem dX11_feed_11 : decode cX11_feed 11 = .ok (.ireturn, 1) := by decide +kernel
theorem dX11_feed_12 : decode cX11_feed 12 = .ok (.aload_n 0, 1) := by decide +kernel
theorem dX11_feed_13 : decode cX11_feed 13 = .ok (.getfield 42, 3) := by decide +kernel
theorem dX11_feed_16 : decode cX11_feed 16 = .ok (.iload_n 1, 1) := by decide +kernel
theorem dX11_feed_17 : decode cX11_feed 17 = .ok (.invokevirtual 166, 3) := by decide +kernel
theorem dX11_feed_20 : decode cX11_feed 20 = .ok (.aload_n 0, 1) := by decide +kernel
theorem dX11_feed_21 : decode cX11_feed 21 = .ok (.getfield 42, 3) := by decide +kernel
theorem dX11_feed_24 : decode cX11_feed 24 = .ok (.iload_n 2, 1) := by decide +kernel
theorem dX11_feed_25 : decode cX11_feed 25 = .ok (.invokevirtual 166, 3) := by decide +kernel
theorem dX11_feed_28 : decode cX11_feed 28 = .ok (.aload_n 0, 1) := by decide +kernel
theorem dX11_feed_29 : decode cX11_feed 29 = .ok (.getfield 42, 3) := by decide +kernel
theorem dX11_feed_32 : decode cX11_feed 32 = .ok (.iload_n 3, 1) := by decide +kernel
theorem dX11_feed_33 : decode cX11_feed 33 = .ok (.invokevirtual 166, 3) := by decide +kernel
theorem dX11_feed_36 : decode cX11_feed 36 = .ok (.aload_n 0, 1) := by decide +kernel
theorem dX11_feed_37 : decode cX11_feed 37 = .ok (.getfield 42, 3) := by decide +kernel
theorem dX11_feed_40 : decode cX11_feed 40 = .ok (.iload 4, 2) := by decide +kernel
theorem dX11_feed_42 : decode cX11_feed 42 = .ok (.invokevirtual 166, 3) := by decide +kernel
theorem dX11_feed_45 : decode cX11_feed 45 = .ok (.aload_n 0, 1) := by decide +kernel
theorem dX11_feed_46 : decode cX11_feed 46 = .ok (.getfield 42, 3) := by decide +kernel
theorem dX11_feed_49 : decode cX11_feed 49 = .ok (.iload 5, 2) := by decide +kernel
theorem dX11_feed_51 : decode cX11_feed 51 = .ok (.invokevirtual 166, 3) := by decide +kernel
theorem dX11_feed_54 : decode cX11_feed 54 = .ok (.aload_n 0, 1) := by decide +kernel
theorem dX11_feed_55 : decode cX11_feed 55 = .ok (.getfield 42, 3) := by decide +kernel
theorem dX11_feed_58 : decode cX11_feed 58 = .ok (.getfield 169, 3) := by decide +kernel
theorem dX11_feed_61 : decode cX11_feed 61 = .ok (.ireturn, 1) := by decide +kernel
theorem dX11_forgets_0 : decode cX11_forgets 0 = .ok (.aload_n 0, 1) := by decide +kernel
theorem dX11_forgets_1 : decode cX11_forgets 1 = .ok (.getfield 10, 3) := by decide +kernel
theorem dX11_forgets_4 : decode cX11_forgets 4 = .ok (.iload_n 1, 1) := by decide +kernel
theorem dX11_forgets_5 : decode cX11_forgets 5 = .ok (.invokevirtual 119, 3) := by decide +kernel
theorem dX11_forgets_8 : decode cX11_forgets 8 = .ok (.ifCond .eq 25, 3) := by decide +kernel
theorem dX11_forgets_11 : decode cX11_forgets 11 = .ok (.iload_n 2, 1) := by decide +kernel
theorem dX11_forgets_12 : decode cX11_forgets 12 = .ok (.ifCond .lt 21, 3) := by decide +kernel
theorem dX11_forgets_15 : decode cX11_forgets 15 = .ok (.iload_n 2, 1) := by decide +kernel
theorem dX11_forgets_16 : decode cX11_forgets 16 = .ok (.bipush 60, 2) := by decide +kernel
theorem dX11_forgets_18 : decode cX11_forgets 18 = .ok (.if_icmp .gt 15, 3) := by decide +kernel
theorem dX11_forgets_21 : decode cX11_forgets 21 = .ok (.aload_n 0, 1) := by decide +kernel
theorem dX11_forgets_22 : decode cX11_forgets 22 = .ok (.getfield 67, 3) := by decide +kernel
theorem dX11_forgets_25 : decode cX11_forgets 25 = .ok (.iload_n 1, 1) := by decide +kernel
theorem dX11_forgets_26 : decode cX11_forgets 26 = .ok (.iload_n 2, 1) := by decide +kernel
theorem dX11_forgets_27 : decode cX11_forgets 27 = .ok (.invokevirtual 258, 3) := by decide +kernel
theorem dX11_forgets_30 : decode cX11_forgets 30 = .ok (.goto 4, 3) := by decide +kernel
theorem dX11_forgets_33 : decode cX11_forgets 33 = .ok (.iconst (-1), 1) := by decide +kernel
theorem dX11_forgets_34 : decode cX11_forgets 34 = .ok (.ireturn, 1) := by decide +kernel
theorem dX11_from_0 : decode cX11_from 0 = .ok (.iload_n 1, 1) := by decide +kernel
theorem dX11_from_1 : decode cX11_from 1 = .ok (.ifCond .lt 8, 3) := by decide +kernel
theorem dX11_from_4 : decode cX11_from 4 = .ok (.iload_n 1, 1) := by decide +kernel
theorem dX11_from_5 : decode cX11_from 5 = .ok (.iconst 1, 1) := by decide +kernel
theorem dX11_from_6 : decode cX11_from 6 = .ok (.if_icmp .le 5, 3) := by decide +kernel
theorem dX11_from_9 : decode cX11_from 9 = .ok (.iconst (-1), 1) := by decide +kernel
theorem dX11_from_10 : decode cX11_from 10 = .ok (.ireturn, 1) := by decide +kernel
theorem dX11_from_11 : decode cX11_from 11 = .ok (.aload_n 0, 1) := by decide +kernel
theorem dX11_from_12 : decode cX11_from 12 = .ok (.getfield 58, 3) := by decide +kernel
theorem dX11_from_15 : decode cX11_from 15 = .ok (.invokevirtual 225, 3) := by decide +kernel
theorem dX11_from_18 : decode cX11_from 18 = .ok (.aload_n 0, 1) := by decide +kernel
theorem dX11_from_19 : decode cX11_from 19 = .ok (.getfield 58, 3) := by decide +kernel
theorem dX11_from_22 : decode cX11_from 22 = .ok (.iload_n 1, 1) := by decide +kernel
theorem dX11_from_23 : decode cX11_from 23 = .ok (.invokevirtual 222, 3) := by decide +kernel
theorem dX11_from_26 : decode cX11_from 26 = .ok (.ireturn, 1) := by decide +kernel
theorem dX11_hears_0 : decode cX11_hears 0 = .ok (.iload_n 1, 1) := by decide +kernel
theorem dX11_hears_1 : decode cX11_hears 1 = .ok (.invokestatic 128, 3) := by decide +kernel
theorem dX11_hears_4 : decode cX11_hears 4 = .ok (.ifCond .eq 14, 3) := by decide +kernel
theorem dX11_hears_7 : decode cX11_hears 7 = .ok (.aload_n 0, 1) := by decide +kernel
theorem dX11_hears_8 : decode cX11_hears 8 = .ok (.getfield 67, 3) := by decide +kernel
theorem dX11_hears_11 : decode cX11_hears 11 = .ok (.iload_n 1, 1) := by decide +kernel
theorem dX11_hears_12 : decode cX11_hears 12 = .ok (.invokevirtual 228, 3) := by decide +kernel
theorem dX11_hears_15 : decode cX11_hears 15 = .ok (.goto 4, 3) := by decide +kernel
theorem dX11_hears_18 : decode cX11_hears 18 = .ok (.iconst (-1), 1) := by decide +kernel
theorem dX11_hears_19 : decode cX11_hears 19 = .ok (.ireturn, 1) := by decide +kernel
theorem dX11_holds_0 : decode cX11_holds 0 = .ok (.iload_n 0, 1) := by decide +kernel
theorem dX11_holds_1 : decode cX11_holds 1 = .ok (.iload_n 1, 1) := by decide +kernel
theorem dX11_holds_2 : decode cX11_holds 2 = .ok (.ishr, 1) := by decide +kernel
theorem dX11_holds_3 : decode cX11_holds 3 = .ok (.iconst 1, 1) := by decide +kernel
theorem dX11_holds_4 : decode cX11_holds 4 = .ok (.iand, 1) := by decide +kernel
theorem dX11_holds_5 : decode cX11_holds 5 = .ok (.iconst 1, 1) := by decide +kernel
theorem dX11_holds_6 : decode cX11_holds 6 = .ok (.if_icmp .ne 7, 3) := by decide +kernel
theorem dX11_holds_9 : decode cX11_holds 9 = .ok (.iconst 1, 1) := by decide +kernel
theorem dX11_holds_10 : decode cX11_holds 10 = .ok (.goto 4, 3) := by decide +kernel
theorem dX11_holds_13 : decode cX11_holds 13 = .ok (.iconst 0, 1) := by decide +kernel
theorem dX11_holds_14 : decode cX11_holds 14 = .ok (.ireturn, 1) := by decide +kernel
theorem dX11_image_0 : decode cX11_image 0 = .ok (.iload_n 1, 1) := by decide +kernel
theorem dX11_image_1 : decode cX11_image 1 = .ok (.ifCond .eq 44, 3) := by decide +kernel
theorem dX11_image_4 : decode cX11_image 4 = .ok (.aload_n 0, 1) := by decide +kernel
theorem dX11_image_5 : decode cX11_image 5 = .ok (.getfield 71, 3) := by decide +kernel
theorem dX11_image_8 : decode cX11_image 8 = .ok (.aload_n 0, 1) := by decide +kernel
theorem dX11_image_9 : decode cX11_image 9 = .ok (.getfield 10, 3) := by decide +kernel
theorem dX11_image_12 : decode cX11_image 12 = .ok (.invokevirtual 271, 3) := by decide +kernel
theorem dX11_image_15 : decode cX11_image 15 = .ok (.aload_n 0, 1) := by decide +kernel
theorem dX11_image_16 : decode cX11_image 16 = .ok (.getfield 74, 3) := by decide +kernel
theorem dX11_image_19 : decode cX11_image 19 = .ok (.aload_n 0, 1) := by decide +kernel
theorem dX11_image_20 : decode cX11_image 20 = .ok (.getfield 19, 3) := by decide +kernel
theorem dX11_image_23 : decode cX11_image 23 = .ok (.invokevirtual 275, 3) := by decide +kernel
theorem dX11_image_26 : decode cX11_image 26 = .ok (.aload_n 0, 1) := by decide +kernel
theorem dX11_image_27 : decode cX11_image 27 = .ok (.getfield 77, 3) := by decide +kernel
theorem dX11_image_30 : decode cX11_image 30 = .ok (.aload_n 0, 1) := by decide +kernel
theorem dX11_image_31 : decode cX11_image 31 = .ok (.getfield 26, 3) := by decide +kernel
theorem dX11_image_34 : decode cX11_image 34 = .ok (.invokevirtual 277, 3) := by decide +kernel
theorem dX11_image_37 : decode cX11_image 37 = .ok (.aload_n 0, 1) := by decide +kernel
theorem dX11_image_38 : decode cX11_image 38 = .ok (.iconst 1, 1) := by decide +kernel
theorem dX11_image_39 : decode cX11_image 39 = .ok (.putfield 80, 3) := by decide +kernel
theorem dX11_image_42 : decode cX11_image 42 = .ok (.goto 50, 3) := by decide +kernel
theorem dX11_image_45 : decode cX11_image 45 = .ok (.aload_n 0, 1) := by decide +kernel
theorem dX11_image_46 : decode cX11_image 46 = .ok (.getfield 80, 3) := by decide +kernel
theorem dX11_image_49 : decode cX11_image 49 = .ok (.ifCond .eq 43, 3) := by decide +kernel
theorem dX11_image_52 : decode cX11_image 52 = .ok (.aload_n 0, 1) := by decide +kernel
theorem dX11_image_53 : decode cX11_image 53 = .ok (.getfield 10, 3) := by decide +kernel
theorem dX11_image_56 : decode cX11_image 56 = .ok (.aload_n 0, 1) := by decide +kernel
theorem dX11_image_57 : decode cX11_image 57 = .ok (.getfield 71, 3) := by decide +kernel
theorem dX11_image_60 : decode cX11_image 60 = .ok (.invokevirtual 271, 3) := by decide +kernel
theorem dX11_image_63 : decode cX11_image 63 = .ok (.aload_n 0, 1) := by decide +kernel
theorem dX11_image_64 : decode cX11_image 64 = .ok (.getfield 19, 3) := by decide +kernel
theorem dX11_image_67 : decode cX11_image 67 = .ok (.aload_n 0, 1) := by decide +kernel
theorem dX11_image_68 : decode cX11_image 68 = .ok (.getfield 74, 3) := by decide +kernel
theorem dX11_image_71 : decode cX11_image 71 = .ok (.invokevirtual 275, 3) := by decide +kernel
theorem dX11_image_74 : decode cX11_image 74 = .ok (.aload_n 0, 1) := by decide +kernel
theorem dX11_image_75 : decode cX11_image 75 = .ok (.getfield 26, 3) := by decide +kernel
theorem dX11_image_78 : decode cX11_image 78 = .ok (.aload_n 0, 1) := by decide +kernel
theorem dX11_image_79 : decode cX11_image 79 = .ok (.getfield 77, 3) := by decide +kernel
theorem dX11_image_82 : decode cX11_image 82 = .ok (.invokevirtual 277, 3) := by decide +kernel
theorem dX11_image_85 : decode cX11_image 85 = .ok (.aload_n 0, 1) := by decide +kernel
theorem dX11_image_86 : decode cX11_image 86 = .ok (.getfield 49, 3) := by decide +kernel
theorem dX11_image_89 : decode cX11_image 89 = .ok (.invokevirtual 88, 3) := by decide +kernel
theorem dX11_image_92 : decode cX11_image 92 = .ok (.aload_n 0, 1) := by decide +kernel
theorem dX11_image_93 : decode cX11_image 93 = .ok (.getfield 80, 3) := by decide +kernel
theorem dX11_image_96 : decode cX11_image 96 = .ok (.ireturn, 1) := by decide +kernel
theorem dX11_init_0 : decode cX11_init 0 = .ok (.aload_n 0, 1) := by decide +kernel
theorem dX11_init_1 : decode cX11_init 1 = .ok (.invokespecial 1, 3) := by decide +kernel
theorem dX11_init_4 : decode cX11_init 4 = .ok (.aload_n 0, 1) := by decide +kernel
theorem dX11_init_5 : decode cX11_init 5 = .ok (.new 7, 3) := by decide +kernel
theorem dX11_init_8 : decode cX11_init 8 = .ok (.dup, 1) := by decide +kernel
theorem dX11_init_9 : decode cX11_init 9 = .ok (.invokespecial 9, 3) := by decide +kernel
theorem dX11_init_12 : decode cX11_init 12 = .ok (.putfield 10, 3) := by decide +kernel
theorem dX11_init_15 : decode cX11_init 15 = .ok (.aload_n 0, 1) := by decide +kernel
theorem dX11_init_16 : decode cX11_init 16 = .ok (.new 16, 3) := by decide +kernel
theorem dX11_init_19 : decode cX11_init 19 = .ok (.dup, 1) := by decide +kernel
theorem dX11_init_20 : decode cX11_init 20 = .ok (.invokespecial 18, 3) := by decide +kernel
theorem dX11_init_23 : decode cX11_init 23 = .ok (.putfield 19, 3) := by decide +kernel
theorem dX11_init_26 : decode cX11_init 26 = .ok (.aload_n 0, 1) := by decide +kernel
theorem dX11_init_27 : decode cX11_init 27 = .ok (.new 23, 3) := by decide +kernel
theorem dX11_init_30 : decode cX11_init 30 = .ok (.dup, 1) := by decide +kernel
theorem dX11_init_31 : decode cX11_init 31 = .ok (.invokespecial 25, 3) := by decide +kernel
theorem dX11_init_34 : decode cX11_init 34 = .ok (.putfield 26, 3) := by decide +kernel
theorem dX11_init_37 : decode cX11_init 37 = .ok (.aload_n 0, 1) := by decide +kernel
theorem dX11_init_38 : decode cX11_init 38 = .ok (.new 30, 3) := by decide +kernel
theorem dX11_init_41 : decode cX11_init 41 = .ok (.dup, 1) := by decide +kernel
theorem dX11_init_42 : decode cX11_init 42 = .ok (.aload_n 0, 1) := by decide +kernel
theorem dX11_init_43 : decode cX11_init 43 = .ok (.getfield 10, 3) := by decide +kernel
theorem dX11_init_46 : decode cX11_init 46 = .ok (.aload_n 0, 1) := by decide +kernel
theorem dX11_init_47 : decode cX11_init 47 = .ok (.getfield 19, 3) := by decide +kernel
theorem dX11_init_50 : decode cX11_init 50 = .ok (.aload_n 0, 1) := by decide +kernel
theorem dX11_init_51 : decode cX11_init 51 = .ok (.getfield 26, 3) := by decide +kernel
theorem dX11_init_54 : decode cX11_init 54 = .ok (.iconst 1, 1) := by decide +kernel
theorem dX11_init_55 : decode cX11_init 55 = .ok (.invokespecial 32, 3) := by decide +kernel
theorem dX11_init_58 : decode cX11_init 58 = .ok (.putfield 35, 3) := by decide +kernel
theorem dX11_init_61 : decode cX11_init 61 = .ok (.aload_n 0, 1) := by decide +kernel
theorem dX11_init_62 : decode cX11_init 62 = .ok (.new 39, 3) := by decide +kernel
theorem dX11_init_65 : decode cX11_init 65 = .ok (.dup, 1) := by decide +kernel
theorem dX11_init_66 : decode cX11_init 66 = .ok (.invokespecial 41, 3) := by decide +kernel
theorem dX11_init_69 : decode cX11_init 69 = .ok (.putfield 42, 3) := by decide +kernel
theorem dX11_init_72 : decode cX11_init 72 = .ok (.aload_n 0, 1) := by decide +kernel
theorem dX11_init_73 : decode cX11_init 73 = .ok (.new 46, 3) := by decide +kernel
theorem dX11_init_76 : decode cX11_init 76 = .ok (.dup, 1) := by decide +kernel
theorem dX11_init_77 : decode cX11_init 77 = .ok (.invokespecial 48, 3) := by decide +kernel
theorem dX11_init_80 : decode cX11_init 80 = .ok (.putfield 49, 3) := by decide +kernel
theorem dX11_init_83 : decode cX11_init 83 = .ok (.aload_n 0, 1) := by decide +kernel
theorem dX11_init_84 : decode cX11_init 84 = .ok (.new 53, 3) := by decide +kernel
theorem dX11_init_87 : decode cX11_init 87 = .ok (.dup, 1) := by decide +kernel
theorem dX11_init_88 : decode cX11_init 88 = .ok (.aload_n 0, 1) := by decide +kernel
theorem dX11_init_89 : decode cX11_init 89 = .ok (.getfield 10, 3) := by decide +kernel
theorem dX11_init_92 : decode cX11_init 92 = .ok (.aload_n 0, 1) := by decide +kernel
theorem dX11_init_93 : decode cX11_init 93 = .ok (.getfield 19, 3) := by decide +kernel
theorem dX11_init_96 : decode cX11_init 96 = .ok (.aload_n 0, 1) := by decide +kernel
theorem dX11_init_97 : decode cX11_init 97 = .ok (.getfield 26, 3) := by decide +kernel
theorem dX11_init_100 : decode cX11_init 100 = .ok (.invokespecial 55, 3) := by decide +kernel
theorem dX11_init_103 : decode cX11_init 103 = .ok (.putfield 58, 3) := by decide +kernel
theorem dX11_init_106 : decode cX11_init 106 = .ok (.aload_n 0, 1) := by decide +kernel
theorem dX11_init_107 : decode cX11_init 107 = .ok (.new 62, 3) := by decide +kernel
theorem dX11_init_110 : decode cX11_init 110 = .ok (.dup, 1) := by decide +kernel
theorem dX11_init_111 : decode cX11_init 111 = .ok (.aload_n 0, 1) := by decide +kernel
theorem dX11_init_112 : decode cX11_init 112 = .ok (.getfield 10, 3) := by decide +kernel
theorem dX11_init_115 : decode cX11_init 115 = .ok (.aload_n 0, 1) := by decide +kernel
theorem dX11_init_116 : decode cX11_init 116 = .ok (.getfield 19, 3) := by decide +kernel
theorem dX11_init_119 : decode cX11_init 119 = .ok (.aload_n 0, 1) := by decide +kernel
theorem dX11_init_120 : decode cX11_init 120 = .ok (.getfield 35, 3) := by decide +kernel
theorem dX11_init_123 : decode cX11_init 123 = .ok (.invokespecial 64, 3) := by decide +kernel
theorem dX11_init_126 : decode cX11_init 126 = .ok (.putfield 67, 3) := by decide +kernel
theorem dX11_init_129 : decode cX11_init 129 = .ok (.aload_n 0, 1) := by decide +kernel
theorem dX11_init_130 : decode cX11_init 130 = .ok (.new 7, 3) := by decide +kernel
theorem dX11_init_133 : decode cX11_init 133 = .ok (.dup, 1) := by decide +kernel
theorem dX11_init_134 : decode cX11_init 134 = .ok (.invokespecial 9, 3) := by decide +kernel
theorem dX11_init_137 : decode cX11_init 137 = .ok (.putfield 71, 3) := by decide +kernel
theorem dX11_init_140 : decode cX11_init 140 = .ok (.aload_n 0, 1) := by decide +kernel
theorem dX11_init_141 : decode cX11_init 141 = .ok (.new 16, 3) := by decide +kernel
theorem dX11_init_144 : decode cX11_init 144 = .ok (.dup, 1) := by decide +kernel
theorem dX11_init_145 : decode cX11_init 145 = .ok (.invokespecial 18, 3) := by decide +kernel
theorem dX11_init_148 : decode cX11_init 148 = .ok (.putfield 74, 3) := by decide +kernel
theorem dX11_init_151 : decode cX11_init 151 = .ok (.aload_n 0, 1) := by decide +kernel
theorem dX11_init_152 : decode cX11_init 152 = .ok (.new 23, 3) := by decide +kernel
theorem dX11_init_155 : decode cX11_init 155 = .ok (.dup, 1) := by decide +kernel
theorem dX11_init_156 : decode cX11_init 156 = .ok (.invokespecial 25, 3) := by decide +kernel
theorem dX11_init_159 : decode cX11_init 159 = .ok (.putfield 77, 3) := by decide +kernel
theorem dX11_init_162 : decode cX11_init 162 = .ok (.aload_n 0, 1) := by decide +kernel
theorem dX11_init_163 : decode cX11_init 163 = .ok (.iconst 0, 1) := by decide +kernel
theorem dX11_init_164 : decode cX11_init 164 = .ok (.putfield 80, 3) := by decide +kernel
theorem dX11_init_167 : decode cX11_init 167 = .ok (.return_, 1) := by decide +kernel
theorem dX11_isCountry_0 : decode cX11_isCountry 0 = .ok (.iload_n 0, 1) := by decide +kernel
theorem dX11_isCountry_1 : decode cX11_isCountry 1 = .ok (.ifCond .eq 8, 3) := by decide +kernel
theorem dX11_isCountry_4 : decode cX11_isCountry 4 = .ok (.iload_n 0, 1) := by decide +kernel
theorem dX11_isCountry_5 : decode cX11_isCountry 5 = .ok (.iconst 1, 1) := by decide +kernel
theorem dX11_isCountry_6 : decode cX11_isCountry 6 = .ok (.if_icmp .ne 7, 3) := by decide +kernel
theorem dX11_isCountry_9 : decode cX11_isCountry 9 = .ok (.iconst 1, 1) := by decide +kernel
theorem dX11_isCountry_10 : decode cX11_isCountry 10 = .ok (.goto 4, 3) := by decide +kernel
theorem dX11_isCountry_13 : decode cX11_isCountry 13 = .ok (.iconst 0, 1) := by decide +kernel
theorem dX11_isCountry_14 : decode cX11_isCountry 14 = .ok (.ireturn, 1) := by decide +kernel
theorem dX11_isFact_0 : decode cX11_isFact 0 = .ok (.iload_n 0, 1) := by decide +kernel
theorem dX11_isFact_1 : decode cX11_isFact 1 = .ok (.ifCond .lt 13, 3) := by decide +kernel
theorem dX11_isFact_4 : decode cX11_isFact 4 = .ok (.iload_n 0, 1) := by decide +kernel
theorem dX11_isFact_5 : decode cX11_isFact 5 = .ok (.bipush 8, 2) := by decide +kernel
theorem dX11_isFact_7 : decode cX11_isFact 7 = .ok (.if_icmp .ge 7, 3) := by decide +kernel
theorem dX11_isFact_10 : decode cX11_isFact 10 = .ok (.iconst 1, 1) := by decide +kernel
theorem dX11_isFact_11 : decode cX11_isFact 11 = .ok (.goto 4, 3) := by decide +kernel
theorem dX11_isFact_14 : decode cX11_isFact 14 = .ok (.iconst 0, 1) := by decide +kernel
theorem dX11_isFact_15 : decode cX11_isFact 15 = .ok (.ireturn, 1) := by decide +kernel
theorem dX11_knees_0 : decode cX11_knees 0 = .ok (.iload_n 1, 1) := by decide +kernel
theorem dX11_knees_1 : decode cX11_knees 1 = .ok (.invokestatic 128, 3) := by decide +kernel
theorem dX11_knees_4 : decode cX11_knees 4 = .ok (.ifCond .eq 30, 3) := by decide +kernel
theorem dX11_knees_7 : decode cX11_knees 7 = .ok (.aload_n 0, 1) := by decide +kernel
theorem dX11_knees_8 : decode cX11_knees 8 = .ok (.getfield 10, 3) := by decide +kernel
theorem dX11_knees_11 : decode cX11_knees 11 = .ok (.iload_n 2, 1) := by decide +kernel
theorem dX11_knees_12 : decode cX11_knees 12 = .ok (.invokevirtual 119, 3) := by decide +kernel
theorem dX11_knees_15 : decode cX11_knees 15 = .ok (.ifCond .eq 19, 3) := by decide +kernel
theorem dX11_knees_18 : decode cX11_knees 18 = .ok (.aload_n 0, 1) := by decide +kernel
theorem dX11_knees_19 : decode cX11_knees 19 = .ok (.getfield 19, 3) := by decide +kernel
theorem dX11_knees_22 : decode cX11_knees 22 = .ok (.iload_n 2, 1) := by decide +kernel
theorem dX11_knees_23 : decode cX11_knees 23 = .ok (.iload_n 1, 1) := by decide +kernel
theorem dX11_knees_24 : decode cX11_knees 24 = .ok (.invokevirtual 131, 3) := by decide +kernel
theorem dX11_knees_27 : decode cX11_knees 27 = .ok (.ifCond .ne 7, 3) := by decide +kernel
theorem dX11_knees_30 : decode cX11_knees 30 = .ok (.iconst 1, 1) := by decide +kernel
theorem dX11_knees_31 : decode cX11_knees 31 = .ok (.goto 4, 3) := by decide +kernel
theorem dX11_knees_34 : decode cX11_knees 34 = .ok (.iconst 0, 1) := by decide +kernel
theorem dX11_knees_35 : decode cX11_knees 35 = .ok (.istore_n 3, 1) := by decide +kernel
theorem dX11_knees_36 : decode cX11_knees 36 = .ok (.iload_n 3, 1) := by decide +kernel
theorem dX11_knees_37 : decode cX11_knees 37 = .ok (.ifCond .eq 15, 3) := by decide +kernel
theorem dX11_knees_40 : decode cX11_knees 40 = .ok (.aload_n 0, 1) := by decide +kernel
theorem dX11_knees_41 : decode cX11_knees 41 = .ok (.getfield 67, 3) := by decide +kernel
theorem dX11_knees_44 : decode cX11_knees 44 = .ok (.iload_n 1, 1) := by decide +kernel
theorem dX11_knees_45 : decode cX11_knees 45 = .ok (.iload_n 2, 1) := by decide +kernel
theorem dX11_knees_46 : decode cX11_knees 46 = .ok (.invokevirtual 231, 3) := by decide +kernel
theorem dX11_knees_49 : decode cX11_knees 49 = .ok (.goto 4, 3) := by decide +kernel
theorem dX11_knees_52 : decode cX11_knees 52 = .ok (.iconst (-1), 1) := by decide +kernel
theorem dX11_knees_53 : decode cX11_knees 53 = .ok (.ireturn, 1) := by decide +kernel
theorem dX11_last_0 : decode cX11_last 0 = .ok (.aload_n 0, 1) := by decide +kernel
theorem dX11_last_1 : decode cX11_last 1 = .ok (.getfield 67, 3) := by decide +kernel
theorem dX11_last_4 : decode cX11_last 4 = .ok (.invokevirtual 261, 3) := by decide +kernel
theorem dX11_last_7 : decode cX11_last 7 = .ok (.ireturn, 1) := by decide +kernel
theorem dX11_lasts_0 : decode cX11_lasts 0 = .ok (.iload_n 1, 1) := by decide +kernel
theorem dX11_lasts_1 : decode cX11_lasts 1 = .ok (.ifCond .lt 8, 3) := by decide +kernel
theorem dX11_lasts_4 : decode cX11_lasts 4 = .ok (.iload_n 1, 1) := by decide +kernel
theorem dX11_lasts_5 : decode cX11_lasts 5 = .ok (.iconst 3, 1) := by decide +kernel
theorem dX11_lasts_6 : decode cX11_lasts 6 = .ok (.if_icmp .le 7, 3) := by decide +kernel
theorem dX11_lasts_9 : decode cX11_lasts 9 = .ok (.iconst (-1), 1) := by decide +kernel
theorem dX11_lasts_10 : decode cX11_lasts 10 = .ok (.goto 11, 3) := by decide +kernel
theorem dX11_lasts_13 : decode cX11_lasts 13 = .ok (.aload_n 0, 1) := by decide +kernel
theorem dX11_lasts_14 : decode cX11_lasts 14 = .ok (.getfield 58, 3) := by decide +kernel
theorem dX11_lasts_17 : decode cX11_lasts 17 = .ok (.iload_n 1, 1) := by decide +kernel
theorem dX11_lasts_18 : decode cX11_lasts 18 = .ok (.invokevirtual 216, 3) := by decide +kernel
theorem dX11_lasts_21 : decode cX11_lasts 21 = .ok (.ireturn, 1) := by decide +kernel
theorem dX11_left_0 : decode cX11_left 0 = .ok (.aload_n 0, 1) := by decide +kernel
theorem dX11_left_1 : decode cX11_left 1 = .ok (.getfield 10, 3) := by decide +kernel
theorem dX11_left_4 : decode cX11_left 4 = .ok (.invokevirtual 251, 3) := by decide +kernel
theorem dX11_left_7 : decode cX11_left 7 = .ok (.ireturn, 1) := by decide +kernel
theorem dX11_look_0 : decode cX11_look 0 = .ok (.iload_n 1, 1) := by decide +kernel
theorem dX11_look_1 : decode cX11_look 1 = .ok (.tableswitch 204 0 14 #[75, 83, 91, 99, 107, 115, 123, 131, 139, 147, 158, 166, 174, 185, 196], 75) := by decide +kernel
theorem dX11_look_76 : decode cX11_look 76 = .ok (.aload_n 0, 1) := by decide +kernel
theorem dX11_look_77 : decode cX11_look 77 = .ok (.getfield 10, 3) := by decide +kernel
theorem dX11_look_80 : decode cX11_look 80 = .ok (.getfield 95, 3) := by decide +kernel
theorem dX11_look_83 : decode cX11_look 83 = .ok (.ireturn, 1) := by decide +kernel
theorem dX11_look_84 : decode cX11_look 84 = .ok (.aload_n 0, 1) := by decide +kernel
theorem dX11_look_85 : decode cX11_look 85 = .ok (.getfield 19, 3) := by decide +kernel
theorem dX11_look_88 : decode cX11_look 88 = .ok (.getfield 153, 3) := by decide +kernel
theorem dX11_look_91 : decode cX11_look 91 = .ok (.ireturn, 1) := by decide +kernel
theorem dX11_look_92 : decode cX11_look 92 = .ok (.aload_n 0, 1) := by decide +kernel
theorem dX11_look_93 : decode cX11_look 93 = .ok (.getfield 19, 3) := by decide +kernel
theorem dX11_look_96 : decode cX11_look 96 = .ok (.getfield 156, 3) := by decide +kernel
theorem dX11_look_99 : decode cX11_look 99 = .ok (.ireturn, 1) := by decide +kernel
theorem dX11_look_100 : decode cX11_look 100 = .ok (.aload_n 0, 1) := by decide +kernel
theorem dX11_look_101 : decode cX11_look 101 = .ok (.getfield 10, 3) := by decide +kernel
theorem dX11_look_104 : decode cX11_look 104 = .ok (.getfield 280, 3) := by decide +kernel
theorem dX11_look_107 : decode cX11_look 107 = .ok (.ireturn, 1) := by decide +kernel
theorem dX11_look_108 : decode cX11_look 108 = .ok (.aload_n 0, 1) := by decide +kernel
theorem dX11_look_109 : decode cX11_look 109 = .ok (.getfield 10, 3) := by decide +kernel
theorem dX11_look_112 : decode cX11_look 112 = .ok (.getfield 283, 3) := by decide +kernel
theorem dX11_look_115 : decode cX11_look 115 = .ok (.ireturn, 1) := by decide +kernel
theorem dX11_look_116 : decode cX11_look 116 = .ok (.aload_n 0, 1) := by decide +kernel
theorem dX11_look_117 : decode cX11_look 117 = .ok (.getfield 10, 3) := by decide +kernel
theorem dX11_look_120 : decode cX11_look 120 = .ok (.getfield 286, 3) := by decide +kernel
theorem dX11_look_123 : decode cX11_look 123 = .ok (.ireturn, 1) := by decide +kernel
theorem dX11_look_124 : decode cX11_look 124 = .ok (.aload_n 0, 1) := by decide +kernel
theorem dX11_look_125 : decode cX11_look 125 = .ok (.getfield 10, 3) := by decide +kernel
theorem dX11_look_128 : decode cX11_look 128 = .ok (.getfield 289, 3) := by decide +kernel
theorem dX11_look_131 : decode cX11_look 131 = .ok (.ireturn, 1) := by decide +kernel
theorem dX11_look_132 : decode cX11_look 132 = .ok (.aload_n 0, 1) := by decide +kernel
theorem dX11_look_133 : decode cX11_look 133 = .ok (.getfield 19, 3) := by decide +kernel
theorem dX11_look_136 : decode cX11_look 136 = .ok (.getfield 210, 3) := by decide +kernel
theorem dX11_look_139 : decode cX11_look 139 = .ok (.ireturn, 1) := by decide +kernel
theorem dX11_look_140 : decode cX11_look 140 = .ok (.aload_n 0, 1) := by decide +kernel
theorem dX11_look_141 : decode cX11_look 141 = .ok (.getfield 19, 3) := by decide +kernel
theorem dX11_look_144 : decode cX11_look 144 = .ok (.getfield 84, 3) := by decide +kernel
theorem dX11_look_147 : decode cX11_look 147 = .ok (.ireturn, 1) := by decide +kernel
theorem dX11_look_148 : decode cX11_look 148 = .ok (.aload_n 0, 1) := by decide +kernel
theorem dX11_look_149 : decode cX11_look 149 = .ok (.getfield 10, 3) := by decide +kernel
theorem dX11_look_152 : decode cX11_look 152 = .ok (.getfield 292, 3) := by decide +kernel
theorem dX11_look_155 : decode cX11_look 155 = .ok (.getfield 296, 3) := by decide +kernel
theorem dX11_look_158 : decode cX11_look 158 = .ok (.ireturn, 1) := by decide +kernel
theorem dX11_look_159 : decode cX11_look 159 = .ok (.aload_n 0, 1) := by decide +kernel
theorem dX11_look_160 : decode cX11_look 160 = .ok (.getfield 10, 3) := by decide +kernel
theorem dX11_look_163 : decode cX11_look 163 = .ok (.getfield 299, 3) := by decide +kernel
theorem dX11_look_166 : decode cX11_look 166 = .ok (.ireturn, 1) := by decide +kernel
theorem dX11_look_167 : decode cX11_look 167 = .ok (.aload_n 0, 1) := by decide +kernel
theorem dX11_look_168 : decode cX11_look 168 = .ok (.getfield 10, 3) := by decide +kernel
theorem dX11_look_171 : decode cX11_look 171 = .ok (.getfield 302, 3) := by decide +kernel
theorem dX11_look_174 : decode cX11_look 174 = .ok (.ireturn, 1) := by decide +kernel
theorem dX11_look_175 : decode cX11_look 175 = .ok (.aload_n 0, 1) := by decide +kernel
theorem dX11_look_176 : decode cX11_look 176 = .ok (.getfield 10, 3) := by decide +kernel
theorem dX11_look_179 : decode cX11_look 179 = .ok (.getfield 201, 3) := by decide +kernel
theorem dX11_look_182 : decode cX11_look 182 = .ok (.getfield 305, 3) := by decide +kernel
theorem dX11_look_185 : decode cX11_look 185 = .ok (.ireturn, 1) := by decide +kernel
theorem dX11_look_186 : decode cX11_look 186 = .ok (.aload_n 0, 1) := by decide +kernel
theorem dX11_look_187 : decode cX11_look 187 = .ok (.getfield 10, 3) := by decide +kernel
theorem dX11_look_190 : decode cX11_look 190 = .ok (.getfield 241, 3) := by decide +kernel
theorem dX11_look_193 : decode cX11_look 193 = .ok (.getfield 306, 3) := by decide +kernel
theorem dX11_look_196 : decode cX11_look 196 = .ok (.ireturn, 1) := by decide +kernel
theorem dX11_look_197 : decode cX11_look 197 = .ok (.aload_n 0, 1) := by decide +kernel
theorem dX11_look_198 : decode cX11_look 198 = .ok (.getfield 49, 3) := by decide +kernel
theorem dX11_look_201 : decode cX11_look 201 = .ok (.getfield 309, 3) := by decide +kernel
theorem dX11_look_204 : decode cX11_look 204 = .ok (.ireturn, 1) := by decide +kernel
theorem dX11_look_205 : decode cX11_look 205 = .ok (.iconst (-1), 1) := by decide +kernel
theorem dX11_look_206 : decode cX11_look 206 = .ok (.ireturn, 1) := by decide +kernel
theorem dX11_man_0 : decode cX11_man 0 = .ok (.iload_n 1, 1) := by decide +kernel
theorem dX11_man_1 : decode cX11_man 1 = .ok (.invokestatic 91, 3) := by decide +kernel
theorem dX11_man_4 : decode cX11_man 4 = .ok (.ifCond .eq 28, 3) := by decide +kernel
theorem dX11_man_7 : decode cX11_man 7 = .ok (.iload_n 2, 1) := by decide +kernel
theorem dX11_man_8 : decode cX11_man 8 = .ok (.ifCond .lt 24, 3) := by decide +kernel
theorem dX11_man_11 : decode cX11_man 11 = .ok (.iload_n 2, 1) := by decide +kernel
theorem dX11_man_12 : decode cX11_man 12 = .ok (.bipush 120, 2) := by decide +kernel
theorem dX11_man_14 : decode cX11_man 14 = .ok (.if_icmp .gt 18, 3) := by decide +kernel
theorem dX11_man_17 : decode cX11_man 17 = .ok (.iload_n 3, 1) := by decide +kernel
theorem dX11_man_18 : decode cX11_man 18 = .ok (.iconst 1, 1) := by decide +kernel
theorem dX11_man_19 : decode cX11_man 19 = .ok (.if_icmp .lt 13, 3) := by decide +kernel
theorem dX11_man_22 : decode cX11_man 22 = .ok (.iload_n 3, 1) := by decide +kernel
theorem dX11_man_23 : decode cX11_man 23 = .ok (.bipush 9, 2) := by decide +kernel
theorem dX11_man_25 : decode cX11_man 25 = .ok (.if_icmp .gt 7, 3) := by decide +kernel
theorem dX11_man_28 : decode cX11_man 28 = .ok (.iconst 1, 1) := by decide +kernel
theorem dX11_man_29 : decode cX11_man 29 = .ok (.goto 4, 3) := by decide +kernel
theorem dX11_man_32 : decode cX11_man 32 = .ok (.iconst 0, 1) := by decide +kernel
theorem dX11_man_33 : decode cX11_man 33 = .ok (.istore 4, 2) := by decide +kernel
theorem dX11_man_35 : decode cX11_man 35 = .ok (.aload_n 0, 1) := by decide +kernel
theorem dX11_man_36 : decode cX11_man 36 = .ok (.getfield 10, 3) := by decide +kernel
theorem dX11_man_39 : decode cX11_man 39 = .ok (.getfield 95, 3) := by decide +kernel
theorem dX11_man_42 : decode cX11_man 42 = .ok (.istore 5, 2) := by decide +kernel
theorem dX11_man_44 : decode cX11_man 44 = .ok (.iload 4, 2) := by decide +kernel
theorem dX11_man_46 : decode cX11_man 46 = .ok (.ifCond .eq 15, 3) := by decide +kernel
theorem dX11_man_49 : decode cX11_man 49 = .ok (.iload 5, 2) := by decide +kernel
theorem dX11_man_51 : decode cX11_man 51 = .ok (.ifCond .lt 10, 3) := by decide +kernel
theorem dX11_man_54 : decode cX11_man 54 = .ok (.iload 5, 2) := by decide +kernel
theorem dX11_man_56 : decode cX11_man 56 = .ok (.bipush 12, 2) := by decide +kernel
theorem dX11_man_58 : decode cX11_man 58 = .ok (.if_icmp .lt 5, 3) := by decide +kernel
theorem dX11_man_61 : decode cX11_man 61 = .ok (.iconst (-1), 1) := by decide +kernel
theorem dX11_man_62 : decode cX11_man 62 = .ok (.ireturn, 1) := by decide +kernel
theorem dX11_man_63 : decode cX11_man 63 = .ok (.aload_n 0, 1) := by decide +kernel
theorem dX11_man_64 : decode cX11_man 64 = .ok (.getfield 10, 3) := by decide +kernel
theorem dX11_man_67 : decode cX11_man 67 = .ok (.getfield 98, 3) := by decide +kernel
theorem dX11_man_70 : decode cX11_man 70 = .ok (.iload 5, 2) := by decide +kernel
theorem dX11_man_72 : decode cX11_man 72 = .ok (.iload_n 1, 1) := by decide +kernel
theorem dX11_man_73 : decode cX11_man 73 = .ok (.iastore, 1) := by decide +kernel
theorem dX11_man_74 : decode cX11_man 74 = .ok (.aload_n 0, 1) := by decide +kernel
theorem dX11_man_75 : decode cX11_man 75 = .ok (.getfield 10, 3) := by decide +kernel
theorem dX11_man_78 : decode cX11_man 78 = .ok (.getfield 102, 3) := by decide +kernel
theorem dX11_man_81 : decode cX11_man 81 = .ok (.iload 5, 2) := by decide +kernel
theorem dX11_man_83 : decode cX11_man 83 = .ok (.iload_n 2, 1) := by decide +kernel
theorem dX11_man_84 : decode cX11_man 84 = .ok (.iastore, 1) := by decide +kernel
theorem dX11_man_85 : decode cX11_man 85 = .ok (.aload_n 0, 1) := by decide +kernel
theorem dX11_man_86 : decode cX11_man 86 = .ok (.getfield 10, 3) := by decide +kernel
theorem dX11_man_89 : decode cX11_man 89 = .ok (.getfield 105, 3) := by decide +kernel
theorem dX11_man_92 : decode cX11_man 92 = .ok (.iload 5, 2) := by decide +kernel
theorem dX11_man_94 : decode cX11_man 94 = .ok (.iload_n 3, 1) := by decide +kernel
theorem dX11_man_95 : decode cX11_man 95 = .ok (.iastore, 1) := by decide +kernel
theorem dX11_man_96 : decode cX11_man 96 = .ok (.aload_n 0, 1) := by decide +kernel
theorem dX11_man_97 : decode cX11_man 97 = .ok (.getfield 10, 3) := by decide +kernel
theorem dX11_man_100 : decode cX11_man 100 = .ok (.getfield 108, 3) := by decide +kernel
theorem dX11_man_103 : decode cX11_man 103 = .ok (.iload 5, 2) := by decide +kernel
theorem dX11_man_105 : decode cX11_man 105 = .ok (.iconst 0, 1) := by decide +kernel
theorem dX11_man_106 : decode cX11_man 106 = .ok (.iastore, 1) := by decide +kernel
theorem dX11_man_107 : decode cX11_man 107 = .ok (.aload_n 0, 1) := by decide +kernel
theorem dX11_man_108 : decode cX11_man 108 = .ok (.getfield 19, 3) := by decide +kernel
theorem dX11_man_111 : decode cX11_man 111 = .ok (.iload 5, 2) := by decide +kernel
theorem dX11_man_113 : decode cX11_man 113 = .ok (.invokevirtual 111, 3) := by decide +kernel
theorem dX11_man_116 : decode cX11_man 116 = .ok (.aload_n 0, 1) := by decide +kernel
theorem dX11_man_117 : decode cX11_man 117 = .ok (.getfield 10, 3) := by decide +kernel
theorem dX11_man_120 : decode cX11_man 120 = .ok (.iload 5, 2) := by decide +kernel
theorem dX11_man_122 : decode cX11_man 122 = .ok (.iconst 1, 1) := by decide +kernel
theorem dX11_man_123 : decode cX11_man 123 = .ok (.iadd, 1) := by decide +kernel
theorem dX11_man_124 : decode cX11_man 124 = .ok (.putfield 95, 3) := by decide +kernel
theorem dX11_man_127 : decode cX11_man 127 = .ok (.aload_n 0, 1) := by decide +kernel
theorem dX11_man_128 : decode cX11_man 128 = .ok (.getfield 49, 3) := by decide +kernel
theorem dX11_man_131 : decode cX11_man 131 = .ok (.invokevirtual 88, 3) := by decide +kernel
theorem dX11_man_134 : decode cX11_man 134 = .ok (.iload 5, 2) := by decide +kernel
theorem dX11_man_136 : decode cX11_man 136 = .ok (.ireturn, 1) := by decide +kernel
theorem dX11_march_0 : decode cX11_march 0 = .ok (.aload_n 0, 1) := by decide +kernel
theorem dX11_march_1 : decode cX11_march 1 = .ok (.getfield 10, 3) := by decide +kernel
theorem dX11_march_4 : decode cX11_march 4 = .ok (.iload_n 1, 1) := by decide +kernel
theorem dX11_march_5 : decode cX11_march 5 = .ok (.invokevirtual 119, 3) := by decide +kernel
theorem dX11_march_8 : decode cX11_march 8 = .ok (.ifCond .eq 28, 3) := by decide +kernel
theorem dX11_march_11 : decode cX11_march 11 = .ok (.iload_n 2, 1) := by decide +kernel
theorem dX11_march_12 : decode cX11_march 12 = .ok (.ifCond .lt 24, 3) := by decide +kernel
theorem dX11_march_15 : decode cX11_march 15 = .ok (.iload_n 2, 1) := by decide +kernel
theorem dX11_march_16 : decode cX11_march 16 = .ok (.bipush 16, 2) := by decide +kernel
theorem dX11_march_18 : decode cX11_march 18 = .ok (.if_icmp .ge 18, 3) := by decide +kernel
theorem dX11_march_21 : decode cX11_march 21 = .ok (.iload_n 3, 1) := by decide +kernel
theorem dX11_march_22 : decode cX11_march 22 = .ok (.iconst 1, 1) := by decide +kernel
theorem dX11_march_23 : decode cX11_march 23 = .ok (.if_icmp .lt 13, 3) := by decide +kernel
theorem dX11_march_26 : decode cX11_march 26 = .ok (.iload_n 3, 1) := by decide +kernel
theorem dX11_march_27 : decode cX11_march 27 = .ok (.bipush 12, 2) := by decide +kernel
theorem dX11_march_29 : decode cX11_march 29 = .ok (.if_icmp .gt 7, 3) := by decide +kernel
theorem dX11_march_32 : decode cX11_march 32 = .ok (.iconst 1, 1) := by decide +kernel
theorem dX11_march_33 : decode cX11_march 33 = .ok (.goto 4, 3) := by decide +kernel
theorem dX11_march_36 : decode cX11_march 36 = .ok (.iconst 0, 1) := by decide +kernel
theorem dX11_march_37 : decode cX11_march 37 = .ok (.istore 5, 2) := by decide +kernel
theorem dX11_march_39 : decode cX11_march 39 = .ok (.iload 5, 2) := by decide +kernel
theorem dX11_march_41 : decode cX11_march 41 = .ok (.ifCond .eq 14, 3) := by decide +kernel
theorem dX11_march_44 : decode cX11_march 44 = .ok (.iload 4, 2) := by decide +kernel
theorem dX11_march_46 : decode cX11_march 46 = .ok (.ifCond .lt 9, 3) := by decide +kernel
theorem dX11_march_49 : decode cX11_march 49 = .ok (.iload 4, 2) := by decide +kernel
theorem dX11_march_51 : decode cX11_march 51 = .ok (.iconst 1, 1) := by decide +kernel
theorem dX11_march_52 : decode cX11_march 52 = .ok (.if_icmp .le 5, 3) := by decide +kernel
theorem dX11_march_55 : decode cX11_march 55 = .ok (.iconst (-1), 1) := by decide +kernel
theorem dX11_march_56 : decode cX11_march 56 = .ok (.ireturn, 1) := by decide +kernel
theorem dX11_march_57 : decode cX11_march 57 = .ok (.aload_n 0, 1) := by decide +kernel
theorem dX11_march_58 : decode cX11_march 58 = .ok (.getfield 67, 3) := by decide +kernel
theorem dX11_march_61 : decode cX11_march 61 = .ok (.iload_n 1, 1) := by decide +kernel
theorem dX11_march_62 : decode cX11_march 62 = .ok (.iload_n 2, 1) := by decide +kernel
theorem dX11_march_63 : decode cX11_march 63 = .ok (.iload_n 3, 1) := by decide +kernel
theorem dX11_march_64 : decode cX11_march 64 = .ok (.iload 4, 2) := by decide +kernel
theorem dX11_march_66 : decode cX11_march 66 = .ok (.invokevirtual 234, 3) := by decide +kernel
theorem dX11_march_69 : decode cX11_march 69 = .ok (.ireturn, 1) := by decide +kernel
theorem dX11_of_0 : decode cX11_of 0 = .ok (.aload_n 0, 1) := by decide +kernel
theorem dX11_of_1 : decode cX11_of 1 = .ok (.getfield 10, 3) := by decide +kernel
theorem dX11_of_4 : decode cX11_of 4 = .ok (.iload_n 1, 1) := by decide +kernel
theorem dX11_of_5 : decode cX11_of 5 = .ok (.invokevirtual 119, 3) := by decide +kernel
theorem dX11_of_8 : decode cX11_of 8 = .ok (.ifCond .ne 6, 3) := by decide +kernel
theorem dX11_of_11 : decode cX11_of 11 = .ok (.bipush (-2), 2) := by decide +kernel
theorem dX11_of_13 : decode cX11_of 13 = .ok (.ireturn, 1) := by decide +kernel
theorem dX11_of_14 : decode cX11_of 14 = .ok (.iload_n 2, 1) := by decide +kernel
theorem dX11_of_15 : decode cX11_of 15 = .ok (.tableswitch 216 0 13 #[69, 79, 89, 99, 109, 119, 129, 139, 166, 216, 176, 186, 196, 206], 69) := by decide +kernel
theorem dX11_of_84 : decode cX11_of 84 = .ok (.aload_n 0, 1) := by decide +kernel
theorem dX11_of_85 : decode cX11_of 85 = .ok (.getfield 10, 3) := by decide +kernel
theorem dX11_of_88 : decode cX11_of 88 = .ok (.getfield 98, 3) := by decide +kernel
theorem dX11_of_91 : decode cX11_of 91 = .ok (.iload_n 1, 1) := by decide +kernel
theorem dX11_of_92 : decode cX11_of 92 = .ok (.iaload, 1) := by decide +kernel
theorem dX11_of_93 : decode cX11_of 93 = .ok (.ireturn, 1) := by decide +kernel
theorem dX11_of_94 : decode cX11_of 94 = .ok (.aload_n 0, 1) := by decide +kernel
theorem dX11_of_95 : decode cX11_of 95 = .ok (.getfield 10, 3) := by decide +kernel
theorem dX11_of_98 : decode cX11_of 98 = .ok (.getfield 102, 3) := by decide +kernel
theorem dX11_of_101 : decode cX11_of 101 = .ok (.iload_n 1, 1) := by decide +kernel
theorem dX11_of_102 : decode cX11_of 102 = .ok (.iaload, 1) := by decide +kernel
theorem dX11_of_103 : decode cX11_of 103 = .ok (.ireturn, 1) := by decide +kernel
theorem dX11_of_104 : decode cX11_of 104 = .ok (.aload_n 0, 1) := by decide +kernel
theorem dX11_of_105 : decode cX11_of 105 = .ok (.getfield 10, 3) := by decide +kernel
theorem dX11_of_108 : decode cX11_of 108 = .ok (.getfield 105, 3) := by decide +kernel
theorem dX11_of_111 : decode cX11_of 111 = .ok (.iload_n 1, 1) := by decide +kernel
theorem dX11_of_112 : decode cX11_of 112 = .ok (.iaload, 1) := by decide +kernel
theorem dX11_of_113 : decode cX11_of 113 = .ok (.ireturn, 1) := by decide +kernel
theorem dX11_of_114 : decode cX11_of 114 = .ok (.aload_n 0, 1) := by decide +kernel
theorem dX11_of_115 : decode cX11_of 115 = .ok (.getfield 19, 3) := by decide +kernel
theorem dX11_of_118 : decode cX11_of 118 = .ok (.getfield 122, 3) := by decide +kernel
theorem dX11_of_121 : decode cX11_of 121 = .ok (.iload_n 1, 1) := by decide +kernel
theorem dX11_of_122 : decode cX11_of 122 = .ok (.iaload, 1) := by decide +kernel
theorem dX11_of_123 : decode cX11_of 123 = .ok (.ireturn, 1) := by decide +kernel
theorem dX11_of_124 : decode cX11_of 124 = .ok (.aload_n 0, 1) := by decide +kernel
theorem dX11_of_125 : decode cX11_of 125 = .ok (.getfield 19, 3) := by decide +kernel
theorem dX11_of_128 : decode cX11_of 128 = .ok (.getfield 139, 3) := by decide +kernel
theorem dX11_of_131 : decode cX11_of 131 = .ok (.iload_n 1, 1) := by decide +kernel
theorem dX11_of_132 : decode cX11_of 132 = .ok (.iaload, 1) := by decide +kernel
theorem dX11_of_133 : decode cX11_of 133 = .ok (.ireturn, 1) := by decide +kernel
theorem dX11_of_134 : decode cX11_of 134 = .ok (.aload_n 0, 1) := by decide +kernel
theorem dX11_of_135 : decode cX11_of 135 = .ok (.getfield 19, 3) := by decide +kernel
theorem dX11_of_138 : decode cX11_of 138 = .ok (.getfield 125, 3) := by decide +kernel
theorem dX11_of_141 : decode cX11_of 141 = .ok (.iload_n 1, 1) := by decide +kernel
theorem dX11_of_142 : decode cX11_of 142 = .ok (.iaload, 1) := by decide +kernel
theorem dX11_of_143 : decode cX11_of 143 = .ok (.ireturn, 1) := by decide +kernel
theorem dX11_of_144 : decode cX11_of 144 = .ok (.aload_n 0, 1) := by decide +kernel
theorem dX11_of_145 : decode cX11_of 145 = .ok (.getfield 19, 3) := by decide +kernel
theorem dX11_of_148 : decode cX11_of 148 = .ok (.getfield 141, 3) := by decide +kernel
theorem dX11_of_151 : decode cX11_of 151 = .ok (.iload_n 1, 1) := by decide +kernel
theorem dX11_of_152 : decode cX11_of 152 = .ok (.iaload, 1) := by decide +kernel
theorem dX11_of_153 : decode cX11_of 153 = .ok (.ireturn, 1) := by decide +kernel
theorem dX11_of_154 : decode cX11_of 154 = .ok (.aload_n 0, 1) := by decide +kernel
theorem dX11_of_155 : decode cX11_of 155 = .ok (.getfield 19, 3) := by decide +kernel
theorem dX11_of_158 : decode cX11_of 158 = .ok (.getfield 141, 3) := by decide +kernel
theorem dX11_of_161 : decode cX11_of 161 = .ok (.iload_n 1, 1) := by decide +kernel
theorem dX11_of_162 : decode cX11_of 162 = .ok (.iaload, 1) := by decide +kernel
theorem dX11_of_163 : decode cX11_of 163 = .ok (.iconst 1, 1) := by decide +kernel
theorem dX11_of_164 : decode cX11_of 164 = .ok (.if_icmp .ne 15, 3) := by decide +kernel
theorem dX11_of_167 : decode cX11_of 167 = .ok (.aload_n 0, 1) := by decide +kernel
theorem dX11_of_168 : decode cX11_of 168 = .ok (.getfield 19, 3) := by decide +kernel
theorem dX11_of_171 : decode cX11_of 171 = .ok (.getfield 144, 3) := by decide +kernel
theorem dX11_of_174 : decode cX11_of 174 = .ok (.iload_n 1, 1) := by decide +kernel
theorem dX11_of_175 : decode cX11_of 175 = .ok (.iaload, 1) := by decide +kernel
theorem dX11_of_176 : decode cX11_of 176 = .ok (.goto 4, 3) := by decide +kernel
theorem dX11_of_179 : decode cX11_of 179 = .ok (.iconst (-1), 1) := by decide +kernel
theorem dX11_of_180 : decode cX11_of 180 = .ok (.ireturn, 1) := by decide +kernel
theorem dX11_of_181 : decode cX11_of 181 = .ok (.aload_n 0, 1) := by decide +kernel
theorem dX11_of_182 : decode cX11_of 182 = .ok (.getfield 10, 3) := by decide +kernel
theorem dX11_of_185 : decode cX11_of 185 = .ok (.getfield 108, 3) := by decide +kernel
theorem dX11_of_188 : decode cX11_of 188 = .ok (.iload_n 1, 1) := by decide +kernel
theorem dX11_of_189 : decode cX11_of 189 = .ok (.iaload, 1) := by decide +kernel
theorem dX11_of_190 : decode cX11_of 190 = .ok (.ireturn, 1) := by decide +kernel
theorem dX11_of_191 : decode cX11_of 191 = .ok (.aload_n 0, 1) := by decide +kernel
theorem dX11_of_192 : decode cX11_of 192 = .ok (.getfield 35, 3) := by decide +kernel
theorem dX11_of_195 : decode cX11_of 195 = .ok (.iload_n 1, 1) := by decide +kernel
theorem dX11_of_196 : decode cX11_of 196 = .ok (.iconst 0, 1) := by decide +kernel
theorem dX11_of_197 : decode cX11_of 197 = .ok (.invokevirtual 182, 3) := by decide +kernel
theorem dX11_of_200 : decode cX11_of 200 = .ok (.ireturn, 1) := by decide +kernel
theorem dX11_of_201 : decode cX11_of 201 = .ok (.aload_n 0, 1) := by decide +kernel
theorem dX11_of_202 : decode cX11_of 202 = .ok (.getfield 35, 3) := by decide +kernel
theorem dX11_of_205 : decode cX11_of 205 = .ok (.iload_n 1, 1) := by decide +kernel
theorem dX11_of_206 : decode cX11_of 206 = .ok (.iconst 1, 1) := by decide +kernel
theorem dX11_of_207 : decode cX11_of 207 = .ok (.invokevirtual 182, 3) := by decide +kernel
theorem dX11_of_210 : decode cX11_of 210 = .ok (.ireturn, 1) := by decide +kernel
theorem dX11_of_211 : decode cX11_of 211 = .ok (.aload_n 0, 1) := by decide +kernel
theorem dX11_of_212 : decode cX11_of 212 = .ok (.getfield 35, 3) := by decide +kernel
theorem dX11_of_215 : decode cX11_of 215 = .ok (.iload_n 1, 1) := by decide +kernel
theorem dX11_of_216 : decode cX11_of 216 = .ok (.iconst 2, 1) := by decide +kernel
theorem dX11_of_217 : decode cX11_of 217 = .ok (.invokevirtual 182, 3) := by decide +kernel
theorem dX11_of_220 : decode cX11_of 220 = .ok (.ireturn, 1) := by decide +kernel
theorem dX11_of_221 : decode cX11_of 221 = .ok (.aload_n 0, 1) := by decide +kernel
theorem dX11_of_222 : decode cX11_of 222 = .ok (.getfield 35, 3) := by decide +kernel
theorem dX11_of_225 : decode cX11_of 225 = .ok (.iload_n 1, 1) := by decide +kernel
theorem dX11_of_226 : decode cX11_of 226 = .ok (.iconst 3, 1) := by decide +kernel
theorem dX11_of_227 : decode cX11_of 227 = .ok (.invokevirtual 182, 3) := by decide +kernel
theorem dX11_of_230 : decode cX11_of 230 = .ok (.ireturn, 1) := by decide +kernel
theorem dX11_of_231 : decode cX11_of 231 = .ok (.bipush (-2), 2) := by decide +kernel
theorem dX11_of_233 : decode cX11_of 233 = .ok (.ireturn, 1) := by decide +kernel
theorem dX11_send_0 : decode cX11_send 0 = .ok (.aload_n 0, 1) := by decide +kernel
theorem dX11_send_1 : decode cX11_send 1 = .ok (.getfield 10, 3) := by decide +kernel
theorem dX11_send_4 : decode cX11_send 4 = .ok (.iload_n 1, 1) := by decide +kernel
theorem dX11_send_5 : decode cX11_send 5 = .ok (.invokevirtual 119, 3) := by decide +kernel
theorem dX11_send_8 : decode cX11_send 8 = .ok (.ifCond .eq 14, 3) := by decide +kernel
theorem dX11_send_11 : decode cX11_send 11 = .ok (.aload_n 0, 1) := by decide +kernel
theorem dX11_send_12 : decode cX11_send 12 = .ok (.getfield 10, 3) := by decide +kernel
theorem dX11_send_15 : decode cX11_send 15 = .ok (.iload_n 2, 1) := by decide +kernel
theorem dX11_send_16 : decode cX11_send 16 = .ok (.invokevirtual 119, 3) := by decide +kernel
theorem dX11_send_19 : decode cX11_send 19 = .ok (.ifCond .ne 5, 3) := by decide +kernel
theorem dX11_send_22 : decode cX11_send 22 = .ok (.iconst 0, 1) := by decide +kernel
theorem dX11_send_23 : decode cX11_send 23 = .ok (.ireturn, 1) := by decide +kernel
theorem dX11_send_24 : decode cX11_send 24 = .ok (.aload_n 0, 1) := by decide +kernel
theorem dX11_send_25 : decode cX11_send 25 = .ok (.getfield 19, 3) := by decide +kernel
theorem dX11_send_28 : decode cX11_send 28 = .ok (.getfield 141, 3) := by decide +kernel
theorem dX11_send_31 : decode cX11_send 31 = .ok (.iload_n 1, 1) := by decide +kernel
theorem dX11_send_32 : decode cX11_send 32 = .ok (.iaload, 1) := by decide +kernel
theorem dX11_send_33 : decode cX11_send 33 = .ok (.ifCond .ne 20, 3) := by decide +kernel
theorem dX11_send_36 : decode cX11_send 36 = .ok (.aload_n 0, 1) := by decide +kernel
theorem dX11_send_37 : decode cX11_send 37 = .ok (.getfield 19, 3) := by decide +kernel
theorem dX11_send_40 : decode cX11_send 40 = .ok (.getfield 141, 3) := by decide +kernel
theorem dX11_send_43 : decode cX11_send 43 = .ok (.iload_n 2, 1) := by decide +kernel
theorem dX11_send_44 : decode cX11_send 44 = .ok (.iaload, 1) := by decide +kernel
theorem dX11_send_45 : decode cX11_send 45 = .ok (.iconst 1, 1) := by decide +kernel
theorem dX11_send_46 : decode cX11_send 46 = .ok (.if_icmp .ne 7, 3) := by decide +kernel
theorem dX11_send_49 : decode cX11_send 49 = .ok (.iconst 1, 1) := by decide +kernel
theorem dX11_send_50 : decode cX11_send 50 = .ok (.goto 4, 3) := by decide +kernel
theorem dX11_send_53 : decode cX11_send 53 = .ok (.iconst 0, 1) := by decide +kernel
theorem dX11_send_54 : decode cX11_send 54 = .ok (.istore 4, 2) := by decide +kernel
theorem dX11_send_56 : decode cX11_send 56 = .ok (.aload_n 0, 1) := by decide +kernel
theorem dX11_send_57 : decode cX11_send 57 = .ok (.getfield 10, 3) := by decide +kernel
theorem dX11_send_60 : decode cX11_send 60 = .ok (.getfield 98, 3) := by decide +kernel
theorem dX11_send_63 : decode cX11_send 63 = .ok (.iload_n 1, 1) := by decide +kernel
theorem dX11_send_64 : decode cX11_send 64 = .ok (.iaload, 1) := by decide +kernel
theorem dX11_send_65 : decode cX11_send 65 = .ok (.aload_n 0, 1) := by decide +kernel
theorem dX11_send_66 : decode cX11_send 66 = .ok (.getfield 10, 3) := by decide +kernel
theorem dX11_send_69 : decode cX11_send 69 = .ok (.getfield 98, 3) := by decide +kernel
theorem dX11_send_72 : decode cX11_send 72 = .ok (.iload_n 2, 1) := by decide +kernel
theorem dX11_send_73 : decode cX11_send 73 = .ok (.iaload, 1) := by decide +kernel
theorem dX11_send_74 : decode cX11_send 74 = .ok (.if_icmp .ne 28, 3) := by decide +kernel
theorem dX11_send_77 : decode cX11_send 77 = .ok (.aload_n 0, 1) := by decide +kernel
theorem dX11_send_78 : decode cX11_send 78 = .ok (.getfield 10, 3) := by decide +kernel
theorem dX11_send_81 : decode cX11_send 81 = .ok (.getfield 102, 3) := by decide +kernel
theorem dX11_send_84 : decode cX11_send 84 = .ok (.iload_n 1, 1) := by decide +kernel
theorem dX11_send_85 : decode cX11_send 85 = .ok (.iaload, 1) := by decide +kernel
theorem dX11_send_86 : decode cX11_send 86 = .ok (.aload_n 0, 1) := by decide +kernel
theorem dX11_send_87 : decode cX11_send 87 = .ok (.getfield 10, 3) := by decide +kernel
theorem dX11_send_90 : decode cX11_send 90 = .ok (.getfield 102, 3) := by decide +kernel
theorem dX11_send_93 : decode cX11_send 93 = .ok (.iload_n 2, 1) := by decide +kernel
theorem dX11_send_94 : decode cX11_send 94 = .ok (.iaload, 1) := by decide +kernel
theorem dX11_send_95 : decode cX11_send 95 = .ok (.if_icmp .le 7, 3) := by decide +kernel
theorem dX11_send_98 : decode cX11_send 98 = .ok (.iconst 1, 1) := by decide +kernel
theorem dX11_send_99 : decode cX11_send 99 = .ok (.goto 4, 3) := by decide +kernel
theorem dX11_send_102 : decode cX11_send 102 = .ok (.iconst 0, 1) := by decide +kernel
theorem dX11_send_103 : decode cX11_send 103 = .ok (.istore 5, 2) := by decide +kernel
theorem dX11_send_105 : decode cX11_send 105 = .ok (.iload 4, 2) := by decide +kernel
theorem dX11_send_107 : decode cX11_send 107 = .ok (.ifCond .eq 25, 3) := by decide +kernel
theorem dX11_send_110 : decode cX11_send 110 = .ok (.iload 5, 2) := by decide +kernel
theorem dX11_send_112 : decode cX11_send 112 = .ok (.ifCond .eq 20, 3) := by decide +kernel
theorem dX11_send_115 : decode cX11_send 115 = .ok (.iload_n 3, 1) := by decide +kernel
theorem dX11_send_116 : decode cX11_send 116 = .ok (.ifCond .lt 16, 3) := by decide +kernel
theorem dX11_send_119 : decode cX11_send 119 = .ok (.iload_n 3, 1) := by decide +kernel
theorem dX11_send_120 : decode cX11_send 120 = .ok (.aload_n 0, 1) := by decide +kernel
theorem dX11_send_121 : decode cX11_send 121 = .ok (.getfield 19, 3) := by decide +kernel
theorem dX11_send_124 : decode cX11_send 124 = .ok (.getfield 125, 3) := by decide +kernel
theorem dX11_send_127 : decode cX11_send 127 = .ok (.iload_n 2, 1) := by decide +kernel
theorem dX11_send_128 : decode cX11_send 128 = .ok (.iaload, 1) := by decide +kernel
theorem dX11_send_129 : decode cX11_send 129 = .ok (.if_icmp .le 5, 3) := by decide +kernel
theorem dX11_send_132 : decode cX11_send 132 = .ok (.iconst 0, 1) := by decide +kernel
theorem dX11_send_133 : decode cX11_send 133 = .ok (.ireturn, 1) := by decide +kernel
theorem dX11_send_134 : decode cX11_send 134 = .ok (.aload_n 0, 1) := by decide +kernel
theorem dX11_send_135 : decode cX11_send 135 = .ok (.getfield 49, 3) := by decide +kernel
theorem dX11_send_138 : decode cX11_send 138 = .ok (.aload_n 0, 1) := by decide +kernel
theorem dX11_send_139 : decode cX11_send 139 = .ok (.getfield 19, 3) := by decide +kernel
theorem dX11_send_142 : decode cX11_send 142 = .ok (.invokevirtual 135, 3) := by decide +kernel
theorem dX11_send_145 : decode cX11_send 145 = .ok (.aload_n 0, 1) := by decide +kernel
theorem dX11_send_146 : decode cX11_send 146 = .ok (.getfield 19, 3) := by decide +kernel
theorem dX11_send_149 : decode cX11_send 149 = .ok (.getfield 141, 3) := by decide +kernel
theorem dX11_send_152 : decode cX11_send 152 = .ok (.iload_n 1, 1) := by decide +kernel
theorem dX11_send_153 : decode cX11_send 153 = .ok (.iconst 1, 1) := by decide +kernel
theorem dX11_send_154 : decode cX11_send 154 = .ok (.iastore, 1) := by decide +kernel
theorem dX11_send_155 : decode cX11_send 155 = .ok (.aload_n 0, 1) := by decide +kernel
theorem dX11_send_156 : decode cX11_send 156 = .ok (.getfield 19, 3) := by decide +kernel
theorem dX11_send_159 : decode cX11_send 159 = .ok (.getfield 144, 3) := by decide +kernel
theorem dX11_send_162 : decode cX11_send 162 = .ok (.iload_n 1, 1) := by decide +kernel
theorem dX11_send_163 : decode cX11_send 163 = .ok (.aload_n 0, 1) := by decide +kernel
theorem dX11_send_164 : decode cX11_send 164 = .ok (.getfield 19, 3) := by decide +kernel
theorem dX11_send_167 : decode cX11_send 167 = .ok (.getfield 144, 3) := by decide +kernel
theorem dX11_send_170 : decode cX11_send 170 = .ok (.iload_n 2, 1) := by decide +kernel
theorem dX11_send_171 : decode cX11_send 171 = .ok (.iaload, 1) := by decide +kernel
theorem dX11_send_172 : decode cX11_send 172 = .ok (.iastore, 1) := by decide +kernel
theorem dX11_send_173 : decode cX11_send 173 = .ok (.aload_n 0, 1) := by decide +kernel
theorem dX11_send_174 : decode cX11_send 174 = .ok (.getfield 19, 3) := by decide +kernel
theorem dX11_send_177 : decode cX11_send 177 = .ok (.getfield 141, 3) := by decide +kernel
theorem dX11_send_180 : decode cX11_send 180 = .ok (.iload_n 2, 1) := by decide +kernel
theorem dX11_send_181 : decode cX11_send 181 = .ok (.iconst 0, 1) := by decide +kernel
theorem dX11_send_182 : decode cX11_send 182 = .ok (.iastore, 1) := by decide +kernel
theorem dX11_send_183 : decode cX11_send 183 = .ok (.aload_n 0, 1) := by decide +kernel
theorem dX11_send_184 : decode cX11_send 184 = .ok (.getfield 19, 3) := by decide +kernel
theorem dX11_send_187 : decode cX11_send 187 = .ok (.getfield 125, 3) := by decide +kernel
theorem dX11_send_190 : decode cX11_send 190 = .ok (.iload_n 2, 1) := by decide +kernel
theorem dX11_send_191 : decode cX11_send 191 = .ok (.dup2, 1) := by decide +kernel
theorem dX11_send_192 : decode cX11_send 192 = .ok (.iaload, 1) := by decide +kernel
theorem dX11_send_193 : decode cX11_send 193 = .ok (.iload_n 3, 1) := by decide +kernel
theorem dX11_send_194 : decode cX11_send 194 = .ok (.isub, 1) := by decide +kernel
theorem dX11_send_195 : decode cX11_send 195 = .ok (.iastore, 1) := by decide +kernel
theorem dX11_send_196 : decode cX11_send 196 = .ok (.aload_n 0, 1) := by decide +kernel
theorem dX11_send_197 : decode cX11_send 197 = .ok (.getfield 19, 3) := by decide +kernel
theorem dX11_send_200 : decode cX11_send 200 = .ok (.getfield 125, 3) := by decide +kernel
theorem dX11_send_203 : decode cX11_send 203 = .ok (.iload_n 1, 1) := by decide +kernel
theorem dX11_send_204 : decode cX11_send 204 = .ok (.sipush 999, 3) := by decide +kernel
theorem dX11_send_207 : decode cX11_send 207 = .ok (.aload_n 0, 1) := by decide +kernel
theorem dX11_send_208 : decode cX11_send 208 = .ok (.getfield 19, 3) := by decide +kernel
theorem dX11_send_211 : decode cX11_send 211 = .ok (.getfield 125, 3) := by decide +kernel
theorem dX11_send_214 : decode cX11_send 214 = .ok (.iload_n 1, 1) := by decide +kernel
theorem dX11_send_215 : decode cX11_send 215 = .ok (.iaload, 1) := by decide +kernel
theorem dX11_send_216 : decode cX11_send 216 = .ok (.iload_n 3, 1) := by decide +kernel
theorem dX11_send_217 : decode cX11_send 217 = .ok (.iadd, 1) := by decide +kernel
theorem dX11_send_218 : decode cX11_send 218 = .ok (.invokestatic 147, 3) := by decide +kernel
theorem dX11_send_221 : decode cX11_send 221 = .ok (.iastore, 1) := by decide +kernel
theorem dX11_send_222 : decode cX11_send 222 = .ok (.iconst 1, 1) := by decide +kernel
theorem dX11_send_223 : decode cX11_send 223 = .ok (.ireturn, 1) := by decide +kernel
theorem dX11_set_0 : decode cX11_set 0 = .ok (.iconst 0, 1) := by decide +kernel
theorem dX11_set_1 : decode cX11_set 1 = .ok (.istore 4, 2) := by decide +kernel
theorem dX11_set_3 : decode cX11_set 3 = .ok (.iload_n 1, 1) := by decide +kernel
theorem dX11_set_4 : decode cX11_set 4 = .ok (.ifCond .lt 23, 3) := by decide +kernel
theorem dX11_set_7 : decode cX11_set 7 = .ok (.iload_n 1, 1) := by decide +kernel
theorem dX11_set_8 : decode cX11_set 8 = .ok (.iconst 4, 1) := by decide +kernel
theorem dX11_set_9 : decode cX11_set 9 = .ok (.if_icmp .gt 18, 3) := by decide +kernel
theorem dX11_set_12 : decode cX11_set 12 = .ok (.aload_n 0, 1) := by decide +kernel
theorem dX11_set_13 : decode cX11_set 13 = .ok (.getfield 10, 3) := by decide +kernel
theorem dX11_set_16 : decode cX11_set 16 = .ok (.iload_n 1, 1) := by decide +kernel
theorem dX11_set_17 : decode cX11_set 17 = .ok (.iload_n 2, 1) := by decide +kernel
theorem dX11_set_18 : decode cX11_set 18 = .ok (.iload_n 3, 1) := by decide +kernel
theorem dX11_set_19 : decode cX11_set 19 = .ok (.invokevirtual 115, 3) := by decide +kernel
theorem dX11_set_22 : decode cX11_set 22 = .ok (.istore 4, 2) := by decide +kernel
theorem dX11_set_24 : decode cX11_set 24 = .ok (.goto 86, 3) := by decide +kernel
theorem dX11_set_27 : decode cX11_set 27 = .ok (.iload_n 1, 1) := by decide +kernel
theorem dX11_set_28 : decode cX11_set 28 = .ok (.iconst 5, 1) := by decide +kernel
theorem dX11_set_29 : decode cX11_set 29 = .ok (.if_icmp .ne 40, 3) := by decide +kernel
theorem dX11_set_32 : decode cX11_set 32 = .ok (.aload_n 0, 1) := by decide +kernel
theorem dX11_set_33 : decode cX11_set 33 = .ok (.getfield 10, 3) := by decide +kernel
theorem dX11_set_36 : decode cX11_set 36 = .ok (.iload_n 2, 1) := by decide +kernel
theorem dX11_set_37 : decode cX11_set 37 = .ok (.invokevirtual 119, 3) := by decide +kernel
theorem dX11_set_40 : decode cX11_set 40 = .ok (.ifCond .eq 29, 3) := by decide +kernel
theorem dX11_set_43 : decode cX11_set 43 = .ok (.iload_n 3, 1) := by decide +kernel
theorem dX11_set_44 : decode cX11_set 44 = .ok (.ifCond .lt 25, 3) := by decide +kernel
theorem dX11_set_47 : decode cX11_set 47 = .ok (.iload_n 3, 1) := by decide +kernel
theorem dX11_set_48 : decode cX11_set 48 = .ok (.bipush 99, 2) := by decide +kernel
theorem dX11_set_50 : decode cX11_set 50 = .ok (.if_icmp .gt 19, 3) := by decide +kernel
theorem dX11_set_53 : decode cX11_set 53 = .ok (.aload_n 0, 1) := by decide +kernel
theorem dX11_set_54 : decode cX11_set 54 = .ok (.getfield 19, 3) := by decide +kernel
theorem dX11_set_57 : decode cX11_set 57 = .ok (.getfield 122, 3) := by decide +kernel
theorem dX11_set_60 : decode cX11_set 60 = .ok (.iload_n 2, 1) := by decide +kernel
theorem dX11_set_61 : decode cX11_set 61 = .ok (.iload_n 3, 1) := by decide +kernel
theorem dX11_set_62 : decode cX11_set 62 = .ok (.iastore, 1) := by decide +kernel
theorem dX11_set_63 : decode cX11_set 63 = .ok (.iconst 1, 1) := by decide +kernel
theorem dX11_set_64 : decode cX11_set 64 = .ok (.istore 4, 2) := by decide +kernel
theorem dX11_set_66 : decode cX11_set 66 = .ok (.goto 44, 3) := by decide +kernel
theorem dX11_set_69 : decode cX11_set 69 = .ok (.iload_n 1, 1) := by decide +kernel
theorem dX11_set_70 : decode cX11_set 70 = .ok (.bipush 6, 2) := by decide +kernel
theorem dX11_set_72 : decode cX11_set 72 = .ok (.if_icmp .ne 38, 3) := by decide +kernel
theorem dX11_set_75 : decode cX11_set 75 = .ok (.aload_n 0, 1) := by decide +kernel
theorem dX11_set_76 : decode cX11_set 76 = .ok (.getfield 10, 3) := by decide +kernel
theorem dX11_set_79 : decode cX11_set 79 = .ok (.iload_n 2, 1) := by decide +kernel
theorem dX11_set_80 : decode cX11_set 80 = .ok (.invokevirtual 119, 3) := by decide +kernel
theorem dX11_set_83 : decode cX11_set 83 = .ok (.ifCond .eq 27, 3) := by decide +kernel
theorem dX11_set_86 : decode cX11_set 86 = .ok (.iload_n 3, 1) := by decide +kernel
theorem dX11_set_87 : decode cX11_set 87 = .ok (.ifCond .lt 23, 3) := by decide +kernel
theorem dX11_set_90 : decode cX11_set 90 = .ok (.iload_n 3, 1) := by decide +kernel
theorem dX11_set_91 : decode cX11_set 91 = .ok (.sipush 999, 3) := by decide +kernel
theorem dX11_set_94 : decode cX11_set 94 = .ok (.if_icmp .gt 16, 3) := by decide +kernel
theorem dX11_set_97 : decode cX11_set 97 = .ok (.aload_n 0, 1) := by decide +kernel
theorem dX11_set_98 : decode cX11_set 98 = .ok (.getfield 19, 3) := by decide +kernel
theorem dX11_set_101 : decode cX11_set 101 = .ok (.getfield 125, 3) := by decide +kernel
theorem dX11_set_104 : decode cX11_set 104 = .ok (.iload_n 2, 1) := by decide +kernel
theorem dX11_set_105 : decode cX11_set 105 = .ok (.iload_n 3, 1) := by decide +kernel
theorem dX11_set_106 : decode cX11_set 106 = .ok (.iastore, 1) := by decide +kernel
theorem dX11_set_107 : decode cX11_set 107 = .ok (.iconst 1, 1) := by decide +kernel
theorem dX11_set_108 : decode cX11_set 108 = .ok (.istore 4, 2) := by decide +kernel
theorem dX11_set_110 : decode cX11_set 110 = .ok (.iload 4, 2) := by decide +kernel
theorem dX11_set_112 : decode cX11_set 112 = .ok (.ifCond .eq 10, 3) := by decide +kernel
theorem dX11_set_115 : decode cX11_set 115 = .ok (.aload_n 0, 1) := by decide +kernel
theorem dX11_set_116 : decode cX11_set 116 = .ok (.getfield 49, 3) := by decide +kernel
theorem dX11_set_119 : decode cX11_set 119 = .ok (.invokevirtual 88, 3) := by decide +kernel
theorem dX11_set_122 : decode cX11_set 122 = .ok (.iload 4, 2) := by decide +kernel
theorem dX11_set_124 : decode cX11_set 124 = .ok (.ireturn, 1) := by decide +kernel
theorem dX11_slipper_0 : decode cX11_slipper 0 = .ok (.aload_n 0, 1) := by decide +kernel
theorem dX11_slipper_1 : decode cX11_slipper 1 = .ok (.getfield 10, 3) := by decide +kernel
theorem dX11_slipper_4 : decode cX11_slipper 4 = .ok (.getfield 241, 3) := by decide +kernel
theorem dX11_slipper_7 : decode cX11_slipper 7 = .ok (.iload_n 1, 1) := by decide +kernel
theorem dX11_slipper_8 : decode cX11_slipper 8 = .ok (.iload_n 2, 1) := by decide +kernel
theorem dX11_slipper_9 : decode cX11_slipper 9 = .ok (.iload_n 3, 1) := by decide +kernel
theorem dX11_slipper_10 : decode cX11_slipper 10 = .ok (.invokevirtual 245, 3) := by decide +kernel
theorem dX11_slipper_13 : decode cX11_slipper 13 = .ok (.ireturn, 1) := by decide +kernel
theorem dX11_soonest_0 : decode cX11_soonest 0 = .ok (.iload_n 1, 1) := by decide +kernel
theorem dX11_soonest_1 : decode cX11_soonest 1 = .ok (.invokestatic 91, 3) := by decide +kernel
theorem dX11_soonest_4 : decode cX11_soonest 4 = .ok (.ifCond .eq 12, 3) := by decide +kernel
theorem dX11_soonest_7 : decode cX11_soonest 7 = .ok (.iload_n 2, 1) := by decide +kernel
theorem dX11_soonest_8 : decode cX11_soonest 8 = .ok (.ifCond .lt 8, 3) := by decide +kernel
theorem dX11_soonest_11 : decode cX11_soonest 11 = .ok (.iload_n 2, 1) := by decide +kernel
theorem dX11_soonest_12 : decode cX11_soonest 12 = .ok (.iconst 1, 1) := by decide +kernel
theorem dX11_soonest_13 : decode cX11_soonest 13 = .ok (.if_icmp .le 5, 3) := by decide +kernel
theorem dX11_soonest_16 : decode cX11_soonest 16 = .ok (.iconst (-1), 1) := by decide +kernel
theorem dX11_soonest_17 : decode cX11_soonest 17 = .ok (.ireturn, 1) := by decide +kernel
theorem dX11_soonest_18 : decode cX11_soonest 18 = .ok (.aload_n 0, 1) := by decide +kernel
theorem dX11_soonest_19 : decode cX11_soonest 19 = .ok (.getfield 58, 3) := by decide +kernel
theorem dX11_soonest_22 : decode cX11_soonest 22 = .ok (.iload_n 1, 1) := by decide +kernel
theorem dX11_soonest_23 : decode cX11_soonest 23 = .ok (.invokevirtual 219, 3) := by decide +kernel
theorem dX11_soonest_26 : decode cX11_soonest 26 = .ok (.aload_n 0, 1) := by decide +kernel
theorem dX11_soonest_27 : decode cX11_soonest 27 = .ok (.getfield 58, 3) := by decide +kernel
theorem dX11_soonest_30 : decode cX11_soonest 30 = .ok (.iload_n 2, 1) := by decide +kernel
theorem dX11_soonest_31 : decode cX11_soonest 31 = .ok (.invokevirtual 222, 3) := by decide +kernel
theorem dX11_soonest_34 : decode cX11_soonest 34 = .ok (.ireturn, 1) := by decide +kernel
theorem dX11_stands_0 : decode cX11_stands 0 = .ok (.iload_n 1, 1) := by decide +kernel
theorem dX11_stands_1 : decode cX11_stands 1 = .ok (.invokestatic 91, 3) := by decide +kernel
theorem dX11_stands_4 : decode cX11_stands 4 = .ok (.ifCond .eq 15, 3) := by decide +kernel
theorem dX11_stands_7 : decode cX11_stands 7 = .ok (.aload_n 0, 1) := by decide +kernel
theorem dX11_stands_8 : decode cX11_stands 8 = .ok (.getfield 67, 3) := by decide +kernel
theorem dX11_stands_11 : decode cX11_stands 11 = .ok (.iload_n 1, 1) := by decide +kernel
theorem dX11_stands_12 : decode cX11_stands 12 = .ok (.iload_n 2, 1) := by decide +kernel
theorem dX11_stands_13 : decode cX11_stands 13 = .ok (.invokevirtual 238, 3) := by decide +kernel
theorem dX11_stands_16 : decode cX11_stands 16 = .ok (.goto 4, 3) := by decide +kernel
theorem dX11_stands_19 : decode cX11_stands 19 = .ok (.iconst (-1), 1) := by decide +kernel
theorem dX11_stands_20 : decode cX11_stands 20 = .ok (.ireturn, 1) := by decide +kernel
theorem dX11_state_0 : decode cX11_state 0 = .ok (.aload_n 0, 1) := by decide +kernel
theorem dX11_state_1 : decode cX11_state 1 = .ok (.getfield 19, 3) := by decide +kernel
theorem dX11_state_4 : decode cX11_state 4 = .ok (.getfield 84, 3) := by decide +kernel
theorem dX11_state_7 : decode cX11_state 7 = .ok (.istore_n 2, 1) := by decide +kernel
theorem dX11_state_8 : decode cX11_state 8 = .ok (.aload_n 0, 1) := by decide +kernel
theorem dX11_state_9 : decode cX11_state 9 = .ok (.getfield 19, 3) := by decide +kernel
theorem dX11_state_12 : decode cX11_state 12 = .ok (.iload_n 1, 1) := by decide +kernel
theorem dX11_state_13 : decode cX11_state 13 = .ok (.putfield 84, 3) := by decide +kernel
theorem dX11_state_16 : decode cX11_state 16 = .ok (.aload_n 0, 1) := by decide +kernel
theorem dX11_state_17 : decode cX11_state 17 = .ok (.getfield 49, 3) := by decide +kernel
theorem dX11_state_20 : decode cX11_state 20 = .ok (.invokevirtual 88, 3) := by decide +kernel
theorem dX11_state_23 : decode cX11_state 23 = .ok (.iload_n 2, 1) := by decide +kernel
theorem dX11_state_24 : decode cX11_state 24 = .ok (.ireturn, 1) := by decide +kernel
theorem dX11_teach_0 : decode cX11_teach 0 = .ok (.aload_n 0, 1) := by decide +kernel
theorem dX11_teach_1 : decode cX11_teach 1 = .ok (.getfield 10, 3) := by decide +kernel
theorem dX11_teach_4 : decode cX11_teach 4 = .ok (.iload_n 1, 1) := by decide +kernel
theorem dX11_teach_5 : decode cX11_teach 5 = .ok (.invokevirtual 119, 3) := by decide +kernel
theorem dX11_teach_8 : decode cX11_teach 8 = .ok (.ifCond .eq 22, 3) := by decide +kernel
theorem dX11_teach_11 : decode cX11_teach 11 = .ok (.iload_n 2, 1) := by decide +kernel
theorem dX11_teach_12 : decode cX11_teach 12 = .ok (.invokestatic 128, 3) := by decide +kernel
theorem dX11_teach_15 : decode cX11_teach 15 = .ok (.ifCond .eq 15, 3) := by decide +kernel
theorem dX11_teach_18 : decode cX11_teach 18 = .ok (.aload_n 0, 1) := by decide +kernel
theorem dX11_teach_19 : decode cX11_teach 19 = .ok (.getfield 19, 3) := by decide +kernel
theorem dX11_teach_22 : decode cX11_teach 22 = .ok (.iload_n 1, 1) := by decide +kernel
theorem dX11_teach_23 : decode cX11_teach 23 = .ok (.iload_n 2, 1) := by decide +kernel
theorem dX11_teach_24 : decode cX11_teach 24 = .ok (.invokevirtual 131, 3) := by decide +kernel
theorem dX11_teach_27 : decode cX11_teach 27 = .ok (.ifCond .eq 5, 3) := by decide +kernel
theorem dX11_teach_30 : decode cX11_teach 30 = .ok (.iconst 0, 1) := by decide +kernel
theorem dX11_teach_31 : decode cX11_teach 31 = .ok (.ireturn, 1) := by decide +kernel
theorem dX11_teach_32 : decode cX11_teach 32 = .ok (.aload_n 0, 1) := by decide +kernel
theorem dX11_teach_33 : decode cX11_teach 33 = .ok (.getfield 49, 3) := by decide +kernel
theorem dX11_teach_36 : decode cX11_teach 36 = .ok (.aload_n 0, 1) := by decide +kernel
theorem dX11_teach_37 : decode cX11_teach 37 = .ok (.getfield 19, 3) := by decide +kernel
theorem dX11_teach_40 : decode cX11_teach 40 = .ok (.invokevirtual 135, 3) := by decide +kernel
theorem dX11_teach_43 : decode cX11_teach 43 = .ok (.aload_n 0, 1) := by decide +kernel
theorem dX11_teach_44 : decode cX11_teach 44 = .ok (.getfield 19, 3) := by decide +kernel
theorem dX11_teach_47 : decode cX11_teach 47 = .ok (.getfield 139, 3) := by decide +kernel
theorem dX11_teach_50 : decode cX11_teach 50 = .ok (.iload_n 1, 1) := by decide +kernel
theorem dX11_teach_51 : decode cX11_teach 51 = .ok (.dup2, 1) := by decide +kernel
theorem dX11_teach_52 : decode cX11_teach 52 = .ok (.iaload, 1) := by decide +kernel
theorem dX11_teach_53 : decode cX11_teach 53 = .ok (.iconst 1, 1) := by decide +kernel
theorem dX11_teach_54 : decode cX11_teach 54 = .ok (.iload_n 2, 1) := by decide +kernel
theorem dX11_teach_55 : decode cX11_teach 55 = .ok (.ishl, 1) := by decide +kernel
theorem dX11_teach_56 : decode cX11_teach 56 = .ok (.ior, 1) := by decide +kernel
theorem dX11_teach_57 : decode cX11_teach 57 = .ok (.iastore, 1) := by decide +kernel
theorem dX11_teach_58 : decode cX11_teach 58 = .ok (.iconst 1, 1) := by decide +kernel
theorem dX11_teach_59 : decode cX11_teach 59 = .ok (.ireturn, 1) := by decide +kernel
theorem dX11_text_0 : decode cX11_text 0 = .ok (.aload_n 0, 1) := by decide +kernel
theorem dX11_text_1 : decode cX11_text 1 = .ok (.getfield 42, 3) := by decide +kernel
theorem dX11_text_4 : decode cX11_text 4 = .ok (.iload_n 1, 1) := by decide +kernel
theorem dX11_text_5 : decode cX11_text 5 = .ok (.aload_n 0, 1) := by decide +kernel
theorem dX11_text_6 : decode cX11_text 6 = .ok (.getfield 10, 3) := by decide +kernel
theorem dX11_text_9 : decode cX11_text 9 = .ok (.invokevirtual 172, 3) := by decide +kernel
theorem dX11_text_12 : decode cX11_text 12 = .ok (.istore_n 2, 1) := by decide +kernel
theorem dX11_text_13 : decode cX11_text 13 = .ok (.iload_n 2, 1) := by decide +kernel
theorem dX11_text_14 : decode cX11_text 14 = .ok (.iconst (-1), 1) := by decide +kernel
theorem dX11_text_15 : decode cX11_text 15 = .ok (.if_icmp .eq 20, 3) := by decide +kernel
theorem dX11_text_18 : decode cX11_text 18 = .ok (.iload_n 1, 1) := by decide +kernel
theorem dX11_text_19 : decode cX11_text 19 = .ok (.iconst 1, 1) := by decide +kernel
theorem dX11_text_20 : decode cX11_text 20 = .ok (.if_icmp .eq 8, 3) := by decide +kernel
theorem dX11_text_23 : decode cX11_text 23 = .ok (.iload_n 1, 1) := by decide +kernel
theorem dX11_text_24 : decode cX11_text 24 = .ok (.iconst 3, 1) := by decide +kernel
theorem dX11_text_25 : decode cX11_text 25 = .ok (.if_icmp .ne 10, 3) := by decide +kernel
theorem dX11_text_28 : decode cX11_text 28 = .ok (.aload_n 0, 1) := by decide +kernel
theorem dX11_text_29 : decode cX11_text 29 = .ok (.getfield 49, 3) := by decide +kernel
theorem dX11_text_32 : decode cX11_text 32 = .ok (.invokevirtual 88, 3) := by decide +kernel
theorem dX11_text_35 : decode cX11_text 35 = .ok (.iload_n 2, 1) := by decide +kernel
theorem dX11_text_36 : decode cX11_text 36 = .ok (.ireturn, 1) := by decide +kernel
theorem dX11_treaty_0 : decode cX11_treaty 0 = .ok (.iload_n 1, 1) := by decide +kernel
theorem dX11_treaty_1 : decode cX11_treaty 1 = .ok (.ifCond .lt 8, 3) := by decide +kernel
theorem dX11_treaty_4 : decode cX11_treaty 4 = .ok (.iload_n 1, 1) := by decide +kernel
theorem dX11_treaty_5 : decode cX11_treaty 5 = .ok (.iconst 1, 1) := by decide +kernel
theorem dX11_treaty_6 : decode cX11_treaty 6 = .ok (.if_icmp .le 7, 3) := by decide +kernel
theorem dX11_treaty_9 : decode cX11_treaty 9 = .ok (.iconst (-1), 1) := by decide +kernel
theorem dX11_treaty_10 : decode cX11_treaty 10 = .ok (.goto 11, 3) := by decide +kernel
theorem dX11_treaty_13 : decode cX11_treaty 13 = .ok (.aload_n 0, 1) := by decide +kernel
theorem dX11_treaty_14 : decode cX11_treaty 14 = .ok (.getfield 67, 3) := by decide +kernel
theorem dX11_treaty_17 : decode cX11_treaty 17 = .ok (.iload_n 1, 1) := by decide +kernel
theorem dX11_treaty_18 : decode cX11_treaty 18 = .ok (.invokevirtual 264, 3) := by decide +kernel
theorem dX11_treaty_21 : decode cX11_treaty 21 = .ok (.ireturn, 1) := by decide +kernel
theorem dX11_undo_0 : decode cX11_undo 0 = .ok (.aload_n 0, 1) := by decide +kernel
theorem dX11_undo_1 : decode cX11_undo 1 = .ok (.getfield 49, 3) := by decide +kernel
theorem dX11_undo_4 : decode cX11_undo 4 = .ok (.aload_n 0, 1) := by decide +kernel
theorem dX11_undo_5 : decode cX11_undo 5 = .ok (.getfield 19, 3) := by decide +kernel
theorem dX11_undo_8 : decode cX11_undo 8 = .ok (.invokevirtual 267, 3) := by decide +kernel
theorem dX11_undo_11 : decode cX11_undo 11 = .ok (.ireturn, 1) := by decide +kernel
theorem dX11_weight_0 : decode cX11_weight 0 = .ok (.iload_n 1, 1) := by decide +kernel
theorem dX11_weight_1 : decode cX11_weight 1 = .ok (.invokestatic 128, 3) := by decide +kernel
theorem dX11_weight_4 : decode cX11_weight 4 = .ok (.ifCond .eq 15, 3) := by decide +kernel
theorem dX11_weight_7 : decode cX11_weight 7 = .ok (.aload_n 0, 1) := by decide +kernel
theorem dX11_weight_8 : decode cX11_weight 8 = .ok (.getfield 10, 3) := by decide +kernel
theorem dX11_weight_11 : decode cX11_weight 11 = .ok (.getfield 185, 3) := by decide +kernel
theorem dX11_weight_14 : decode cX11_weight 14 = .ok (.iload_n 1, 1) := by decide +kernel
theorem dX11_weight_15 : decode cX11_weight 15 = .ok (.iaload, 1) := by decide +kernel
theorem dX11_weight_16 : decode cX11_weight 16 = .ok (.goto 4, 3) := by decide +kernel
theorem dX11_weight_19 : decode cX11_weight 19 = .ok (.iconst (-1), 1) := by decide +kernel
theorem dX11_weight_20 : decode cX11_weight 20 = .ok (.ireturn, 1) := by decide +kernel
theorem dX12_aDay_0 : decode cX12_aDay 0 = .ok (.aload_n 0, 1) := by decide +kernel
theorem dX12_aDay_1 : decode cX12_aDay 1 = .ok (.getfield 7, 3) := by decide +kernel
theorem dX12_aDay_4 : decode cX12_aDay 4 = .ok (.iconst 1, 1) := by decide +kernel
theorem dX12_aDay_5 : decode cX12_aDay 5 = .ok (.iaload, 1) := by decide +kernel
theorem dX12_aDay_6 : decode cX12_aDay 6 = .ok (.iconst 1, 1) := by decide +kernel
theorem dX12_aDay_7 : decode cX12_aDay 7 = .ok (.if_icmp .ne 7, 3) := by decide +kernel
theorem dX12_aDay_10 : decode cX12_aDay 10 = .ok (.iconst 1, 1) := by decide +kernel
theorem dX12_aDay_11 : decode cX12_aDay 11 = .ok (.goto 4, 3) := by decide +kernel
theorem dX12_aDay_14 : decode cX12_aDay 14 = .ok (.iconst 0, 1) := by decide +kernel
theorem dX12_aDay_15 : decode cX12_aDay 15 = .ok (.istore_n 1, 1) := by decide +kernel
theorem dX12_aDay_16 : decode cX12_aDay 16 = .ok (.iload_n 1, 1) := by decide +kernel
theorem dX12_aDay_17 : decode cX12_aDay 17 = .ok (.ifCond .eq 7, 3) := by decide +kernel
theorem dX12_aDay_20 : decode cX12_aDay 20 = .ok (.aload_n 0, 1) := by decide +kernel
theorem dX12_aDay_21 : decode cX12_aDay 21 = .ok (.invokevirtual 406, 3) := by decide +kernel
theorem dX12_aDay_24 : decode cX12_aDay 24 = .ok (.aload_n 0, 1) := by decide +kernel
theorem dX12_aDay_25 : decode cX12_aDay 25 = .ok (.invokevirtual 409, 3) := by decide +kernel
theorem dX12_aDay_28 : decode cX12_aDay 28 = .ok (.aload_n 0, 1) := by decide +kernel
theorem dX12_aDay_29 : decode cX12_aDay 29 = .ok (.invokevirtual 411, 3) := by decide +kernel
theorem dX12_aDay_32 : decode cX12_aDay 32 = .ok (.iload_n 1, 1) := by decide +kernel
theorem dX12_aDay_33 : decode cX12_aDay 33 = .ok (.ifCond .eq 7, 3) := by decide +kernel
theorem dX12_aDay_36 : decode cX12_aDay 36 = .ok (.aload_n 0, 1) := by decide +kernel
theorem dX12_aDay_37 : decode cX12_aDay 37 = .ok (.invokevirtual 414, 3) := by decide +kernel
theorem dX12_aDay_40 : decode cX12_aDay 40 = .ok (.aload_n 0, 1) := by decide +kernel
theorem dX12_aDay_41 : decode cX12_aDay 41 = .ok (.getfield 7, 3) := by decide +kernel
theorem dX12_aDay_44 : decode cX12_aDay 44 = .ok (.iconst 0, 1) := by decide +kernel
theorem dX12_aDay_45 : decode cX12_aDay 45 = .ok (.dup2, 1) := by decide +kernel
theorem dX12_aDay_46 : decode cX12_aDay 46 = .ok (.iaload, 1) := by decide +kernel
theorem dX12_aDay_47 : decode cX12_aDay 47 = .ok (.iconst 1, 1) := by decide +kernel
theorem dX12_aDay_48 : decode cX12_aDay 48 = .ok (.iadd, 1) := by decide +kernel
theorem dX12_aDay_49 : decode cX12_aDay 49 = .ok (.iastore, 1) := by decide +kernel
theorem dX12_aDay_50 : decode cX12_aDay 50 = .ok (.return_, 1) := by decide +kernel
theorem dX12_aLine_0 : decode cX12_aLine 0 = .ok (.aload_n 0, 1) := by decide +kernel
theorem dX12_aLine_1 : decode cX12_aLine 1 = .ok (.getfield 170, 3) := by decide +kernel
theorem dX12_aLine_4 : decode cX12_aLine 4 = .ok (.bipush 20, 2) := by decide +kernel
theorem dX12_aLine_6 : decode cX12_aLine 6 = .ok (.bipush 23, 2) := by decide +kernel
theorem dX12_aLine_8 : decode cX12_aLine 8 = .ok (.invokestatic 54, 3) := by decide +kernel
theorem dX12_aLine_11 : decode cX12_aLine 11 = .ok (.ifCond .ne 9, 3) := by decide +kernel
theorem dX12_aLine_14 : decode cX12_aLine 14 = .ok (.aload_n 0, 1) := by decide +kernel
theorem dX12_aLine_15 : decode cX12_aLine 15 = .ok (.iconst 1, 1) := by decide +kernel
theorem dX12_aLine_16 : decode cX12_aLine 16 = .ok (.invokevirtual 191, 3) := by decide +kernel
theorem dX12_aLine_19 : decode cX12_aLine 19 = .ok (.ireturn, 1) := by decide +kernel
theorem dX12_aLine_20 : decode cX12_aLine 20 = .ok (.aload_n 0, 1) := by decide +kernel
theorem dX12_aLine_21 : decode cX12_aLine 21 = .ok (.getfield 232, 3) := by decide +kernel
theorem dX12_aLine_24 : decode cX12_aLine 24 = .ok (.bipush 16, 2) := by decide +kernel
theorem dX12_aLine_26 : decode cX12_aLine 26 = .ok (.if_icmp .ne 9, 3) := by decide +kernel
theorem dX12_aLine_29 : decode cX12_aLine 29 = .ok (.aload_n 0, 1) := by decide +kernel
theorem dX12_aLine_30 : decode cX12_aLine 30 = .ok (.iconst 3, 1) := by decide +kernel
theorem dX12_aLine_31 : decode cX12_aLine 31 = .ok (.invokevirtual 191, 3) := by decide +kernel
theorem dX12_aLine_34 : decode cX12_aLine 34 = .ok (.ireturn, 1) := by decide +kernel
theorem dX12_aLine_35 : decode cX12_aLine 35 = .ok (.aload_n 0, 1) := by decide +kernel
theorem dX12_aLine_36 : decode cX12_aLine 36 = .ok (.iconst 0, 1) := by decide +kernel
theorem dX12_aLine_37 : decode cX12_aLine 37 = .ok (.putfield 200, 3) := by decide +kernel
theorem dX12_aLine_40 : decode cX12_aLine 40 = .ok (.aload_n 0, 1) := by decide +kernel
theorem dX12_aLine_41 : decode cX12_aLine 41 = .ok (.getfield 22, 3) := by decide +kernel
theorem dX12_aLine_44 : decode cX12_aLine 44 = .ok (.iconst 4, 1) := by decide +kernel
theorem dX12_aLine_45 : decode cX12_aLine 45 = .ok (.aload_n 0, 1) := by decide +kernel
theorem dX12_aLine_46 : decode cX12_aLine 46 = .ok (.getfield 232, 3) := by decide +kernel
theorem dX12_aLine_49 : decode cX12_aLine 49 = .ok (.imul, 1) := by decide +kernel
theorem dX12_aLine_50 : decode cX12_aLine 50 = .ok (.iconst 3, 1) := by decide +kernel
theorem dX12_aLine_51 : decode cX12_aLine 51 = .ok (.iadd, 1) := by decide +kernel
theorem dX12_aLine_52 : decode cX12_aLine 52 = .ok (.aload_n 0, 1) := by decide +kernel
theorem dX12_aLine_53 : decode cX12_aLine 53 = .ok (.getfield 170, 3) := by decide +kernel
theorem dX12_aLine_56 : decode cX12_aLine 56 = .ok (.iastore, 1) := by decide +kernel
theorem dX12_aLine_57 : decode cX12_aLine 57 = .ok (.aload_n 0, 1) := by decide +kernel
theorem dX12_aLine_58 : decode cX12_aLine 58 = .ok (.invokevirtual 194, 3) := by decide +kernel
theorem dX12_aLine_61 : decode cX12_aLine 61 = .ok (.aload_n 0, 1) := by decide +kernel
theorem dX12_aLine_62 : decode cX12_aLine 62 = .ok (.getfield 22, 3) := by decide +kernel
theorem dX12_aLine_65 : decode cX12_aLine 65 = .ok (.iconst 4, 1) := by decide +kernel
theorem dX12_aLine_66 : decode cX12_aLine 66 = .ok (.aload_n 0, 1) := by decide +kernel
theorem dX12_aLine_67 : decode cX12_aLine 67 = .ok (.getfield 232, 3) := by decide +kernel
theorem dX12_aLine_70 : decode cX12_aLine 70 = .ok (.imul, 1) := by decide +kernel
theorem dX12_aLine_71 : decode cX12_aLine 71 = .ok (.aload_n 0, 1) := by decide +kernel
theorem dX12_aLine_72 : decode cX12_aLine 72 = .ok (.getfield 197, 3) := by decide +kernel
theorem dX12_aLine_75 : decode cX12_aLine 75 = .ok (.iastore, 1) := by decide +kernel
theorem dX12_aLine_76 : decode cX12_aLine 76 = .ok (.aload_n 0, 1) := by decide +kernel
theorem dX12_aLine_77 : decode cX12_aLine 77 = .ok (.invokevirtual 229, 3) := by decide +kernel
theorem dX12_aLine_80 : decode cX12_aLine 80 = .ok (.ifCond .ne 5, 3) := by decide +kernel
theorem dX12_aLine_83 : decode cX12_aLine 83 = .ok (.iconst 0, 1) := by decide +kernel
theorem dX12_aLine_84 : decode cX12_aLine 84 = .ok (.ireturn, 1) := by decide +kernel
theorem dX12_aLine_85 : decode cX12_aLine 85 = .ok (.aload_n 0, 1) := by decide +kernel
theorem dX12_aLine_86 : decode cX12_aLine 86 = .ok (.getfield 22, 3) := by decide +kernel
theorem dX12_aLine_89 : decode cX12_aLine 89 = .ok (.iconst 4, 1) := by decide +kernel
theorem dX12_aLine_90 : decode cX12_aLine 90 = .ok (.aload_n 0, 1) := by decide +kernel
theorem dX12_aLine_91 : decode cX12_aLine 91 = .ok (.getfield 232, 3) := by decide +kernel
theorem dX12_aLine_94 : decode cX12_aLine 94 = .ok (.imul, 1) := by decide +kernel
theorem dX12_aLine_95 : decode cX12_aLine 95 = .ok (.iconst 1, 1) := by decide +kernel
theorem dX12_aLine_96 : decode cX12_aLine 96 = .ok (.iadd, 1) := by decide +kernel
theorem dX12_aLine_97 : decode cX12_aLine 97 = .ok (.aload_n 0, 1) := by decide +kernel
theorem dX12_aLine_98 : decode cX12_aLine 98 = .ok (.getfield 197, 3) := by decide +kernel
theorem dX12_aLine_101 : decode cX12_aLine 101 = .ok (.iastore, 1) := by decide +kernel
theorem dX12_aLine_102 : decode cX12_aLine 102 = .ok (.aload_n 0, 1) := by decide +kernel
theorem dX12_aLine_103 : decode cX12_aLine 103 = .ok (.getfield 170, 3) := by decide +kernel
theorem dX12_aLine_106 : decode cX12_aLine 106 = .ok (.iconst 3, 1) := by decide +kernel
theorem dX12_aLine_107 : decode cX12_aLine 107 = .ok (.if_icmp .ne 16, 3) := by decide +kernel
theorem dX12_aLine_110 : decode cX12_aLine 110 = .ok (.aload_n 0, 1) := by decide +kernel
theorem dX12_aLine_111 : decode cX12_aLine 111 = .ok (.invokevirtual 194, 3) := by decide +kernel
theorem dX12_aLine_114 : decode cX12_aLine 114 = .ok (.aload_n 0, 1) := by decide +kernel
theorem dX12_aLine_115 : decode cX12_aLine 115 = .ok (.invokevirtual 223, 3) := by decide +kernel
theorem dX12_aLine_118 : decode cX12_aLine 118 = .ok (.ifCond .ne 5, 3) := by decide +kernel
theorem dX12_aLine_121 : decode cX12_aLine 121 = .ok (.iconst 0, 1) := by decide +kernel
theorem dX12_aLine_122 : decode cX12_aLine 122 = .ok (.ireturn, 1) := by decide +kernel
theorem dX12_aLine_123 : decode cX12_aLine 123 = .ok (.aload_n 0, 1) := by decide +kernel
theorem dX12_aLine_124 : decode cX12_aLine 124 = .ok (.getfield 22, 3) := by decide +kernel
theorem dX12_aLine_127 : decode cX12_aLine 127 = .ok (.iconst 4, 1) := by decide +kernel
theorem dX12_aLine_128 : decode cX12_aLine 128 = .ok (.aload_n 0, 1) := by decide +kernel
theorem dX12_aLine_129 : decode cX12_aLine 129 = .ok (.getfield 232, 3) := by decide +kernel
theorem dX12_aLine_132 : decode cX12_aLine 132 = .ok (.imul, 1) := by decide +kernel
theorem dX12_aLine_133 : decode cX12_aLine 133 = .ok (.iconst 2, 1) := by decide +kernel
theorem dX12_aLine_134 : decode cX12_aLine 134 = .ok (.iadd, 1) := by decide +kernel
theorem dX12_aLine_135 : decode cX12_aLine 135 = .ok (.aload_n 0, 1) := by decide +kernel
theorem dX12_aLine_136 : decode cX12_aLine 136 = .ok (.getfield 197, 3) := by decide +kernel
theorem dX12_aLine_139 : decode cX12_aLine 139 = .ok (.iastore, 1) := by decide +kernel
theorem dX12_aLine_140 : decode cX12_aLine 140 = .ok (.aload_n 0, 1) := by decide +kernel
theorem dX12_aLine_141 : decode cX12_aLine 141 = .ok (.sipush 159, 3) := by decide +kernel
theorem dX12_aLine_144 : decode cX12_aLine 144 = .ok (.invokevirtual 226, 3) := by decide +kernel
theorem dX12_aLine_147 : decode cX12_aLine 147 = .ok (.ireturn, 1) := by decide +kernel
theorem dX12_aRow_0 : decode cX12_aRow 0 = .ok (.aload_n 0, 1) := by decide +kernel
theorem dX12_aRow_1 : decode cX12_aRow 1 = .ok (.getfield 151, 3) := by decide +kernel
theorem dX12_aRow_4 : decode cX12_aRow 4 = .ok (.iconst 1, 1) := by decide +kernel
theorem dX12_aRow_5 : decode cX12_aRow 5 = .ok (.if_icmp .ne 10, 3) := by decide +kernel
theorem dX12_aRow_8 : decode cX12_aRow 8 = .ok (.aload_n 0, 1) := by decide +kernel
theorem dX12_aRow_9 : decode cX12_aRow 9 = .ok (.invokevirtual 251, 3) := by decide +kernel
theorem dX12_aRow_12 : decode cX12_aRow 12 = .ok (.goto 22, 3) := by decide +kernel
theorem dX12_aRow_15 : decode cX12_aRow 15 = .ok (.aload_n 0, 1) := by decide +kernel
theorem dX12_aRow_16 : decode cX12_aRow 16 = .ok (.getfield 151, 3) := by decide +kernel
theorem dX12_aRow_19 : decode cX12_aRow 19 = .ok (.iconst 2, 1) := by decide +kernel
theorem dX12_aRow_20 : decode cX12_aRow 20 = .ok (.if_icmp .ne 10, 3) := by decide +kernel
theorem dX12_aRow_23 : decode cX12_aRow 23 = .ok (.aload_n 0, 1) := by decide +kernel
theorem dX12_aRow_24 : decode cX12_aRow 24 = .ok (.invokevirtual 254, 3) := by decide +kernel
theorem dX12_aRow_27 : decode cX12_aRow 27 = .ok (.goto 7, 3) := by decide +kernel
theorem dX12_aRow_30 : decode cX12_aRow 30 = .ok (.aload_n 0, 1) := by decide +kernel
theorem dX12_aRow_31 : decode cX12_aRow 31 = .ok (.invokevirtual 257, 3) := by decide +kernel
theorem dX12_aRow_34 : decode cX12_aRow 34 = .ok (.ireturn, 1) := by decide +kernel
theorem dX12_aTelling_0 : decode cX12_aTelling 0 = .ok (.aload_n 0, 1) := by decide +kernel
theorem dX12_aTelling_1 : decode cX12_aTelling 1 = .ok (.iconst 0, 1) := by decide +kernel
theorem dX12_aTelling_2 : decode cX12_aTelling 2 = .ok (.aload_n 0, 1) := by decide +kernel
theorem dX12_aTelling_3 : decode cX12_aTelling 3 = .ok (.getfield 7, 3) := by decide +kernel
theorem dX12_aTelling_6 : decode cX12_aTelling 6 = .ok (.bipush 78, 2) := by decide +kernel
theorem dX12_aTelling_8 : decode cX12_aTelling 8 = .ok (.iaload, 1) := by decide +kernel
theorem dX12_aTelling_9 : decode cX12_aTelling 9 = .ok (.iconst 1, 1) := by decide +kernel
theorem dX12_aTelling_10 : decode cX12_aTelling 10 = .ok (.isub, 1) := by decide +kernel
theorem dX12_aTelling_11 : decode cX12_aTelling 11 = .ok (.invokevirtual 241, 3) := by decide +kernel
theorem dX12_aTelling_14 : decode cX12_aTelling 14 = .ok (.ifCond .ne 5, 3) := by decide +kernel
theorem dX12_aTelling_17 : decode cX12_aTelling 17 = .ok (.iconst 0, 1) := by decide +kernel
theorem dX12_aTelling_18 : decode cX12_aTelling 18 = .ok (.ireturn, 1) := by decide +kernel
theorem dX12_aTelling_19 : decode cX12_aTelling 19 = .ok (.aload_n 0, 1) := by decide +kernel
theorem dX12_aTelling_20 : decode cX12_aTelling 20 = .ok (.getfield 238, 3) := by decide +kernel
theorem dX12_aTelling_23 : decode cX12_aTelling 23 = .ok (.istore_n 1, 1) := by decide +kernel
theorem dX12_aTelling_24 : decode cX12_aTelling 24 = .ok (.aload_n 0, 1) := by decide +kernel
theorem dX12_aTelling_25 : decode cX12_aTelling 25 = .ok (.getfield 28, 3) := by decide +kernel
theorem dX12_aTelling_28 : decode cX12_aTelling 28 = .ok (.iconst 2, 1) := by decide +kernel
theorem dX12_aTelling_29 : decode cX12_aTelling 29 = .ok (.aload_n 0, 1) := by decide +kernel
theorem dX12_aTelling_30 : decode cX12_aTelling 30 = .ok (.getfield 245, 3) := by decide +kernel
theorem dX12_aTelling_33 : decode cX12_aTelling 33 = .ok (.imul, 1) := by decide +kernel
theorem dX12_aTelling_34 : decode cX12_aTelling 34 = .ok (.iload_n 1, 1) := by decide +kernel
theorem dX12_aTelling_35 : decode cX12_aTelling 35 = .ok (.iastore, 1) := by decide +kernel
theorem dX12_aTelling_36 : decode cX12_aTelling 36 = .ok (.aload_n 0, 1) := by decide +kernel
theorem dX12_aTelling_37 : decode cX12_aTelling 37 = .ok (.getfield 28, 3) := by decide +kernel
theorem dX12_aTelling_40 : decode cX12_aTelling 40 = .ok (.iconst 2, 1) := by decide +kernel
theorem dX12_aTelling_41 : decode cX12_aTelling 41 = .ok (.aload_n 0, 1) := by decide +kernel
theorem dX12_aTelling_42 : decode cX12_aTelling 42 = .ok (.getfield 245, 3) := by decide +kernel
theorem dX12_aTelling_45 : decode cX12_aTelling 45 = .ok (.imul, 1) := by decide +kernel
theorem dX12_aTelling_46 : decode cX12_aTelling 46 = .ok (.iconst 1, 1) := by decide +kernel
theorem dX12_aTelling_47 : decode cX12_aTelling 47 = .ok (.iadd, 1) := by decide +kernel
theorem dX12_aTelling_48 : decode cX12_aTelling 48 = .ok (.iconst 0, 1) := by decide +kernel
theorem dX12_aTelling_49 : decode cX12_aTelling 49 = .ok (.iastore, 1) := by decide +kernel
theorem dX12_aTelling_50 : decode cX12_aTelling 50 = .ok (.aload_n 0, 1) := by decide +kernel
theorem dX12_aTelling_51 : decode cX12_aTelling 51 = .ok (.bipush 7, 2) := by decide +kernel
theorem dX12_aTelling_53 : decode cX12_aTelling 53 = .ok (.invokevirtual 226, 3) := by decide +kernel
theorem dX12_aTelling_56 : decode cX12_aTelling 56 = .ok (.ifCond .eq 11, 3) := by decide +kernel
theorem dX12_aTelling_59 : decode cX12_aTelling 59 = .ok (.aload_n 0, 1) := by decide +kernel
theorem dX12_aTelling_60 : decode cX12_aTelling 60 = .ok (.iload_n 1, 1) := by decide +kernel
theorem dX12_aTelling_61 : decode cX12_aTelling 61 = .ok (.invokevirtual 248, 3) := by decide +kernel
theorem dX12_aTelling_64 : decode cX12_aTelling 64 = .ok (.ifCond .ne 5, 3) := by decide +kernel
theorem dX12_aTelling_67 : decode cX12_aTelling 67 = .ok (.iconst 0, 1) := by decide +kernel
theorem dX12_aTelling_68 : decode cX12_aTelling 68 = .ok (.ireturn, 1) := by decide +kernel
theorem dX12_aTelling_69 : decode cX12_aTelling 69 = .ok (.aload_n 0, 1) := by decide +kernel
theorem dX12_aTelling_70 : decode cX12_aTelling 70 = .ok (.getfield 170, 3) := by decide +kernel
theorem dX12_aTelling_73 : decode cX12_aTelling 73 = .ok (.iconst 5, 1) := by decide +kernel
theorem dX12_aTelling_74 : decode cX12_aTelling 74 = .ok (.if_icmp .ne 17, 3) := by decide +kernel
theorem dX12_aTelling_77 : decode cX12_aTelling 77 = .ok (.aload_n 0, 1) := by decide +kernel
theorem dX12_aTelling_78 : decode cX12_aTelling 78 = .ok (.invokevirtual 194, 3) := by decide +kernel
theorem dX12_aTelling_81 : decode cX12_aTelling 81 = .ok (.aload_n 0, 1) := by decide +kernel
theorem dX12_aTelling_82 : decode cX12_aTelling 82 = .ok (.iload_n 1, 1) := by decide +kernel
theorem dX12_aTelling_83 : decode cX12_aTelling 83 = .ok (.invokevirtual 248, 3) := by decide +kernel
theorem dX12_aTelling_86 : decode cX12_aTelling 86 = .ok (.ifCond .ne (-17), 3) := by decide +kernel
theorem dX12_aTelling_89 : decode cX12_aTelling 89 = .ok (.iconst 0, 1) := by decide +kernel
theorem dX12_aTelling_90 : decode cX12_aTelling 90 = .ok (.ireturn, 1) := by decide +kernel
theorem dX12_aTelling_91 : decode cX12_aTelling 91 = .ok (.aload_n 0, 1) := by decide +kernel
theorem dX12_aTelling_92 : decode cX12_aTelling 92 = .ok (.sipush 159, 3) := by decide +kernel
theorem dX12_aTelling_95 : decode cX12_aTelling 95 = .ok (.invokevirtual 226, 3) := by decide +kernel
theorem dX12_aTelling_98 : decode cX12_aTelling 98 = .ok (.ireturn, 1) := by decide +kernel
theorem dX12_aWeight_0 : decode cX12_aWeight 0 = .ok (.aload_n 0, 1) := by decide +kernel
theorem dX12_aWeight_1 : decode cX12_aWeight 1 = .ok (.bipush 8, 2) := by decide +kernel
theorem dX12_aWeight_3 : decode cX12_aWeight 3 = .ok (.invokevirtual 226, 3) := by decide +kernel
theorem dX12_aWeight_6 : decode cX12_aWeight 6 = .ok (.ifCond .eq 13, 3) := by decide +kernel
theorem dX12_aWeight_9 : decode cX12_aWeight 9 = .ok (.aload_n 0, 1) := by decide +kernel
theorem dX12_aWeight_10 : decode cX12_aWeight 10 = .ok (.iconst 0, 1) := by decide +kernel
theorem dX12_aWeight_11 : decode cX12_aWeight 11 = .ok (.bipush 7, 2) := by decide +kernel
theorem dX12_aWeight_13 : decode cX12_aWeight 13 = .ok (.invokevirtual 241, 3) := by decide +kernel
theorem dX12_aWeight_16 : decode cX12_aWeight 16 = .ok (.ifCond .ne 5, 3) := by decide +kernel
theorem dX12_aWeight_19 : decode cX12_aWeight 19 = .ok (.iconst 0, 1) := by decide +kernel
theorem dX12_aWeight_20 : decode cX12_aWeight 20 = .ok (.ireturn, 1) := by decide +kernel
theorem dX12_aWeight_21 : decode cX12_aWeight 21 = .ok (.aload_n 0, 1) := by decide +kernel
theorem dX12_aWeight_22 : decode cX12_aWeight 22 = .ok (.getfield 28, 3) := by decide +kernel
theorem dX12_aWeight_25 : decode cX12_aWeight 25 = .ok (.iconst 2, 1) := by decide +kernel
theorem dX12_aWeight_26 : decode cX12_aWeight 26 = .ok (.aload_n 0, 1) := by decide +kernel
theorem dX12_aWeight_27 : decode cX12_aWeight 27 = .ok (.getfield 245, 3) := by decide +kernel
theorem dX12_aWeight_30 : decode cX12_aWeight 30 = .ok (.imul, 1) := by decide +kernel
theorem dX12_aWeight_31 : decode cX12_aWeight 31 = .ok (.aload_n 0, 1) := by decide +kernel
theorem dX12_aWeight_32 : decode cX12_aWeight 32 = .ok (.getfield 238, 3) := by decide +kernel
theorem dX12_aWeight_35 : decode cX12_aWeight 35 = .ok (.iastore, 1) := by decide +kernel
theorem dX12_aWeight_36 : decode cX12_aWeight 36 = .ok (.aload_n 0, 1) := by decide +kernel
theorem dX12_aWeight_37 : decode cX12_aWeight 37 = .ok (.bipush 9, 2) := by decide +kernel
theorem dX12_aWeight_39 : decode cX12_aWeight 39 = .ok (.invokevirtual 226, 3) := by decide +kernel
theorem dX12_aWeight_42 : decode cX12_aWeight 42 = .ok (.ifCond .eq 13, 3) := by decide +kernel
theorem dX12_aWeight_45 : decode cX12_aWeight 45 = .ok (.aload_n 0, 1) := by decide +kernel
theorem dX12_aWeight_46 : decode cX12_aWeight 46 = .ok (.iconst 0, 1) := by decide +kernel
theorem dX12_aWeight_47 : decode cX12_aWeight 47 = .ok (.bipush 99, 2) := by decide +kernel
theorem dX12_aWeight_49 : decode cX12_aWeight 49 = .ok (.invokevirtual 241, 3) := by decide +kernel
theorem dX12_aWeight_52 : decode cX12_aWeight 52 = .ok (.ifCond .ne 5, 3) := by decide +kernel
theorem dX12_aWeight_55 : decode cX12_aWeight 55 = .ok (.iconst 0, 1) := by decide +kernel
theorem dX12_aWeight_56 : decode cX12_aWeight 56 = .ok (.ireturn, 1) := by decide +kernel
theorem dX12_aWeight_57 : decode cX12_aWeight 57 = .ok (.aload_n 0, 1) := by decide +kernel
theorem dX12_aWeight_58 : decode cX12_aWeight 58 = .ok (.getfield 28, 3) := by decide +kernel
theorem dX12_aWeight_61 : decode cX12_aWeight 61 = .ok (.iconst 2, 1) := by decide +kernel
theorem dX12_aWeight_62 : decode cX12_aWeight 62 = .ok (.aload_n 0, 1) := by decide +kernel
theorem dX12_aWeight_63 : decode cX12_aWeight 63 = .ok (.getfield 245, 3) := by decide +kernel
theorem dX12_aWeight_66 : decode cX12_aWeight 66 = .ok (.imul, 1) := by decide +kernel
theorem dX12_aWeight_67 : decode cX12_aWeight 67 = .ok (.iconst 1, 1) := by decide +kernel
theorem dX12_aWeight_68 : decode cX12_aWeight 68 = .ok (.iadd, 1) := by decide +kernel
theorem dX12_aWeight_69 : decode cX12_aWeight 69 = .ok (.aload_n 0, 1) := by decide +kernel
theorem dX12_aWeight_70 : decode cX12_aWeight 70 = .ok (.getfield 238, 3) := by decide +kernel
theorem dX12_aWeight_73 : decode cX12_aWeight 73 = .ok (.iastore, 1) := by decide +kernel
theorem dX12_aWeight_74 : decode cX12_aWeight 74 = .ok (.aload_n 0, 1) := by decide +kernel
theorem dX12_aWeight_75 : decode cX12_aWeight 75 = .ok (.sipush 159, 3) := by decide +kernel
theorem dX12_aWeight_78 : decode cX12_aWeight 78 = .ok (.invokevirtual 226, 3) := by decide +kernel
theorem dX12_aWeight_81 : decode cX12_aWeight 81 = .ok (.ireturn, 1) := by decide +kernel
theorem dX12_anOrder_0 : decode cX12_anOrder 0 = .ok (.aload_n 0, 1) := by decide +kernel
theorem dX12_anOrder_1 : decode cX12_anOrder 1 = .ok (.bipush 10, 2) := by decide +kernel
theorem dX12_anOrder_3 : decode cX12_anOrder 3 = .ok (.invokevirtual 226, 3) := by decide +kernel
theorem dX12_anOrder_6 : decode cX12_anOrder 6 = .ok (.ifCond .eq 14, 3) := by decide +kernel
theorem dX12_anOrder_9 : decode cX12_anOrder 9 = .ok (.aload_n 0, 1) := by decide +kernel
theorem dX12_anOrder_10 : decode cX12_anOrder 10 = .ok (.iconst 0, 1) := by decide +kernel
theorem dX12_anOrder_11 : decode cX12_anOrder 11 = .ok (.sipush 999, 3) := by decide +kernel
theorem dX12_anOrder_14 : decode cX12_anOrder 14 = .ok (.invokevirtual 241, 3) := by decide +kernel
theorem dX12_anOrder_17 : decode cX12_anOrder 17 = .ok (.ifCond .ne 5, 3) := by decide +kernel
theorem dX12_anOrder_20 : decode cX12_anOrder 20 = .ok (.iconst 0, 1) := by decide +kernel
theorem dX12_anOrder_21 : decode cX12_anOrder 21 = .ok (.ireturn, 1) := by decide +kernel
theorem dX12_anOrder_22 : decode cX12_anOrder 22 = .ok (.aload_n 0, 1) := by decide +kernel
theorem dX12_anOrder_23 : decode cX12_anOrder 23 = .ok (.getfield 28, 3) := by decide +kernel
theorem dX12_anOrder_26 : decode cX12_anOrder 26 = .ok (.iconst 3, 1) := by decide +kernel
theorem dX12_anOrder_27 : decode cX12_anOrder 27 = .ok (.aload_n 0, 1) := by decide +kernel
theorem dX12_anOrder_28 : decode cX12_anOrder 28 = .ok (.getfield 245, 3) := by decide +kernel
theorem dX12_anOrder_31 : decode cX12_anOrder 31 = .ok (.imul, 1) := by decide +kernel
theorem dX12_anOrder_32 : decode cX12_anOrder 32 = .ok (.aload_n 0, 1) := by decide +kernel
theorem dX12_anOrder_33 : decode cX12_anOrder 33 = .ok (.getfield 238, 3) := by decide +kernel
theorem dX12_anOrder_36 : decode cX12_anOrder 36 = .ok (.iastore, 1) := by decide +kernel
theorem dX12_anOrder_37 : decode cX12_anOrder 37 = .ok (.aload_n 0, 1) := by decide +kernel
theorem dX12_anOrder_38 : decode cX12_anOrder 38 = .ok (.getfield 170, 3) := by decide +kernel
theorem dX12_anOrder_41 : decode cX12_anOrder 41 = .ok (.bipush 11, 2) := by decide +kernel
theorem dX12_anOrder_43 : decode cX12_anOrder 43 = .ok (.if_icmp .eq 18, 3) := by decide +kernel
theorem dX12_anOrder_46 : decode cX12_anOrder 46 = .ok (.aload_n 0, 1) := by decide +kernel
theorem dX12_anOrder_47 : decode cX12_anOrder 47 = .ok (.getfield 170, 3) := by decide +kernel
theorem dX12_anOrder_50 : decode cX12_anOrder 50 = .ok (.bipush 12, 2) := by decide +kernel
theorem dX12_anOrder_52 : decode cX12_anOrder 52 = .ok (.if_icmp .eq 9, 3) := by decide +kernel
theorem dX12_anOrder_55 : decode cX12_anOrder 55 = .ok (.aload_n 0, 1) := by decide +kernel
theorem dX12_anOrder_56 : decode cX12_anOrder 56 = .ok (.iconst 1, 1) := by decide +kernel
theorem dX12_anOrder_57 : decode cX12_anOrder 57 = .ok (.invokevirtual 191, 3) := by decide +kernel
theorem dX12_anOrder_60 : decode cX12_anOrder 60 = .ok (.ireturn, 1) := by decide +kernel
theorem dX12_anOrder_61 : decode cX12_anOrder 61 = .ok (.aload_n 0, 1) := by decide +kernel
theorem dX12_anOrder_62 : decode cX12_anOrder 62 = .ok (.getfield 28, 3) := by decide +kernel
theorem dX12_anOrder_65 : decode cX12_anOrder 65 = .ok (.iconst 3, 1) := by decide +kernel
theorem dX12_anOrder_66 : decode cX12_anOrder 66 = .ok (.aload_n 0, 1) := by decide +kernel
theorem dX12_anOrder_67 : decode cX12_anOrder 67 = .ok (.getfield 245, 3) := by decide +kernel
theorem dX12_anOrder_70 : decode cX12_anOrder 70 = .ok (.imul, 1) := by decide +kernel
theorem dX12_anOrder_71 : decode cX12_anOrder 71 = .ok (.iconst 1, 1) := by decide +kernel
theorem dX12_anOrder_72 : decode cX12_anOrder 72 = .ok (.iadd, 1) := by decide +kernel
theorem dX12_anOrder_73 : decode cX12_anOrder 73 = .ok (.aload_n 0, 1) := by decide +kernel
theorem dX12_anOrder_74 : decode cX12_anOrder 74 = .ok (.getfield 170, 3) := by decide +kernel
theorem dX12_anOrder_77 : decode cX12_anOrder 77 = .ok (.iastore, 1) := by decide +kernel
theorem dX12_anOrder_78 : decode cX12_anOrder 78 = .ok (.aload_n 0, 1) := by decide +kernel
theorem dX12_anOrder_79 : decode cX12_anOrder 79 = .ok (.invokevirtual 194, 3) := by decide +kernel
theorem dX12_anOrder_82 : decode cX12_anOrder 82 = .ok (.aload_n 0, 1) := by decide +kernel
theorem dX12_anOrder_83 : decode cX12_anOrder 83 = .ok (.iconst 0, 1) := by decide +kernel
theorem dX12_anOrder_84 : decode cX12_anOrder 84 = .ok (.iconst 1, 1) := by decide +kernel
theorem dX12_anOrder_85 : decode cX12_anOrder 85 = .ok (.invokevirtual 241, 3) := by decide +kernel
theorem dX12_anOrder_88 : decode cX12_anOrder 88 = .ok (.ifCond .ne 5, 3) := by decide +kernel
theorem dX12_anOrder_91 : decode cX12_anOrder 91 = .ok (.iconst 0, 1) := by decide +kernel
theorem dX12_anOrder_92 : decode cX12_anOrder 92 = .ok (.ireturn, 1) := by decide +kernel
theorem dX12_anOrder_93 : decode cX12_anOrder 93 = .ok (.aload_n 0, 1) := by decide +kernel
theorem dX12_anOrder_94 : decode cX12_anOrder 94 = .ok (.getfield 28, 3) := by decide +kernel
theorem dX12_anOrder_97 : decode cX12_anOrder 97 = .ok (.iconst 3, 1) := by decide +kernel
theorem dX12_anOrder_98 : decode cX12_anOrder 98 = .ok (.aload_n 0, 1) := by decide +kernel
theorem dX12_anOrder_99 : decode cX12_anOrder 99 = .ok (.getfield 245, 3) := by decide +kernel
theorem dX12_anOrder_102 : decode cX12_anOrder 102 = .ok (.imul, 1) := by decide +kernel
theorem dX12_anOrder_103 : decode cX12_anOrder 103 = .ok (.iconst 2, 1) := by decide +kernel
theorem dX12_anOrder_104 : decode cX12_anOrder 104 = .ok (.iadd, 1) := by decide +kernel
theorem dX12_anOrder_105 : decode cX12_anOrder 105 = .ok (.aload_n 0, 1) := by decide +kernel
theorem dX12_anOrder_106 : decode cX12_anOrder 106 = .ok (.getfield 238, 3) := by decide +kernel
theorem dX12_anOrder_109 : decode cX12_anOrder 109 = .ok (.iastore, 1) := by decide +kernel
theorem dX12_anOrder_110 : decode cX12_anOrder 110 = .ok (.aload_n 0, 1) := by decide +kernel
theorem dX12_anOrder_111 : decode cX12_anOrder 111 = .ok (.sipush 159, 3) := by decide +kernel
theorem dX12_anOrder_114 : decode cX12_anOrder 114 = .ok (.invokevirtual 226, 3) := by decide +kernel
theorem dX12_anOrder_117 : decode cX12_anOrder 117 = .ok (.ireturn, 1) := by decide +kernel
theorem dX12_another_0 : decode cX12_another 0 = .ok (.aload_n 0, 1) := by decide +kernel
theorem dX12_another_1 : decode cX12_another 1 = .ok (.getfield 170, 3) := by decide +kernel
theorem dX12_another_4 : decode cX12_another 4 = .ok (.iconst 2, 1) := by decide +kernel
theorem dX12_another_5 : decode cX12_another 5 = .ok (.if_icmp .ne 17, 3) := by decide +kernel
theorem dX12_another_8 : decode cX12_another 8 = .ok (.aload_n 0, 1) := by decide +kernel
theorem dX12_another_9 : decode cX12_another 9 = .ok (.getfield 182, 3) := by decide +kernel
theorem dX12_another_12 : decode cX12_another 12 = .ok (.iload_n 1, 1) := by decide +kernel
theorem dX12_another_13 : decode cX12_another 13 = .ok (.if_icmp .ne 9, 3) := by decide +kernel
theorem dX12_another_16 : decode cX12_another 16 = .ok (.aload_n 0, 1) := by decide +kernel
theorem dX12_another_17 : decode cX12_another 17 = .ok (.iconst 2, 1) := by decide +kernel
theorem dX12_another_18 : decode cX12_another 18 = .ok (.invokevirtual 191, 3) := by decide +kernel
theorem dX12_another_21 : decode cX12_another 21 = .ok (.ireturn, 1) := by decide +kernel
theorem dX12_another_22 : decode cX12_another 22 = .ok (.aload_n 0, 1) := by decide +kernel
theorem dX12_another_23 : decode cX12_another 23 = .ok (.iconst 0, 1) := by decide +kernel
theorem dX12_another_24 : decode cX12_another 24 = .ok (.aload_n 0, 1) := by decide +kernel
theorem dX12_another_25 : decode cX12_another 25 = .ok (.getfield 7, 3) := by decide +kernel
theorem dX12_another_28 : decode cX12_another 28 = .ok (.bipush 78, 2) := by decide +kernel
theorem dX12_another_30 : decode cX12_another 30 = .ok (.iaload, 1) := by decide +kernel
theorem dX12_another_31 : decode cX12_another 31 = .ok (.iconst 1, 1) := by decide +kernel
theorem dX12_another_32 : decode cX12_another 32 = .ok (.isub, 1) := by decide +kernel
theorem dX12_another_33 : decode cX12_another 33 = .ok (.invokevirtual 241, 3) := by decide +kernel
theorem dX12_another_36 : decode cX12_another 36 = .ok (.ifCond .ne 5, 3) := by decide +kernel
theorem dX12_another_39 : decode cX12_another 39 = .ok (.iconst 0, 1) := by decide +kernel
theorem dX12_another_40 : decode cX12_another 40 = .ok (.ireturn, 1) := by decide +kernel
theorem dX12_another_41 : decode cX12_another 41 = .ok (.aload_n 0, 1) := by decide +kernel
theorem dX12_another_42 : decode cX12_another 42 = .ok (.getfield 28, 3) := by decide +kernel
theorem dX12_another_45 : decode cX12_another 45 = .ok (.iconst 2, 1) := by decide +kernel
theorem dX12_another_46 : decode cX12_another 46 = .ok (.aload_n 0, 1) := by decide +kernel
theorem dX12_another_47 : decode cX12_another 47 = .ok (.getfield 245, 3) := by decide +kernel
theorem dX12_another_50 : decode cX12_another 50 = .ok (.imul, 1) := by decide +kernel
theorem dX12_another_51 : decode cX12_another 51 = .ok (.iconst 1, 1) := by decide +kernel
theorem dX12_another_52 : decode cX12_another 52 = .ok (.iadd, 1) := by decide +kernel
theorem dX12_another_53 : decode cX12_another 53 = .ok (.dup2, 1) := by decide +kernel
theorem dX12_another_54 : decode cX12_another 54 = .ok (.iaload, 1) := by decide +kernel
theorem dX12_another_55 : decode cX12_another 55 = .ok (.iconst 1, 1) := by decide +kernel
theorem dX12_another_56 : decode cX12_another 56 = .ok (.aload_n 0, 1) := by decide +kernel
theorem dX12_another_57 : decode cX12_another 57 = .ok (.getfield 238, 3) := by decide +kernel
theorem dX12_another_60 : decode cX12_another 60 = .ok (.ishl, 1) := by decide +kernel
theorem dX12_another_61 : decode cX12_another 61 = .ok (.ior, 1) := by decide +kernel
theorem dX12_another_62 : decode cX12_another 62 = .ok (.iastore, 1) := by decide +kernel
theorem dX12_another_63 : decode cX12_another 63 = .ok (.iconst 1, 1) := by decide +kernel
theorem dX12_another_64 : decode cX12_another 64 = .ok (.ireturn, 1) := by decide +kernel
theorem dX12_any_0 : decode cX12_any 0 = .ok (.aload_n 0, 1) := by decide +kernel
theorem dX12_any_1 : decode cX12_any 1 = .ok (.invokevirtual 214, 3) := by decide +kernel
theorem dX12_any_4 : decode cX12_any 4 = .ok (.ifCond .ne 5, 3) := by decide +kernel
theorem dX12_any_7 : decode cX12_any 7 = .ok (.iconst 0, 1) := by decide +kernel
theorem dX12_any_8 : decode cX12_any 8 = .ok (.ireturn, 1) := by decide +kernel
theorem dX12_any_9 : decode cX12_any 9 = .ok (.aload_n 0, 1) := by decide +kernel
theorem dX12_any_10 : decode cX12_any 10 = .ok (.getfield 170, 3) := by decide +kernel
theorem dX12_any_13 : decode cX12_any 13 = .ok (.iconst 4, 1) := by decide +kernel
theorem dX12_any_14 : decode cX12_any 14 = .ok (.if_icmp .ne 26, 3) := by decide +kernel
theorem dX12_any_17 : decode cX12_any 17 = .ok (.aload_n 0, 1) := by decide +kernel
theorem dX12_any_18 : decode cX12_any 18 = .ok (.invokevirtual 194, 3) := by decide +kernel
theorem dX12_any_21 : decode cX12_any 21 = .ok (.aload_n 0, 1) := by decide +kernel
theorem dX12_any_22 : decode cX12_any 22 = .ok (.invokevirtual 214, 3) := by decide +kernel
theorem dX12_any_25 : decode cX12_any 25 = .ok (.ifCond .ne 5, 3) := by decide +kernel
theorem dX12_any_28 : decode cX12_any 28 = .ok (.iconst 0, 1) := by decide +kernel
theorem dX12_any_29 : decode cX12_any 29 = .ok (.ireturn, 1) := by decide +kernel
theorem dX12_any_30 : decode cX12_any 30 = .ok (.aload_n 0, 1) := by decide +kernel
theorem dX12_any_31 : decode cX12_any 31 = .ok (.bipush 32, 2) := by decide +kernel
theorem dX12_any_33 : decode cX12_any 33 = .ok (.iconst 0, 1) := by decide +kernel
theorem dX12_any_34 : decode cX12_any 34 = .ok (.invokevirtual 207, 3) := by decide +kernel
theorem dX12_any_37 : decode cX12_any 37 = .ok (.goto (-28), 3) := by decide +kernel
theorem dX12_any_40 : decode cX12_any 40 = .ok (.iconst 1, 1) := by decide +kernel
theorem dX12_any_41 : decode cX12_any 41 = .ok (.ireturn, 1) := by decide +kernel
theorem dX12_ask_0 : decode cX12_ask 0 = .ok (.aload_n 0, 1) := by decide +kernel
theorem dX12_ask_1 : decode cX12_ask 1 = .ok (.invokevirtual 448, 3) := by decide +kernel
theorem dX12_ask_4 : decode cX12_ask 4 = .ok (.istore_n 1, 1) := by decide +kernel
theorem dX12_ask_5 : decode cX12_ask 5 = .ok (.iload_n 1, 1) := by decide +kernel
theorem dX12_ask_6 : decode cX12_ask 6 = .ok (.invokestatic 291, 3) := by decide +kernel
theorem dX12_ask_9 : decode cX12_ask 9 = .ok (.iconst 2, 1) := by decide +kernel
theorem dX12_ask_10 : decode cX12_ask 10 = .ok (.if_icmp .ge 5, 3) := by decide +kernel
theorem dX12_ask_13 : decode cX12_ask 13 = .ok (.iconst (-1), 1) := by decide +kernel
theorem dX12_ask_14 : decode cX12_ask 14 = .ok (.ireturn, 1) := by decide +kernel
theorem dX12_ask_15 : decode cX12_ask 15 = .ok (.iconst 1, 1) := by decide +kernel
theorem dX12_ask_16 : decode cX12_ask 16 = .ok (.istore_n 2, 1) := by decide +kernel
theorem dX12_ask_17 : decode cX12_ask 17 = .ok (.iconst 2, 1) := by decide +kernel
theorem dX12_ask_18 : decode cX12_ask 18 = .ok (.istore_n 3, 1) := by decide +kernel
theorem dX12_ask_19 : decode cX12_ask 19 = .ok (.iload_n 3, 1) := by decide +kernel
theorem dX12_ask_20 : decode cX12_ask 20 = .ok (.bipush 9, 2) := by decide +kernel
theorem dX12_ask_22 : decode cX12_ask 22 = .ok (.if_icmp .gt 26, 3) := by decide +kernel
theorem dX12_ask_25 : decode cX12_ask 25 = .ok (.aload_n 0, 1) := by decide +kernel
theorem dX12_ask_26 : decode cX12_ask 26 = .ok (.iload_n 3, 1) := by decide +kernel
theorem dX12_ask_27 : decode cX12_ask 27 = .ok (.iload_n 1, 1) := by decide +kernel
theorem dX12_ask_28 : decode cX12_ask 28 = .ok (.invokevirtual 451, 3) := by decide +kernel
theorem dX12_ask_31 : decode cX12_ask 31 = .ok (.aload_n 0, 1) := by decide +kernel
theorem dX12_ask_32 : decode cX12_ask 32 = .ok (.iload_n 2, 1) := by decide +kernel
theorem dX12_ask_33 : decode cX12_ask 33 = .ok (.iload_n 1, 1) := by decide +kernel
theorem dX12_ask_34 : decode cX12_ask 34 = .ok (.invokevirtual 451, 3) := by decide +kernel
theorem dX12_ask_37 : decode cX12_ask 37 = .ok (.if_icmp .ge 5, 3) := by decide +kernel
theorem dX12_ask_40 : decode cX12_ask 40 = .ok (.iload_n 3, 1) := by decide +kernel
theorem dX12_ask_41 : decode cX12_ask 41 = .ok (.istore_n 2, 1) := by decide +kernel
theorem dX12_ask_42 : decode cX12_ask 42 = .ok (.iinc 3 1, 3) := by decide +kernel
theorem dX12_ask_45 : decode cX12_ask 45 = .ok (.goto (-26), 3) := by decide +kernel
theorem dX12_ask_48 : decode cX12_ask 48 = .ok (.iload_n 2, 1) := by decide +kernel
theorem dX12_ask_49 : decode cX12_ask 49 = .ok (.ireturn, 1) := by decide +kernel
theorem dX12_asked_0 : decode cX12_asked 0 = .ok (.aload_n 0, 1) := by decide +kernel
theorem dX12_asked_1 : decode cX12_asked 1 = .ok (.ldc 99, 2) := by decide +kernel
theorem dX12_asked_3 : decode cX12_asked 3 = .ok (.invokevirtual 101, 3) := by decide +kernel
theorem dX12_asked_6 : decode cX12_asked 6 = .ok (.ifCond .eq 6, 3) := by decide +kernel
theorem dX12_asked_9 : decode cX12_asked 9 = .ok (.bipush 41, 2) := by decide +kernel
theorem dX12_asked_11 : decode cX12_asked 11 = .ok (.ireturn, 1) := by decide +kernel
theorem dX12_asked_12 : decode cX12_asked 12 = .ok (.aload_n 0, 1) := by decide +kernel
theorem dX12_asked_13 : decode cX12_asked 13 = .ok (.ldc 105, 2) := by decide +kernel
theorem dX12_asked_15 : decode cX12_asked 15 = .ok (.invokevirtual 101, 3) := by decide +kernel
theorem dX12_asked_18 : decode cX12_asked 18 = .ok (.ifCond .eq 6, 3) := by decide +kernel
theorem dX12_asked_21 : decode cX12_asked 21 = .ok (.bipush 42, 2) := by decide +kernel
theorem dX12_asked_23 : decode cX12_asked 23 = .ok (.ireturn, 1) := by decide +kernel
theorem dX12_asked_24 : decode cX12_asked 24 = .ok (.aload_n 0, 1) := by decide +kernel
theorem dX12_asked_25 : decode cX12_asked 25 = .ok (.ldc 107, 2) := by decide +kernel
theorem dX12_asked_27 : decode cX12_asked 27 = .ok (.invokevirtual 101, 3) := by decide +kernel
theorem dX12_asked_30 : decode cX12_asked 30 = .ok (.ifCond .eq 6, 3) := by decide +kernel
theorem dX12_asked_33 : decode cX12_asked 33 = .ok (.bipush 43, 2) := by decide +kernel
theorem dX12_asked_35 : decode cX12_asked 35 = .ok (.ireturn, 1) := by decide +kernel
theorem dX12_asked_36 : decode cX12_asked 36 = .ok (.aload_n 0, 1) := by decide +kernel
theorem dX12_asked_37 : decode cX12_asked 37 = .ok (.ldc 109, 2) := by decide +kernel
theorem dX12_asked_39 : decode cX12_asked 39 = .ok (.invokevirtual 101, 3) := by decide +kernel
theorem dX12_asked_42 : decode cX12_asked 42 = .ok (.ifCond .eq 6, 3) := by decide +kernel
theorem dX12_asked_45 : decode cX12_asked 45 = .ok (.bipush 44, 2) := by decide +kernel
theorem dX12_asked_47 : decode cX12_asked 47 = .ok (.ireturn, 1) := by decide +kernel
theorem dX12_asked_48 : decode cX12_asked 48 = .ok (.aload_n 0, 1) := by decide +kernel
theorem dX12_asked_49 : decode cX12_asked 49 = .ok (.ldc 111, 2) := by decide +kernel
theorem dX12_asked_51 : decode cX12_asked 51 = .ok (.invokevirtual 101, 3) := by decide +kernel
theorem dX12_asked_54 : decode cX12_asked 54 = .ok (.ifCond .eq 6, 3) := by decide +kernel
theorem dX12_asked_57 : decode cX12_asked 57 = .ok (.bipush 45, 2) := by decide +kernel
theorem dX12_asked_59 : decode cX12_asked 59 = .ok (.ireturn, 1) := by decide +kernel
theorem dX12_asked_60 : decode cX12_asked 60 = .ok (.aload_n 0, 1) := by decide +kernel
theorem dX12_asked_61 : decode cX12_asked 61 = .ok (.ldc 112, 2) := by decide +kernel
theorem dX12_asked_63 : decode cX12_asked 63 = .ok (.invokevirtual 101, 3) := by decide +kernel
theorem dX12_asked_66 : decode cX12_asked 66 = .ok (.ifCond .eq 6, 3) := by decide +kernel
theorem dX12_asked_69 : decode cX12_asked 69 = .ok (.bipush 46, 2) := by decide +kernel
theorem dX12_asked_71 : decode cX12_asked 71 = .ok (.ireturn, 1) := by decide +kernel
theorem dX12_asked_72 : decode cX12_asked 72 = .ok (.aload_n 0, 1) := by decide +kernel
theorem dX12_asked_73 : decode cX12_asked 73 = .ok (.ldc 114, 2) := by decide +kernel
theorem dX12_asked_75 : decode cX12_asked 75 = .ok (.invokevirtual 101, 3) := by decide +kernel
theorem dX12_asked_78 : decode cX12_asked 78 = .ok (.ifCond .eq 6, 3) := by decide +kernel
theorem dX12_asked_81 : decode cX12_asked 81 = .ok (.bipush 47, 2) := by decide +kernel
theorem dX12_asked_83 : decode cX12_asked 83 = .ok (.ireturn, 1) := by decide +kernel
theorem dX12_asked_84 : decode cX12_asked 84 = .ok (.aload_n 0, 1) := by decide +kernel
theorem dX12_asked_85 : decode cX12_asked 85 = .ok (.ldc 116, 2) := by decide +kernel
theorem dX12_asked_87 : decode cX12_asked 87 = .ok (.invokevirtual 101, 3) := by decide +kernel
theorem dX12_asked_90 : decode cX12_asked 90 = .ok (.ifCond .eq 6, 3) := by decide +kernel
theorem dX12_asked_93 : decode cX12_asked 93 = .ok (.bipush 48, 2) := by decide +kernel
theorem dX12_asked_95 : decode cX12_asked 95 = .ok (.ireturn, 1) := by decide +kernel
theorem dX12_asked_96 : decode cX12_asked 96 = .ok (.aload_n 0, 1) := by decide +kernel
theorem dX12_asked_97 : decode cX12_asked 97 = .ok (.ldc 118, 2) := by decide +kernel
theorem dX12_asked_99 : decode cX12_asked 99 = .ok (.invokevirtual 101, 3) := by decide +kernel
theorem dX12_asked_102 : decode cX12_asked 102 = .ok (.ifCond .eq 8, 3) := by decide +kernel
theorem dX12_asked_105 : decode cX12_asked 105 = .ok (.bipush 49, 2) := by decide +kernel
theorem dX12_asked_107 : decode cX12_asked 107 = .ok (.goto 4, 3) := by decide +kernel
theorem dX12_asked_110 : decode cX12_asked 110 = .ok (.iconst 1, 1) := by decide +kernel
theorem dX12_asked_111 : decode cX12_asked 111 = .ok (.ireturn, 1) := by decide +kernel
theorem dX12_bad_0 : decode cX12_bad 0 = .ok (.aload_n 0, 1) := by decide +kernel
theorem dX12_bad_1 : decode cX12_bad 1 = .ok (.iload_n 1, 1) := by decide +kernel
theorem dX12_bad_2 : decode cX12_bad 2 = .ok (.putfield 185, 3) := by decide +kernel
theorem dX12_bad_5 : decode cX12_bad 5 = .ok (.aload_n 0, 1) := by decide +kernel
theorem dX12_bad_6 : decode cX12_bad 6 = .ok (.aload_n 0, 1) := by decide +kernel
theorem dX12_bad_7 : decode cX12_bad 7 = .ok (.getfield 86, 3) := by decide +kernel
theorem dX12_bad_10 : decode cX12_bad 10 = .ok (.putfield 188, 3) := by decide +kernel
theorem dX12_bad_13 : decode cX12_bad 13 = .ok (.iconst 0, 1) := by decide +kernel
theorem dX12_bad_14 : decode cX12_bad 14 = .ok (.ireturn, 1) := by decide +kernel
theorem dX12_begins_0 : decode cX12_begins 0 = .ok (.aload_n 0, 1) := by decide +kernel
theorem dX12_begins_1 : decode cX12_begins 1 = .ok (.getfield 151, 3) := by decide +kernel
theorem dX12_begins_4 : decode cX12_begins 4 = .ok (.iconst 1, 1) := by decide +kernel
theorem dX12_begins_5 : decode cX12_begins 5 = .ok (.if_icmp .ne 28, 3) := by decide +kernel
theorem dX12_begins_8 : decode cX12_begins 8 = .ok (.aload_n 0, 1) := by decide +kernel
theorem dX12_begins_9 : decode cX12_begins 9 = .ok (.getfield 170, 3) := by decide +kernel
theorem dX12_begins_12 : decode cX12_begins 12 = .ok (.iconst 2, 1) := by decide +kernel
theorem dX12_begins_13 : decode cX12_begins 13 = .ok (.if_icmp .ne 18, 3) := by decide +kernel
theorem dX12_begins_16 : decode cX12_begins 16 = .ok (.aload_n 0, 1) := by decide +kernel
theorem dX12_begins_17 : decode cX12_begins 17 = .ok (.aload_n 0, 1) := by decide +kernel
theorem dX12_begins_18 : decode cX12_begins 18 = .ok (.getfield 182, 3) := by decide +kernel
theorem dX12_begins_21 : decode cX12_begins 21 = .ok (.invokevirtual 70, 3) := by decide +kernel
theorem dX12_begins_24 : decode cX12_begins 24 = .ok (.ifCond .eq 7, 3) := by decide +kernel
theorem dX12_begins_27 : decode cX12_begins 27 = .ok (.iconst 1, 1) := by decide +kernel
theorem dX12_begins_28 : decode cX12_begins 28 = .ok (.goto 4, 3) := by decide +kernel
theorem dX12_begins_31 : decode cX12_begins 31 = .ok (.iconst 0, 1) := by decide +kernel
theorem dX12_begins_32 : decode cX12_begins 32 = .ok (.ireturn, 1) := by decide +kernel
theorem dX12_begins_33 : decode cX12_begins 33 = .ok (.aload_n 0, 1) := by decide +kernel
theorem dX12_begins_34 : decode cX12_begins 34 = .ok (.getfield 170, 3) := by decide +kernel
theorem dX12_begins_37 : decode cX12_begins 37 = .ok (.aload_n 0, 1) := by decide +kernel
theorem dX12_begins_38 : decode cX12_begins 38 = .ok (.getfield 151, 3) := by decide +kernel
theorem dX12_begins_41 : decode cX12_begins 41 = .ok (.iconst 2, 1) := by decide +kernel
theorem dX12_begins_42 : decode cX12_begins 42 = .ok (.if_icmp .ne 8, 3) := by decide +kernel
theorem dX12_begins_45 : decode cX12_begins 45 = .ok (.bipush 8, 2) := by decide +kernel
theorem dX12_begins_47 : decode cX12_begins 47 = .ok (.goto 5, 3) := by decide +kernel
theorem dX12_begins_50 : decode cX12_begins 50 = .ok (.bipush 10, 2) := by decide +kernel
theorem dX12_begins_52 : decode cX12_begins 52 = .ok (.if_icmp .ne 7, 3) := by decide +kernel
theorem dX12_begins_55 : decode cX12_begins 55 = .ok (.iconst 1, 1) := by decide +kernel
theorem dX12_begins_56 : decode cX12_begins 56 = .ok (.goto 4, 3) := by decide +kernel
theorem dX12_begins_59 : decode cX12_begins 59 = .ok (.iconst 0, 1) := by decide +kernel
theorem dX12_begins_60 : decode cX12_begins 60 = .ok (.ireturn, 1) := by decide +kernel
theorem dX12_book_0 : decode cX12_book 0 = .ok (.iload_n 1, 1) := by decide +kernel
theorem dX12_book_1 : decode cX12_book 1 = .ok (.iconst 0, 1) := by decide +kernel
theorem dX12_book_2 : decode cX12_book 2 = .ok (.aload_n 0, 1) := by decide +kernel
theorem dX12_book_3 : decode cX12_book 3 = .ok (.getfield 7, 3) := by decide +kernel
theorem dX12_book_6 : decode cX12_book 6 = .ok (.iconst 3, 1) := by decide +kernel
theorem dX12_book_7 : decode cX12_book 7 = .ok (.iaload, 1) := by decide +kernel
theorem dX12_book_8 : decode cX12_book 8 = .ok (.iconst 1, 1) := by decide +kernel
theorem dX12_book_9 : decode cX12_book 9 = .ok (.isub, 1) := by decide +kernel
theorem dX12_book_10 : decode cX12_book 10 = .ok (.invokestatic 54, 3) := by decide +kernel
theorem dX12_book_13 : decode cX12_book 13 = .ok (.ifCond .eq 29, 3) := by decide +kernel
theorem dX12_book_16 : decode cX12_book 16 = .ok (.iload_n 2, 1) := by decide +kernel
theorem dX12_book_17 : decode cX12_book 17 = .ok (.iconst 0, 1) := by decide +kernel
theorem dX12_book_18 : decode cX12_book 18 = .ok (.iconst 3, 1) := by decide +kernel
theorem dX12_book_19 : decode cX12_book 19 = .ok (.invokestatic 54, 3) := by decide +kernel
theorem dX12_book_22 : decode cX12_book 22 = .ok (.ifCond .eq 20, 3) := by decide +kernel
theorem dX12_book_25 : decode cX12_book 25 = .ok (.aload_n 0, 1) := by decide +kernel
theorem dX12_book_26 : decode cX12_book 26 = .ok (.getfield 7, 3) := by decide +kernel
theorem dX12_book_29 : decode cX12_book 29 = .ok (.sipush 300, 3) := by decide +kernel
theorem dX12_book_32 : decode cX12_book 32 = .ok (.iconst 4, 1) := by decide +kernel
theorem dX12_book_33 : decode cX12_book 33 = .ok (.iload_n 1, 1) := by decide +kernel
theorem dX12_book_34 : decode cX12_book 34 = .ok (.imul, 1) := by decide +kernel
theorem dX12_book_35 : decode cX12_book 35 = .ok (.iadd, 1) := by decide +kernel
theorem dX12_book_36 : decode cX12_book 36 = .ok (.iload_n 2, 1) := by decide +kernel
theorem dX12_book_37 : decode cX12_book 37 = .ok (.iadd, 1) := by decide +kernel
theorem dX12_book_38 : decode cX12_book 38 = .ok (.iaload, 1) := by decide +kernel
theorem dX12_book_39 : decode cX12_book 39 = .ok (.goto 5, 3) := by decide +kernel
theorem dX12_book_42 : decode cX12_book 42 = .ok (.bipush (-2), 2) := by decide +kernel
theorem dX12_book_44 : decode cX12_book 44 = .ok (.ireturn, 1) := by decide +kernel
theorem dX12_both_0 : decode cX12_both 0 = .ok (.iload_n 0, 1) := by decide +kernel
theorem dX12_both_1 : decode cX12_both 1 = .ok (.tableswitch 100 23 31 #[51, 55, 59, 100, 63, 74, 85, 100, 96], 51) := by decide +kernel
theorem dX12_both_52 : decode cX12_both 52 = .ok (.iload_n 1, 1) := by decide +kernel
theorem dX12_both_53 : decode cX12_both 53 = .ok (.iload_n 2, 1) := by decide +kernel
theorem dX12_both_54 : decode cX12_both 54 = .ok (.iadd, 1) := by decide +kernel
theorem dX12_both_55 : decode cX12_both 55 = .ok (.ireturn, 1) := by decide +kernel
theorem dX12_both_56 : decode cX12_both 56 = .ok (.iload_n 1, 1) := by decide +kernel
theorem dX12_both_57 : decode cX12_both 57 = .ok (.iload_n 2, 1) := by decide +kernel
theorem dX12_both_58 : decode cX12_both 58 = .ok (.isub, 1) := by decide +kernel
theorem dX12_both_59 : decode cX12_both 59 = .ok (.ireturn, 1) := by decide +kernel
theorem dX12_both_60 : decode cX12_both 60 = .ok (.iload_n 1, 1) := by decide +kernel
theorem dX12_both_61 : decode cX12_both 61 = .ok (.iload_n 2, 1) := by decide +kernel
theorem dX12_both_62 : decode cX12_both 62 = .ok (.imul, 1) := by decide +kernel
theorem dX12_both_63 : decode cX12_both 63 = .ok (.ireturn, 1) := by decide +kernel
theorem dX12_both_64 : decode cX12_both 64 = .ok (.iload_n 1, 1) := by decide +kernel
theorem dX12_both_65 : decode cX12_both 65 = .ok (.iload_n 2, 1) := by decide +kernel
theorem dX12_both_66 : decode cX12_both 66 = .ok (.if_icmp .ge 7, 3) := by decide +kernel
theorem dX12_both_69 : decode cX12_both 69 = .ok (.iconst 1, 1) := by decide +kernel
theorem dX12_both_70 : decode cX12_both 70 = .ok (.goto 4, 3) := by decide +kernel
theorem dX12_both_73 : decode cX12_both 73 = .ok (.iconst 0, 1) := by decide +kernel
theorem dX12_both_74 : decode cX12_both 74 = .ok (.ireturn, 1) := by decide +kernel
theorem dX12_both_75 : decode cX12_both 75 = .ok (.iload_n 1, 1) := by decide +kernel
theorem dX12_both_76 : decode cX12_both 76 = .ok (.iload_n 2, 1) := by decide +kernel
theorem dX12_both_77 : decode cX12_both 77 = .ok (.if_icmp .ne 7, 3) := by decide +kernel
theorem dX12_both_80 : decode cX12_both 80 = .ok (.iconst 1, 1) := by decide +kernel
theorem dX12_both_81 : decode cX12_both 81 = .ok (.goto 4, 3) := by decide +kernel
theorem dX12_both_84 : decode cX12_both 84 = .ok (.iconst 0, 1) := by decide +kernel
theorem dX12_both_85 : decode cX12_both 85 = .ok (.ireturn, 1) := by decide +kernel
theorem dX12_both_86 : decode cX12_both 86 = .ok (.iload_n 1, 1) := by decide +kernel
theorem dX12_both_87 : decode cX12_both 87 = .ok (.iload_n 2, 1) := by decide +kernel
theorem dX12_both_88 : decode cX12_both 88 = .ok (.if_icmp .le 7, 3) := by decide +kernel
theorem dX12_both_91 : decode cX12_both 91 = .ok (.iconst 1, 1) := by decide +kernel
theorem dX12_both_92 : decode cX12_both 92 = .ok (.goto 4, 3) := by decide +kernel
theorem dX12_both_95 : decode cX12_both 95 = .ok (.iconst 0, 1) := by decide +kernel
theorem dX12_both_96 : decode cX12_both 96 = .ok (.ireturn, 1) := by decide +kernel
theorem dX12_both_97 : decode cX12_both 97 = .ok (.iload_n 1, 1) := by decide +kernel
theorem dX12_both_98 : decode cX12_both 98 = .ok (.iload_n 2, 1) := by decide +kernel
theorem dX12_both_99 : decode cX12_both 99 = .ok (.iand, 1) := by decide +kernel
theorem dX12_both_100 : decode cX12_both 100 = .ok (.ireturn, 1) := by decide +kernel
theorem dX12_both_101 : decode cX12_both 101 = .ok (.iload_n 1, 1) := by decide +kernel
theorem dX12_both_102 : decode cX12_both 102 = .ok (.iload_n 2, 1) := by decide +kernel
theorem dX12_both_103 : decode cX12_both 103 = .ok (.ior, 1) := by decide +kernel
theorem dX12_both_104 : decode cX12_both 104 = .ok (.ireturn, 1) := by decide +kernel
theorem dX12_breathAt_0 : decode cX12_breathAt 0 = .ok (.iconst 0, 1) := by decide +kernel
theorem dX12_breathAt_1 : decode cX12_breathAt 1 = .ok (.istore_n 3, 1) := by decide +kernel
theorem dX12_breathAt_2 : decode cX12_breathAt 2 = .ok (.iconst 0, 1) := by decide +kernel
theorem dX12_breathAt_3 : decode cX12_breathAt 3 = .ok (.istore 4, 2) := by decide +kernel
theorem dX12_breathAt_5 : decode cX12_breathAt 5 = .ok (.iload 4, 2) := by decide +kernel
theorem dX12_breathAt_7 : decode cX12_breathAt 7 = .ok (.aload_n 0, 1) := by decide +kernel
theorem dX12_breathAt_8 : decode cX12_breathAt 8 = .ok (.getfield 7, 3) := by decide +kernel
theorem dX12_breathAt_11 : decode cX12_breathAt 11 = .ok (.bipush 78, 2) := by decide +kernel
theorem dX12_breathAt_13 : decode cX12_breathAt 13 = .ok (.iaload, 1) := by decide +kernel
theorem dX12_breathAt_14 : decode cX12_breathAt 14 = .ok (.if_icmp .ge 50, 3) := by decide +kernel
theorem dX12_breathAt_17 : decode cX12_breathAt 17 = .ok (.iload_n 3, 1) := by decide +kernel
theorem dX12_breathAt_18 : decode cX12_breathAt 18 = .ok (.aload_n 0, 1) := by decide +kernel
theorem dX12_breathAt_19 : decode cX12_breathAt 19 = .ok (.iload 4, 2) := by decide +kernel
theorem dX12_breathAt_21 : decode cX12_breathAt 21 = .ok (.iload_n 1, 1) := by decide +kernel
theorem dX12_breathAt_22 : decode cX12_breathAt 22 = .ok (.iconst 1, 1) := by decide +kernel
theorem dX12_breathAt_23 : decode cX12_breathAt 23 = .ok (.invokevirtual 320, 3) := by decide +kernel
theorem dX12_breathAt_26 : decode cX12_breathAt 26 = .ok (.ifCond .eq 29, 3) := by decide +kernel
theorem dX12_breathAt_29 : decode cX12_breathAt 29 = .ok (.aload_n 0, 1) := by decide +kernel
theorem dX12_breathAt_30 : decode cX12_breathAt 30 = .ok (.getfield 7, 3) := by decide +kernel
theorem dX12_breathAt_33 : decode cX12_breathAt 33 = .ok (.bipush 52, 2) := by decide +kernel
theorem dX12_breathAt_35 : decode cX12_breathAt 35 = .ok (.iload 4, 2) := by decide +kernel
theorem dX12_breathAt_37 : decode cX12_breathAt 37 = .ok (.iadd, 1) := by decide +kernel
theorem dX12_breathAt_38 : decode cX12_breathAt 38 = .ok (.iaload, 1) := by decide +kernel
theorem dX12_breathAt_39 : decode cX12_breathAt 39 = .ok (.iload_n 2, 1) := by decide +kernel
theorem dX12_breathAt_40 : decode cX12_breathAt 40 = .ok (.if_icmp .ne 15, 3) := by decide +kernel
theorem dX12_breathAt_43 : decode cX12_breathAt 43 = .ok (.aload_n 0, 1) := by decide +kernel
theorem dX12_breathAt_44 : decode cX12_breathAt 44 = .ok (.getfield 7, 3) := by decide +kernel
theorem dX12_breathAt_47 : decode cX12_breathAt 47 = .ok (.iconst 4, 1) := by decide +kernel
theorem dX12_breathAt_48 : decode cX12_breathAt 48 = .ok (.iload 4, 2) := by decide +kernel
theorem dX12_breathAt_50 : decode cX12_breathAt 50 = .ok (.iadd, 1) := by decide +kernel
theorem dX12_breathAt_51 : decode cX12_breathAt 51 = .ok (.iaload, 1) := by decide +kernel
theorem dX12_breathAt_52 : decode cX12_breathAt 52 = .ok (.goto 4, 3) := by decide +kernel
theorem dX12_breathAt_55 : decode cX12_breathAt 55 = .ok (.iconst 0, 1) := by decide +kernel
theorem dX12_breathAt_56 : decode cX12_breathAt 56 = .ok (.iadd, 1) := by decide +kernel
theorem dX12_breathAt_57 : decode cX12_breathAt 57 = .ok (.istore_n 3, 1) := by decide +kernel
theorem dX12_breathAt_58 : decode cX12_breathAt 58 = .ok (.iinc 4 1, 3) := by decide +kernel
theorem dX12_breathAt_61 : decode cX12_breathAt 61 = .ok (.goto (-56), 3) := by decide +kernel
theorem dX12_breathAt_64 : decode cX12_breathAt 64 = .ok (.iload_n 3, 1) := by decide +kernel
theorem dX12_breathAt_65 : decode cX12_breathAt 65 = .ok (.ireturn, 1) := by decide +kernel
theorem dX12_breathes_0 : decode cX12_breathes 0 = .ok (.aload_n 0, 1) := by decide +kernel
theorem dX12_breathes_1 : decode cX12_breathes 1 = .ok (.getfield 7, 3) := by decide +kernel
theorem dX12_breathes_4 : decode cX12_breathes 4 = .ok (.iconst 4, 1) := by decide +kernel
theorem dX12_breathes_5 : decode cX12_breathes 5 = .ok (.iload_n 1, 1) := by decide +kernel
theorem dX12_breathes_6 : decode cX12_breathes 6 = .ok (.iadd, 1) := by decide +kernel
theorem dX12_breathes_7 : decode cX12_breathes 7 = .ok (.bipush 99, 2) := by decide +kernel
theorem dX12_breathes_9 : decode cX12_breathes 9 = .ok (.aload_n 0, 1) := by decide +kernel
theorem dX12_breathes_10 : decode cX12_breathes 10 = .ok (.getfield 7, 3) := by decide +kernel
theorem dX12_breathes_13 : decode cX12_breathes 13 = .ok (.iconst 4, 1) := by decide +kernel
theorem dX12_breathes_14 : decode cX12_breathes 14 = .ok (.iload_n 1, 1) := by decide +kernel
theorem dX12_breathes_15 : decode cX12_breathes 15 = .ok (.iadd, 1) := by decide +kernel
theorem dX12_breathes_16 : decode cX12_breathes 16 = .ok (.iaload, 1) := by decide +kernel
theorem dX12_breathes_17 : decode cX12_breathes 17 = .ok (.iload_n 2, 1) := by decide +kernel
theorem dX12_breathes_18 : decode cX12_breathes 18 = .ok (.iadd, 1) := by decide +kernel
theorem dX12_breathes_19 : decode cX12_breathes 19 = .ok (.invokestatic 297, 3) := by decide +kernel
theorem dX12_breathes_22 : decode cX12_breathes 22 = .ok (.iastore, 1) := by decide +kernel
theorem dX12_breathes_23 : decode cX12_breathes 23 = .ok (.return_, 1) := by decide +kernel
theorem dX12_callOf_0 : decode cX12_callOf 0 = .ok (.aload_n 0, 1) := by decide +kernel
theorem dX12_callOf_1 : decode cX12_callOf 1 = .ok (.getfield 7, 3) := by decide +kernel
theorem dX12_callOf_4 : decode cX12_callOf 4 = .ok (.bipush 102, 2) := by decide +kernel
theorem dX12_callOf_6 : decode cX12_callOf 6 = .ok (.iload_n 1, 1) := by decide +kernel
theorem dX12_callOf_7 : decode cX12_callOf 7 = .ok (.iadd, 1) := by decide +kernel
theorem dX12_callOf_8 : decode cX12_callOf 8 = .ok (.iaload, 1) := by decide +kernel
theorem dX12_callOf_9 : decode cX12_callOf 9 = .ok (.aload_n 0, 1) := by decide +kernel
theorem dX12_callOf_10 : decode cX12_callOf 10 = .ok (.getfield 303, 3) := by decide +kernel
theorem dX12_callOf_13 : decode cX12_callOf 13 = .ok (.if_icmp .ge 7, 3) := by decide +kernel
theorem dX12_callOf_16 : decode cX12_callOf 16 = .ok (.iconst 0, 1) := by decide +kernel
theorem dX12_callOf_17 : decode cX12_callOf 17 = .ok (.goto 24, 3) := by decide +kernel
theorem dX12_callOf_20 : decode cX12_callOf 20 = .ok (.aload_n 0, 1) := by decide +kernel
theorem dX12_callOf_21 : decode cX12_callOf 21 = .ok (.bipush 20, 2) := by decide +kernel
theorem dX12_callOf_23 : decode cX12_callOf 23 = .ok (.iload_n 1, 1) := by decide +kernel
theorem dX12_callOf_24 : decode cX12_callOf 24 = .ok (.aload_n 0, 1) := by decide +kernel
theorem dX12_callOf_25 : decode cX12_callOf 25 = .ok (.getfield 7, 3) := by decide +kernel
theorem dX12_callOf_28 : decode cX12_callOf 28 = .ok (.bipush 102, 2) := by decide +kernel
theorem dX12_callOf_30 : decode cX12_callOf 30 = .ok (.iload_n 1, 1) := by decide +kernel
theorem dX12_callOf_31 : decode cX12_callOf 31 = .ok (.iadd, 1) := by decide +kernel
theorem dX12_callOf_32 : decode cX12_callOf 32 = .ok (.iaload, 1) := by decide +kernel
theorem dX12_callOf_33 : decode cX12_callOf 33 = .ok (.bipush 59, 2) := by decide +kernel
theorem dX12_callOf_35 : decode cX12_callOf 35 = .ok (.isub, 1) := by decide +kernel
theorem dX12_callOf_36 : decode cX12_callOf 36 = .ok (.bipush 120, 2) := by decide +kernel
theorem dX12_callOf_38 : decode cX12_callOf 38 = .ok (.invokevirtual 306, 3) := by decide +kernel
theorem dX12_callOf_41 : decode cX12_callOf 41 = .ok (.ireturn, 1) := by decide +kernel
theorem dX12_calls_0 : decode cX12_calls 0 = .ok (.iconst (-1), 1) := by decide +kernel
theorem dX12_calls_1 : decode cX12_calls 1 = .ok (.istore_n 2, 1) := by decide +kernel
theorem dX12_calls_2 : decode cX12_calls 2 = .ok (.iconst 0, 1) := by decide +kernel
theorem dX12_calls_3 : decode cX12_calls 3 = .ok (.istore_n 3, 1) := by decide +kernel
theorem dX12_calls_4 : decode cX12_calls 4 = .ok (.iload_n 3, 1) := by decide +kernel
theorem dX12_calls_5 : decode cX12_calls 5 = .ok (.aload_n 0, 1) := by decide +kernel
theorem dX12_calls_6 : decode cX12_calls 6 = .ok (.getfield 7, 3) := by decide +kernel
theorem dX12_calls_9 : decode cX12_calls 9 = .ok (.bipush 78, 2) := by decide +kernel
theorem dX12_calls_11 : decode cX12_calls 11 = .ok (.iaload, 1) := by decide +kernel
theorem dX12_calls_12 : decode cX12_calls 12 = .ok (.if_icmp .ge 38, 3) := by decide +kernel
theorem dX12_calls_15 : decode cX12_calls 15 = .ok (.aload_n 0, 1) := by decide +kernel
theorem dX12_calls_16 : decode cX12_calls 16 = .ok (.iload_n 3, 1) := by decide +kernel
theorem dX12_calls_17 : decode cX12_calls 17 = .ok (.iload_n 1, 1) := by decide +kernel
theorem dX12_calls_18 : decode cX12_calls 18 = .ok (.iconst 0, 1) := by decide +kernel
theorem dX12_calls_19 : decode cX12_calls 19 = .ok (.invokevirtual 320, 3) := by decide +kernel
theorem dX12_calls_22 : decode cX12_calls 22 = .ok (.ifCond .eq 22, 3) := by decide +kernel
theorem dX12_calls_25 : decode cX12_calls 25 = .ok (.aload_n 0, 1) := by decide +kernel
theorem dX12_calls_26 : decode cX12_calls 26 = .ok (.iload_n 3, 1) := by decide +kernel
theorem dX12_calls_27 : decode cX12_calls 27 = .ok (.invokevirtual 326, 3) := by decide +kernel
theorem dX12_calls_30 : decode cX12_calls 30 = .ok (.ifCond .le 14, 3) := by decide +kernel
theorem dX12_calls_33 : decode cX12_calls 33 = .ok (.aload_n 0, 1) := by decide +kernel
theorem dX12_calls_34 : decode cX12_calls 34 = .ok (.iload_n 3, 1) := by decide +kernel
theorem dX12_calls_35 : decode cX12_calls 35 = .ok (.iload_n 2, 1) := by decide +kernel
theorem dX12_calls_36 : decode cX12_calls 36 = .ok (.invokevirtual 329, 3) := by decide +kernel
theorem dX12_calls_39 : decode cX12_calls 39 = .ok (.ifCond .eq 5, 3) := by decide +kernel
theorem dX12_calls_42 : decode cX12_calls 42 = .ok (.iload_n 3, 1) := by decide +kernel
theorem dX12_calls_43 : decode cX12_calls 43 = .ok (.istore_n 2, 1) := by decide +kernel
theorem dX12_calls_44 : decode cX12_calls 44 = .ok (.iinc 3 1, 3) := by decide +kernel
theorem dX12_calls_47 : decode cX12_calls 47 = .ok (.goto (-43), 3) := by decide +kernel
theorem dX12_calls_50 : decode cX12_calls 50 = .ok (.iload_n 2, 1) := by decide +kernel
theorem dX12_calls_51 : decode cX12_calls 51 = .ok (.iconst (-1), 1) := by decide +kernel
theorem dX12_calls_52 : decode cX12_calls 52 = .ok (.if_icmp .ne 4, 3) := by decide +kernel
theorem dX12_calls_55 : decode cX12_calls 55 = .ok (.return_, 1) := by decide +kernel
theorem dX12_calls_56 : decode cX12_calls 56 = .ok (.aload_n 0, 1) := by decide +kernel
theorem dX12_calls_57 : decode cX12_calls 57 = .ok (.iload_n 2, 1) := by decide +kernel
theorem dX12_calls_58 : decode cX12_calls 58 = .ok (.invokevirtual 332, 3) := by decide +kernel
theorem dX12_calls_61 : decode cX12_calls 61 = .ok (.aload_n 0, 1) := by decide +kernel
theorem dX12_calls_62 : decode cX12_calls 62 = .ok (.iconst 0, 1) := by decide +kernel
theorem dX12_calls_63 : decode cX12_calls 63 = .ok (.iload_n 2, 1) := by decide +kernel
theorem dX12_calls_64 : decode cX12_calls 64 = .ok (.aload_n 0, 1) := by decide +kernel
theorem dX12_calls_65 : decode cX12_calls 65 = .ok (.getfield 7, 3) := by decide +kernel
theorem dX12_calls_68 : decode cX12_calls 68 = .ok (.bipush 52, 2) := by decide +kernel
theorem dX12_calls_70 : decode cX12_calls 70 = .ok (.iload_n 2, 1) := by decide +kernel
theorem dX12_calls_71 : decode cX12_calls 71 = .ok (.iadd, 1) := by decide +kernel
theorem dX12_calls_72 : decode cX12_calls 72 = .ok (.iaload, 1) := by decide +kernel
theorem dX12_calls_73 : decode cX12_calls 73 = .ok (.invokevirtual 336, 3) := by decide +kernel
theorem dX12_calls_76 : decode cX12_calls 76 = .ok (.return_, 1) := by decide +kernel
theorem dX12_canSet_0 : decode cX12_canSet 0 = .ok (.iload_n 1, 1) := by decide +kernel
theorem dX12_canSet_1 : decode cX12_canSet 1 = .ok (.tableswitch 164 0 6 #[43, 51, 59, 67, 90, 115, 139], 43) := by decide +kernel
theorem dX12_canSet_44 : decode cX12_canSet 44 = .ok (.iload_n 3, 1) := by decide +kernel
theorem dX12_canSet_45 : decode cX12_canSet 45 = .ok (.iconst 0, 1) := by decide +kernel
theorem dX12_canSet_46 : decode cX12_canSet 46 = .ok (.bipush 99, 2) := by decide +kernel
theorem dX12_canSet_48 : decode cX12_canSet 48 = .ok (.invokestatic 54, 3) := by decide +kernel
theorem dX12_canSet_51 : decode cX12_canSet 51 = .ok (.ireturn, 1) := by decide +kernel
theorem dX12_canSet_52 : decode cX12_canSet 52 = .ok (.iload_n 3, 1) := by decide +kernel
theorem dX12_canSet_53 : decode cX12_canSet 53 = .ok (.iconst 0, 1) := by decide +kernel
theorem dX12_canSet_54 : decode cX12_canSet 54 = .ok (.bipush 9, 2) := by decide +kernel
theorem dX12_canSet_56 : decode cX12_canSet 56 = .ok (.invokestatic 54, 3) := by decide +kernel
theorem dX12_canSet_59 : decode cX12_canSet 59 = .ok (.ireturn, 1) := by decide +kernel
theorem dX12_canSet_60 : decode cX12_canSet 60 = .ok (.iload_n 3, 1) := by decide +kernel
theorem dX12_canSet_61 : decode cX12_canSet 61 = .ok (.iconst 0, 1) := by decide +kernel
theorem dX12_canSet_62 : decode cX12_canSet 62 = .ok (.bipush 99, 2) := by decide +kernel
theorem dX12_canSet_64 : decode cX12_canSet 64 = .ok (.invokestatic 54, 3) := by decide +kernel
theorem dX12_canSet_67 : decode cX12_canSet 67 = .ok (.ireturn, 1) := by decide +kernel
theorem dX12_canSet_68 : decode cX12_canSet 68 = .ok (.iload_n 2, 1) := by decide +kernel
theorem dX12_canSet_69 : decode cX12_canSet 69 = .ok (.invokestatic 66, 3) := by decide +kernel
theorem dX12_canSet_72 : decode cX12_canSet 72 = .ok (.ifCond .eq 17, 3) := by decide +kernel
theorem dX12_canSet_75 : decode cX12_canSet 75 = .ok (.iload_n 3, 1) := by decide +kernel
theorem dX12_canSet_76 : decode cX12_canSet 76 = .ok (.iconst 0, 1) := by decide +kernel
theorem dX12_canSet_77 : decode cX12_canSet 77 = .ok (.bipush 9, 2) := by decide +kernel
theorem dX12_canSet_79 : decode cX12_canSet 79 = .ok (.invokestatic 54, 3) := by decide +kernel
theorem dX12_canSet_82 : decode cX12_canSet 82 = .ok (.ifCond .eq 7, 3) := by decide +kernel
theorem dX12_canSet_85 : decode cX12_canSet 85 = .ok (.iconst 1, 1) := by decide +kernel
theorem dX12_canSet_86 : decode cX12_canSet 86 = .ok (.goto 4, 3) := by decide +kernel
theorem dX12_canSet_89 : decode cX12_canSet 89 = .ok (.iconst 0, 1) := by decide +kernel
theorem dX12_canSet_90 : decode cX12_canSet 90 = .ok (.ireturn, 1) := by decide +kernel
theorem dX12_canSet_91 : decode cX12_canSet 91 = .ok (.iload_n 2, 1) := by decide +kernel
theorem dX12_canSet_92 : decode cX12_canSet 92 = .ok (.iconst 0, 1) := by decide +kernel
theorem dX12_canSet_93 : decode cX12_canSet 93 = .ok (.bipush 15, 2) := by decide +kernel
theorem dX12_canSet_95 : decode cX12_canSet 95 = .ok (.invokestatic 54, 3) := by decide +kernel
theorem dX12_canSet_98 : decode cX12_canSet 98 = .ok (.ifCond .eq 16, 3) := by decide +kernel
theorem dX12_canSet_101 : decode cX12_canSet 101 = .ok (.iload_n 3, 1) := by decide +kernel
theorem dX12_canSet_102 : decode cX12_canSet 102 = .ok (.iconst 0, 1) := by decide +kernel
theorem dX12_canSet_103 : decode cX12_canSet 103 = .ok (.iconst 1, 1) := by decide +kernel
theorem dX12_canSet_104 : decode cX12_canSet 104 = .ok (.invokestatic 54, 3) := by decide +kernel
theorem dX12_canSet_107 : decode cX12_canSet 107 = .ok (.ifCond .eq 7, 3) := by decide +kernel
theorem dX12_canSet_110 : decode cX12_canSet 110 = .ok (.iconst 1, 1) := by decide +kernel
theorem dX12_canSet_111 : decode cX12_canSet 111 = .ok (.goto 4, 3) := by decide +kernel
theorem dX12_canSet_114 : decode cX12_canSet 114 = .ok (.iconst 0, 1) := by decide +kernel
theorem dX12_canSet_115 : decode cX12_canSet 115 = .ok (.ireturn, 1) := by decide +kernel
theorem dX12_canSet_116 : decode cX12_canSet 116 = .ok (.aload_n 0, 1) := by decide +kernel
theorem dX12_canSet_117 : decode cX12_canSet 117 = .ok (.iload_n 2, 1) := by decide +kernel
theorem dX12_canSet_118 : decode cX12_canSet 118 = .ok (.invokevirtual 70, 3) := by decide +kernel
theorem dX12_canSet_121 : decode cX12_canSet 121 = .ok (.ifCond .eq 17, 3) := by decide +kernel
theorem dX12_canSet_124 : decode cX12_canSet 124 = .ok (.iload_n 3, 1) := by decide +kernel
theorem dX12_canSet_125 : decode cX12_canSet 125 = .ok (.iconst 0, 1) := by decide +kernel
theorem dX12_canSet_126 : decode cX12_canSet 126 = .ok (.bipush 99, 2) := by decide +kernel
theorem dX12_canSet_128 : decode cX12_canSet 128 = .ok (.invokestatic 54, 3) := by decide +kernel
theorem dX12_canSet_131 : decode cX12_canSet 131 = .ok (.ifCond .eq 7, 3) := by decide +kernel
theorem dX12_canSet_134 : decode cX12_canSet 134 = .ok (.iconst 1, 1) := by decide +kernel
theorem dX12_canSet_135 : decode cX12_canSet 135 = .ok (.goto 4, 3) := by decide +kernel
theorem dX12_canSet_138 : decode cX12_canSet 138 = .ok (.iconst 0, 1) := by decide +kernel
theorem dX12_canSet_139 : decode cX12_canSet 139 = .ok (.ireturn, 1) := by decide +kernel
theorem dX12_canSet_140 : decode cX12_canSet 140 = .ok (.aload_n 0, 1) := by decide +kernel
theorem dX12_canSet_141 : decode cX12_canSet 141 = .ok (.iload_n 2, 1) := by decide +kernel
theorem dX12_canSet_142 : decode cX12_canSet 142 = .ok (.invokevirtual 70, 3) := by decide +kernel
theorem dX12_canSet_145 : decode cX12_canSet 145 = .ok (.ifCond .eq 18, 3) := by decide +kernel
theorem dX12_canSet_148 : decode cX12_canSet 148 = .ok (.iload_n 3, 1) := by decide +kernel
theorem dX12_canSet_149 : decode cX12_canSet 149 = .ok (.iconst 0, 1) := by decide +kernel
theorem dX12_canSet_150 : decode cX12_canSet 150 = .ok (.sipush 999, 3) := by decide +kernel
theorem dX12_canSet_153 : decode cX12_canSet 153 = .ok (.invokestatic 54, 3) := by decide +kernel
theorem dX12_canSet_156 : decode cX12_canSet 156 = .ok (.ifCond .eq 7, 3) := by decide +kernel
theorem dX12_canSet_159 : decode cX12_canSet 159 = .ok (.iconst 1, 1) := by decide +kernel
theorem dX12_canSet_160 : decode cX12_canSet 160 = .ok (.goto 4, 3) := by decide +kernel
theorem dX12_canSet_163 : decode cX12_canSet 163 = .ok (.iconst 0, 1) := by decide +kernel
theorem dX12_canSet_164 : decode cX12_canSet 164 = .ok (.ireturn, 1) := by decide +kernel
theorem dX12_canSet_165 : decode cX12_canSet 165 = .ok (.iconst 0, 1) := by decide +kernel
theorem dX12_canSet_166 : decode cX12_canSet 166 = .ok (.ireturn, 1) := by decide +kernel
theorem dX12_canStand_0 : decode cX12_canStand 0 = .ok (.aload_n 0, 1) := by decide +kernel
theorem dX12_canStand_1 : decode cX12_canStand 1 = .ok (.iload_n 2, 1) := by decide +kernel
theorem dX12_canStand_2 : decode cX12_canStand 2 = .ok (.iload_n 1, 1) := by decide +kernel
theorem dX12_canStand_3 : decode cX12_canStand 3 = .ok (.iconst 0, 1) := by decide +kernel
theorem dX12_canStand_4 : decode cX12_canStand 4 = .ok (.invokevirtual 320, 3) := by decide +kernel
theorem dX12_canStand_7 : decode cX12_canStand 7 = .ok (.ifCond .eq 28, 3) := by decide +kernel
theorem dX12_canStand_10 : decode cX12_canStand 10 = .ok (.aload_n 0, 1) := by decide +kernel
theorem dX12_canStand_11 : decode cX12_canStand 11 = .ok (.getfield 7, 3) := by decide +kernel
theorem dX12_canStand_14 : decode cX12_canStand 14 = .ok (.bipush 102, 2) := by decide +kernel
theorem dX12_canStand_16 : decode cX12_canStand 16 = .ok (.iload_n 2, 1) := by decide +kernel
theorem dX12_canStand_17 : decode cX12_canStand 17 = .ok (.iadd, 1) := by decide +kernel
theorem dX12_canStand_18 : decode cX12_canStand 18 = .ok (.iaload, 1) := by decide +kernel
theorem dX12_canStand_19 : decode cX12_canStand 19 = .ok (.aload_n 0, 1) := by decide +kernel
theorem dX12_canStand_20 : decode cX12_canStand 20 = .ok (.getfield 7, 3) := by decide +kernel
theorem dX12_canStand_23 : decode cX12_canStand 23 = .ok (.bipush 102, 2) := by decide +kernel
theorem dX12_canStand_25 : decode cX12_canStand 25 = .ok (.iload_n 3, 1) := by decide +kernel
theorem dX12_canStand_26 : decode cX12_canStand 26 = .ok (.iadd, 1) := by decide +kernel
theorem dX12_canStand_27 : decode cX12_canStand 27 = .ok (.iaload, 1) := by decide +kernel
theorem dX12_canStand_28 : decode cX12_canStand 28 = .ok (.if_icmp .le 7, 3) := by decide +kernel
theorem dX12_canStand_31 : decode cX12_canStand 31 = .ok (.iconst 1, 1) := by decide +kernel
theorem dX12_canStand_32 : decode cX12_canStand 32 = .ok (.goto 4, 3) := by decide +kernel
theorem dX12_canStand_35 : decode cX12_canStand 35 = .ok (.iconst 0, 1) := by decide +kernel
theorem dX12_canStand_36 : decode cX12_canStand 36 = .ok (.ireturn, 1) := by decide +kernel
theorem dX12_comesBack_0 : decode cX12_comesBack 0 = .ok (.aload_n 0, 1) := by decide +kernel
theorem dX12_comesBack_1 : decode cX12_comesBack 1 = .ok (.getfield 7, 3) := by decide +kernel
theorem dX12_comesBack_4 : decode cX12_comesBack 4 = .ok (.bipush 40, 2) := by decide +kernel
theorem dX12_comesBack_6 : decode cX12_comesBack 6 = .ok (.iload_n 1, 1) := by decide +kernel
theorem dX12_comesBack_7 : decode cX12_comesBack 7 = .ok (.iadd, 1) := by decide +kernel
theorem dX12_comesBack_8 : decode cX12_comesBack 8 = .ok (.iaload, 1) := by decide +kernel
theorem dX12_comesBack_9 : decode cX12_comesBack 9 = .ok (.iconst 2, 1) := by decide +kernel
theorem dX12_comesBack_10 : decode cX12_comesBack 10 = .ok (.if_icmp .ne 29, 3) := by decide +kernel
theorem dX12_comesBack_13 : decode cX12_comesBack 13 = .ok (.aload_n 0, 1) := by decide +kernel
theorem dX12_comesBack_14 : decode cX12_comesBack 14 = .ok (.getfield 7, 3) := by decide +kernel
theorem dX12_comesBack_17 : decode cX12_comesBack 17 = .ok (.iconst 0, 1) := by decide +kernel
theorem dX12_comesBack_18 : decode cX12_comesBack 18 = .ok (.iaload, 1) := by decide +kernel
theorem dX12_comesBack_19 : decode cX12_comesBack 19 = .ok (.aload_n 0, 1) := by decide +kernel
theorem dX12_comesBack_20 : decode cX12_comesBack 20 = .ok (.getfield 7, 3) := by decide +kernel
theorem dX12_comesBack_23 : decode cX12_comesBack 23 = .ok (.bipush 64, 2) := by decide +kernel
theorem dX12_comesBack_25 : decode cX12_comesBack 25 = .ok (.iload_n 1, 1) := by decide +kernel
theorem dX12_comesBack_26 : decode cX12_comesBack 26 = .ok (.iadd, 1) := by decide +kernel
theorem dX12_comesBack_27 : decode cX12_comesBack 27 = .ok (.iaload, 1) := by decide +kernel
theorem dX12_comesBack_28 : decode cX12_comesBack 28 = .ok (.isub, 1) := by decide +kernel
theorem dX12_comesBack_29 : decode cX12_comesBack 29 = .ok (.aload_n 0, 1) := by decide +kernel
theorem dX12_comesBack_30 : decode cX12_comesBack 30 = .ok (.getfield 7, 3) := by decide +kernel
theorem dX12_comesBack_33 : decode cX12_comesBack 33 = .ok (.bipush 81, 2) := by decide +kernel
theorem dX12_comesBack_35 : decode cX12_comesBack 35 = .ok (.iaload, 1) := by decide +kernel
theorem dX12_comesBack_36 : decode cX12_comesBack 36 = .ok (.if_icmp .ge 4, 3) := by decide +kernel
theorem dX12_comesBack_39 : decode cX12_comesBack 39 = .ok (.return_, 1) := by decide +kernel
theorem dX12_comesBack_40 : decode cX12_comesBack 40 = .ok (.aload_n 0, 1) := by decide +kernel
theorem dX12_comesBack_41 : decode cX12_comesBack 41 = .ok (.getfield 7, 3) := by decide +kernel
theorem dX12_comesBack_44 : decode cX12_comesBack 44 = .ok (.bipush 40, 2) := by decide +kernel
theorem dX12_comesBack_46 : decode cX12_comesBack 46 = .ok (.iload_n 1, 1) := by decide +kernel
theorem dX12_comesBack_47 : decode cX12_comesBack 47 = .ok (.iadd, 1) := by decide +kernel
theorem dX12_comesBack_48 : decode cX12_comesBack 48 = .ok (.iconst 0, 1) := by decide +kernel
theorem dX12_comesBack_49 : decode cX12_comesBack 49 = .ok (.iastore, 1) := by decide +kernel
theorem dX12_comesBack_50 : decode cX12_comesBack 50 = .ok (.aload_n 0, 1) := by decide +kernel
theorem dX12_comesBack_51 : decode cX12_comesBack 51 = .ok (.iconst 5, 1) := by decide +kernel
theorem dX12_comesBack_52 : decode cX12_comesBack 52 = .ok (.iload_n 1, 1) := by decide +kernel
theorem dX12_comesBack_53 : decode cX12_comesBack 53 = .ok (.iconst 0, 1) := by decide +kernel
theorem dX12_comesBack_54 : decode cX12_comesBack 54 = .ok (.invokevirtual 336, 3) := by decide +kernel
theorem dX12_comesBack_57 : decode cX12_comesBack 57 = .ok (.return_, 1) := by decide +kernel
theorem dX12_comesTo_0 : decode cX12_comesTo 0 = .ok (.iconst 0, 1) := by decide +kernel
theorem dX12_comesTo_1 : decode cX12_comesTo 1 = .ok (.istore 4, 2) := by decide +kernel
theorem dX12_comesTo_3 : decode cX12_comesTo 3 = .ok (.iload_n 2, 1) := by decide +kernel
theorem dX12_comesTo_4 : decode cX12_comesTo 4 = .ok (.istore 5, 2) := by decide +kernel
theorem dX12_comesTo_6 : decode cX12_comesTo 6 = .ok (.iload 5, 2) := by decide +kernel
theorem dX12_comesTo_8 : decode cX12_comesTo 8 = .ok (.iload_n 3, 1) := by decide +kernel
theorem dX12_comesTo_9 : decode cX12_comesTo 9 = .ok (.if_icmp .ge 177, 3) := by decide +kernel
theorem dX12_comesTo_12 : decode cX12_comesTo 12 = .ok (.aload_n 0, 1) := by decide +kernel
theorem dX12_comesTo_13 : decode cX12_comesTo 13 = .ok (.getfield 7, 3) := by decide +kernel
theorem dX12_comesTo_16 : decode cX12_comesTo 16 = .ok (.sipush 966, 3) := by decide +kernel
theorem dX12_comesTo_19 : decode cX12_comesTo 19 = .ok (.sipush 820, 3) := by decide +kernel
theorem dX12_comesTo_22 : decode cX12_comesTo 22 = .ok (.iload_n 1, 1) := by decide +kernel
theorem dX12_comesTo_23 : decode cX12_comesTo 23 = .ok (.imul, 1) := by decide +kernel
theorem dX12_comesTo_24 : decode cX12_comesTo 24 = .ok (.iadd, 1) := by decide +kernel
theorem dX12_comesTo_25 : decode cX12_comesTo 25 = .ok (.iconst 2, 1) := by decide +kernel
theorem dX12_comesTo_26 : decode cX12_comesTo 26 = .ok (.iload 5, 2) := by decide +kernel
theorem dX12_comesTo_28 : decode cX12_comesTo 28 = .ok (.imul, 1) := by decide +kernel
theorem dX12_comesTo_29 : decode cX12_comesTo 29 = .ok (.iadd, 1) := by decide +kernel
theorem dX12_comesTo_30 : decode cX12_comesTo 30 = .ok (.iaload, 1) := by decide +kernel
theorem dX12_comesTo_31 : decode cX12_comesTo 31 = .ok (.istore 6, 2) := by decide +kernel
theorem dX12_comesTo_33 : decode cX12_comesTo 33 = .ok (.aload_n 0, 1) := by decide +kernel
theorem dX12_comesTo_34 : decode cX12_comesTo 34 = .ok (.getfield 7, 3) := by decide +kernel
theorem dX12_comesTo_37 : decode cX12_comesTo 37 = .ok (.sipush 966, 3) := by decide +kernel
theorem dX12_comesTo_40 : decode cX12_comesTo 40 = .ok (.sipush 820, 3) := by decide +kernel
theorem dX12_comesTo_43 : decode cX12_comesTo 43 = .ok (.iload_n 1, 1) := by decide +kernel
theorem dX12_comesTo_44 : decode cX12_comesTo 44 = .ok (.imul, 1) := by decide +kernel
theorem dX12_comesTo_45 : decode cX12_comesTo 45 = .ok (.iadd, 1) := by decide +kernel
theorem dX12_comesTo_46 : decode cX12_comesTo 46 = .ok (.iconst 2, 1) := by decide +kernel
theorem dX12_comesTo_47 : decode cX12_comesTo 47 = .ok (.iload 5, 2) := by decide +kernel
theorem dX12_comesTo_49 : decode cX12_comesTo 49 = .ok (.imul, 1) := by decide +kernel
theorem dX12_comesTo_50 : decode cX12_comesTo 50 = .ok (.iadd, 1) := by decide +kernel
theorem dX12_comesTo_51 : decode cX12_comesTo 51 = .ok (.iconst 1, 1) := by decide +kernel
theorem dX12_comesTo_52 : decode cX12_comesTo 52 = .ok (.iadd, 1) := by decide +kernel
theorem dX12_comesTo_53 : decode cX12_comesTo 53 = .ok (.iaload, 1) := by decide +kernel
theorem dX12_comesTo_54 : decode cX12_comesTo 54 = .ok (.istore 7, 2) := by decide +kernel
theorem dX12_comesTo_56 : decode cX12_comesTo 56 = .ok (.iload 6, 2) := by decide +kernel
theorem dX12_comesTo_58 : decode cX12_comesTo 58 = .ok (.bipush 23, 2) := by decide +kernel
theorem dX12_comesTo_60 : decode cX12_comesTo 60 = .ok (.if_icmp .ge 33, 3) := by decide +kernel
theorem dX12_comesTo_63 : decode cX12_comesTo 63 = .ok (.aload_n 0, 1) := by decide +kernel
theorem dX12_comesTo_64 : decode cX12_comesTo 64 = .ok (.getfield 34, 3) := by decide +kernel
theorem dX12_comesTo_67 : decode cX12_comesTo 67 = .ok (.iload 4, 2) := by decide +kernel
theorem dX12_comesTo_69 : decode cX12_comesTo 69 = .ok (.iload 6, 2) := by decide +kernel
theorem dX12_comesTo_71 : decode cX12_comesTo 71 = .ok (.ifCond .ne 8, 3) := by decide +kernel
theorem dX12_comesTo_74 : decode cX12_comesTo 74 = .ok (.iload 7, 2) := by decide +kernel
theorem dX12_comesTo_76 : decode cX12_comesTo 76 = .ok (.goto 10, 3) := by decide +kernel
theorem dX12_comesTo_79 : decode cX12_comesTo 79 = .ok (.aload_n 0, 1) := by decide +kernel
theorem dX12_comesTo_80 : decode cX12_comesTo 80 = .ok (.getfield 37, 3) := by decide +kernel
theorem dX12_comesTo_83 : decode cX12_comesTo 83 = .ok (.iload 6, 2) := by decide +kernel
theorem dX12_comesTo_85 : decode cX12_comesTo 85 = .ok (.iaload, 1) := by decide +kernel
theorem dX12_comesTo_86 : decode cX12_comesTo 86 = .ok (.iastore, 1) := by decide +kernel
theorem dX12_comesTo_87 : decode cX12_comesTo 87 = .ok (.iinc 4 1, 3) := by decide +kernel
theorem dX12_comesTo_90 : decode cX12_comesTo 90 = .ok (.goto 90, 3) := by decide +kernel
theorem dX12_comesTo_93 : decode cX12_comesTo 93 = .ok (.iload 6, 2) := by decide +kernel
theorem dX12_comesTo_95 : decode cX12_comesTo 95 = .ok (.bipush 26, 2) := by decide +kernel
theorem dX12_comesTo_97 : decode cX12_comesTo 97 = .ok (.if_icmp .ne 20, 3) := by decide +kernel
theorem dX12_comesTo_100 : decode cX12_comesTo 100 = .ok (.aload_n 0, 1) := by decide +kernel
theorem dX12_comesTo_101 : decode cX12_comesTo 101 = .ok (.getfield 34, 3) := by decide +kernel
theorem dX12_comesTo_104 : decode cX12_comesTo 104 = .ok (.iload 4, 2) := by decide +kernel
theorem dX12_comesTo_106 : decode cX12_comesTo 106 = .ok (.iconst 1, 1) := by decide +kernel
theorem dX12_comesTo_107 : decode cX12_comesTo 107 = .ok (.isub, 1) := by decide +kernel
theorem dX12_comesTo_108 : decode cX12_comesTo 108 = .ok (.dup2, 1) := by decide +kernel
theorem dX12_comesTo_109 : decode cX12_comesTo 109 = .ok (.iaload, 1) := by decide +kernel
theorem dX12_comesTo_110 : decode cX12_comesTo 110 = .ok (.iload 7, 2) := by decide +kernel
theorem dX12_comesTo_112 : decode cX12_comesTo 112 = .ok (.idiv, 1) := by decide +kernel
theorem dX12_comesTo_113 : decode cX12_comesTo 113 = .ok (.iastore, 1) := by decide +kernel
theorem dX12_comesTo_114 : decode cX12_comesTo 114 = .ok (.goto 66, 3) := by decide +kernel
theorem dX12_comesTo_117 : decode cX12_comesTo 117 = .ok (.iload 6, 2) := by decide +kernel
theorem dX12_comesTo_119 : decode cX12_comesTo 119 = .ok (.bipush 30, 2) := by decide +kernel
theorem dX12_comesTo_121 : decode cX12_comesTo 121 = .ok (.if_icmp .ne 26, 3) := by decide +kernel
theorem dX12_comesTo_124 : decode cX12_comesTo 124 = .ok (.aload_n 0, 1) := by decide +kernel
theorem dX12_comesTo_125 : decode cX12_comesTo 125 = .ok (.getfield 34, 3) := by decide +kernel
theorem dX12_comesTo_128 : decode cX12_comesTo 128 = .ok (.iload 4, 2) := by decide +kernel
theorem dX12_comesTo_130 : decode cX12_comesTo 130 = .ok (.iconst 1, 1) := by decide +kernel
theorem dX12_comesTo_131 : decode cX12_comesTo 131 = .ok (.isub, 1) := by decide +kernel
theorem dX12_comesTo_132 : decode cX12_comesTo 132 = .ok (.iconst 1, 1) := by decide +kernel
theorem dX12_comesTo_133 : decode cX12_comesTo 133 = .ok (.aload_n 0, 1) := by decide +kernel
theorem dX12_comesTo_134 : decode cX12_comesTo 134 = .ok (.getfield 34, 3) := by decide +kernel
theorem dX12_comesTo_137 : decode cX12_comesTo 137 = .ok (.iload 4, 2) := by decide +kernel
theorem dX12_comesTo_139 : decode cX12_comesTo 139 = .ok (.iconst 1, 1) := by decide +kernel
theorem dX12_comesTo_140 : decode cX12_comesTo 140 = .ok (.isub, 1) := by decide +kernel
theorem dX12_comesTo_141 : decode cX12_comesTo 141 = .ok (.iaload, 1) := by decide +kernel
theorem dX12_comesTo_142 : decode cX12_comesTo 142 = .ok (.isub, 1) := by decide +kernel
theorem dX12_comesTo_143 : decode cX12_comesTo 143 = .ok (.iastore, 1) := by decide +kernel
theorem dX12_comesTo_144 : decode cX12_comesTo 144 = .ok (.goto 36, 3) := by decide +kernel
theorem dX12_comesTo_147 : decode cX12_comesTo 147 = .ok (.iinc 4 (-1), 3) := by decide +kernel
theorem dX12_comesTo_150 : decode cX12_comesTo 150 = .ok (.aload_n 0, 1) := by decide +kernel
theorem dX12_comesTo_151 : decode cX12_comesTo 151 = .ok (.getfield 34, 3) := by decide +kernel
theorem dX12_comesTo_154 : decode cX12_comesTo 154 = .ok (.iload 4, 2) := by decide +kernel
theorem dX12_comesTo_156 : decode cX12_comesTo 156 = .ok (.iconst 1, 1) := by decide +kernel
theorem dX12_comesTo_157 : decode cX12_comesTo 157 = .ok (.isub, 1) := by decide +kernel
theorem dX12_comesTo_158 : decode cX12_comesTo 158 = .ok (.iload 6, 2) := by decide +kernel
theorem dX12_comesTo_160 : decode cX12_comesTo 160 = .ok (.aload_n 0, 1) := by decide +kernel
theorem dX12_comesTo_161 : decode cX12_comesTo 161 = .ok (.getfield 34, 3) := by decide +kernel
theorem dX12_comesTo_164 : decode cX12_comesTo 164 = .ok (.iload 4, 2) := by decide +kernel
theorem dX12_comesTo_166 : decode cX12_comesTo 166 = .ok (.iconst 1, 1) := by decide +kernel
theorem dX12_comesTo_167 : decode cX12_comesTo 167 = .ok (.isub, 1) := by decide +kernel
theorem dX12_comesTo_168 : decode cX12_comesTo 168 = .ok (.iaload, 1) := by decide +kernel
theorem dX12_comesTo_169 : decode cX12_comesTo 169 = .ok (.aload_n 0, 1) := by decide +kernel
theorem dX12_comesTo_170 : decode cX12_comesTo 170 = .ok (.getfield 34, 3) := by decide +kernel
theorem dX12_comesTo_173 : decode cX12_comesTo 173 = .ok (.iload 4, 2) := by decide +kernel
theorem dX12_comesTo_175 : decode cX12_comesTo 175 = .ok (.iaload, 1) := by decide +kernel
theorem dX12_comesTo_176 : decode cX12_comesTo 176 = .ok (.invokestatic 285, 3) := by decide +kernel
theorem dX12_comesTo_179 : decode cX12_comesTo 179 = .ok (.iastore, 1) := by decide +kernel
theorem dX12_comesTo_180 : decode cX12_comesTo 180 = .ok (.iinc 5 1, 3) := by decide +kernel
theorem dX12_comesTo_183 : decode cX12_comesTo 183 = .ok (.goto (-177), 3) := by decide +kernel
theorem dX12_comesTo_186 : decode cX12_comesTo 186 = .ok (.aload_n 0, 1) := by decide +kernel
theorem dX12_comesTo_187 : decode cX12_comesTo 187 = .ok (.getfield 34, 3) := by decide +kernel
theorem dX12_comesTo_190 : decode cX12_comesTo 190 = .ok (.iconst 0, 1) := by decide +kernel
theorem dX12_comesTo_191 : decode cX12_comesTo 191 = .ok (.iaload, 1) := by decide +kernel
theorem dX12_comesTo_192 : decode cX12_comesTo 192 = .ok (.ireturn, 1) := by decide +kernel
theorem dX12_couldLeave_0 : decode cX12_couldLeave 0 = .ok (.iconst 0, 1) := by decide +kernel
theorem dX12_couldLeave_1 : decode cX12_couldLeave 1 = .ok (.istore_n 2, 1) := by decide +kernel
theorem dX12_couldLeave_2 : decode cX12_couldLeave 2 = .ok (.iload_n 2, 1) := by decide +kernel
theorem dX12_couldLeave_3 : decode cX12_couldLeave 3 = .ok (.aload_n 0, 1) := by decide +kernel
theorem dX12_couldLeave_4 : decode cX12_couldLeave 4 = .ok (.getfield 7, 3) := by decide +kernel
theorem dX12_couldLeave_7 : decode cX12_couldLeave 7 = .ok (.bipush 88, 2) := by decide +kernel
theorem dX12_couldLeave_9 : decode cX12_couldLeave 9 = .ok (.iaload, 1) := by decide +kernel
theorem dX12_couldLeave_10 : decode cX12_couldLeave 10 = .ok (.if_icmp .ge 77, 3) := by decide +kernel
theorem dX12_couldLeave_13 : decode cX12_couldLeave 13 = .ok (.sipush 270, 3) := by decide +kernel
theorem dX12_couldLeave_16 : decode cX12_couldLeave 16 = .ok (.iconst 3, 1) := by decide +kernel
theorem dX12_couldLeave_17 : decode cX12_couldLeave 17 = .ok (.iload_n 2, 1) := by decide +kernel
theorem dX12_couldLeave_18 : decode cX12_couldLeave 18 = .ok (.imul, 1) := by decide +kernel
theorem dX12_couldLeave_19 : decode cX12_couldLeave 19 = .ok (.iadd, 1) := by decide +kernel
theorem dX12_couldLeave_20 : decode cX12_couldLeave 20 = .ok (.istore_n 3, 1) := by decide +kernel
theorem dX12_couldLeave_21 : decode cX12_couldLeave 21 = .ok (.aload_n 0, 1) := by decide +kernel
theorem dX12_couldLeave_22 : decode cX12_couldLeave 22 = .ok (.getfield 7, 3) := by decide +kernel
theorem dX12_couldLeave_25 : decode cX12_couldLeave 25 = .ok (.iload_n 3, 1) := by decide +kernel
theorem dX12_couldLeave_26 : decode cX12_couldLeave 26 = .ok (.iconst 1, 1) := by decide +kernel
theorem dX12_couldLeave_27 : decode cX12_couldLeave 27 = .ok (.iadd, 1) := by decide +kernel
theorem dX12_couldLeave_28 : decode cX12_couldLeave 28 = .ok (.iaload, 1) := by decide +kernel
theorem dX12_couldLeave_29 : decode cX12_couldLeave 29 = .ok (.aload_n 0, 1) := by decide +kernel
theorem dX12_couldLeave_30 : decode cX12_couldLeave 30 = .ok (.getfield 7, 3) := by decide +kernel
theorem dX12_couldLeave_33 : decode cX12_couldLeave 33 = .ok (.bipush 114, 2) := by decide +kernel
theorem dX12_couldLeave_35 : decode cX12_couldLeave 35 = .ok (.iload_n 1, 1) := by decide +kernel
theorem dX12_couldLeave_36 : decode cX12_couldLeave 36 = .ok (.iadd, 1) := by decide +kernel
theorem dX12_couldLeave_37 : decode cX12_couldLeave 37 = .ok (.iaload, 1) := by decide +kernel
theorem dX12_couldLeave_38 : decode cX12_couldLeave 38 = .ok (.aload_n 0, 1) := by decide +kernel
theorem dX12_couldLeave_39 : decode cX12_couldLeave 39 = .ok (.getfield 7, 3) := by decide +kernel
theorem dX12_couldLeave_42 : decode cX12_couldLeave 42 = .ok (.iload_n 3, 1) := by decide +kernel
theorem dX12_couldLeave_43 : decode cX12_couldLeave 43 = .ok (.iaload, 1) := by decide +kernel
theorem dX12_couldLeave_44 : decode cX12_couldLeave 44 = .ok (.imul, 1) := by decide +kernel
theorem dX12_couldLeave_45 : decode cX12_couldLeave 45 = .ok (.if_icmp .gt 34, 3) := by decide +kernel
theorem dX12_couldLeave_48 : decode cX12_couldLeave 48 = .ok (.aload_n 0, 1) := by decide +kernel
theorem dX12_couldLeave_49 : decode cX12_couldLeave 49 = .ok (.getfield 7, 3) := by decide +kernel
theorem dX12_couldLeave_52 : decode cX12_couldLeave 52 = .ok (.iload_n 3, 1) := by decide +kernel
theorem dX12_couldLeave_53 : decode cX12_couldLeave 53 = .ok (.iconst 2, 1) := by decide +kernel
theorem dX12_couldLeave_54 : decode cX12_couldLeave 54 = .ok (.iadd, 1) := by decide +kernel
theorem dX12_couldLeave_55 : decode cX12_couldLeave 55 = .ok (.iaload, 1) := by decide +kernel
theorem dX12_couldLeave_56 : decode cX12_couldLeave 56 = .ok (.ifCond .le 25, 3) := by decide +kernel
theorem dX12_couldLeave_59 : decode cX12_couldLeave 59 = .ok (.aload_n 0, 1) := by decide +kernel
theorem dX12_couldLeave_60 : decode cX12_couldLeave 60 = .ok (.getfield 7, 3) := by decide +kernel
theorem dX12_couldLeave_63 : decode cX12_couldLeave 63 = .ok (.iload_n 3, 1) := by decide +kernel
theorem dX12_couldLeave_64 : decode cX12_couldLeave 64 = .ok (.iconst 2, 1) := by decide +kernel
theorem dX12_couldLeave_65 : decode cX12_couldLeave 65 = .ok (.iadd, 1) := by decide +kernel
theorem dX12_couldLeave_66 : decode cX12_couldLeave 66 = .ok (.iaload, 1) := by decide +kernel
theorem dX12_couldLeave_67 : decode cX12_couldLeave 67 = .ok (.aload_n 0, 1) := by decide +kernel
theorem dX12_couldLeave_68 : decode cX12_couldLeave 68 = .ok (.getfield 7, 3) := by decide +kernel
theorem dX12_couldLeave_71 : decode cX12_couldLeave 71 = .ok (.bipush 114, 2) := by decide +kernel
theorem dX12_couldLeave_73 : decode cX12_couldLeave 73 = .ok (.iload_n 1, 1) := by decide +kernel
theorem dX12_couldLeave_74 : decode cX12_couldLeave 74 = .ok (.iadd, 1) := by decide +kernel
theorem dX12_couldLeave_75 : decode cX12_couldLeave 75 = .ok (.iaload, 1) := by decide +kernel
theorem dX12_couldLeave_76 : decode cX12_couldLeave 76 = .ok (.if_icmp .eq 5, 3) := by decide +kernel
theorem dX12_couldLeave_79 : decode cX12_couldLeave 79 = .ok (.iconst 0, 1) := by decide +kernel
theorem dX12_couldLeave_80 : decode cX12_couldLeave 80 = .ok (.ireturn, 1) := by decide +kernel
theorem dX12_couldLeave_81 : decode cX12_couldLeave 81 = .ok (.iinc 2 1, 3) := by decide +kernel
theorem dX12_couldLeave_84 : decode cX12_couldLeave 84 = .ok (.goto (-82), 3) := by decide +kernel
theorem dX12_couldLeave_87 : decode cX12_couldLeave 87 = .ok (.iconst 1, 1) := by decide +kernel
theorem dX12_couldLeave_88 : decode cX12_couldLeave 88 = .ok (.ireturn, 1) := by decide +kernel
theorem dX12_count_0 : decode cX12_count 0 = .ok (.iconst 0, 1) := by decide +kernel
theorem dX12_count_1 : decode cX12_count 1 = .ok (.istore_n 1, 1) := by decide +kernel
theorem dX12_count_2 : decode cX12_count 2 = .ok (.iconst 0, 1) := by decide +kernel
theorem dX12_count_3 : decode cX12_count 3 = .ok (.istore_n 2, 1) := by decide +kernel
theorem dX12_count_4 : decode cX12_count 4 = .ok (.iload_n 2, 1) := by decide +kernel
theorem dX12_count_5 : decode cX12_count 5 = .ok (.bipush 16, 2) := by decide +kernel
theorem dX12_count_7 : decode cX12_count 7 = .ok (.if_icmp .ge 17, 3) := by decide +kernel
theorem dX12_count_10 : decode cX12_count 10 = .ok (.iload_n 1, 1) := by decide +kernel
theorem dX12_count_11 : decode cX12_count 11 = .ok (.iload_n 0, 1) := by decide +kernel
theorem dX12_count_12 : decode cX12_count 12 = .ok (.iload_n 2, 1) := by decide +kernel
theorem dX12_count_13 : decode cX12_count 13 = .ok (.ishr, 1) := by decide +kernel
theorem dX12_count_14 : decode cX12_count 14 = .ok (.iconst 1, 1) := by decide +kernel
theorem dX12_count_15 : decode cX12_count 15 = .ok (.iand, 1) := by decide +kernel
theorem dX12_count_16 : decode cX12_count 16 = .ok (.iadd, 1) := by decide +kernel
theorem dX12_count_17 : decode cX12_count 17 = .ok (.istore_n 1, 1) := by decide +kernel
theorem dX12_count_18 : decode cX12_count 18 = .ok (.iinc 2 1, 3) := by decide +kernel
theorem dX12_count_21 : decode cX12_count 21 = .ok (.goto (-17), 3) := by decide +kernel
theorem dX12_count_24 : decode cX12_count 24 = .ok (.iload_n 1, 1) := by decide +kernel
theorem dX12_count_25 : decode cX12_count 25 = .ok (.ireturn, 1) := by decide +kernel
theorem dX12_country_0 : decode cX12_country 0 = .ok (.iload_n 1, 1) := by decide +kernel
theorem dX12_country_1 : decode cX12_country 1 = .ok (.invokestatic 66, 3) := by decide +kernel
theorem dX12_country_4 : decode cX12_country 4 = .ok (.ifCond .ne 5, 3) := by decide +kernel
theorem dX12_country_7 : decode cX12_country 7 = .ok (.iconst (-1), 1) := by decide +kernel
theorem dX12_country_8 : decode cX12_country 8 = .ok (.ireturn, 1) := by decide +kernel
theorem dX12_country_9 : decode cX12_country 9 = .ok (.iload_n 2, 1) := by decide +kernel
theorem dX12_country_10 : decode cX12_country 10 = .ok (.tableswitch 80 0 4 #[34, 40, 46, 56, 66], 34) := by decide +kernel
theorem dX12_country_44 : decode cX12_country 44 = .ok (.aload_n 0, 1) := by decide +kernel
theorem dX12_country_45 : decode cX12_country 45 = .ok (.iload_n 1, 1) := by decide +kernel
theorem dX12_country_46 : decode cX12_country 46 = .ok (.invokevirtual 385, 3) := by decide +kernel
theorem dX12_country_49 : decode cX12_country 49 = .ok (.ireturn, 1) := by decide +kernel
theorem dX12_country_50 : decode cX12_country 50 = .ok (.aload_n 0, 1) := by decide +kernel
theorem dX12_country_51 : decode cX12_country 51 = .ok (.iload_n 1, 1) := by decide +kernel
theorem dX12_country_52 : decode cX12_country 52 = .ok (.invokevirtual 379, 3) := by decide +kernel
theorem dX12_country_55 : decode cX12_country 55 = .ok (.ireturn, 1) := by decide +kernel
theorem dX12_country_56 : decode cX12_country 56 = .ok (.aload_n 0, 1) := by decide +kernel
theorem dX12_country_57 : decode cX12_country 57 = .ok (.aload_n 0, 1) := by decide +kernel
theorem dX12_country_58 : decode cX12_country 58 = .ok (.iload_n 1, 1) := by decide +kernel
theorem dX12_country_59 : decode cX12_country 59 = .ok (.invokevirtual 379, 3) := by decide +kernel
theorem dX12_country_62 : decode cX12_country 62 = .ok (.invokevirtual 382, 3) := by decide +kernel
theorem dX12_country_65 : decode cX12_country 65 = .ok (.ireturn, 1) := by decide +kernel
theorem dX12_country_66 : decode cX12_country 66 = .ok (.aload_n 0, 1) := by decide +kernel
theorem dX12_country_67 : decode cX12_country 67 = .ok (.getfield 7, 3) := by decide +kernel
theorem dX12_country_70 : decode cX12_country 70 = .ok (.bipush 82, 2) := by decide +kernel
theorem dX12_country_72 : decode cX12_country 72 = .ok (.iload_n 1, 1) := by decide +kernel
theorem dX12_country_73 : decode cX12_country 73 = .ok (.iadd, 1) := by decide +kernel
theorem dX12_country_74 : decode cX12_country 74 = .ok (.iaload, 1) := by decide +kernel
theorem dX12_country_75 : decode cX12_country 75 = .ok (.ireturn, 1) := by decide +kernel
theorem dX12_country_76 : decode cX12_country 76 = .ok (.aload_n 0, 1) := by decide +kernel
theorem dX12_country_77 : decode cX12_country 77 = .ok (.iload_n 1, 1) := by decide +kernel
theorem dX12_country_78 : decode cX12_country 78 = .ok (.invokevirtual 346, 3) := by decide +kernel
theorem dX12_country_81 : decode cX12_country 81 = .ok (.ifCond .eq 7, 3) := by decide +kernel
theorem dX12_country_84 : decode cX12_country 84 = .ok (.iconst 1, 1) := by decide +kernel
theorem dX12_country_85 : decode cX12_country 85 = .ok (.goto 4, 3) := by decide +kernel
theorem dX12_country_88 : decode cX12_country 88 = .ok (.iconst 0, 1) := by decide +kernel
theorem dX12_country_89 : decode cX12_country 89 = .ok (.ireturn, 1) := by decide +kernel
theorem dX12_country_90 : decode cX12_country 90 = .ok (.iconst (-1), 1) := by decide +kernel
theorem dX12_country_91 : decode cX12_country 91 = .ok (.ireturn, 1) := by decide +kernel
theorem dX12_days_0 : decode cX12_days 0 = .ok (.iload_n 1, 1) := by decide +kernel
theorem dX12_days_1 : decode cX12_days 1 = .ok (.iconst 1, 1) := by decide +kernel
theorem dX12_days_2 : decode cX12_days 2 = .ok (.bipush 60, 2) := by decide +kernel
theorem dX12_days_4 : decode cX12_days 4 = .ok (.invokestatic 54, 3) := by decide +kernel
theorem dX12_days_7 : decode cX12_days 7 = .ok (.ifCond .eq 17, 3) := by decide +kernel
theorem dX12_days_10 : decode cX12_days 10 = .ok (.aload_n 0, 1) := by decide +kernel
theorem dX12_days_11 : decode cX12_days 11 = .ok (.getfield 7, 3) := by decide +kernel
theorem dX12_days_14 : decode cX12_days 14 = .ok (.iconst 0, 1) := by decide +kernel
theorem dX12_days_15 : decode cX12_days 15 = .ok (.iaload, 1) := by decide +kernel
theorem dX12_days_16 : decode cX12_days 16 = .ok (.iload_n 1, 1) := by decide +kernel
theorem dX12_days_17 : decode cX12_days 17 = .ok (.iadd, 1) := by decide +kernel
theorem dX12_days_18 : decode cX12_days 18 = .ok (.sipush 9999, 3) := by decide +kernel
theorem dX12_days_21 : decode cX12_days 21 = .ok (.if_icmp .le 5, 3) := by decide +kernel
theorem dX12_days_24 : decode cX12_days 24 = .ok (.iconst (-1), 1) := by decide +kernel
theorem dX12_days_25 : decode cX12_days 25 = .ok (.ireturn, 1) := by decide +kernel
theorem dX12_days_26 : decode cX12_days 26 = .ok (.iconst 0, 1) := by decide +kernel
theorem dX12_days_27 : decode cX12_days 27 = .ok (.istore_n 2, 1) := by decide +kernel
theorem dX12_days_28 : decode cX12_days 28 = .ok (.aload_n 0, 1) := by decide +kernel
theorem dX12_days_29 : decode cX12_days 29 = .ok (.iconst 1, 1) := by decide +kernel
theorem dX12_days_30 : decode cX12_days 30 = .ok (.putfield 313, 3) := by decide +kernel
theorem dX12_days_33 : decode cX12_days 33 = .ok (.aload_n 0, 1) := by decide +kernel
theorem dX12_days_34 : decode cX12_days 34 = .ok (.iconst 0, 1) := by decide +kernel
theorem dX12_days_35 : decode cX12_days 35 = .ok (.putfield 303, 3) := by decide +kernel
theorem dX12_days_38 : decode cX12_days 38 = .ok (.iconst 0, 1) := by decide +kernel
theorem dX12_days_39 : decode cX12_days 39 = .ok (.istore_n 3, 1) := by decide +kernel
theorem dX12_days_40 : decode cX12_days 40 = .ok (.iload_n 3, 1) := by decide +kernel
theorem dX12_days_41 : decode cX12_days 41 = .ok (.iload_n 1, 1) := by decide +kernel
theorem dX12_days_42 : decode cX12_days 42 = .ok (.if_icmp .ge 26, 3) := by decide +kernel
theorem dX12_days_45 : decode cX12_days 45 = .ok (.aload_n 0, 1) := by decide +kernel
theorem dX12_days_46 : decode cX12_days 46 = .ok (.invokevirtual 317, 3) := by decide +kernel
theorem dX12_days_49 : decode cX12_days 49 = .ok (.iload_n 2, 1) := by decide +kernel
theorem dX12_days_50 : decode cX12_days 50 = .ok (.aload_n 0, 1) := by decide +kernel
theorem dX12_days_51 : decode cX12_days 51 = .ok (.getfield 7, 3) := by decide +kernel
theorem dX12_days_54 : decode cX12_days 54 = .ok (.iconst 1, 1) := by decide +kernel
theorem dX12_days_55 : decode cX12_days 55 = .ok (.iaload, 1) := by decide +kernel
theorem dX12_days_56 : decode cX12_days 56 = .ok (.iadd, 1) := by decide +kernel
theorem dX12_days_57 : decode cX12_days 57 = .ok (.istore_n 2, 1) := by decide +kernel
theorem dX12_days_58 : decode cX12_days 58 = .ok (.aload_n 0, 1) := by decide +kernel
theorem dX12_days_59 : decode cX12_days 59 = .ok (.invokevirtual 417, 3) := by decide +kernel
theorem dX12_days_62 : decode cX12_days 62 = .ok (.iinc 3 1, 3) := by decide +kernel
theorem dX12_days_65 : decode cX12_days 65 = .ok (.goto (-25), 3) := by decide +kernel
theorem dX12_days_68 : decode cX12_days 68 = .ok (.iload_n 2, 1) := by decide +kernel
theorem dX12_days_69 : decode cX12_days 69 = .ok (.ireturn, 1) := by decide +kernel
theorem dX12_draw_0 : decode cX12_draw 0 = .ok (.aload_n 0, 1) := by decide +kernel
theorem dX12_draw_1 : decode cX12_draw 1 = .ok (.getfield 7, 3) := by decide +kernel
theorem dX12_draw_4 : decode cX12_draw 4 = .ok (.iconst 2, 1) := by decide +kernel
theorem dX12_draw_5 : decode cX12_draw 5 = .ok (.ldc 64, 2) := by decide +kernel
theorem dX12_draw_7 : decode cX12_draw 7 = .ok (.aload_n 0, 1) := by decide +kernel
theorem dX12_draw_8 : decode cX12_draw 8 = .ok (.getfield 7, 3) := by decide +kernel
theorem dX12_draw_11 : decode cX12_draw 11 = .ok (.iconst 2, 1) := by decide +kernel
theorem dX12_draw_12 : decode cX12_draw 12 = .ok (.iaload, 1) := by decide +kernel
theorem dX12_draw_13 : decode cX12_draw 13 = .ok (.imul, 1) := by decide +kernel
theorem dX12_draw_14 : decode cX12_draw 14 = .ok (.ldc 65, 2) := by decide +kernel
theorem dX12_draw_16 : decode cX12_draw 16 = .ok (.iadd, 1) := by decide +kernel
theorem dX12_draw_17 : decode cX12_draw 17 = .ok (.iastore, 1) := by decide +kernel
theorem dX12_draw_18 : decode cX12_draw 18 = .ok (.aload_n 0, 1) := by decide +kernel
theorem dX12_draw_19 : decode cX12_draw 19 = .ok (.getfield 7, 3) := by decide +kernel
theorem dX12_draw_22 : decode cX12_draw 22 = .ok (.iconst 2, 1) := by decide +kernel
theorem dX12_draw_23 : decode cX12_draw 23 = .ok (.iaload, 1) := by decide +kernel
theorem dX12_draw_24 : decode cX12_draw 24 = .ok (.bipush 8, 2) := by decide +kernel
theorem dX12_draw_26 : decode cX12_draw 26 = .ok (.iushr, 1) := by decide +kernel
theorem dX12_draw_27 : decode cX12_draw 27 = .ok (.iload_n 1, 1) := by decide +kernel
theorem dX12_draw_28 : decode cX12_draw 28 = .ok (.irem, 1) := by decide +kernel
theorem dX12_draw_29 : decode cX12_draw 29 = .ok (.ireturn, 1) := by decide +kernel
theorem dX12_end_0 : decode cX12_end 0 = .ok (.iload_n 1, 1) := by decide +kernel
theorem dX12_end_1 : decode cX12_end 1 = .ok (.iconst 0, 1) := by decide +kernel
theorem dX12_end_2 : decode cX12_end 2 = .ok (.aload_n 0, 1) := by decide +kernel
theorem dX12_end_3 : decode cX12_end 3 = .ok (.getfield 80, 3) := by decide +kernel
theorem dX12_end_6 : decode cX12_end 6 = .ok (.invokestatic 54, 3) := by decide +kernel
theorem dX12_end_9 : decode cX12_end 9 = .ok (.ifCond .ne 5, 3) := by decide +kernel
theorem dX12_end_12 : decode cX12_end 12 = .ok (.iconst 0, 1) := by decide +kernel
theorem dX12_end_13 : decode cX12_end 13 = .ok (.ireturn, 1) := by decide +kernel
theorem dX12_end_14 : decode cX12_end 14 = .ok (.aload_n 0, 1) := by decide +kernel
theorem dX12_end_15 : decode cX12_end 15 = .ok (.iload_n 1, 1) := by decide +kernel
theorem dX12_end_16 : decode cX12_end 16 = .ok (.putfield 80, 3) := by decide +kernel
theorem dX12_end_19 : decode cX12_end 19 = .ok (.iconst 1, 1) := by decide +kernel
theorem dX12_end_20 : decode cX12_end 20 = .ok (.ireturn, 1) := by decide +kernel
theorem dX12_endOf_0 : decode cX12_endOf 0 = .ok (.iload_n 0, 1) := by decide +kernel
theorem dX12_endOf_1 : decode cX12_endOf 1 = .ok (.ifCond .ne 7, 3) := by decide +kernel
theorem dX12_endOf_4 : decode cX12_endOf 4 = .ok (.iconst 0, 1) := by decide +kernel
theorem dX12_endOf_5 : decode cX12_endOf 5 = .ok (.goto 5, 3) := by decide +kernel
theorem dX12_endOf_8 : decode cX12_endOf 8 = .ok (.bipush 15, 2) := by decide +kernel
theorem dX12_endOf_10 : decode cX12_endOf 10 = .ok (.ireturn, 1) := by decide +kernel
theorem dX12_ends_0 : decode cX12_ends 0 = .ok (.aload_n 0, 1) := by decide +kernel
theorem dX12_ends_1 : decode cX12_ends 1 = .ok (.iconst 0, 1) := by decide +kernel
theorem dX12_ends_2 : decode cX12_ends 2 = .ok (.invokevirtual 400, 3) := by decide +kernel
theorem dX12_ends_5 : decode cX12_ends 5 = .ok (.ifCond .ne 11, 3) := by decide +kernel
theorem dX12_ends_8 : decode cX12_ends 8 = .ok (.aload_n 0, 1) := by decide +kernel
theorem dX12_ends_9 : decode cX12_ends 9 = .ok (.iconst 1, 1) := by decide +kernel
theorem dX12_ends_10 : decode cX12_ends 10 = .ok (.invokevirtual 400, 3) := by decide +kernel
theorem dX12_ends_13 : decode cX12_ends 13 = .ok (.ifCond .eq 10, 3) := by decide +kernel
theorem dX12_ends_16 : decode cX12_ends 16 = .ok (.aload_n 0, 1) := by decide +kernel
theorem dX12_ends_17 : decode cX12_ends 17 = .ok (.getfield 7, 3) := by decide +kernel
theorem dX12_ends_20 : decode cX12_ends 20 = .ok (.iconst 1, 1) := by decide +kernel
theorem dX12_ends_21 : decode cX12_ends 21 = .ok (.iconst 0, 1) := by decide +kernel
theorem dX12_ends_22 : decode cX12_ends 22 = .ok (.iastore, 1) := by decide +kernel
theorem dX12_ends_23 : decode cX12_ends 23 = .ok (.iconst 0, 1) := by decide +kernel
theorem dX12_ends_24 : decode cX12_ends 24 = .ok (.istore_n 1, 1) := by decide +kernel
theorem dX12_ends_25 : decode cX12_ends 25 = .ok (.iload_n 1, 1) := by decide +kernel
theorem dX12_ends_26 : decode cX12_ends 26 = .ok (.aload_n 0, 1) := by decide +kernel
theorem dX12_ends_27 : decode cX12_ends 27 = .ok (.getfield 7, 3) := by decide +kernel
theorem dX12_ends_30 : decode cX12_ends 30 = .ok (.bipush 78, 2) := by decide +kernel
theorem dX12_ends_32 : decode cX12_ends 32 = .ok (.iaload, 1) := by decide +kernel
theorem dX12_ends_33 : decode cX12_ends 33 = .ok (.if_icmp .ge 14, 3) := by decide +kernel
theorem dX12_ends_36 : decode cX12_ends 36 = .ok (.aload_n 0, 1) := by decide +kernel
theorem dX12_ends_37 : decode cX12_ends 37 = .ok (.iload_n 1, 1) := by decide +kernel
theorem dX12_ends_38 : decode cX12_ends 38 = .ok (.invokevirtual 403, 3) := by decide +kernel
theorem dX12_ends_41 : decode cX12_ends 41 = .ok (.iinc 1 1, 3) := by decide +kernel
theorem dX12_ends_44 : decode cX12_ends 44 = .ok (.goto (-19), 3) := by decide +kernel
theorem dX12_ends_47 : decode cX12_ends 47 = .ok (.aload_n 0, 1) := by decide +kernel
theorem dX12_ends_48 : decode cX12_ends 48 = .ok (.getfield 7, 3) := by decide +kernel
theorem dX12_ends_51 : decode cX12_ends 51 = .ok (.iconst 1, 1) := by decide +kernel
theorem dX12_ends_52 : decode cX12_ends 52 = .ok (.iaload, 1) := by decide +kernel
theorem dX12_ends_53 : decode cX12_ends 53 = .ok (.iconst 1, 1) := by decide +kernel
theorem dX12_ends_54 : decode cX12_ends 54 = .ok (.if_icmp .ne 4, 3) := by decide +kernel
theorem dX12_ends_57 : decode cX12_ends 57 = .ok (.return_, 1) := by decide +kernel
theorem dX12_ends_58 : decode cX12_ends 58 = .ok (.iconst 0, 1) := by decide +kernel
theorem dX12_ends_59 : decode cX12_ends 59 = .ok (.istore_n 1, 1) := by decide +kernel
theorem dX12_ends_60 : decode cX12_ends 60 = .ok (.iload_n 1, 1) := by decide +kernel
theorem dX12_ends_61 : decode cX12_ends 61 = .ok (.aload_n 0, 1) := by decide +kernel
theorem dX12_ends_62 : decode cX12_ends 62 = .ok (.getfield 7, 3) := by decide +kernel
theorem dX12_ends_65 : decode cX12_ends 65 = .ok (.bipush 78, 2) := by decide +kernel
theorem dX12_ends_67 : decode cX12_ends 67 = .ok (.iaload, 1) := by decide +kernel
theorem dX12_ends_68 : decode cX12_ends 68 = .ok (.if_icmp .ge 19, 3) := by decide +kernel
theorem dX12_ends_71 : decode cX12_ends 71 = .ok (.aload_n 0, 1) := by decide +kernel
theorem dX12_ends_72 : decode cX12_ends 72 = .ok (.getfield 7, 3) := by decide +kernel
theorem dX12_ends_75 : decode cX12_ends 75 = .ok (.bipush 40, 2) := by decide +kernel
theorem dX12_ends_77 : decode cX12_ends 77 = .ok (.iload_n 1, 1) := by decide +kernel
theorem dX12_ends_78 : decode cX12_ends 78 = .ok (.iadd, 1) := by decide +kernel
theorem dX12_ends_79 : decode cX12_ends 79 = .ok (.iconst 0, 1) := by decide +kernel
theorem dX12_ends_80 : decode cX12_ends 80 = .ok (.iastore, 1) := by decide +kernel
theorem dX12_ends_81 : decode cX12_ends 81 = .ok (.iinc 1 1, 3) := by decide +kernel
theorem dX12_ends_84 : decode cX12_ends 84 = .ok (.goto (-24), 3) := by decide +kernel
theorem dX12_ends_87 : decode cX12_ends 87 = .ok (.aload_n 0, 1) := by decide +kernel
theorem dX12_ends_88 : decode cX12_ends 88 = .ok (.iconst 4, 1) := by decide +kernel
theorem dX12_ends_89 : decode cX12_ends 89 = .ok (.iconst (-1), 1) := by decide +kernel
theorem dX12_ends_90 : decode cX12_ends 90 = .ok (.iconst 0, 1) := by decide +kernel
theorem dX12_ends_91 : decode cX12_ends 91 = .ok (.invokevirtual 336, 3) := by decide +kernel
theorem dX12_ends_94 : decode cX12_ends 94 = .ok (.return_, 1) := by decide +kernel
theorem dX12_every_0 : decode cX12_every 0 = .ok (.aload_n 0, 1) := by decide +kernel
theorem dX12_every_1 : decode cX12_every 1 = .ok (.invokevirtual 217, 3) := by decide +kernel
theorem dX12_every_4 : decode cX12_every 4 = .ok (.ifCond .ne 5, 3) := by decide +kernel
theorem dX12_every_7 : decode cX12_every 7 = .ok (.iconst 0, 1) := by decide +kernel
theorem dX12_every_8 : decode cX12_every 8 = .ok (.ireturn, 1) := by decide +kernel
theorem dX12_every_9 : decode cX12_every 9 = .ok (.aload_n 0, 1) := by decide +kernel
theorem dX12_every_10 : decode cX12_every 10 = .ok (.getfield 170, 3) := by decide +kernel
theorem dX12_every_13 : decode cX12_every 13 = .ok (.iconst 5, 1) := by decide +kernel
theorem dX12_every_14 : decode cX12_every 14 = .ok (.if_icmp .ne 26, 3) := by decide +kernel
theorem dX12_every_17 : decode cX12_every 17 = .ok (.aload_n 0, 1) := by decide +kernel
theorem dX12_every_18 : decode cX12_every 18 = .ok (.invokevirtual 194, 3) := by decide +kernel
theorem dX12_every_21 : decode cX12_every 21 = .ok (.aload_n 0, 1) := by decide +kernel
theorem dX12_every_22 : decode cX12_every 22 = .ok (.invokevirtual 217, 3) := by decide +kernel
theorem dX12_every_25 : decode cX12_every 25 = .ok (.ifCond .ne 5, 3) := by decide +kernel
theorem dX12_every_28 : decode cX12_every 28 = .ok (.iconst 0, 1) := by decide +kernel
theorem dX12_every_29 : decode cX12_every 29 = .ok (.ireturn, 1) := by decide +kernel
theorem dX12_every_30 : decode cX12_every 30 = .ok (.aload_n 0, 1) := by decide +kernel
theorem dX12_every_31 : decode cX12_every 31 = .ok (.bipush 31, 2) := by decide +kernel
theorem dX12_every_33 : decode cX12_every 33 = .ok (.iconst 0, 1) := by decide +kernel
theorem dX12_every_34 : decode cX12_every 34 = .ok (.invokevirtual 207, 3) := by decide +kernel
theorem dX12_every_37 : decode cX12_every 37 = .ok (.goto (-28), 3) := by decide +kernel
theorem dX12_every_40 : decode cX12_every 40 = .ok (.iconst 1, 1) := by decide +kernel
theorem dX12_every_41 : decode cX12_every 41 = .ok (.ireturn, 1) := by decide +kernel
theorem dX12_fadeOf_0 : decode cX12_fadeOf 0 = .ok (.aload_n 0, 1) := by decide +kernel
theorem dX12_fadeOf_1 : decode cX12_fadeOf 1 = .ok (.bipush 23, 2) := by decide +kernel
theorem dX12_fadeOf_3 : decode cX12_fadeOf 3 = .ok (.iload_n 1, 1) := by decide +kernel
theorem dX12_fadeOf_4 : decode cX12_fadeOf 4 = .ok (.bipush 50, 2) := by decide +kernel
theorem dX12_fadeOf_6 : decode cX12_fadeOf 6 = .ok (.sipush 1000, 3) := by decide +kernel
theorem dX12_fadeOf_9 : decode cX12_fadeOf 9 = .ok (.invokevirtual 306, 3) := by decide +kernel
theorem dX12_fadeOf_12 : decode cX12_fadeOf 12 = .ok (.ireturn, 1) := by decide +kernel
theorem dX12_fades_0 : decode cX12_fades 0 = .ok (.iconst 0, 1) := by decide +kernel
theorem dX12_fades_1 : decode cX12_fades 1 = .ok (.istore_n 1, 1) := by decide +kernel
theorem dX12_fades_2 : decode cX12_fades 2 = .ok (.iload_n 1, 1) := by decide +kernel
theorem dX12_fades_3 : decode cX12_fades 3 = .ok (.aload_n 0, 1) := by decide +kernel
theorem dX12_fades_4 : decode cX12_fades 4 = .ok (.getfield 7, 3) := by decide +kernel
theorem dX12_fades_7 : decode cX12_fades 7 = .ok (.bipush 78, 2) := by decide +kernel
theorem dX12_fades_9 : decode cX12_fades 9 = .ok (.iaload, 1) := by decide +kernel
theorem dX12_fades_10 : decode cX12_fades 10 = .ok (.if_icmp .ge 94, 3) := by decide +kernel
theorem dX12_fades_13 : decode cX12_fades 13 = .ok (.aload_n 0, 1) := by decide +kernel
theorem dX12_fades_14 : decode cX12_fades 14 = .ok (.getfield 313, 3) := by decide +kernel
theorem dX12_fades_17 : decode cX12_fades 17 = .ok (.ifCond .eq 81, 3) := by decide +kernel
theorem dX12_fades_20 : decode cX12_fades 20 = .ok (.aload_n 0, 1) := by decide +kernel
theorem dX12_fades_21 : decode cX12_fades 21 = .ok (.getfield 7, 3) := by decide +kernel
theorem dX12_fades_24 : decode cX12_fades 24 = .ok (.bipush 16, 2) := by decide +kernel
theorem dX12_fades_26 : decode cX12_fades 26 = .ok (.iload_n 1, 1) := by decide +kernel
theorem dX12_fades_27 : decode cX12_fades 27 = .ok (.iadd, 1) := by decide +kernel
theorem dX12_fades_28 : decode cX12_fades 28 = .ok (.iaload, 1) := by decide +kernel
theorem dX12_fades_29 : decode cX12_fades 29 = .ok (.ifCond .eq 69, 3) := by decide +kernel
theorem dX12_fades_32 : decode cX12_fades 32 = .ok (.aload_n 0, 1) := by decide +kernel
theorem dX12_fades_33 : decode cX12_fades 33 = .ok (.sipush 1000, 3) := by decide +kernel
theorem dX12_fades_36 : decode cX12_fades 36 = .ok (.invokevirtual 373, 3) := by decide +kernel
theorem dX12_fades_39 : decode cX12_fades 39 = .ok (.aload_n 0, 1) := by decide +kernel
theorem dX12_fades_40 : decode cX12_fades 40 = .ok (.iload_n 1, 1) := by decide +kernel
theorem dX12_fades_41 : decode cX12_fades 41 = .ok (.invokevirtual 376, 3) := by decide +kernel
theorem dX12_fades_44 : decode cX12_fades 44 = .ok (.if_icmp .lt 6, 3) := by decide +kernel
theorem dX12_fades_47 : decode cX12_fades 47 = .ok (.goto 51, 3) := by decide +kernel
theorem dX12_fades_50 : decode cX12_fades 50 = .ok (.iconst 0, 1) := by decide +kernel
theorem dX12_fades_51 : decode cX12_fades 51 = .ok (.istore_n 2, 1) := by decide +kernel
theorem dX12_fades_52 : decode cX12_fades 52 = .ok (.aload_n 0, 1) := by decide +kernel
theorem dX12_fades_53 : decode cX12_fades 53 = .ok (.getfield 7, 3) := by decide +kernel
theorem dX12_fades_56 : decode cX12_fades 56 = .ok (.bipush 16, 2) := by decide +kernel
theorem dX12_fades_58 : decode cX12_fades 58 = .ok (.iload_n 1, 1) := by decide +kernel
theorem dX12_fades_59 : decode cX12_fades 59 = .ok (.iadd, 1) := by decide +kernel
theorem dX12_fades_60 : decode cX12_fades 60 = .ok (.iaload, 1) := by decide +kernel
theorem dX12_fades_61 : decode cX12_fades 61 = .ok (.iload_n 2, 1) := by decide +kernel
theorem dX12_fades_62 : decode cX12_fades 62 = .ok (.ishr, 1) := by decide +kernel
theorem dX12_fades_63 : decode cX12_fades 63 = .ok (.iconst 1, 1) := by decide +kernel
theorem dX12_fades_64 : decode cX12_fades 64 = .ok (.iand, 1) := by decide +kernel
theorem dX12_fades_65 : decode cX12_fades 65 = .ok (.ifCond .ne 9, 3) := by decide +kernel
theorem dX12_fades_68 : decode cX12_fades 68 = .ok (.iinc 2 1, 3) := by decide +kernel
theorem dX12_fades_71 : decode cX12_fades 71 = .ok (.goto (-19), 3) := by decide +kernel
theorem dX12_fades_74 : decode cX12_fades 74 = .ok (.aload_n 0, 1) := by decide +kernel
theorem dX12_fades_75 : decode cX12_fades 75 = .ok (.getfield 7, 3) := by decide +kernel
theorem dX12_fades_78 : decode cX12_fades 78 = .ok (.bipush 16, 2) := by decide +kernel
theorem dX12_fades_80 : decode cX12_fades 80 = .ok (.iload_n 1, 1) := by decide +kernel
theorem dX12_fades_81 : decode cX12_fades 81 = .ok (.iadd, 1) := by decide +kernel
theorem dX12_fades_82 : decode cX12_fades 82 = .ok (.dup2, 1) := by decide +kernel
theorem dX12_fades_83 : decode cX12_fades 83 = .ok (.iaload, 1) := by decide +kernel
theorem dX12_fades_84 : decode cX12_fades 84 = .ok (.iconst 1, 1) := by decide +kernel
theorem dX12_fades_85 : decode cX12_fades 85 = .ok (.iload_n 2, 1) := by decide +kernel
theorem dX12_fades_86 : decode cX12_fades 86 = .ok (.ishl, 1) := by decide +kernel
theorem dX12_fades_87 : decode cX12_fades 87 = .ok (.iconst (-1), 1) := by decide +kernel
theorem dX12_fades_88 : decode cX12_fades 88 = .ok (.ixor, 1) := by decide +kernel
theorem dX12_fades_89 : decode cX12_fades 89 = .ok (.iand, 1) := by decide +kernel
theorem dX12_fades_90 : decode cX12_fades 90 = .ok (.iastore, 1) := by decide +kernel
theorem dX12_fades_91 : decode cX12_fades 91 = .ok (.aload_n 0, 1) := by decide +kernel
theorem dX12_fades_92 : decode cX12_fades 92 = .ok (.iconst 3, 1) := by decide +kernel
theorem dX12_fades_93 : decode cX12_fades 93 = .ok (.iload_n 1, 1) := by decide +kernel
theorem dX12_fades_94 : decode cX12_fades 94 = .ok (.iload_n 2, 1) := by decide +kernel
theorem dX12_fades_95 : decode cX12_fades 95 = .ok (.invokevirtual 336, 3) := by decide +kernel
theorem dX12_fades_98 : decode cX12_fades 98 = .ok (.iinc 1 1, 3) := by decide +kernel
theorem dX12_fades_101 : decode cX12_fades 101 = .ok (.goto (-99), 3) := by decide +kernel
theorem dX12_fades_104 : decode cX12_fades 104 = .ok (.return_, 1) := by decide +kernel
theorem dX12_fault_0 : decode cX12_fault 0 = .ok (.iload_n 1, 1) := by decide +kernel
theorem dX12_fault_1 : decode cX12_fault 1 = .ok (.ifCond .ne 10, 3) := by decide +kernel
theorem dX12_fault_4 : decode cX12_fault 4 = .ok (.aload_n 0, 1) := by decide +kernel
theorem dX12_fault_5 : decode cX12_fault 5 = .ok (.getfield 273, 3) := by decide +kernel
theorem dX12_fault_8 : decode cX12_fault 8 = .ok (.goto 16, 3) := by decide +kernel
theorem dX12_fault_11 : decode cX12_fault 11 = .ok (.iload_n 1, 1) := by decide +kernel
theorem dX12_fault_12 : decode cX12_fault 12 = .ok (.iconst 1, 1) := by decide +kernel
theorem dX12_fault_13 : decode cX12_fault 13 = .ok (.if_icmp .ne 10, 3) := by decide +kernel
theorem dX12_fault_16 : decode cX12_fault 16 = .ok (.aload_n 0, 1) := by decide +kernel
theorem dX12_fault_17 : decode cX12_fault 17 = .ok (.getfield 40, 3) := by decide +kernel
theorem dX12_fault_20 : decode cX12_fault 20 = .ok (.goto 4, 3) := by decide +kernel
theorem dX12_fault_23 : decode cX12_fault 23 = .ok (.iconst (-1), 1) := by decide +kernel
theorem dX12_fault_24 : decode cX12_fault 24 = .ok (.ireturn, 1) := by decide +kernel
theorem dX12_feed_0 : decode cX12_feed 0 = .ok (.aload_n 0, 1) := by decide +kernel
theorem dX12_feed_1 : decode cX12_feed 1 = .ok (.getfield 80, 3) := by decide +kernel
theorem dX12_feed_4 : decode cX12_feed 4 = .ok (.bipush 20, 2) := by decide +kernel
theorem dX12_feed_6 : decode cX12_feed 6 = .ok (.iadd, 1) := by decide +kernel
theorem dX12_feed_7 : decode cX12_feed 7 = .ok (.sipush 400, 3) := by decide +kernel
theorem dX12_feed_10 : decode cX12_feed 10 = .ok (.if_icmp .le 5, 3) := by decide +kernel
theorem dX12_feed_13 : decode cX12_feed 13 = .ok (.iconst (-1), 1) := by decide +kernel
theorem dX12_feed_14 : decode cX12_feed 14 = .ok (.ireturn, 1) := by decide +kernel
theorem dX12_feed_15 : decode cX12_feed 15 = .ok (.iconst 0, 1) := by decide +kernel
theorem dX12_feed_16 : decode cX12_feed 16 = .ok (.istore 6, 2) := by decide +kernel
theorem dX12_feed_18 : decode cX12_feed 18 = .ok (.iload 6, 2) := by decide +kernel
theorem dX12_feed_20 : decode cX12_feed 20 = .ok (.bipush 20, 2) := by decide +kernel
theorem dX12_feed_22 : decode cX12_feed 22 = .ok (.if_icmp .ge 93, 3) := by decide +kernel
theorem dX12_feed_25 : decode cX12_feed 25 = .ok (.iload 6, 2) := by decide +kernel
theorem dX12_feed_27 : decode cX12_feed 27 = .ok (.iconst 4, 1) := by decide +kernel
theorem dX12_feed_28 : decode cX12_feed 28 = .ok (.if_icmp .ge 7, 3) := by decide +kernel
theorem dX12_feed_31 : decode cX12_feed 31 = .ok (.iload_n 1, 1) := by decide +kernel
theorem dX12_feed_32 : decode cX12_feed 32 = .ok (.goto 39, 3) := by decide +kernel
theorem dX12_feed_35 : decode cX12_feed 35 = .ok (.iload 6, 2) := by decide +kernel
theorem dX12_feed_37 : decode cX12_feed 37 = .ok (.bipush 8, 2) := by decide +kernel
theorem dX12_feed_39 : decode cX12_feed 39 = .ok (.if_icmp .ge 7, 3) := by decide +kernel
theorem dX12_feed_42 : decode cX12_feed 42 = .ok (.iload_n 2, 1) := by decide +kernel
theorem dX12_feed_43 : decode cX12_feed 43 = .ok (.goto 28, 3) := by decide +kernel
theorem dX12_feed_46 : decode cX12_feed 46 = .ok (.iload 6, 2) := by decide +kernel
theorem dX12_feed_48 : decode cX12_feed 48 = .ok (.bipush 12, 2) := by decide +kernel
theorem dX12_feed_50 : decode cX12_feed 50 = .ok (.if_icmp .ge 7, 3) := by decide +kernel
theorem dX12_feed_53 : decode cX12_feed 53 = .ok (.iload_n 3, 1) := by decide +kernel
theorem dX12_feed_54 : decode cX12_feed 54 = .ok (.goto 17, 3) := by decide +kernel
theorem dX12_feed_57 : decode cX12_feed 57 = .ok (.iload 6, 2) := by decide +kernel
theorem dX12_feed_59 : decode cX12_feed 59 = .ok (.bipush 16, 2) := by decide +kernel
theorem dX12_feed_61 : decode cX12_feed 61 = .ok (.if_icmp .ge 8, 3) := by decide +kernel
theorem dX12_feed_64 : decode cX12_feed 64 = .ok (.iload 4, 2) := by decide +kernel
theorem dX12_feed_66 : decode cX12_feed 66 = .ok (.goto 5, 3) := by decide +kernel
theorem dX12_feed_69 : decode cX12_feed 69 = .ok (.iload 5, 2) := by decide +kernel
theorem dX12_feed_71 : decode cX12_feed 71 = .ok (.istore 7, 2) := by decide +kernel
theorem dX12_feed_73 : decode cX12_feed 73 = .ok (.aload_n 0, 1) := by decide +kernel
theorem dX12_feed_74 : decode cX12_feed 74 = .ok (.getfield 31, 3) := by decide +kernel
theorem dX12_feed_77 : decode cX12_feed 77 = .ok (.aload_n 0, 1) := by decide +kernel
theorem dX12_feed_78 : decode cX12_feed 78 = .ok (.getfield 80, 3) := by decide +kernel
theorem dX12_feed_81 : decode cX12_feed 81 = .ok (.iload 7, 2) := by decide +kernel
theorem dX12_feed_83 : decode cX12_feed 83 = .ok (.bipush 24, 2) := by decide +kernel
theorem dX12_feed_85 : decode cX12_feed 85 = .ok (.bipush 8, 2) := by decide +kernel
theorem dX12_feed_87 : decode cX12_feed 87 = .ok (.iload 6, 2) := by decide +kernel
theorem dX12_feed_89 : decode cX12_feed 89 = .ok (.iconst 4, 1) := by decide +kernel
theorem dX12_feed_90 : decode cX12_feed 90 = .ok (.irem, 1) := by decide +kernel
theorem dX12_feed_91 : decode cX12_feed 91 = .ok (.imul, 1) := by decide +kernel
theorem dX12_feed_92 : decode cX12_feed 92 = .ok (.isub, 1) := by decide +kernel
theorem dX12_feed_93 : decode cX12_feed 93 = .ok (.ishr, 1) := by decide +kernel
theorem dX12_feed_94 : decode cX12_feed 94 = .ok (.sipush 255, 3) := by decide +kernel
theorem dX12_feed_97 : decode cX12_feed 97 = .ok (.iand, 1) := by decide +kernel
theorem dX12_feed_98 : decode cX12_feed 98 = .ok (.iastore, 1) := by decide +kernel
theorem dX12_feed_99 : decode cX12_feed 99 = .ok (.aload_n 0, 1) := by decide +kernel
theorem dX12_feed_100 : decode cX12_feed 100 = .ok (.dup, 1) := by decide +kernel
theorem dX12_feed_101 : decode cX12_feed 101 = .ok (.getfield 80, 3) := by decide +kernel
theorem dX12_feed_104 : decode cX12_feed 104 = .ok (.iconst 1, 1) := by decide +kernel
theorem dX12_feed_105 : decode cX12_feed 105 = .ok (.iadd, 1) := by decide +kernel
theorem dX12_feed_106 : decode cX12_feed 106 = .ok (.putfield 80, 3) := by decide +kernel
theorem dX12_feed_109 : decode cX12_feed 109 = .ok (.iinc 6 1, 3) := by decide +kernel
theorem dX12_feed_112 : decode cX12_feed 112 = .ok (.goto (-94), 3) := by decide +kernel
theorem dX12_feed_115 : decode cX12_feed 115 = .ok (.aload_n 0, 1) := by decide +kernel
theorem dX12_feed_116 : decode cX12_feed 116 = .ok (.getfield 80, 3) := by decide +kernel
theorem dX12_feed_119 : decode cX12_feed 119 = .ok (.ireturn, 1) := by decide +kernel
theorem dX12_fights_0 : decode cX12_fights 0 = .ok (.aload_n 0, 1) := by decide +kernel
theorem dX12_fights_1 : decode cX12_fights 1 = .ok (.iconst 0, 1) := by decide +kernel
theorem dX12_fights_2 : decode cX12_fights 2 = .ok (.iload_n 1, 1) := by decide +kernel
theorem dX12_fights_3 : decode cX12_fights 3 = .ok (.invokevirtual 343, 3) := by decide +kernel
theorem dX12_fights_6 : decode cX12_fights 6 = .ok (.ifCond .eq 12, 3) := by decide +kernel
theorem dX12_fights_9 : decode cX12_fights 9 = .ok (.aload_n 0, 1) := by decide +kernel
theorem dX12_fights_10 : decode cX12_fights 10 = .ok (.iconst 1, 1) := by decide +kernel
theorem dX12_fights_11 : decode cX12_fights 11 = .ok (.iload_n 1, 1) := by decide +kernel
theorem dX12_fights_12 : decode cX12_fights 12 = .ok (.invokevirtual 343, 3) := by decide +kernel
theorem dX12_fights_15 : decode cX12_fights 15 = .ok (.ifCond .ne 4, 3) := by decide +kernel
theorem dX12_fights_18 : decode cX12_fights 18 = .ok (.return_, 1) := by decide +kernel
theorem dX12_fights_19 : decode cX12_fights 19 = .ok (.aload_n 0, 1) := by decide +kernel
theorem dX12_fights_20 : decode cX12_fights 20 = .ok (.iconst 0, 1) := by decide +kernel
theorem dX12_fights_21 : decode cX12_fights 21 = .ok (.iload_n 1, 1) := by decide +kernel
theorem dX12_fights_22 : decode cX12_fights 22 = .ok (.invokevirtual 364, 3) := by decide +kernel
theorem dX12_fights_25 : decode cX12_fights 25 = .ok (.aload_n 0, 1) := by decide +kernel
theorem dX12_fights_26 : decode cX12_fights 26 = .ok (.iconst 1, 1) := by decide +kernel
theorem dX12_fights_27 : decode cX12_fights 27 = .ok (.iload_n 1, 1) := by decide +kernel
theorem dX12_fights_28 : decode cX12_fights 28 = .ok (.invokevirtual 364, 3) := by decide +kernel
theorem dX12_fights_31 : decode cX12_fights 31 = .ok (.isub, 1) := by decide +kernel
theorem dX12_fights_32 : decode cX12_fights 32 = .ok (.istore_n 2, 1) := by decide +kernel
theorem dX12_fights_33 : decode cX12_fights 33 = .ok (.iload_n 2, 1) := by decide +kernel
theorem dX12_fights_34 : decode cX12_fights 34 = .ok (.ifCond .eq 18, 3) := by decide +kernel
theorem dX12_fights_37 : decode cX12_fights 37 = .ok (.aload_n 0, 1) := by decide +kernel
theorem dX12_fights_38 : decode cX12_fights 38 = .ok (.iload_n 2, 1) := by decide +kernel
theorem dX12_fights_39 : decode cX12_fights 39 = .ok (.ifCond .ge 7, 3) := by decide +kernel
theorem dX12_fights_42 : decode cX12_fights 42 = .ok (.iconst 0, 1) := by decide +kernel
theorem dX12_fights_43 : decode cX12_fights 43 = .ok (.goto 4, 3) := by decide +kernel
theorem dX12_fights_46 : decode cX12_fights 46 = .ok (.iconst 1, 1) := by decide +kernel
theorem dX12_fights_47 : decode cX12_fights 47 = .ok (.iload_n 1, 1) := by decide +kernel
theorem dX12_fights_48 : decode cX12_fights 48 = .ok (.invokevirtual 367, 3) := by decide +kernel
theorem dX12_fights_51 : decode cX12_fights 51 = .ok (.return_, 1) := by decide +kernel
theorem dX12_fights_52 : decode cX12_fights 52 = .ok (.iconst 0, 1) := by decide +kernel
theorem dX12_fights_53 : decode cX12_fights 53 = .ok (.istore_n 3, 1) := by decide +kernel
theorem dX12_fights_54 : decode cX12_fights 54 = .ok (.iload_n 3, 1) := by decide +kernel
theorem dX12_fights_55 : decode cX12_fights 55 = .ok (.aload_n 0, 1) := by decide +kernel
theorem dX12_fights_56 : decode cX12_fights 56 = .ok (.getfield 7, 3) := by decide +kernel
theorem dX12_fights_59 : decode cX12_fights 59 = .ok (.bipush 78, 2) := by decide +kernel
theorem dX12_fights_61 : decode cX12_fights 61 = .ok (.iaload, 1) := by decide +kernel
theorem dX12_fights_62 : decode cX12_fights 62 = .ok (.if_icmp .ge 47, 3) := by decide +kernel
theorem dX12_fights_65 : decode cX12_fights 65 = .ok (.aload_n 0, 1) := by decide +kernel
theorem dX12_fights_66 : decode cX12_fights 66 = .ok (.getfield 7, 3) := by decide +kernel
theorem dX12_fights_69 : decode cX12_fights 69 = .ok (.bipush 40, 2) := by decide +kernel
theorem dX12_fights_71 : decode cX12_fights 71 = .ok (.iload_n 3, 1) := by decide +kernel
theorem dX12_fights_72 : decode cX12_fights 72 = .ok (.iadd, 1) := by decide +kernel
theorem dX12_fights_73 : decode cX12_fights 73 = .ok (.iaload, 1) := by decide +kernel
theorem dX12_fights_74 : decode cX12_fights 74 = .ok (.iconst 1, 1) := by decide +kernel
theorem dX12_fights_75 : decode cX12_fights 75 = .ok (.if_icmp .ne 28, 3) := by decide +kernel
theorem dX12_fights_78 : decode cX12_fights 78 = .ok (.aload_n 0, 1) := by decide +kernel
theorem dX12_fights_79 : decode cX12_fights 79 = .ok (.getfield 7, 3) := by decide +kernel
theorem dX12_fights_82 : decode cX12_fights 82 = .ok (.bipush 52, 2) := by decide +kernel
theorem dX12_fights_84 : decode cX12_fights 84 = .ok (.iload_n 3, 1) := by decide +kernel
theorem dX12_fights_85 : decode cX12_fights 85 = .ok (.iadd, 1) := by decide +kernel
theorem dX12_fights_86 : decode cX12_fights 86 = .ok (.iaload, 1) := by decide +kernel
theorem dX12_fights_87 : decode cX12_fights 87 = .ok (.iload_n 1, 1) := by decide +kernel
theorem dX12_fights_88 : decode cX12_fights 88 = .ok (.if_icmp .ne 15, 3) := by decide +kernel
theorem dX12_fights_91 : decode cX12_fights 91 = .ok (.aload_n 0, 1) := by decide +kernel
theorem dX12_fights_92 : decode cX12_fights 92 = .ok (.getfield 7, 3) := by decide +kernel
theorem dX12_fights_95 : decode cX12_fights 95 = .ok (.iconst 4, 1) := by decide +kernel
theorem dX12_fights_96 : decode cX12_fights 96 = .ok (.iload_n 3, 1) := by decide +kernel
theorem dX12_fights_97 : decode cX12_fights 97 = .ok (.iadd, 1) := by decide +kernel
theorem dX12_fights_98 : decode cX12_fights 98 = .ok (.dup2, 1) := by decide +kernel
theorem dX12_fights_99 : decode cX12_fights 99 = .ok (.iaload, 1) := by decide +kernel
theorem dX12_fights_100 : decode cX12_fights 100 = .ok (.iconst 2, 1) := by decide +kernel
theorem dX12_fights_101 : decode cX12_fights 101 = .ok (.idiv, 1) := by decide +kernel
theorem dX12_fights_102 : decode cX12_fights 102 = .ok (.iastore, 1) := by decide +kernel
theorem dX12_fights_103 : decode cX12_fights 103 = .ok (.iinc 3 1, 3) := by decide +kernel
theorem dX12_fights_106 : decode cX12_fights 106 = .ok (.goto (-52), 3) := by decide +kernel
theorem dX12_fights_109 : decode cX12_fights 109 = .ok (.return_, 1) := by decide +kernel
theorem dX12_forgets_0 : decode cX12_forgets 0 = .ok (.aload_n 0, 1) := by decide +kernel
theorem dX12_forgets_1 : decode cX12_forgets 1 = .ok (.iload_n 1, 1) := by decide +kernel
theorem dX12_forgets_2 : decode cX12_forgets 2 = .ok (.invokevirtual 70, 3) := by decide +kernel
theorem dX12_forgets_5 : decode cX12_forgets 5 = .ok (.ifCond .eq 13, 3) := by decide +kernel
theorem dX12_forgets_8 : decode cX12_forgets 8 = .ok (.iload_n 2, 1) := by decide +kernel
theorem dX12_forgets_9 : decode cX12_forgets 9 = .ok (.iconst 0, 1) := by decide +kernel
theorem dX12_forgets_10 : decode cX12_forgets 10 = .ok (.bipush 60, 2) := by decide +kernel
theorem dX12_forgets_12 : decode cX12_forgets 12 = .ok (.invokestatic 54, 3) := by decide +kernel
theorem dX12_forgets_15 : decode cX12_forgets 15 = .ok (.ifCond .ne 5, 3) := by decide +kernel
theorem dX12_forgets_18 : decode cX12_forgets 18 = .ok (.iconst (-1), 1) := by decide +kernel
theorem dX12_forgets_19 : decode cX12_forgets 19 = .ok (.ireturn, 1) := by decide +kernel
theorem dX12_forgets_20 : decode cX12_forgets 20 = .ok (.aload_n 0, 1) := by decide +kernel
theorem dX12_forgets_21 : decode cX12_forgets 21 = .ok (.iload_n 1, 1) := by decide +kernel
theorem dX12_forgets_22 : decode cX12_forgets 22 = .ok (.invokevirtual 376, 3) := by decide +kernel
theorem dX12_forgets_25 : decode cX12_forgets 25 = .ok (.istore_n 3, 1) := by decide +kernel
theorem dX12_forgets_26 : decode cX12_forgets 26 = .ok (.iconst 0, 1) := by decide +kernel
theorem dX12_forgets_27 : decode cX12_forgets 27 = .ok (.istore 4, 2) := by decide +kernel
theorem dX12_forgets_29 : decode cX12_forgets 29 = .ok (.iload 4, 2) := by decide +kernel
theorem dX12_forgets_31 : decode cX12_forgets 31 = .ok (.bipush 10, 2) := by decide +kernel
theorem dX12_forgets_33 : decode cX12_forgets 33 = .ok (.if_icmp .ge 40, 3) := by decide +kernel
theorem dX12_forgets_36 : decode cX12_forgets 36 = .ok (.aload_n 0, 1) := by decide +kernel
theorem dX12_forgets_37 : decode cX12_forgets 37 = .ok (.getfield 51, 3) := by decide +kernel
theorem dX12_forgets_40 : decode cX12_forgets 40 = .ok (.iload 4, 2) := by decide +kernel
theorem dX12_forgets_42 : decode cX12_forgets 42 = .ok (.iload 4, 2) := by decide +kernel
theorem dX12_forgets_44 : decode cX12_forgets 44 = .ok (.aload_n 0, 1) := by decide +kernel
theorem dX12_forgets_45 : decode cX12_forgets 45 = .ok (.getfield 7, 3) := by decide +kernel
theorem dX12_forgets_48 : decode cX12_forgets 48 = .ok (.bipush 16, 2) := by decide +kernel
theorem dX12_forgets_50 : decode cX12_forgets 50 = .ok (.iload_n 1, 1) := by decide +kernel
theorem dX12_forgets_51 : decode cX12_forgets 51 = .ok (.iadd, 1) := by decide +kernel
theorem dX12_forgets_52 : decode cX12_forgets 52 = .ok (.iaload, 1) := by decide +kernel
theorem dX12_forgets_53 : decode cX12_forgets 53 = .ok (.invokestatic 291, 3) := by decide +kernel
theorem dX12_forgets_56 : decode cX12_forgets 56 = .ok (.if_icmp .ne 9, 3) := by decide +kernel
theorem dX12_forgets_59 : decode cX12_forgets 59 = .ok (.ldc_w 420, 3) := by decide +kernel
theorem dX12_forgets_62 : decode cX12_forgets 62 = .ok (.goto 4, 3) := by decide +kernel
theorem dX12_forgets_65 : decode cX12_forgets 65 = .ok (.iconst 0, 1) := by decide +kernel
theorem dX12_forgets_66 : decode cX12_forgets 66 = .ok (.iastore, 1) := by decide +kernel
theorem dX12_forgets_67 : decode cX12_forgets 67 = .ok (.iinc 4 1, 3) := by decide +kernel
theorem dX12_forgets_70 : decode cX12_forgets 70 = .ok (.goto (-41), 3) := by decide +kernel
theorem dX12_forgets_73 : decode cX12_forgets 73 = .ok (.iconst 0, 1) := by decide +kernel
theorem dX12_forgets_74 : decode cX12_forgets 74 = .ok (.istore 4, 2) := by decide +kernel
theorem dX12_forgets_76 : decode cX12_forgets 76 = .ok (.iload 4, 2) := by decide +kernel
theorem dX12_forgets_78 : decode cX12_forgets 78 = .ok (.iload_n 2, 1) := by decide +kernel
theorem dX12_forgets_79 : decode cX12_forgets 79 = .ok (.if_icmp .ge 84, 3) := by decide +kernel
theorem dX12_forgets_82 : decode cX12_forgets 82 = .ok (.iconst 1, 1) := by decide +kernel
theorem dX12_forgets_83 : decode cX12_forgets 83 = .ok (.istore 5, 2) := by decide +kernel
theorem dX12_forgets_85 : decode cX12_forgets 85 = .ok (.iload 5, 2) := by decide +kernel
theorem dX12_forgets_87 : decode cX12_forgets 87 = .ok (.bipush 8, 2) := by decide +kernel
theorem dX12_forgets_89 : decode cX12_forgets 89 = .ok (.if_icmp .gt 68, 3) := by decide +kernel
theorem dX12_forgets_92 : decode cX12_forgets 92 = .ok (.aload_n 0, 1) := by decide +kernel
theorem dX12_forgets_93 : decode cX12_forgets 93 = .ok (.getfield 51, 3) := by decide +kernel
theorem dX12_forgets_96 : decode cX12_forgets 96 = .ok (.iload 5, 2) := by decide +kernel
theorem dX12_forgets_98 : decode cX12_forgets 98 = .ok (.iaload, 1) := by decide +kernel
theorem dX12_forgets_99 : decode cX12_forgets 99 = .ok (.sipush 1000, 3) := by decide +kernel
theorem dX12_forgets_102 : decode cX12_forgets 102 = .ok (.idiv, 1) := by decide +kernel
theorem dX12_forgets_103 : decode cX12_forgets 103 = .ok (.iload_n 3, 1) := by decide +kernel
theorem dX12_forgets_104 : decode cX12_forgets 104 = .ok (.imul, 1) := by decide +kernel
theorem dX12_forgets_105 : decode cX12_forgets 105 = .ok (.aload_n 0, 1) := by decide +kernel
theorem dX12_forgets_106 : decode cX12_forgets 106 = .ok (.getfield 51, 3) := by decide +kernel
theorem dX12_forgets_109 : decode cX12_forgets 109 = .ok (.iload 5, 2) := by decide +kernel
theorem dX12_forgets_111 : decode cX12_forgets 111 = .ok (.iaload, 1) := by decide +kernel
theorem dX12_forgets_112 : decode cX12_forgets 112 = .ok (.sipush 1000, 3) := by decide +kernel
theorem dX12_forgets_115 : decode cX12_forgets 115 = .ok (.irem, 1) := by decide +kernel
theorem dX12_forgets_116 : decode cX12_forgets 116 = .ok (.iload_n 3, 1) := by decide +kernel
theorem dX12_forgets_117 : decode cX12_forgets 117 = .ok (.imul, 1) := by decide +kernel
theorem dX12_forgets_118 : decode cX12_forgets 118 = .ok (.sipush 1000, 3) := by decide +kernel
theorem dX12_forgets_121 : decode cX12_forgets 121 = .ok (.idiv, 1) := by decide +kernel
theorem dX12_forgets_122 : decode cX12_forgets 122 = .ok (.iadd, 1) := by decide +kernel
theorem dX12_forgets_123 : decode cX12_forgets 123 = .ok (.istore 6, 2) := by decide +kernel
theorem dX12_forgets_125 : decode cX12_forgets 125 = .ok (.aload_n 0, 1) := by decide +kernel
theorem dX12_forgets_126 : decode cX12_forgets 126 = .ok (.getfield 51, 3) := by decide +kernel
theorem dX12_forgets_129 : decode cX12_forgets 129 = .ok (.iload 5, 2) := by decide +kernel
theorem dX12_forgets_131 : decode cX12_forgets 131 = .ok (.dup2, 1) := by decide +kernel
theorem dX12_forgets_132 : decode cX12_forgets 132 = .ok (.iaload, 1) := by decide +kernel
theorem dX12_forgets_133 : decode cX12_forgets 133 = .ok (.iload 6, 2) := by decide +kernel
theorem dX12_forgets_135 : decode cX12_forgets 135 = .ok (.isub, 1) := by decide +kernel
theorem dX12_forgets_136 : decode cX12_forgets 136 = .ok (.iastore, 1) := by decide +kernel
theorem dX12_forgets_137 : decode cX12_forgets 137 = .ok (.aload_n 0, 1) := by decide +kernel
theorem dX12_forgets_138 : decode cX12_forgets 138 = .ok (.getfield 51, 3) := by decide +kernel
theorem dX12_forgets_141 : decode cX12_forgets 141 = .ok (.iload 5, 2) := by decide +kernel
theorem dX12_forgets_143 : decode cX12_forgets 143 = .ok (.iconst 1, 1) := by decide +kernel
theorem dX12_forgets_144 : decode cX12_forgets 144 = .ok (.isub, 1) := by decide +kernel
theorem dX12_forgets_145 : decode cX12_forgets 145 = .ok (.dup2, 1) := by decide +kernel
theorem dX12_forgets_146 : decode cX12_forgets 146 = .ok (.iaload, 1) := by decide +kernel
theorem dX12_forgets_147 : decode cX12_forgets 147 = .ok (.iload 6, 2) := by decide +kernel
theorem dX12_forgets_149 : decode cX12_forgets 149 = .ok (.iadd, 1) := by decide +kernel
theorem dX12_forgets_150 : decode cX12_forgets 150 = .ok (.iastore, 1) := by decide +kernel
theorem dX12_forgets_151 : decode cX12_forgets 151 = .ok (.iinc 5 1, 3) := by decide +kernel
theorem dX12_forgets_154 : decode cX12_forgets 154 = .ok (.goto (-69), 3) := by decide +kernel
theorem dX12_forgets_157 : decode cX12_forgets 157 = .ok (.iinc 4 1, 3) := by decide +kernel
theorem dX12_forgets_160 : decode cX12_forgets 160 = .ok (.goto (-84), 3) := by decide +kernel
theorem dX12_forgets_163 : decode cX12_forgets 163 = .ok (.aload_n 0, 1) := by decide +kernel
theorem dX12_forgets_164 : decode cX12_forgets 164 = .ok (.getfield 51, 3) := by decide +kernel
theorem dX12_forgets_167 : decode cX12_forgets 167 = .ok (.iconst 0, 1) := by decide +kernel
theorem dX12_forgets_168 : decode cX12_forgets 168 = .ok (.iaload, 1) := by decide +kernel
theorem dX12_forgets_169 : decode cX12_forgets 169 = .ok (.ireturn, 1) := by decide +kernel
theorem dX12_forgetsActs_0 : decode cX12_forgetsActs 0 = .ok (.aload_n 0, 1) := by decide +kernel
theorem dX12_forgetsActs_1 : decode cX12_forgetsActs 1 = .ok (.iconst 0, 1) := by decide +kernel
theorem dX12_forgetsActs_2 : decode cX12_forgetsActs 2 = .ok (.putfield 58, 3) := by decide +kernel
theorem dX12_forgetsActs_5 : decode cX12_forgetsActs 5 = .ok (.return_, 1) := by decide +kernel
theorem dX12_from_0 : decode cX12_from 0 = .ok (.iload_n 1, 1) := by decide +kernel
theorem dX12_from_1 : decode cX12_from 1 = .ok (.iconst 0, 1) := by decide +kernel
theorem dX12_from_2 : decode cX12_from 2 = .ok (.iconst 1, 1) := by decide +kernel
theorem dX12_from_3 : decode cX12_from 3 = .ok (.invokestatic 54, 3) := by decide +kernel
theorem dX12_from_6 : decode cX12_from 6 = .ok (.ifCond .ne 5, 3) := by decide +kernel
theorem dX12_from_9 : decode cX12_from 9 = .ok (.iconst (-1), 1) := by decide +kernel
theorem dX12_from_10 : decode cX12_from 10 = .ok (.ireturn, 1) := by decide +kernel
theorem dX12_from_11 : decode cX12_from 11 = .ok (.iconst (-1), 1) := by decide +kernel
theorem dX12_from_12 : decode cX12_from 12 = .ok (.istore_n 2, 1) := by decide +kernel
theorem dX12_from_13 : decode cX12_from 13 = .ok (.ldc_w 420, 3) := by decide +kernel
theorem dX12_from_16 : decode cX12_from 16 = .ok (.istore_n 3, 1) := by decide +kernel
theorem dX12_from_17 : decode cX12_from 17 = .ok (.bipush 120, 2) := by decide +kernel
theorem dX12_from_19 : decode cX12_from 19 = .ok (.istore 4, 2) := by decide +kernel
theorem dX12_from_21 : decode cX12_from 21 = .ok (.iload 4, 2) := by decide +kernel
theorem dX12_from_23 : decode cX12_from 23 = .ok (.ifCond .lt 33, 3) := by decide +kernel
theorem dX12_from_26 : decode cX12_from 26 = .ok (.aload_n 0, 1) := by decide +kernel
theorem dX12_from_27 : decode cX12_from 27 = .ok (.iconst (-1), 1) := by decide +kernel
theorem dX12_from_28 : decode cX12_from 28 = .ok (.iload 4, 2) := by decide +kernel
theorem dX12_from_30 : decode cX12_from 30 = .ok (.invokevirtual 421, 3) := by decide +kernel
theorem dX12_from_33 : decode cX12_from 33 = .ok (.istore 5, 2) := by decide +kernel
theorem dX12_from_35 : decode cX12_from 35 = .ok (.iload 5, 2) := by decide +kernel
theorem dX12_from_37 : decode cX12_from 37 = .ok (.iload_n 3, 1) := by decide +kernel
theorem dX12_from_38 : decode cX12_from 38 = .ok (.if_icmp .lt 6, 3) := by decide +kernel
theorem dX12_from_41 : decode cX12_from 41 = .ok (.goto 9, 3) := by decide +kernel
theorem dX12_from_44 : decode cX12_from 44 = .ok (.iload 5, 2) := by decide +kernel
theorem dX12_from_46 : decode cX12_from 46 = .ok (.istore_n 3, 1) := by decide +kernel
theorem dX12_from_47 : decode cX12_from 47 = .ok (.iload 4, 2) := by decide +kernel
theorem dX12_from_49 : decode cX12_from 49 = .ok (.istore_n 2, 1) := by decide +kernel
theorem dX12_from_50 : decode cX12_from 50 = .ok (.iinc 4 (-10), 3) := by decide +kernel
theorem dX12_from_53 : decode cX12_from 53 = .ok (.goto (-32), 3) := by decide +kernel
theorem dX12_from_56 : decode cX12_from 56 = .ok (.iload_n 2, 1) := by decide +kernel
theorem dX12_from_57 : decode cX12_from 57 = .ok (.iconst (-1), 1) := by decide +kernel
theorem dX12_from_58 : decode cX12_from 58 = .ok (.if_icmp .eq 7, 3) := by decide +kernel
theorem dX12_from_61 : decode cX12_from 61 = .ok (.iload_n 1, 1) := by decide +kernel
theorem dX12_from_62 : decode cX12_from 62 = .ok (.ifCond .ne 7, 3) := by decide +kernel
theorem dX12_from_65 : decode cX12_from 65 = .ok (.iload_n 2, 1) := by decide +kernel
theorem dX12_from_66 : decode cX12_from 66 = .ok (.goto 4, 3) := by decide +kernel
theorem dX12_from_69 : decode cX12_from 69 = .ok (.iload_n 3, 1) := by decide +kernel
theorem dX12_from_70 : decode cX12_from 70 = .ok (.ireturn, 1) := by decide +kernel
theorem dX12_goesOn_0 : decode cX12_goesOn 0 = .ok (.aload_n 0, 1) := by decide +kernel
theorem dX12_goesOn_1 : decode cX12_goesOn 1 = .ok (.getfield 7, 3) := by decide +kernel
theorem dX12_goesOn_4 : decode cX12_goesOn 4 = .ok (.bipush 90, 2) := by decide +kernel
theorem dX12_goesOn_6 : decode cX12_goesOn 6 = .ok (.iload_n 1, 1) := by decide +kernel
theorem dX12_goesOn_7 : decode cX12_goesOn 7 = .ok (.iadd, 1) := by decide +kernel
theorem dX12_goesOn_8 : decode cX12_goesOn 8 = .ok (.iaload, 1) := by decide +kernel
theorem dX12_goesOn_9 : decode cX12_goesOn 9 = .ok (.istore_n 2, 1) := by decide +kernel
theorem dX12_goesOn_10 : decode cX12_goesOn 10 = .ok (.aload_n 0, 1) := by decide +kernel
theorem dX12_goesOn_11 : decode cX12_goesOn 11 = .ok (.iload_n 1, 1) := by decide +kernel
theorem dX12_goesOn_12 : decode cX12_goesOn 12 = .ok (.invokevirtual 340, 3) := by decide +kernel
theorem dX12_goesOn_15 : decode cX12_goesOn 15 = .ok (.istore_n 3, 1) := by decide +kernel
theorem dX12_goesOn_16 : decode cX12_goesOn 16 = .ok (.iconst 1, 1) := by decide +kernel
theorem dX12_goesOn_17 : decode cX12_goesOn 17 = .ok (.istore 4, 2) := by decide +kernel
theorem dX12_goesOn_19 : decode cX12_goesOn 19 = .ok (.iload 4, 2) := by decide +kernel
theorem dX12_goesOn_21 : decode cX12_goesOn 21 = .ok (.ifCond .eq 130, 3) := by decide +kernel
theorem dX12_goesOn_24 : decode cX12_goesOn 24 = .ok (.aload_n 0, 1) := by decide +kernel
theorem dX12_goesOn_25 : decode cX12_goesOn 25 = .ok (.getfield 7, 3) := by decide +kernel
theorem dX12_goesOn_28 : decode cX12_goesOn 28 = .ok (.bipush 52, 2) := by decide +kernel
theorem dX12_goesOn_30 : decode cX12_goesOn 30 = .ok (.iload_n 1, 1) := by decide +kernel
theorem dX12_goesOn_31 : decode cX12_goesOn 31 = .ok (.iadd, 1) := by decide +kernel
theorem dX12_goesOn_32 : decode cX12_goesOn 32 = .ok (.iaload, 1) := by decide +kernel
theorem dX12_goesOn_33 : decode cX12_goesOn 33 = .ok (.iload_n 2, 1) := by decide +kernel
theorem dX12_goesOn_34 : decode cX12_goesOn 34 = .ok (.ifCond .ne 7, 3) := by decide +kernel
theorem dX12_goesOn_37 : decode cX12_goesOn 37 = .ok (.iconst 1, 1) := by decide +kernel
theorem dX12_goesOn_38 : decode cX12_goesOn 38 = .ok (.goto 4, 3) := by decide +kernel
theorem dX12_goesOn_41 : decode cX12_goesOn 41 = .ok (.iconst (-1), 1) := by decide +kernel
theorem dX12_goesOn_42 : decode cX12_goesOn 42 = .ok (.iadd, 1) := by decide +kernel
theorem dX12_goesOn_43 : decode cX12_goesOn 43 = .ok (.istore 5, 2) := by decide +kernel
theorem dX12_goesOn_45 : decode cX12_goesOn 45 = .ok (.iload_n 3, 1) := by decide +kernel
theorem dX12_goesOn_46 : decode cX12_goesOn 46 = .ok (.ifCond .le 37, 3) := by decide +kernel
theorem dX12_goesOn_49 : decode cX12_goesOn 49 = .ok (.iload 5, 2) := by decide +kernel
theorem dX12_goesOn_51 : decode cX12_goesOn 51 = .ok (.iconst 0, 1) := by decide +kernel
theorem dX12_goesOn_52 : decode cX12_goesOn 52 = .ok (.bipush 15, 2) := by decide +kernel
theorem dX12_goesOn_54 : decode cX12_goesOn 54 = .ok (.invokestatic 54, 3) := by decide +kernel
theorem dX12_goesOn_57 : decode cX12_goesOn 57 = .ok (.ifCond .eq 26, 3) := by decide +kernel
theorem dX12_goesOn_60 : decode cX12_goesOn 60 = .ok (.aload_n 0, 1) := by decide +kernel
theorem dX12_goesOn_61 : decode cX12_goesOn 61 = .ok (.iconst 1, 1) := by decide +kernel
theorem dX12_goesOn_62 : decode cX12_goesOn 62 = .ok (.iload_n 2, 1) := by decide +kernel
theorem dX12_goesOn_63 : decode cX12_goesOn 63 = .ok (.isub, 1) := by decide +kernel
theorem dX12_goesOn_64 : decode cX12_goesOn 64 = .ok (.aload_n 0, 1) := by decide +kernel
theorem dX12_goesOn_65 : decode cX12_goesOn 65 = .ok (.getfield 7, 3) := by decide +kernel
theorem dX12_goesOn_68 : decode cX12_goesOn 68 = .ok (.bipush 52, 2) := by decide +kernel
theorem dX12_goesOn_70 : decode cX12_goesOn 70 = .ok (.iload_n 1, 1) := by decide +kernel
theorem dX12_goesOn_71 : decode cX12_goesOn 71 = .ok (.iadd, 1) := by decide +kernel
theorem dX12_goesOn_72 : decode cX12_goesOn 72 = .ok (.iaload, 1) := by decide +kernel
theorem dX12_goesOn_73 : decode cX12_goesOn 73 = .ok (.invokevirtual 343, 3) := by decide +kernel
theorem dX12_goesOn_76 : decode cX12_goesOn 76 = .ok (.ifCond .ne 7, 3) := by decide +kernel
theorem dX12_goesOn_79 : decode cX12_goesOn 79 = .ok (.iconst 1, 1) := by decide +kernel
theorem dX12_goesOn_80 : decode cX12_goesOn 80 = .ok (.goto 4, 3) := by decide +kernel
theorem dX12_goesOn_83 : decode cX12_goesOn 83 = .ok (.iconst 0, 1) := by decide +kernel
theorem dX12_goesOn_84 : decode cX12_goesOn 84 = .ok (.istore 4, 2) := by decide +kernel
theorem dX12_goesOn_86 : decode cX12_goesOn 86 = .ok (.iload 4, 2) := by decide +kernel
theorem dX12_goesOn_88 : decode cX12_goesOn 88 = .ok (.ifCond .eq 18, 3) := by decide +kernel
theorem dX12_goesOn_91 : decode cX12_goesOn 91 = .ok (.iconst 1, 1) := by decide +kernel
theorem dX12_goesOn_92 : decode cX12_goesOn 92 = .ok (.aload_n 0, 1) := by decide +kernel
theorem dX12_goesOn_93 : decode cX12_goesOn 93 = .ok (.getfield 7, 3) := by decide +kernel
theorem dX12_goesOn_96 : decode cX12_goesOn 96 = .ok (.bipush 126, 2) := by decide +kernel
theorem dX12_goesOn_98 : decode cX12_goesOn 98 = .ok (.iload 5, 2) := by decide +kernel
theorem dX12_goesOn_100 : decode cX12_goesOn 100 = .ok (.iadd, 1) := by decide +kernel
theorem dX12_goesOn_101 : decode cX12_goesOn 101 = .ok (.iaload, 1) := by decide +kernel
theorem dX12_goesOn_102 : decode cX12_goesOn 102 = .ok (.iadd, 1) := by decide +kernel
theorem dX12_goesOn_103 : decode cX12_goesOn 103 = .ok (.goto 4, 3) := by decide +kernel
theorem dX12_goesOn_106 : decode cX12_goesOn 106 = .ok (.iconst 0, 1) := by decide +kernel
theorem dX12_goesOn_107 : decode cX12_goesOn 107 = .ok (.istore 6, 2) := by decide +kernel
theorem dX12_goesOn_109 : decode cX12_goesOn 109 = .ok (.iload 4, 2) := by decide +kernel
theorem dX12_goesOn_111 : decode cX12_goesOn 111 = .ok (.ifCond .eq 13, 3) := by decide +kernel
theorem dX12_goesOn_114 : decode cX12_goesOn 114 = .ok (.iload 6, 2) := by decide +kernel
theorem dX12_goesOn_116 : decode cX12_goesOn 116 = .ok (.iload_n 3, 1) := by decide +kernel
theorem dX12_goesOn_117 : decode cX12_goesOn 117 = .ok (.if_icmp .gt 7, 3) := by decide +kernel
theorem dX12_goesOn_120 : decode cX12_goesOn 120 = .ok (.iconst 1, 1) := by decide +kernel
theorem dX12_goesOn_121 : decode cX12_goesOn 121 = .ok (.goto 4, 3) := by decide +kernel
theorem dX12_goesOn_124 : decode cX12_goesOn 124 = .ok (.iconst 0, 1) := by decide +kernel
theorem dX12_goesOn_125 : decode cX12_goesOn 125 = .ok (.istore 4, 2) := by decide +kernel
theorem dX12_goesOn_127 : decode cX12_goesOn 127 = .ok (.iload 4, 2) := by decide +kernel
theorem dX12_goesOn_129 : decode cX12_goesOn 129 = .ok (.ifCond .eq 14, 3) := by decide +kernel
theorem dX12_goesOn_132 : decode cX12_goesOn 132 = .ok (.aload_n 0, 1) := by decide +kernel
theorem dX12_goesOn_133 : decode cX12_goesOn 133 = .ok (.getfield 7, 3) := by decide +kernel
theorem dX12_goesOn_136 : decode cX12_goesOn 136 = .ok (.bipush 52, 2) := by decide +kernel
theorem dX12_goesOn_138 : decode cX12_goesOn 138 = .ok (.iload_n 1, 1) := by decide +kernel
theorem dX12_goesOn_139 : decode cX12_goesOn 139 = .ok (.iadd, 1) := by decide +kernel
theorem dX12_goesOn_140 : decode cX12_goesOn 140 = .ok (.iload 5, 2) := by decide +kernel
theorem dX12_goesOn_142 : decode cX12_goesOn 142 = .ok (.iastore, 1) := by decide +kernel
theorem dX12_goesOn_143 : decode cX12_goesOn 143 = .ok (.iload_n 3, 1) := by decide +kernel
theorem dX12_goesOn_144 : decode cX12_goesOn 144 = .ok (.iload 6, 2) := by decide +kernel
theorem dX12_goesOn_146 : decode cX12_goesOn 146 = .ok (.isub, 1) := by decide +kernel
theorem dX12_goesOn_147 : decode cX12_goesOn 147 = .ok (.istore_n 3, 1) := by decide +kernel
theorem dX12_goesOn_148 : decode cX12_goesOn 148 = .ok (.goto (-129), 3) := by decide +kernel
theorem dX12_goesOn_151 : decode cX12_goesOn 151 = .ok (.return_, 1) := by decide +kernel
theorem dX12_greater_0 : decode cX12_greater 0 = .ok (.iload_n 0, 1) := by decide +kernel
theorem dX12_greater_1 : decode cX12_greater 1 = .ok (.iload_n 1, 1) := by decide +kernel
theorem dX12_greater_2 : decode cX12_greater 2 = .ok (.if_icmp .le 7, 3) := by decide +kernel
theorem dX12_greater_5 : decode cX12_greater 5 = .ok (.iload_n 0, 1) := by decide +kernel
