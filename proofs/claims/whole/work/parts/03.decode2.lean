theorem dX12_greater_6 : decode cX12_greater 6 = .ok (.goto 4, 3) := by decide +kernel
theorem dX12_greater_9 : decode cX12_greater 9 = .ok (.iload_n 1, 1) := by decide +kernel
theorem dX12_greater_10 : decode cX12_greater 10 = .ok (.ireturn, 1) := by decide +kernel
theorem dX12_greaterBy_0 : decode cX12_greaterBy 0 = .ok (.iconst 0, 1) := by decide +kernel
theorem dX12_greaterBy_1 : decode cX12_greaterBy 1 = .ok (.istore_n 3, 1) := by decide +kernel
theorem dX12_greaterBy_2 : decode cX12_greaterBy 2 = .ok (.iconst 0, 1) := by decide +kernel
theorem dX12_greaterBy_3 : decode cX12_greaterBy 3 = .ok (.istore 4, 2) := by decide +kernel
theorem dX12_greaterBy_5 : decode cX12_greaterBy 5 = .ok (.iload 4, 2) := by decide +kernel
theorem dX12_greaterBy_7 : decode cX12_greaterBy 7 = .ok (.aload_n 0, 1) := by decide +kernel
theorem dX12_greaterBy_8 : decode cX12_greaterBy 8 = .ok (.getfield 7, 3) := by decide +kernel
theorem dX12_greaterBy_11 : decode cX12_greaterBy 11 = .ok (.bipush 78, 2) := by decide +kernel
theorem dX12_greaterBy_13 : decode cX12_greaterBy 13 = .ok (.iaload, 1) := by decide +kernel
theorem dX12_greaterBy_14 : decode cX12_greaterBy 14 = .ok (.if_icmp .ge 41, 3) := by decide +kernel
theorem dX12_greaterBy_17 : decode cX12_greaterBy 17 = .ok (.iload_n 3, 1) := by decide +kernel
theorem dX12_greaterBy_18 : decode cX12_greaterBy 18 = .ok (.iload_n 2, 1) := by decide +kernel
theorem dX12_greaterBy_19 : decode cX12_greaterBy 19 = .ok (.iload 4, 2) := by decide +kernel
theorem dX12_greaterBy_21 : decode cX12_greaterBy 21 = .ok (.ishr, 1) := by decide +kernel
theorem dX12_greaterBy_22 : decode cX12_greaterBy 22 = .ok (.iconst 1, 1) := by decide +kernel
theorem dX12_greaterBy_23 : decode cX12_greaterBy 23 = .ok (.iand, 1) := by decide +kernel
theorem dX12_greaterBy_24 : decode cX12_greaterBy 24 = .ok (.iconst 1, 1) := by decide +kernel
theorem dX12_greaterBy_25 : decode cX12_greaterBy 25 = .ok (.if_icmp .ne 21, 3) := by decide +kernel
theorem dX12_greaterBy_28 : decode cX12_greaterBy 28 = .ok (.aload_n 0, 1) := by decide +kernel
theorem dX12_greaterBy_29 : decode cX12_greaterBy 29 = .ok (.getfield 7, 3) := by decide +kernel
theorem dX12_greaterBy_32 : decode cX12_greaterBy 32 = .ok (.bipush 114, 2) := by decide +kernel
theorem dX12_greaterBy_34 : decode cX12_greaterBy 34 = .ok (.iload 4, 2) := by decide +kernel
theorem dX12_greaterBy_36 : decode cX12_greaterBy 36 = .ok (.iadd, 1) := by decide +kernel
theorem dX12_greaterBy_37 : decode cX12_greaterBy 37 = .ok (.iaload, 1) := by decide +kernel
theorem dX12_greaterBy_38 : decode cX12_greaterBy 38 = .ok (.iload_n 1, 1) := by decide +kernel
theorem dX12_greaterBy_39 : decode cX12_greaterBy 39 = .ok (.if_icmp .gt 7, 3) := by decide +kernel
theorem dX12_greaterBy_42 : decode cX12_greaterBy 42 = .ok (.iconst 1, 1) := by decide +kernel
theorem dX12_greaterBy_43 : decode cX12_greaterBy 43 = .ok (.goto 4, 3) := by decide +kernel
theorem dX12_greaterBy_46 : decode cX12_greaterBy 46 = .ok (.iconst 0, 1) := by decide +kernel
theorem dX12_greaterBy_47 : decode cX12_greaterBy 47 = .ok (.iadd, 1) := by decide +kernel
theorem dX12_greaterBy_48 : decode cX12_greaterBy 48 = .ok (.istore_n 3, 1) := by decide +kernel
theorem dX12_greaterBy_49 : decode cX12_greaterBy 49 = .ok (.iinc 4 1, 3) := by decide +kernel
theorem dX12_greaterBy_52 : decode cX12_greaterBy 52 = .ok (.goto (-47), 3) := by decide +kernel
theorem dX12_greaterBy_55 : decode cX12_greaterBy 55 = .ok (.iload_n 3, 1) := by decide +kernel
theorem dX12_greaterBy_56 : decode cX12_greaterBy 56 = .ok (.iload_n 2, 1) := by decide +kernel
theorem dX12_greaterBy_57 : decode cX12_greaterBy 57 = .ok (.invokestatic 291, 3) := by decide +kernel
theorem dX12_greaterBy_60 : decode cX12_greaterBy 60 = .ok (.iload_n 3, 1) := by decide +kernel
theorem dX12_greaterBy_61 : decode cX12_greaterBy 61 = .ok (.isub, 1) := by decide +kernel
theorem dX12_greaterBy_62 : decode cX12_greaterBy 62 = .ok (.invokestatic 300, 3) := by decide +kernel
theorem dX12_greaterBy_65 : decode cX12_greaterBy 65 = .ok (.ireturn, 1) := by decide +kernel
theorem dX12_hears_0 : decode cX12_hears 0 = .ok (.iload_n 1, 1) := by decide +kernel
theorem dX12_hears_1 : decode cX12_hears 1 = .ok (.iconst 0, 1) := by decide +kernel
theorem dX12_hears_2 : decode cX12_hears 2 = .ok (.bipush 7, 2) := by decide +kernel
theorem dX12_hears_4 : decode cX12_hears 4 = .ok (.invokestatic 54, 3) := by decide +kernel
theorem dX12_hears_7 : decode cX12_hears 7 = .ok (.ifCond .ne 5, 3) := by decide +kernel
theorem dX12_hears_10 : decode cX12_hears 10 = .ok (.iconst (-1), 1) := by decide +kernel
theorem dX12_hears_11 : decode cX12_hears 11 = .ok (.ireturn, 1) := by decide +kernel
theorem dX12_hears_12 : decode cX12_hears 12 = .ok (.aload_n 0, 1) := by decide +kernel
theorem dX12_hears_13 : decode cX12_hears 13 = .ok (.iload_n 1, 1) := by decide +kernel
theorem dX12_hears_14 : decode cX12_hears 14 = .ok (.invokevirtual 424, 3) := by decide +kernel
theorem dX12_hears_17 : decode cX12_hears 17 = .ok (.istore_n 2, 1) := by decide +kernel
theorem dX12_hears_18 : decode cX12_hears 18 = .ok (.iconst 0, 1) := by decide +kernel
theorem dX12_hears_19 : decode cX12_hears 19 = .ok (.istore_n 3, 1) := by decide +kernel
theorem dX12_hears_20 : decode cX12_hears 20 = .ok (.iload_n 3, 1) := by decide +kernel
theorem dX12_hears_21 : decode cX12_hears 21 = .ok (.bipush 12, 2) := by decide +kernel
theorem dX12_hears_23 : decode cX12_hears 23 = .ok (.if_icmp .ge 53, 3) := by decide +kernel
theorem dX12_hears_26 : decode cX12_hears 26 = .ok (.iconst 0, 1) := by decide +kernel
theorem dX12_hears_27 : decode cX12_hears 27 = .ok (.istore 4, 2) := by decide +kernel
theorem dX12_hears_29 : decode cX12_hears 29 = .ok (.iload 4, 2) := by decide +kernel
theorem dX12_hears_31 : decode cX12_hears 31 = .ok (.aload_n 0, 1) := by decide +kernel
theorem dX12_hears_32 : decode cX12_hears 32 = .ok (.getfield 7, 3) := by decide +kernel
theorem dX12_hears_35 : decode cX12_hears 35 = .ok (.bipush 78, 2) := by decide +kernel
theorem dX12_hears_37 : decode cX12_hears 37 = .ok (.iaload, 1) := by decide +kernel
theorem dX12_hears_38 : decode cX12_hears 38 = .ok (.if_icmp .ge 32, 3) := by decide +kernel
theorem dX12_hears_41 : decode cX12_hears 41 = .ok (.iload_n 2, 1) := by decide +kernel
theorem dX12_hears_42 : decode cX12_hears 42 = .ok (.iload_n 2, 1) := by decide +kernel
theorem dX12_hears_43 : decode cX12_hears 43 = .ok (.iload 4, 2) := by decide +kernel
theorem dX12_hears_45 : decode cX12_hears 45 = .ok (.ishr, 1) := by decide +kernel
theorem dX12_hears_46 : decode cX12_hears 46 = .ok (.iconst 1, 1) := by decide +kernel
theorem dX12_hears_47 : decode cX12_hears 47 = .ok (.iand, 1) := by decide +kernel
theorem dX12_hears_48 : decode cX12_hears 48 = .ok (.iconst 1, 1) := by decide +kernel
theorem dX12_hears_49 : decode cX12_hears 49 = .ok (.if_icmp .ne 12, 3) := by decide +kernel
theorem dX12_hears_52 : decode cX12_hears 52 = .ok (.aload_n 0, 1) := by decide +kernel
theorem dX12_hears_53 : decode cX12_hears 53 = .ok (.iload 4, 2) := by decide +kernel
theorem dX12_hears_55 : decode cX12_hears 55 = .ok (.invokevirtual 370, 3) := by decide +kernel
theorem dX12_hears_58 : decode cX12_hears 58 = .ok (.goto 4, 3) := by decide +kernel
theorem dX12_hears_61 : decode cX12_hears 61 = .ok (.iconst 0, 1) := by decide +kernel
theorem dX12_hears_62 : decode cX12_hears 62 = .ok (.ior, 1) := by decide +kernel
theorem dX12_hears_63 : decode cX12_hears 63 = .ok (.istore_n 2, 1) := by decide +kernel
theorem dX12_hears_64 : decode cX12_hears 64 = .ok (.iinc 4 1, 3) := by decide +kernel
theorem dX12_hears_67 : decode cX12_hears 67 = .ok (.goto (-38), 3) := by decide +kernel
theorem dX12_hears_70 : decode cX12_hears 70 = .ok (.iinc 3 1, 3) := by decide +kernel
theorem dX12_hears_73 : decode cX12_hears 73 = .ok (.goto (-53), 3) := by decide +kernel
theorem dX12_hears_76 : decode cX12_hears 76 = .ok (.iload_n 2, 1) := by decide +kernel
theorem dX12_hears_77 : decode cX12_hears 77 = .ok (.ireturn, 1) := by decide +kernel
theorem dX12_hills_0 : decode cX12_hills 0 = .ok (.iconst 0, 1) := by decide +kernel
theorem dX12_hills_1 : decode cX12_hills 1 = .ok (.istore_n 1, 1) := by decide +kernel
theorem dX12_hills_2 : decode cX12_hills 2 = .ok (.iconst 0, 1) := by decide +kernel
theorem dX12_hills_3 : decode cX12_hills 3 = .ok (.istore_n 2, 1) := by decide +kernel
theorem dX12_hills_4 : decode cX12_hills 4 = .ok (.iload_n 2, 1) := by decide +kernel
theorem dX12_hills_5 : decode cX12_hills 5 = .ok (.bipush 16, 2) := by decide +kernel
theorem dX12_hills_7 : decode cX12_hills 7 = .ok (.if_icmp .ge 23, 3) := by decide +kernel
theorem dX12_hills_10 : decode cX12_hills 10 = .ok (.iload_n 1, 1) := by decide +kernel
theorem dX12_hills_11 : decode cX12_hills 11 = .ok (.aload_n 0, 1) := by decide +kernel
theorem dX12_hills_12 : decode cX12_hills 12 = .ok (.getfield 7, 3) := by decide +kernel
theorem dX12_hills_15 : decode cX12_hills 15 = .ok (.bipush 126, 2) := by decide +kernel
theorem dX12_hills_17 : decode cX12_hills 17 = .ok (.iload_n 2, 1) := by decide +kernel
theorem dX12_hills_18 : decode cX12_hills 18 = .ok (.iadd, 1) := by decide +kernel
theorem dX12_hills_19 : decode cX12_hills 19 = .ok (.iaload, 1) := by decide +kernel
theorem dX12_hills_20 : decode cX12_hills 20 = .ok (.iload_n 2, 1) := by decide +kernel
theorem dX12_hills_21 : decode cX12_hills 21 = .ok (.ishl, 1) := by decide +kernel
theorem dX12_hills_22 : decode cX12_hills 22 = .ok (.ior, 1) := by decide +kernel
theorem dX12_hills_23 : decode cX12_hills 23 = .ok (.istore_n 1, 1) := by decide +kernel
theorem dX12_hills_24 : decode cX12_hills 24 = .ok (.iinc 2 1, 3) := by decide +kernel
theorem dX12_hills_27 : decode cX12_hills 27 = .ok (.goto (-23), 3) := by decide +kernel
theorem dX12_hills_30 : decode cX12_hills 30 = .ok (.iload_n 1, 1) := by decide +kernel
theorem dX12_hills_31 : decode cX12_hills 31 = .ok (.ireturn, 1) := by decide +kernel
theorem dX12_image_0 : decode cX12_image 0 = .ok (.iload_n 1, 1) := by decide +kernel
theorem dX12_image_1 : decode cX12_image 1 = .ok (.ifCond .ne 12, 3) := by decide +kernel
theorem dX12_image_4 : decode cX12_image 4 = .ok (.aload_n 0, 1) := by decide +kernel
theorem dX12_image_5 : decode cX12_image 5 = .ok (.getfield 460, 3) := by decide +kernel
theorem dX12_image_8 : decode cX12_image 8 = .ok (.ifCond .ne 5, 3) := by decide +kernel
theorem dX12_image_11 : decode cX12_image 11 = .ok (.iconst 0, 1) := by decide +kernel
theorem dX12_image_12 : decode cX12_image 12 = .ok (.ireturn, 1) := by decide +kernel
theorem dX12_image_13 : decode cX12_image 13 = .ok (.iconst 0, 1) := by decide +kernel
theorem dX12_image_14 : decode cX12_image 14 = .ok (.istore_n 2, 1) := by decide +kernel
theorem dX12_image_15 : decode cX12_image 15 = .ok (.iload_n 2, 1) := by decide +kernel
theorem dX12_image_16 : decode cX12_image 16 = .ok (.sipush 1786, 3) := by decide +kernel
theorem dX12_image_19 : decode cX12_image 19 = .ok (.if_icmp .ge 40, 3) := by decide +kernel
theorem dX12_image_22 : decode cX12_image 22 = .ok (.iload_n 1, 1) := by decide +kernel
theorem dX12_image_23 : decode cX12_image 23 = .ok (.ifCond .eq 18, 3) := by decide +kernel
theorem dX12_image_26 : decode cX12_image 26 = .ok (.aload_n 0, 1) := by decide +kernel
theorem dX12_image_27 : decode cX12_image 27 = .ok (.getfield 13, 3) := by decide +kernel
theorem dX12_image_30 : decode cX12_image 30 = .ok (.iload_n 2, 1) := by decide +kernel
theorem dX12_image_31 : decode cX12_image 31 = .ok (.aload_n 0, 1) := by decide +kernel
theorem dX12_image_32 : decode cX12_image 32 = .ok (.getfield 7, 3) := by decide +kernel
theorem dX12_image_35 : decode cX12_image 35 = .ok (.iload_n 2, 1) := by decide +kernel
theorem dX12_image_36 : decode cX12_image 36 = .ok (.iaload, 1) := by decide +kernel
theorem dX12_image_37 : decode cX12_image 37 = .ok (.iastore, 1) := by decide +kernel
theorem dX12_image_38 : decode cX12_image 38 = .ok (.goto 15, 3) := by decide +kernel
theorem dX12_image_41 : decode cX12_image 41 = .ok (.aload_n 0, 1) := by decide +kernel
theorem dX12_image_42 : decode cX12_image 42 = .ok (.getfield 7, 3) := by decide +kernel
theorem dX12_image_45 : decode cX12_image 45 = .ok (.iload_n 2, 1) := by decide +kernel
theorem dX12_image_46 : decode cX12_image 46 = .ok (.aload_n 0, 1) := by decide +kernel
theorem dX12_image_47 : decode cX12_image 47 = .ok (.getfield 13, 3) := by decide +kernel
theorem dX12_image_50 : decode cX12_image 50 = .ok (.iload_n 2, 1) := by decide +kernel
theorem dX12_image_51 : decode cX12_image 51 = .ok (.iaload, 1) := by decide +kernel
theorem dX12_image_52 : decode cX12_image 52 = .ok (.iastore, 1) := by decide +kernel
theorem dX12_image_53 : decode cX12_image 53 = .ok (.iinc 2 1, 3) := by decide +kernel
theorem dX12_image_56 : decode cX12_image 56 = .ok (.goto (-41), 3) := by decide +kernel
theorem dX12_image_59 : decode cX12_image 59 = .ok (.iload_n 1, 1) := by decide +kernel
theorem dX12_image_60 : decode cX12_image 60 = .ok (.ifCond .ne 7, 3) := by decide +kernel
theorem dX12_image_63 : decode cX12_image 63 = .ok (.aload_n 0, 1) := by decide +kernel
theorem dX12_image_64 : decode cX12_image 64 = .ok (.invokevirtual 61, 3) := by decide +kernel
theorem dX12_image_67 : decode cX12_image 67 = .ok (.aload_n 0, 1) := by decide +kernel
theorem dX12_image_68 : decode cX12_image 68 = .ok (.iconst 1, 1) := by decide +kernel
theorem dX12_image_69 : decode cX12_image 69 = .ok (.putfield 460, 3) := by decide +kernel
theorem dX12_image_72 : decode cX12_image 72 = .ok (.iconst 1, 1) := by decide +kernel
theorem dX12_image_73 : decode cX12_image 73 = .ok (.ireturn, 1) := by decide +kernel
theorem dX12_inField_0 : decode cX12_inField 0 = .ok (.iconst 0, 1) := by decide +kernel
theorem dX12_inField_1 : decode cX12_inField 1 = .ok (.istore_n 2, 1) := by decide +kernel
theorem dX12_inField_2 : decode cX12_inField 2 = .ok (.iconst 0, 1) := by decide +kernel
theorem dX12_inField_3 : decode cX12_inField 3 = .ok (.istore_n 3, 1) := by decide +kernel
theorem dX12_inField_4 : decode cX12_inField 4 = .ok (.iload_n 3, 1) := by decide +kernel
theorem dX12_inField_5 : decode cX12_inField 5 = .ok (.aload_n 0, 1) := by decide +kernel
theorem dX12_inField_6 : decode cX12_inField 6 = .ok (.getfield 7, 3) := by decide +kernel
theorem dX12_inField_9 : decode cX12_inField 9 = .ok (.bipush 78, 2) := by decide +kernel
theorem dX12_inField_11 : decode cX12_inField 11 = .ok (.iaload, 1) := by decide +kernel
theorem dX12_inField_12 : decode cX12_inField 12 = .ok (.if_icmp .ge 27, 3) := by decide +kernel
theorem dX12_inField_15 : decode cX12_inField 15 = .ok (.iload_n 2, 1) := by decide +kernel
theorem dX12_inField_16 : decode cX12_inField 16 = .ok (.aload_n 0, 1) := by decide +kernel
theorem dX12_inField_17 : decode cX12_inField 17 = .ok (.iload_n 3, 1) := by decide +kernel
theorem dX12_inField_18 : decode cX12_inField 18 = .ok (.iload_n 1, 1) := by decide +kernel
theorem dX12_inField_19 : decode cX12_inField 19 = .ok (.iconst 1, 1) := by decide +kernel
theorem dX12_inField_20 : decode cX12_inField 20 = .ok (.invokevirtual 320, 3) := by decide +kernel
theorem dX12_inField_23 : decode cX12_inField 23 = .ok (.ifCond .eq 7, 3) := by decide +kernel
theorem dX12_inField_26 : decode cX12_inField 26 = .ok (.iconst 1, 1) := by decide +kernel
theorem dX12_inField_27 : decode cX12_inField 27 = .ok (.goto 4, 3) := by decide +kernel
theorem dX12_inField_30 : decode cX12_inField 30 = .ok (.iconst 0, 1) := by decide +kernel
theorem dX12_inField_31 : decode cX12_inField 31 = .ok (.iadd, 1) := by decide +kernel
theorem dX12_inField_32 : decode cX12_inField 32 = .ok (.istore_n 2, 1) := by decide +kernel
theorem dX12_inField_33 : decode cX12_inField 33 = .ok (.iinc 3 1, 3) := by decide +kernel
theorem dX12_inField_36 : decode cX12_inField 36 = .ok (.goto (-32), 3) := by decide +kernel
theorem dX12_inField_39 : decode cX12_inField 39 = .ok (.iload_n 2, 1) := by decide +kernel
theorem dX12_inField_40 : decode cX12_inField 40 = .ok (.ireturn, 1) := by decide +kernel
theorem dX12_init_0 : decode cX12_init 0 = .ok (.aload_n 0, 1) := by decide +kernel
theorem dX12_init_1 : decode cX12_init 1 = .ok (.invokespecial 1, 3) := by decide +kernel
theorem dX12_init_4 : decode cX12_init 4 = .ok (.aload_n 0, 1) := by decide +kernel
theorem dX12_init_5 : decode cX12_init 5 = .ok (.sipush 1786, 3) := by decide +kernel
theorem dX12_init_8 : decode cX12_init 8 = .ok (.newarray .int, 2) := by decide +kernel
theorem dX12_init_10 : decode cX12_init 10 = .ok (.putfield 7, 3) := by decide +kernel
theorem dX12_init_13 : decode cX12_init 13 = .ok (.aload_n 0, 1) := by decide +kernel
theorem dX12_init_14 : decode cX12_init 14 = .ok (.sipush 1786, 3) := by decide +kernel
theorem dX12_init_17 : decode cX12_init 17 = .ok (.newarray .int, 2) := by decide +kernel
theorem dX12_init_19 : decode cX12_init 19 = .ok (.putfield 13, 3) := by decide +kernel
theorem dX12_init_22 : decode cX12_init 22 = .ok (.aload_n 0, 1) := by decide +kernel
theorem dX12_init_23 : decode cX12_init 23 = .ok (.sipush 468, 3) := by decide +kernel
theorem dX12_init_26 : decode cX12_init 26 = .ok (.newarray .int, 2) := by decide +kernel
theorem dX12_init_28 : decode cX12_init 28 = .ok (.putfield 16, 3) := by decide +kernel
theorem dX12_init_31 : decode cX12_init 31 = .ok (.aload_n 0, 1) := by decide +kernel
theorem dX12_init_32 : decode cX12_init 32 = .ok (.bipush 78, 2) := by decide +kernel
theorem dX12_init_34 : decode cX12_init 34 = .ok (.newarray .int, 2) := by decide +kernel
theorem dX12_init_36 : decode cX12_init 36 = .ok (.putfield 19, 3) := by decide +kernel
theorem dX12_init_39 : decode cX12_init 39 = .ok (.aload_n 0, 1) := by decide +kernel
theorem dX12_init_40 : decode cX12_init 40 = .ok (.bipush 64, 2) := by decide +kernel
theorem dX12_init_42 : decode cX12_init 42 = .ok (.newarray .int, 2) := by decide +kernel
theorem dX12_init_44 : decode cX12_init 44 = .ok (.putfield 22, 3) := by decide +kernel
theorem dX12_init_47 : decode cX12_init 47 = .ok (.aload_n 0, 1) := by decide +kernel
theorem dX12_init_48 : decode cX12_init 48 = .ok (.sipush 820, 3) := by decide +kernel
theorem dX12_init_51 : decode cX12_init 51 = .ok (.newarray .int, 2) := by decide +kernel
theorem dX12_init_53 : decode cX12_init 53 = .ok (.putfield 25, 3) := by decide +kernel
theorem dX12_init_56 : decode cX12_init 56 = .ok (.aload_n 0, 1) := by decide +kernel
theorem dX12_init_57 : decode cX12_init 57 = .ok (.bipush 48, 2) := by decide +kernel
theorem dX12_init_59 : decode cX12_init 59 = .ok (.newarray .int, 2) := by decide +kernel
theorem dX12_init_61 : decode cX12_init 61 = .ok (.putfield 28, 3) := by decide +kernel
theorem dX12_init_64 : decode cX12_init 64 = .ok (.aload_n 0, 1) := by decide +kernel
theorem dX12_init_65 : decode cX12_init 65 = .ok (.sipush 400, 3) := by decide +kernel
theorem dX12_init_68 : decode cX12_init 68 = .ok (.newarray .int, 2) := by decide +kernel
theorem dX12_init_70 : decode cX12_init 70 = .ok (.putfield 31, 3) := by decide +kernel
theorem dX12_init_73 : decode cX12_init 73 = .ok (.aload_n 0, 1) := by decide +kernel
theorem dX12_init_74 : decode cX12_init 74 = .ok (.sipush 420, 3) := by decide +kernel
theorem dX12_init_77 : decode cX12_init 77 = .ok (.newarray .int, 2) := by decide +kernel
theorem dX12_init_79 : decode cX12_init 79 = .ok (.putfield 34, 3) := by decide +kernel
theorem dX12_init_82 : decode cX12_init 82 = .ok (.aload_n 0, 1) := by decide +kernel
theorem dX12_init_83 : decode cX12_init 83 = .ok (.bipush 10, 2) := by decide +kernel
theorem dX12_init_85 : decode cX12_init 85 = .ok (.newarray .int, 2) := by decide +kernel
theorem dX12_init_87 : decode cX12_init 87 = .ok (.putfield 37, 3) := by decide +kernel
theorem dX12_init_90 : decode cX12_init 90 = .ok (.aload_n 0, 1) := by decide +kernel
theorem dX12_init_91 : decode cX12_init 91 = .ok (.iconst (-1), 1) := by decide +kernel
theorem dX12_init_92 : decode cX12_init 92 = .ok (.putfield 40, 3) := by decide +kernel
theorem dX12_init_95 : decode cX12_init 95 = .ok (.aload_n 0, 1) := by decide +kernel
theorem dX12_init_96 : decode cX12_init 96 = .ok (.iconst 4, 1) := by decide +kernel
theorem dX12_init_97 : decode cX12_init 97 = .ok (.newarray .int, 2) := by decide +kernel
theorem dX12_init_99 : decode cX12_init 99 = .ok (.putfield 44, 3) := by decide +kernel
theorem dX12_init_102 : decode cX12_init 102 = .ok (.aload_n 0, 1) := by decide +kernel
theorem dX12_init_103 : decode cX12_init 103 = .ok (.ldc 47, 2) := by decide +kernel
theorem dX12_init_105 : decode cX12_init 105 = .ok (.newarray .int, 2) := by decide +kernel
theorem dX12_init_107 : decode cX12_init 107 = .ok (.putfield 48, 3) := by decide +kernel
theorem dX12_init_110 : decode cX12_init 110 = .ok (.aload_n 0, 1) := by decide +kernel
theorem dX12_init_111 : decode cX12_init 111 = .ok (.bipush 10, 2) := by decide +kernel
theorem dX12_init_113 : decode cX12_init 113 = .ok (.newarray .int, 2) := by decide +kernel
theorem dX12_init_115 : decode cX12_init 115 = .ok (.putfield 51, 3) := by decide +kernel
theorem dX12_init_118 : decode cX12_init 118 = .ok (.aload_n 0, 1) := by decide +kernel
theorem dX12_init_119 : decode cX12_init 119 = .ok (.getfield 7, 3) := by decide +kernel
theorem dX12_init_122 : decode cX12_init 122 = .ok (.iconst 1, 1) := by decide +kernel
theorem dX12_init_123 : decode cX12_init 123 = .ok (.iconst 1, 1) := by decide +kernel
theorem dX12_init_124 : decode cX12_init 124 = .ok (.iastore, 1) := by decide +kernel
theorem dX12_init_125 : decode cX12_init 125 = .ok (.aload_n 0, 1) := by decide +kernel
theorem dX12_init_126 : decode cX12_init 126 = .ok (.getfield 7, 3) := by decide +kernel
theorem dX12_init_129 : decode cX12_init 129 = .ok (.bipush 79, 2) := by decide +kernel
theorem dX12_init_131 : decode cX12_init 131 = .ok (.iconst 1, 1) := by decide +kernel
theorem dX12_init_132 : decode cX12_init 132 = .ok (.iastore, 1) := by decide +kernel
theorem dX12_init_133 : decode cX12_init 133 = .ok (.aload_n 0, 1) := by decide +kernel
theorem dX12_init_134 : decode cX12_init 134 = .ok (.getfield 7, 3) := by decide +kernel
theorem dX12_init_137 : decode cX12_init 137 = .ok (.bipush 81, 2) := by decide +kernel
theorem dX12_init_139 : decode cX12_init 139 = .ok (.iconst 3, 1) := by decide +kernel
theorem dX12_init_140 : decode cX12_init 140 = .ok (.iastore, 1) := by decide +kernel
theorem dX12_init_141 : decode cX12_init 141 = .ok (.aload_n 0, 1) := by decide +kernel
theorem dX12_init_142 : decode cX12_init 142 = .ok (.getfield 7, 3) := by decide +kernel
theorem dX12_init_145 : decode cX12_init 145 = .ok (.bipush 82, 2) := by decide +kernel
theorem dX12_init_147 : decode cX12_init 147 = .ok (.iconst 2, 1) := by decide +kernel
theorem dX12_init_148 : decode cX12_init 148 = .ok (.iastore, 1) := by decide +kernel
theorem dX12_init_149 : decode cX12_init 149 = .ok (.aload_n 0, 1) := by decide +kernel
theorem dX12_init_150 : decode cX12_init 150 = .ok (.getfield 7, 3) := by decide +kernel
theorem dX12_init_153 : decode cX12_init 153 = .ok (.bipush 83, 2) := by decide +kernel
theorem dX12_init_155 : decode cX12_init 155 = .ok (.iconst 2, 1) := by decide +kernel
theorem dX12_init_156 : decode cX12_init 156 = .ok (.iastore, 1) := by decide +kernel
theorem dX12_init_157 : decode cX12_init 157 = .ok (.return_, 1) := by decide +kernel
theorem dX12_is_0 : decode cX12_is 0 = .ok (.aload_n 0, 1) := by decide +kernel
theorem dX12_is_1 : decode cX12_is 1 = .ok (.getfield 83, 3) := by decide +kernel
theorem dX12_is_4 : decode cX12_is 4 = .ok (.aload_n 0, 1) := by decide +kernel
theorem dX12_is_5 : decode cX12_is 5 = .ok (.getfield 86, 3) := by decide +kernel
theorem dX12_is_8 : decode cX12_is 8 = .ok (.isub, 1) := by decide +kernel
theorem dX12_is_9 : decode cX12_is 9 = .ok (.aload_n 1, 1) := by decide +kernel
theorem dX12_is_10 : decode cX12_is 10 = .ok (.invokevirtual 89, 3) := by decide +kernel
theorem dX12_is_13 : decode cX12_is 13 = .ok (.if_icmp .ne 7, 3) := by decide +kernel
theorem dX12_is_16 : decode cX12_is 16 = .ok (.iconst 1, 1) := by decide +kernel
theorem dX12_is_17 : decode cX12_is 17 = .ok (.goto 4, 3) := by decide +kernel
theorem dX12_is_20 : decode cX12_is 20 = .ok (.iconst 0, 1) := by decide +kernel
theorem dX12_is_21 : decode cX12_is 21 = .ok (.istore_n 2, 1) := by decide +kernel
theorem dX12_is_22 : decode cX12_is 22 = .ok (.iconst 0, 1) := by decide +kernel
theorem dX12_is_23 : decode cX12_is 23 = .ok (.istore_n 3, 1) := by decide +kernel
theorem dX12_is_24 : decode cX12_is 24 = .ok (.iload_n 3, 1) := by decide +kernel
theorem dX12_is_25 : decode cX12_is 25 = .ok (.aload_n 1, 1) := by decide +kernel
theorem dX12_is_26 : decode cX12_is 26 = .ok (.invokevirtual 89, 3) := by decide +kernel
theorem dX12_is_29 : decode cX12_is 29 = .ok (.if_icmp .ge 38, 3) := by decide +kernel
theorem dX12_is_32 : decode cX12_is 32 = .ok (.iload_n 2, 1) := by decide +kernel
theorem dX12_is_33 : decode cX12_is 33 = .ok (.ifCond .eq 34, 3) := by decide +kernel
theorem dX12_is_36 : decode cX12_is 36 = .ok (.aload_n 0, 1) := by decide +kernel
theorem dX12_is_37 : decode cX12_is 37 = .ok (.getfield 31, 3) := by decide +kernel
theorem dX12_is_40 : decode cX12_is 40 = .ok (.aload_n 0, 1) := by decide +kernel
theorem dX12_is_41 : decode cX12_is 41 = .ok (.getfield 86, 3) := by decide +kernel
theorem dX12_is_44 : decode cX12_is 44 = .ok (.iload_n 3, 1) := by decide +kernel
theorem dX12_is_45 : decode cX12_is 45 = .ok (.iadd, 1) := by decide +kernel
theorem dX12_is_46 : decode cX12_is 46 = .ok (.iaload, 1) := by decide +kernel
theorem dX12_is_47 : decode cX12_is 47 = .ok (.aload_n 1, 1) := by decide +kernel
theorem dX12_is_48 : decode cX12_is 48 = .ok (.iload_n 3, 1) := by decide +kernel
theorem dX12_is_49 : decode cX12_is 49 = .ok (.invokevirtual 95, 3) := by decide +kernel
theorem dX12_is_52 : decode cX12_is 52 = .ok (.if_icmp .ne 7, 3) := by decide +kernel
theorem dX12_is_55 : decode cX12_is 55 = .ok (.iconst 1, 1) := by decide +kernel
theorem dX12_is_56 : decode cX12_is 56 = .ok (.goto 4, 3) := by decide +kernel
theorem dX12_is_59 : decode cX12_is 59 = .ok (.iconst 0, 1) := by decide +kernel
theorem dX12_is_60 : decode cX12_is 60 = .ok (.istore_n 2, 1) := by decide +kernel
theorem dX12_is_61 : decode cX12_is 61 = .ok (.iinc 3 1, 3) := by decide +kernel
theorem dX12_is_64 : decode cX12_is 64 = .ok (.goto (-40), 3) := by decide +kernel
theorem dX12_is_67 : decode cX12_is 67 = .ok (.iload_n 2, 1) := by decide +kernel
theorem dX12_is_68 : decode cX12_is 68 = .ok (.ireturn, 1) := by decide +kernel
theorem dX12_isBeaten_0 : decode cX12_isBeaten 0 = .ok (.aload_n 0, 1) := by decide +kernel
theorem dX12_isBeaten_1 : decode cX12_isBeaten 1 = .ok (.iload_n 1, 1) := by decide +kernel
theorem dX12_isBeaten_2 : decode cX12_isBeaten 2 = .ok (.iload_n 2, 1) := by decide +kernel
theorem dX12_isBeaten_3 : decode cX12_isBeaten 3 = .ok (.invokevirtual 358, 3) := by decide +kernel
theorem dX12_isBeaten_6 : decode cX12_isBeaten 6 = .ok (.istore_n 3, 1) := by decide +kernel
theorem dX12_isBeaten_7 : decode cX12_isBeaten 7 = .ok (.aload_n 0, 1) := by decide +kernel
theorem dX12_isBeaten_8 : decode cX12_isBeaten 8 = .ok (.getfield 7, 3) := by decide +kernel
theorem dX12_isBeaten_11 : decode cX12_isBeaten 11 = .ok (.bipush 40, 2) := by decide +kernel
theorem dX12_isBeaten_13 : decode cX12_isBeaten 13 = .ok (.iload_n 3, 1) := by decide +kernel
theorem dX12_isBeaten_14 : decode cX12_isBeaten 14 = .ok (.iadd, 1) := by decide +kernel
theorem dX12_isBeaten_15 : decode cX12_isBeaten 15 = .ok (.iconst 2, 1) := by decide +kernel
theorem dX12_isBeaten_16 : decode cX12_isBeaten 16 = .ok (.iastore, 1) := by decide +kernel
theorem dX12_isBeaten_17 : decode cX12_isBeaten 17 = .ok (.aload_n 0, 1) := by decide +kernel
theorem dX12_isBeaten_18 : decode cX12_isBeaten 18 = .ok (.getfield 7, 3) := by decide +kernel
theorem dX12_isBeaten_21 : decode cX12_isBeaten 21 = .ok (.bipush 64, 2) := by decide +kernel
theorem dX12_isBeaten_23 : decode cX12_isBeaten 23 = .ok (.iload_n 3, 1) := by decide +kernel
theorem dX12_isBeaten_24 : decode cX12_isBeaten 24 = .ok (.iadd, 1) := by decide +kernel
theorem dX12_isBeaten_25 : decode cX12_isBeaten 25 = .ok (.aload_n 0, 1) := by decide +kernel
theorem dX12_isBeaten_26 : decode cX12_isBeaten 26 = .ok (.getfield 7, 3) := by decide +kernel
theorem dX12_isBeaten_29 : decode cX12_isBeaten 29 = .ok (.iconst 0, 1) := by decide +kernel
theorem dX12_isBeaten_30 : decode cX12_isBeaten 30 = .ok (.iaload, 1) := by decide +kernel
theorem dX12_isBeaten_31 : decode cX12_isBeaten 31 = .ok (.iastore, 1) := by decide +kernel
theorem dX12_isBeaten_32 : decode cX12_isBeaten 32 = .ok (.aload_n 0, 1) := by decide +kernel
theorem dX12_isBeaten_33 : decode cX12_isBeaten 33 = .ok (.dup, 1) := by decide +kernel
theorem dX12_isBeaten_34 : decode cX12_isBeaten 34 = .ok (.getfield 361, 3) := by decide +kernel
theorem dX12_isBeaten_37 : decode cX12_isBeaten 37 = .ok (.iconst 1, 1) := by decide +kernel
theorem dX12_isBeaten_38 : decode cX12_isBeaten 38 = .ok (.iadd, 1) := by decide +kernel
theorem dX12_isBeaten_39 : decode cX12_isBeaten 39 = .ok (.putfield 361, 3) := by decide +kernel
theorem dX12_isBeaten_42 : decode cX12_isBeaten 42 = .ok (.aload_n 0, 1) := by decide +kernel
theorem dX12_isBeaten_43 : decode cX12_isBeaten 43 = .ok (.iconst 1, 1) := by decide +kernel
theorem dX12_isBeaten_44 : decode cX12_isBeaten 44 = .ok (.iload_n 3, 1) := by decide +kernel
theorem dX12_isBeaten_45 : decode cX12_isBeaten 45 = .ok (.iload_n 2, 1) := by decide +kernel
theorem dX12_isBeaten_46 : decode cX12_isBeaten 46 = .ok (.invokevirtual 336, 3) := by decide +kernel
theorem dX12_isBeaten_49 : decode cX12_isBeaten 49 = .ok (.iconst 0, 1) := by decide +kernel
theorem dX12_isBeaten_50 : decode cX12_isBeaten 50 = .ok (.istore 4, 2) := by decide +kernel
theorem dX12_isBeaten_52 : decode cX12_isBeaten 52 = .ok (.iload 4, 2) := by decide +kernel
theorem dX12_isBeaten_54 : decode cX12_isBeaten 54 = .ok (.aload_n 0, 1) := by decide +kernel
theorem dX12_isBeaten_55 : decode cX12_isBeaten 55 = .ok (.getfield 7, 3) := by decide +kernel
theorem dX12_isBeaten_58 : decode cX12_isBeaten 58 = .ok (.bipush 78, 2) := by decide +kernel
theorem dX12_isBeaten_60 : decode cX12_isBeaten 60 = .ok (.iaload, 1) := by decide +kernel
theorem dX12_isBeaten_61 : decode cX12_isBeaten 61 = .ok (.if_icmp .ge 114, 3) := by decide +kernel
theorem dX12_isBeaten_64 : decode cX12_isBeaten 64 = .ok (.aload_n 0, 1) := by decide +kernel
theorem dX12_isBeaten_65 : decode cX12_isBeaten 65 = .ok (.getfield 7, 3) := by decide +kernel
theorem dX12_isBeaten_68 : decode cX12_isBeaten 68 = .ok (.bipush 40, 2) := by decide +kernel
theorem dX12_isBeaten_70 : decode cX12_isBeaten 70 = .ok (.iload 4, 2) := by decide +kernel
theorem dX12_isBeaten_72 : decode cX12_isBeaten 72 = .ok (.iadd, 1) := by decide +kernel
theorem dX12_isBeaten_73 : decode cX12_isBeaten 73 = .ok (.iaload, 1) := by decide +kernel
theorem dX12_isBeaten_74 : decode cX12_isBeaten 74 = .ok (.iconst 1, 1) := by decide +kernel
theorem dX12_isBeaten_75 : decode cX12_isBeaten 75 = .ok (.if_icmp .ne 94, 3) := by decide +kernel
theorem dX12_isBeaten_78 : decode cX12_isBeaten 78 = .ok (.aload_n 0, 1) := by decide +kernel
theorem dX12_isBeaten_79 : decode cX12_isBeaten 79 = .ok (.getfield 7, 3) := by decide +kernel
theorem dX12_isBeaten_82 : decode cX12_isBeaten 82 = .ok (.bipush 52, 2) := by decide +kernel
theorem dX12_isBeaten_84 : decode cX12_isBeaten 84 = .ok (.iload 4, 2) := by decide +kernel
theorem dX12_isBeaten_86 : decode cX12_isBeaten 86 = .ok (.iadd, 1) := by decide +kernel
theorem dX12_isBeaten_87 : decode cX12_isBeaten 87 = .ok (.iaload, 1) := by decide +kernel
theorem dX12_isBeaten_88 : decode cX12_isBeaten 88 = .ok (.iload_n 2, 1) := by decide +kernel
theorem dX12_isBeaten_89 : decode cX12_isBeaten 89 = .ok (.if_icmp .eq 6, 3) := by decide +kernel
theorem dX12_isBeaten_92 : decode cX12_isBeaten 92 = .ok (.goto 77, 3) := by decide +kernel
theorem dX12_isBeaten_95 : decode cX12_isBeaten 95 = .ok (.aload_n 0, 1) := by decide +kernel
theorem dX12_isBeaten_96 : decode cX12_isBeaten 96 = .ok (.getfield 7, 3) := by decide +kernel
theorem dX12_isBeaten_99 : decode cX12_isBeaten 99 = .ok (.bipush 90, 2) := by decide +kernel
theorem dX12_isBeaten_101 : decode cX12_isBeaten 101 = .ok (.iload 4, 2) := by decide +kernel
theorem dX12_isBeaten_103 : decode cX12_isBeaten 103 = .ok (.iadd, 1) := by decide +kernel
theorem dX12_isBeaten_104 : decode cX12_isBeaten 104 = .ok (.iaload, 1) := by decide +kernel
theorem dX12_isBeaten_105 : decode cX12_isBeaten 105 = .ok (.iload_n 1, 1) := by decide +kernel
theorem dX12_isBeaten_106 : decode cX12_isBeaten 106 = .ok (.if_icmp .eq 31, 3) := by decide +kernel
theorem dX12_isBeaten_109 : decode cX12_isBeaten 109 = .ok (.aload_n 0, 1) := by decide +kernel
theorem dX12_isBeaten_110 : decode cX12_isBeaten 110 = .ok (.getfield 7, 3) := by decide +kernel
theorem dX12_isBeaten_113 : decode cX12_isBeaten 113 = .ok (.iconst 4, 1) := by decide +kernel
theorem dX12_isBeaten_114 : decode cX12_isBeaten 114 = .ok (.iload 4, 2) := by decide +kernel
theorem dX12_isBeaten_116 : decode cX12_isBeaten 116 = .ok (.iadd, 1) := by decide +kernel
theorem dX12_isBeaten_117 : decode cX12_isBeaten 117 = .ok (.iconst 0, 1) := by decide +kernel
theorem dX12_isBeaten_118 : decode cX12_isBeaten 118 = .ok (.aload_n 0, 1) := by decide +kernel
theorem dX12_isBeaten_119 : decode cX12_isBeaten 119 = .ok (.getfield 7, 3) := by decide +kernel
theorem dX12_isBeaten_122 : decode cX12_isBeaten 122 = .ok (.iconst 4, 1) := by decide +kernel
theorem dX12_isBeaten_123 : decode cX12_isBeaten 123 = .ok (.iload 4, 2) := by decide +kernel
theorem dX12_isBeaten_125 : decode cX12_isBeaten 125 = .ok (.iadd, 1) := by decide +kernel
theorem dX12_isBeaten_126 : decode cX12_isBeaten 126 = .ok (.iaload, 1) := by decide +kernel
theorem dX12_isBeaten_127 : decode cX12_isBeaten 127 = .ok (.bipush 10, 2) := by decide +kernel
theorem dX12_isBeaten_129 : decode cX12_isBeaten 129 = .ok (.isub, 1) := by decide +kernel
theorem dX12_isBeaten_130 : decode cX12_isBeaten 130 = .ok (.invokestatic 300, 3) := by decide +kernel
theorem dX12_isBeaten_133 : decode cX12_isBeaten 133 = .ok (.iastore, 1) := by decide +kernel
theorem dX12_isBeaten_134 : decode cX12_isBeaten 134 = .ok (.goto 35, 3) := by decide +kernel
theorem dX12_isBeaten_137 : decode cX12_isBeaten 137 = .ok (.aload_n 0, 1) := by decide +kernel
theorem dX12_isBeaten_138 : decode cX12_isBeaten 138 = .ok (.getfield 7, 3) := by decide +kernel
theorem dX12_isBeaten_141 : decode cX12_isBeaten 141 = .ok (.bipush 40, 2) := by decide +kernel
theorem dX12_isBeaten_143 : decode cX12_isBeaten 143 = .ok (.iload 4, 2) := by decide +kernel
theorem dX12_isBeaten_145 : decode cX12_isBeaten 145 = .ok (.iadd, 1) := by decide +kernel
theorem dX12_isBeaten_146 : decode cX12_isBeaten 146 = .ok (.iconst 0, 1) := by decide +kernel
theorem dX12_isBeaten_147 : decode cX12_isBeaten 147 = .ok (.iastore, 1) := by decide +kernel
theorem dX12_isBeaten_148 : decode cX12_isBeaten 148 = .ok (.aload_n 0, 1) := by decide +kernel
theorem dX12_isBeaten_149 : decode cX12_isBeaten 149 = .ok (.getfield 7, 3) := by decide +kernel
theorem dX12_isBeaten_152 : decode cX12_isBeaten 152 = .ok (.iconst 4, 1) := by decide +kernel
theorem dX12_isBeaten_153 : decode cX12_isBeaten 153 = .ok (.iload 4, 2) := by decide +kernel
theorem dX12_isBeaten_155 : decode cX12_isBeaten 155 = .ok (.iadd, 1) := by decide +kernel
theorem dX12_isBeaten_156 : decode cX12_isBeaten 156 = .ok (.dup2, 1) := by decide +kernel
theorem dX12_isBeaten_157 : decode cX12_isBeaten 157 = .ok (.iaload, 1) := by decide +kernel
theorem dX12_isBeaten_158 : decode cX12_isBeaten 158 = .ok (.iconst 2, 1) := by decide +kernel
theorem dX12_isBeaten_159 : decode cX12_isBeaten 159 = .ok (.idiv, 1) := by decide +kernel
theorem dX12_isBeaten_160 : decode cX12_isBeaten 160 = .ok (.iastore, 1) := by decide +kernel
theorem dX12_isBeaten_161 : decode cX12_isBeaten 161 = .ok (.aload_n 0, 1) := by decide +kernel
theorem dX12_isBeaten_162 : decode cX12_isBeaten 162 = .ok (.iconst 2, 1) := by decide +kernel
theorem dX12_isBeaten_163 : decode cX12_isBeaten 163 = .ok (.iload 4, 2) := by decide +kernel
theorem dX12_isBeaten_165 : decode cX12_isBeaten 165 = .ok (.iload_n 2, 1) := by decide +kernel
theorem dX12_isBeaten_166 : decode cX12_isBeaten 166 = .ok (.invokevirtual 336, 3) := by decide +kernel
theorem dX12_isBeaten_169 : decode cX12_isBeaten 169 = .ok (.iinc 4 1, 3) := by decide +kernel
theorem dX12_isBeaten_172 : decode cX12_isBeaten 172 = .ok (.goto (-120), 3) := by decide +kernel
theorem dX12_isBeaten_175 : decode cX12_isBeaten 175 = .ok (.return_, 1) := by decide +kernel
theorem dX12_isCalledFirst_0 : decode cX12_isCalledFirst 0 = .ok (.iload_n 2, 1) := by decide +kernel
theorem dX12_isCalledFirst_1 : decode cX12_isCalledFirst 1 = .ok (.iconst (-1), 1) := by decide +kernel
theorem dX12_isCalledFirst_2 : decode cX12_isCalledFirst 2 = .ok (.if_icmp .ne 5, 3) := by decide +kernel
theorem dX12_isCalledFirst_5 : decode cX12_isCalledFirst 5 = .ok (.iconst 1, 1) := by decide +kernel
theorem dX12_isCalledFirst_6 : decode cX12_isCalledFirst 6 = .ok (.ireturn, 1) := by decide +kernel
theorem dX12_isCalledFirst_7 : decode cX12_isCalledFirst 7 = .ok (.aload_n 0, 1) := by decide +kernel
theorem dX12_isCalledFirst_8 : decode cX12_isCalledFirst 8 = .ok (.iload_n 1, 1) := by decide +kernel
theorem dX12_isCalledFirst_9 : decode cX12_isCalledFirst 9 = .ok (.invokevirtual 326, 3) := by decide +kernel
theorem dX12_isCalledFirst_12 : decode cX12_isCalledFirst 12 = .ok (.aload_n 0, 1) := by decide +kernel
theorem dX12_isCalledFirst_13 : decode cX12_isCalledFirst 13 = .ok (.iload_n 2, 1) := by decide +kernel
theorem dX12_isCalledFirst_14 : decode cX12_isCalledFirst 14 = .ok (.invokevirtual 326, 3) := by decide +kernel
theorem dX12_isCalledFirst_17 : decode cX12_isCalledFirst 17 = .ok (.isub, 1) := by decide +kernel
theorem dX12_isCalledFirst_18 : decode cX12_isCalledFirst 18 = .ok (.istore_n 3, 1) := by decide +kernel
theorem dX12_isCalledFirst_19 : decode cX12_isCalledFirst 19 = .ok (.iload_n 3, 1) := by decide +kernel
theorem dX12_isCalledFirst_20 : decode cX12_isCalledFirst 20 = .ok (.ifCond .gt 28, 3) := by decide +kernel
theorem dX12_isCalledFirst_23 : decode cX12_isCalledFirst 23 = .ok (.iload_n 3, 1) := by decide +kernel
theorem dX12_isCalledFirst_24 : decode cX12_isCalledFirst 24 = .ok (.ifCond .ne 28, 3) := by decide +kernel
theorem dX12_isCalledFirst_27 : decode cX12_isCalledFirst 27 = .ok (.aload_n 0, 1) := by decide +kernel
theorem dX12_isCalledFirst_28 : decode cX12_isCalledFirst 28 = .ok (.getfield 7, 3) := by decide +kernel
theorem dX12_isCalledFirst_31 : decode cX12_isCalledFirst 31 = .ok (.bipush 102, 2) := by decide +kernel
theorem dX12_isCalledFirst_33 : decode cX12_isCalledFirst 33 = .ok (.iload_n 1, 1) := by decide +kernel
theorem dX12_isCalledFirst_34 : decode cX12_isCalledFirst 34 = .ok (.iadd, 1) := by decide +kernel
theorem dX12_isCalledFirst_35 : decode cX12_isCalledFirst 35 = .ok (.iaload, 1) := by decide +kernel
theorem dX12_isCalledFirst_36 : decode cX12_isCalledFirst 36 = .ok (.aload_n 0, 1) := by decide +kernel
theorem dX12_isCalledFirst_37 : decode cX12_isCalledFirst 37 = .ok (.getfield 7, 3) := by decide +kernel
theorem dX12_isCalledFirst_40 : decode cX12_isCalledFirst 40 = .ok (.bipush 102, 2) := by decide +kernel
theorem dX12_isCalledFirst_42 : decode cX12_isCalledFirst 42 = .ok (.iload_n 2, 1) := by decide +kernel
theorem dX12_isCalledFirst_43 : decode cX12_isCalledFirst 43 = .ok (.iadd, 1) := by decide +kernel
theorem dX12_isCalledFirst_44 : decode cX12_isCalledFirst 44 = .ok (.iaload, 1) := by decide +kernel
theorem dX12_isCalledFirst_45 : decode cX12_isCalledFirst 45 = .ok (.if_icmp .le 7, 3) := by decide +kernel
theorem dX12_isCalledFirst_48 : decode cX12_isCalledFirst 48 = .ok (.iconst 1, 1) := by decide +kernel
theorem dX12_isCalledFirst_49 : decode cX12_isCalledFirst 49 = .ok (.goto 4, 3) := by decide +kernel
theorem dX12_isCalledFirst_52 : decode cX12_isCalledFirst 52 = .ok (.iconst 0, 1) := by decide +kernel
theorem dX12_isCalledFirst_53 : decode cX12_isCalledFirst 53 = .ok (.ireturn, 1) := by decide +kernel
theorem dX12_isCountry_0 : decode cX12_isCountry 0 = .ok (.iload_n 0, 1) := by decide +kernel
theorem dX12_isCountry_1 : decode cX12_isCountry 1 = .ok (.iconst 0, 1) := by decide +kernel
theorem dX12_isCountry_2 : decode cX12_isCountry 2 = .ok (.iconst 1, 1) := by decide +kernel
theorem dX12_isCountry_3 : decode cX12_isCountry 3 = .ok (.invokestatic 54, 3) := by decide +kernel
theorem dX12_isCountry_6 : decode cX12_isCountry 6 = .ok (.ireturn, 1) := by decide +kernel
theorem dX12_isDigit_0 : decode cX12_isDigit 0 = .ok (.iload_n 0, 1) := by decide +kernel
theorem dX12_isDigit_1 : decode cX12_isDigit 1 = .ok (.bipush 48, 2) := by decide +kernel
theorem dX12_isDigit_3 : decode cX12_isDigit 3 = .ok (.bipush 57, 2) := by decide +kernel
theorem dX12_isDigit_5 : decode cX12_isDigit 5 = .ok (.invokestatic 54, 3) := by decide +kernel
theorem dX12_isDigit_8 : decode cX12_isDigit 8 = .ok (.ireturn, 1) := by decide +kernel
theorem dX12_isForgotten_0 : decode cX12_isForgotten 0 = .ok (.aload_n 0, 1) := by decide +kernel
theorem dX12_isForgotten_1 : decode cX12_isForgotten 1 = .ok (.aload_n 0, 1) := by decide +kernel
theorem dX12_isForgotten_2 : decode cX12_isForgotten 2 = .ok (.iload_n 1, 1) := by decide +kernel
theorem dX12_isForgotten_3 : decode cX12_isForgotten 3 = .ok (.invokevirtual 379, 3) := by decide +kernel
theorem dX12_isForgotten_6 : decode cX12_isForgotten 6 = .ok (.invokevirtual 382, 3) := by decide +kernel
theorem dX12_isForgotten_9 : decode cX12_isForgotten 9 = .ok (.aload_n 0, 1) := by decide +kernel
theorem dX12_isForgotten_10 : decode cX12_isForgotten 10 = .ok (.getfield 7, 3) := by decide +kernel
theorem dX12_isForgotten_13 : decode cX12_isForgotten 13 = .ok (.bipush 79, 2) := by decide +kernel
theorem dX12_isForgotten_15 : decode cX12_isForgotten 15 = .ok (.iaload, 1) := by decide +kernel
theorem dX12_isForgotten_16 : decode cX12_isForgotten 16 = .ok (.if_icmp .ge 7, 3) := by decide +kernel
theorem dX12_isForgotten_19 : decode cX12_isForgotten 19 = .ok (.iconst 1, 1) := by decide +kernel
theorem dX12_isForgotten_20 : decode cX12_isForgotten 20 = .ok (.goto 4, 3) := by decide +kernel
theorem dX12_isForgotten_23 : decode cX12_isForgotten 23 = .ok (.iconst 0, 1) := by decide +kernel
theorem dX12_isForgotten_24 : decode cX12_isForgotten 24 = .ok (.ireturn, 1) := by decide +kernel
theorem dX12_isHeld_0 : decode cX12_isHeld 0 = .ok (.iconst 0, 1) := by decide +kernel
theorem dX12_isHeld_1 : decode cX12_isHeld 1 = .ok (.istore_n 3, 1) := by decide +kernel
theorem dX12_isHeld_2 : decode cX12_isHeld 2 = .ok (.iload_n 3, 1) := by decide +kernel
theorem dX12_isHeld_3 : decode cX12_isHeld 3 = .ok (.aload_n 0, 1) := by decide +kernel
theorem dX12_isHeld_4 : decode cX12_isHeld 4 = .ok (.getfield 7, 3) := by decide +kernel
theorem dX12_isHeld_7 : decode cX12_isHeld 7 = .ok (.bipush 78, 2) := by decide +kernel
theorem dX12_isHeld_9 : decode cX12_isHeld 9 = .ok (.iaload, 1) := by decide +kernel
theorem dX12_isHeld_10 : decode cX12_isHeld 10 = .ok (.if_icmp .ge 34, 3) := by decide +kernel
theorem dX12_isHeld_13 : decode cX12_isHeld 13 = .ok (.aload_n 0, 1) := by decide +kernel
theorem dX12_isHeld_14 : decode cX12_isHeld 14 = .ok (.iload_n 3, 1) := by decide +kernel
theorem dX12_isHeld_15 : decode cX12_isHeld 15 = .ok (.iload_n 1, 1) := by decide +kernel
theorem dX12_isHeld_16 : decode cX12_isHeld 16 = .ok (.iconst 1, 1) := by decide +kernel
theorem dX12_isHeld_17 : decode cX12_isHeld 17 = .ok (.invokevirtual 320, 3) := by decide +kernel
theorem dX12_isHeld_20 : decode cX12_isHeld 20 = .ok (.ifCond .eq 18, 3) := by decide +kernel
theorem dX12_isHeld_23 : decode cX12_isHeld 23 = .ok (.aload_n 0, 1) := by decide +kernel
theorem dX12_isHeld_24 : decode cX12_isHeld 24 = .ok (.getfield 7, 3) := by decide +kernel
theorem dX12_isHeld_27 : decode cX12_isHeld 27 = .ok (.bipush 52, 2) := by decide +kernel
theorem dX12_isHeld_29 : decode cX12_isHeld 29 = .ok (.iload_n 3, 1) := by decide +kernel
theorem dX12_isHeld_30 : decode cX12_isHeld 30 = .ok (.iadd, 1) := by decide +kernel
theorem dX12_isHeld_31 : decode cX12_isHeld 31 = .ok (.iaload, 1) := by decide +kernel
theorem dX12_isHeld_32 : decode cX12_isHeld 32 = .ok (.iload_n 2, 1) := by decide +kernel
theorem dX12_isHeld_33 : decode cX12_isHeld 33 = .ok (.if_icmp .ne 5, 3) := by decide +kernel
theorem dX12_isHeld_36 : decode cX12_isHeld 36 = .ok (.iconst 1, 1) := by decide +kernel
theorem dX12_isHeld_37 : decode cX12_isHeld 37 = .ok (.ireturn, 1) := by decide +kernel
theorem dX12_isHeld_38 : decode cX12_isHeld 38 = .ok (.iinc 3 1, 3) := by decide +kernel
theorem dX12_isHeld_41 : decode cX12_isHeld 41 = .ok (.goto (-39), 3) := by decide +kernel
theorem dX12_isHeld_44 : decode cX12_isHeld 44 = .ok (.iconst 0, 1) := by decide +kernel
theorem dX12_isHeld_45 : decode cX12_isHeld 45 = .ok (.ireturn, 1) := by decide +kernel
theorem dX12_isIn_0 : decode cX12_isIn 0 = .ok (.iload_n 0, 1) := by decide +kernel
theorem dX12_isIn_1 : decode cX12_isIn 1 = .ok (.iload_n 1, 1) := by decide +kernel
theorem dX12_isIn_2 : decode cX12_isIn 2 = .ok (.if_icmp .lt 12, 3) := by decide +kernel
theorem dX12_isIn_5 : decode cX12_isIn 5 = .ok (.iload_n 0, 1) := by decide +kernel
theorem dX12_isIn_6 : decode cX12_isIn 6 = .ok (.iload_n 2, 1) := by decide +kernel
theorem dX12_isIn_7 : decode cX12_isIn 7 = .ok (.if_icmp .gt 7, 3) := by decide +kernel
theorem dX12_isIn_10 : decode cX12_isIn 10 = .ok (.iconst 1, 1) := by decide +kernel
theorem dX12_isIn_11 : decode cX12_isIn 11 = .ok (.goto 4, 3) := by decide +kernel
theorem dX12_isIn_14 : decode cX12_isIn 14 = .ok (.iconst 0, 1) := by decide +kernel
theorem dX12_isIn_15 : decode cX12_isIn 15 = .ok (.ireturn, 1) := by decide +kernel
theorem dX12_isLaster_0 : decode cX12_isLaster 0 = .ok (.iload_n 2, 1) := by decide +kernel
theorem dX12_isLaster_1 : decode cX12_isLaster 1 = .ok (.iconst (-1), 1) := by decide +kernel
theorem dX12_isLaster_2 : decode cX12_isLaster 2 = .ok (.if_icmp .ne 5, 3) := by decide +kernel
theorem dX12_isLaster_5 : decode cX12_isLaster 5 = .ok (.iconst 1, 1) := by decide +kernel
theorem dX12_isLaster_6 : decode cX12_isLaster 6 = .ok (.ireturn, 1) := by decide +kernel
theorem dX12_isLaster_7 : decode cX12_isLaster 7 = .ok (.aload_n 0, 1) := by decide +kernel
theorem dX12_isLaster_8 : decode cX12_isLaster 8 = .ok (.getfield 7, 3) := by decide +kernel
theorem dX12_isLaster_11 : decode cX12_isLaster 11 = .ok (.bipush 16, 2) := by decide +kernel
theorem dX12_isLaster_13 : decode cX12_isLaster 13 = .ok (.iload_n 1, 1) := by decide +kernel
theorem dX12_isLaster_14 : decode cX12_isLaster 14 = .ok (.iadd, 1) := by decide +kernel
theorem dX12_isLaster_15 : decode cX12_isLaster 15 = .ok (.iaload, 1) := by decide +kernel
theorem dX12_isLaster_16 : decode cX12_isLaster 16 = .ok (.invokestatic 291, 3) := by decide +kernel
theorem dX12_isLaster_19 : decode cX12_isLaster 19 = .ok (.aload_n 0, 1) := by decide +kernel
theorem dX12_isLaster_20 : decode cX12_isLaster 20 = .ok (.getfield 7, 3) := by decide +kernel
theorem dX12_isLaster_23 : decode cX12_isLaster 23 = .ok (.bipush 16, 2) := by decide +kernel
theorem dX12_isLaster_25 : decode cX12_isLaster 25 = .ok (.iload_n 2, 1) := by decide +kernel
theorem dX12_isLaster_26 : decode cX12_isLaster 26 = .ok (.iadd, 1) := by decide +kernel
theorem dX12_isLaster_27 : decode cX12_isLaster 27 = .ok (.iaload, 1) := by decide +kernel
theorem dX12_isLaster_28 : decode cX12_isLaster 28 = .ok (.invokestatic 291, 3) := by decide +kernel
theorem dX12_isLaster_31 : decode cX12_isLaster 31 = .ok (.isub, 1) := by decide +kernel
theorem dX12_isLaster_32 : decode cX12_isLaster 32 = .ok (.istore_n 3, 1) := by decide +kernel
theorem dX12_isLaster_33 : decode cX12_isLaster 33 = .ok (.iload_n 3, 1) := by decide +kernel
theorem dX12_isLaster_34 : decode cX12_isLaster 34 = .ok (.ifCond .gt 28, 3) := by decide +kernel
theorem dX12_isLaster_37 : decode cX12_isLaster 37 = .ok (.iload_n 3, 1) := by decide +kernel
theorem dX12_isLaster_38 : decode cX12_isLaster 38 = .ok (.ifCond .ne 28, 3) := by decide +kernel
theorem dX12_isLaster_41 : decode cX12_isLaster 41 = .ok (.aload_n 0, 1) := by decide +kernel
theorem dX12_isLaster_42 : decode cX12_isLaster 42 = .ok (.getfield 7, 3) := by decide +kernel
theorem dX12_isLaster_45 : decode cX12_isLaster 45 = .ok (.bipush 102, 2) := by decide +kernel
theorem dX12_isLaster_47 : decode cX12_isLaster 47 = .ok (.iload_n 1, 1) := by decide +kernel
theorem dX12_isLaster_48 : decode cX12_isLaster 48 = .ok (.iadd, 1) := by decide +kernel
theorem dX12_isLaster_49 : decode cX12_isLaster 49 = .ok (.iaload, 1) := by decide +kernel
theorem dX12_isLaster_50 : decode cX12_isLaster 50 = .ok (.aload_n 0, 1) := by decide +kernel
theorem dX12_isLaster_51 : decode cX12_isLaster 51 = .ok (.getfield 7, 3) := by decide +kernel
theorem dX12_isLaster_54 : decode cX12_isLaster 54 = .ok (.bipush 102, 2) := by decide +kernel
theorem dX12_isLaster_56 : decode cX12_isLaster 56 = .ok (.iload_n 2, 1) := by decide +kernel
theorem dX12_isLaster_57 : decode cX12_isLaster 57 = .ok (.iadd, 1) := by decide +kernel
theorem dX12_isLaster_58 : decode cX12_isLaster 58 = .ok (.iaload, 1) := by decide +kernel
theorem dX12_isLaster_59 : decode cX12_isLaster 59 = .ok (.if_icmp .le 7, 3) := by decide +kernel
theorem dX12_isLaster_62 : decode cX12_isLaster 62 = .ok (.iconst 1, 1) := by decide +kernel
theorem dX12_isLaster_63 : decode cX12_isLaster 63 = .ok (.goto 4, 3) := by decide +kernel
theorem dX12_isLaster_66 : decode cX12_isLaster 66 = .ok (.iconst 0, 1) := by decide +kernel
theorem dX12_isLaster_67 : decode cX12_isLaster 67 = .ok (.ireturn, 1) := by decide +kernel
theorem dX12_isLetter_0 : decode cX12_isLetter 0 = .ok (.iload_n 0, 1) := by decide +kernel
theorem dX12_isLetter_1 : decode cX12_isLetter 1 = .ok (.bipush 97, 2) := by decide +kernel
theorem dX12_isLetter_3 : decode cX12_isLetter 3 = .ok (.bipush 122, 2) := by decide +kernel
theorem dX12_isLetter_5 : decode cX12_isLetter 5 = .ok (.invokestatic 54, 3) := by decide +kernel
theorem dX12_isLetter_8 : decode cX12_isLetter 8 = .ok (.ifCond .ne 14, 3) := by decide +kernel
theorem dX12_isLetter_11 : decode cX12_isLetter 11 = .ok (.iload_n 0, 1) := by decide +kernel
theorem dX12_isLetter_12 : decode cX12_isLetter 12 = .ok (.bipush 65, 2) := by decide +kernel
theorem dX12_isLetter_14 : decode cX12_isLetter 14 = .ok (.bipush 90, 2) := by decide +kernel
theorem dX12_isLetter_16 : decode cX12_isLetter 16 = .ok (.invokestatic 54, 3) := by decide +kernel
theorem dX12_isLetter_19 : decode cX12_isLetter 19 = .ok (.ifCond .eq 7, 3) := by decide +kernel
theorem dX12_isLetter_22 : decode cX12_isLetter 22 = .ok (.iconst 1, 1) := by decide +kernel
theorem dX12_isLetter_23 : decode cX12_isLetter 23 = .ok (.goto 4, 3) := by decide +kernel
theorem dX12_isLetter_26 : decode cX12_isLetter 26 = .ok (.iconst 0, 1) := by decide +kernel
theorem dX12_isLetter_27 : decode cX12_isLetter 27 = .ok (.ireturn, 1) := by decide +kernel
theorem dX12_isMan_0 : decode cX12_isMan 0 = .ok (.iload_n 1, 1) := by decide +kernel
theorem dX12_isMan_1 : decode cX12_isMan 1 = .ok (.iconst 0, 1) := by decide +kernel
theorem dX12_isMan_2 : decode cX12_isMan 2 = .ok (.aload_n 0, 1) := by decide +kernel
theorem dX12_isMan_3 : decode cX12_isMan 3 = .ok (.getfield 7, 3) := by decide +kernel
theorem dX12_isMan_6 : decode cX12_isMan 6 = .ok (.bipush 78, 2) := by decide +kernel
theorem dX12_isMan_8 : decode cX12_isMan 8 = .ok (.iaload, 1) := by decide +kernel
theorem dX12_isMan_9 : decode cX12_isMan 9 = .ok (.iconst 1, 1) := by decide +kernel
theorem dX12_isMan_10 : decode cX12_isMan 10 = .ok (.isub, 1) := by decide +kernel
theorem dX12_isMan_11 : decode cX12_isMan 11 = .ok (.invokestatic 54, 3) := by decide +kernel
theorem dX12_isMan_14 : decode cX12_isMan 14 = .ok (.ireturn, 1) := by decide +kernel
theorem dX12_isOf_0 : decode cX12_isOf 0 = .ok (.aload_n 0, 1) := by decide +kernel
theorem dX12_isOf_1 : decode cX12_isOf 1 = .ok (.getfield 7, 3) := by decide +kernel
theorem dX12_isOf_4 : decode cX12_isOf 4 = .ok (.bipush 90, 2) := by decide +kernel
theorem dX12_isOf_6 : decode cX12_isOf 6 = .ok (.iload_n 1, 1) := by decide +kernel
theorem dX12_isOf_7 : decode cX12_isOf 7 = .ok (.iadd, 1) := by decide +kernel
theorem dX12_isOf_8 : decode cX12_isOf 8 = .ok (.iaload, 1) := by decide +kernel
theorem dX12_isOf_9 : decode cX12_isOf 9 = .ok (.iload_n 2, 1) := by decide +kernel
theorem dX12_isOf_10 : decode cX12_isOf 10 = .ok (.if_icmp .ne 20, 3) := by decide +kernel
theorem dX12_isOf_13 : decode cX12_isOf 13 = .ok (.aload_n 0, 1) := by decide +kernel
theorem dX12_isOf_14 : decode cX12_isOf 14 = .ok (.getfield 7, 3) := by decide +kernel
theorem dX12_isOf_17 : decode cX12_isOf 17 = .ok (.bipush 40, 2) := by decide +kernel
theorem dX12_isOf_19 : decode cX12_isOf 19 = .ok (.iload_n 1, 1) := by decide +kernel
theorem dX12_isOf_20 : decode cX12_isOf 20 = .ok (.iadd, 1) := by decide +kernel
theorem dX12_isOf_21 : decode cX12_isOf 21 = .ok (.iaload, 1) := by decide +kernel
theorem dX12_isOf_22 : decode cX12_isOf 22 = .ok (.iload_n 3, 1) := by decide +kernel
theorem dX12_isOf_23 : decode cX12_isOf 23 = .ok (.if_icmp .ne 7, 3) := by decide +kernel
theorem dX12_isOf_26 : decode cX12_isOf 26 = .ok (.iconst 1, 1) := by decide +kernel
theorem dX12_isOf_27 : decode cX12_isOf 27 = .ok (.goto 4, 3) := by decide +kernel
theorem dX12_isOf_30 : decode cX12_isOf 30 = .ok (.iconst 0, 1) := by decide +kernel
theorem dX12_isOf_31 : decode cX12_isOf 31 = .ok (.ireturn, 1) := by decide +kernel
theorem dX12_isSo_0 : decode cX12_isSo 0 = .ok (.aload_n 0, 1) := by decide +kernel
theorem dX12_isSo_1 : decode cX12_isSo 1 = .ok (.getfield 7, 3) := by decide +kernel
theorem dX12_isSo_4 : decode cX12_isSo 4 = .ok (.sipush 932, 3) := by decide +kernel
theorem dX12_isSo_7 : decode cX12_isSo 7 = .ok (.iload_n 1, 1) := by decide +kernel
theorem dX12_isSo_8 : decode cX12_isSo 8 = .ok (.iadd, 1) := by decide +kernel
theorem dX12_isSo_9 : decode cX12_isSo 9 = .ok (.iaload, 1) := by decide +kernel
theorem dX12_isSo_10 : decode cX12_isSo 10 = .ok (.aload_n 0, 1) := by decide +kernel
theorem dX12_isSo_11 : decode cX12_isSo 11 = .ok (.getfield 7, 3) := by decide +kernel
theorem dX12_isSo_14 : decode cX12_isSo 14 = .ok (.sipush 916, 3) := by decide +kernel
theorem dX12_isSo_17 : decode cX12_isSo 17 = .ok (.iload_n 1, 1) := by decide +kernel
theorem dX12_isSo_18 : decode cX12_isSo 18 = .ok (.iadd, 1) := by decide +kernel
theorem dX12_isSo_19 : decode cX12_isSo 19 = .ok (.iaload, 1) := by decide +kernel
theorem dX12_isSo_20 : decode cX12_isSo 20 = .ok (.if_icmp .eq 32, 3) := by decide +kernel
theorem dX12_isSo_23 : decode cX12_isSo 23 = .ok (.aload_n 0, 1) := by decide +kernel
theorem dX12_isSo_24 : decode cX12_isSo 24 = .ok (.iconst 0, 1) := by decide +kernel
theorem dX12_isSo_25 : decode cX12_isSo 25 = .ok (.aload_n 0, 1) := by decide +kernel
theorem dX12_isSo_26 : decode cX12_isSo 26 = .ok (.getfield 7, 3) := by decide +kernel
theorem dX12_isSo_29 : decode cX12_isSo 29 = .ok (.sipush 916, 3) := by decide +kernel
theorem dX12_isSo_32 : decode cX12_isSo 32 = .ok (.iload_n 1, 1) := by decide +kernel
theorem dX12_isSo_33 : decode cX12_isSo 33 = .ok (.iadd, 1) := by decide +kernel
theorem dX12_isSo_34 : decode cX12_isSo 34 = .ok (.iaload, 1) := by decide +kernel
theorem dX12_isSo_35 : decode cX12_isSo 35 = .ok (.aload_n 0, 1) := by decide +kernel
theorem dX12_isSo_36 : decode cX12_isSo 36 = .ok (.getfield 7, 3) := by decide +kernel
theorem dX12_isSo_39 : decode cX12_isSo 39 = .ok (.sipush 932, 3) := by decide +kernel
theorem dX12_isSo_42 : decode cX12_isSo 42 = .ok (.iload_n 1, 1) := by decide +kernel
theorem dX12_isSo_43 : decode cX12_isSo 43 = .ok (.iadd, 1) := by decide +kernel
theorem dX12_isSo_44 : decode cX12_isSo 44 = .ok (.iaload, 1) := by decide +kernel
theorem dX12_isSo_45 : decode cX12_isSo 45 = .ok (.invokevirtual 288, 3) := by decide +kernel
theorem dX12_isSo_48 : decode cX12_isSo 48 = .ok (.iconst 1, 1) := by decide +kernel
theorem dX12_isSo_49 : decode cX12_isSo 49 = .ok (.if_icmp .ne 7, 3) := by decide +kernel
theorem dX12_isSo_52 : decode cX12_isSo 52 = .ok (.iconst 1, 1) := by decide +kernel
theorem dX12_isSo_53 : decode cX12_isSo 53 = .ok (.goto 4, 3) := by decide +kernel
theorem dX12_isSo_56 : decode cX12_isSo 56 = .ok (.iconst 0, 1) := by decide +kernel
theorem dX12_isSo_57 : decode cX12_isSo 57 = .ok (.ireturn, 1) := by decide +kernel
theorem dX12_isThrough_0 : decode cX12_isThrough 0 = .ok (.aload_n 0, 1) := by decide +kernel
theorem dX12_isThrough_1 : decode cX12_isThrough 1 = .ok (.iload_n 1, 1) := by decide +kernel
theorem dX12_isThrough_2 : decode cX12_isThrough 2 = .ok (.iconst 1, 1) := by decide +kernel
theorem dX12_isThrough_3 : decode cX12_isThrough 3 = .ok (.iload_n 1, 1) := by decide +kernel
theorem dX12_isThrough_4 : decode cX12_isThrough 4 = .ok (.isub, 1) := by decide +kernel
theorem dX12_isThrough_5 : decode cX12_isThrough 5 = .ok (.invokestatic 323, 3) := by decide +kernel
theorem dX12_isThrough_8 : decode cX12_isThrough 8 = .ok (.invokevirtual 343, 3) := by decide +kernel
theorem dX12_isThrough_11 : decode cX12_isThrough 11 = .ok (.ifCond .eq 23, 3) := by decide +kernel
theorem dX12_isThrough_14 : decode cX12_isThrough 14 = .ok (.aload_n 0, 1) := by decide +kernel
theorem dX12_isThrough_15 : decode cX12_isThrough 15 = .ok (.iconst 1, 1) := by decide +kernel
theorem dX12_isThrough_16 : decode cX12_isThrough 16 = .ok (.iload_n 1, 1) := by decide +kernel
theorem dX12_isThrough_17 : decode cX12_isThrough 17 = .ok (.isub, 1) := by decide +kernel
theorem dX12_isThrough_18 : decode cX12_isThrough 18 = .ok (.iconst 1, 1) := by decide +kernel
theorem dX12_isThrough_19 : decode cX12_isThrough 19 = .ok (.iload_n 1, 1) := by decide +kernel
theorem dX12_isThrough_20 : decode cX12_isThrough 20 = .ok (.isub, 1) := by decide +kernel
theorem dX12_isThrough_21 : decode cX12_isThrough 21 = .ok (.invokestatic 323, 3) := by decide +kernel
theorem dX12_isThrough_24 : decode cX12_isThrough 24 = .ok (.invokevirtual 343, 3) := by decide +kernel
theorem dX12_isThrough_27 : decode cX12_isThrough 27 = .ok (.ifCond .ne 7, 3) := by decide +kernel
theorem dX12_isThrough_30 : decode cX12_isThrough 30 = .ok (.iconst 1, 1) := by decide +kernel
theorem dX12_isThrough_31 : decode cX12_isThrough 31 = .ok (.goto 4, 3) := by decide +kernel
theorem dX12_isThrough_34 : decode cX12_isThrough 34 = .ok (.iconst 0, 1) := by decide +kernel
theorem dX12_isThrough_35 : decode cX12_isThrough 35 = .ok (.ireturn, 1) := by decide +kernel
theorem dX12_keeps_0 : decode cX12_keeps 0 = .ok (.aload_n 0, 1) := by decide +kernel
theorem dX12_keeps_1 : decode cX12_keeps 1 = .ok (.getfield 58, 3) := by decide +kernel
theorem dX12_keeps_4 : decode cX12_keeps 4 = .ok (.bipush 6, 2) := by decide +kernel
theorem dX12_keeps_6 : decode cX12_keeps 6 = .ok (.if_icmp .ne 43, 3) := by decide +kernel
theorem dX12_keeps_9 : decode cX12_keeps 9 = .ok (.iconst 0, 1) := by decide +kernel
theorem dX12_keeps_10 : decode cX12_keeps 10 = .ok (.istore_n 1, 1) := by decide +kernel
theorem dX12_keeps_11 : decode cX12_keeps 11 = .ok (.iload_n 1, 1) := by decide +kernel
theorem dX12_keeps_12 : decode cX12_keeps 12 = .ok (.sipush 390, 3) := by decide +kernel
theorem dX12_keeps_15 : decode cX12_keeps 15 = .ok (.if_icmp .ge 24, 3) := by decide +kernel
theorem dX12_keeps_18 : decode cX12_keeps 18 = .ok (.aload_n 0, 1) := by decide +kernel
theorem dX12_keeps_19 : decode cX12_keeps 19 = .ok (.getfield 16, 3) := by decide +kernel
theorem dX12_keeps_22 : decode cX12_keeps 22 = .ok (.iload_n 1, 1) := by decide +kernel
theorem dX12_keeps_23 : decode cX12_keeps 23 = .ok (.aload_n 0, 1) := by decide +kernel
theorem dX12_keeps_24 : decode cX12_keeps 24 = .ok (.getfield 16, 3) := by decide +kernel
theorem dX12_keeps_27 : decode cX12_keeps 27 = .ok (.iload_n 1, 1) := by decide +kernel
theorem dX12_keeps_28 : decode cX12_keeps 28 = .ok (.bipush 78, 2) := by decide +kernel
theorem dX12_keeps_30 : decode cX12_keeps 30 = .ok (.iadd, 1) := by decide +kernel
theorem dX12_keeps_31 : decode cX12_keeps 31 = .ok (.iaload, 1) := by decide +kernel
theorem dX12_keeps_32 : decode cX12_keeps 32 = .ok (.iastore, 1) := by decide +kernel
theorem dX12_keeps_33 : decode cX12_keeps 33 = .ok (.iinc 1 1, 3) := by decide +kernel
theorem dX12_keeps_36 : decode cX12_keeps 36 = .ok (.goto (-25), 3) := by decide +kernel
theorem dX12_keeps_39 : decode cX12_keeps 39 = .ok (.aload_n 0, 1) := by decide +kernel
theorem dX12_keeps_40 : decode cX12_keeps 40 = .ok (.dup, 1) := by decide +kernel
theorem dX12_keeps_41 : decode cX12_keeps 41 = .ok (.getfield 58, 3) := by decide +kernel
theorem dX12_keeps_44 : decode cX12_keeps 44 = .ok (.iconst 1, 1) := by decide +kernel
theorem dX12_keeps_45 : decode cX12_keeps 45 = .ok (.isub, 1) := by decide +kernel
theorem dX12_keeps_46 : decode cX12_keeps 46 = .ok (.putfield 58, 3) := by decide +kernel
theorem dX12_keeps_49 : decode cX12_keeps 49 = .ok (.iconst 0, 1) := by decide +kernel
theorem dX12_keeps_50 : decode cX12_keeps 50 = .ok (.istore_n 1, 1) := by decide +kernel
theorem dX12_keeps_51 : decode cX12_keeps 51 = .ok (.iload_n 1, 1) := by decide +kernel
theorem dX12_keeps_52 : decode cX12_keeps 52 = .ok (.bipush 78, 2) := by decide +kernel
theorem dX12_keeps_54 : decode cX12_keeps 54 = .ok (.if_icmp .ge 29, 3) := by decide +kernel
theorem dX12_keeps_57 : decode cX12_keeps 57 = .ok (.aload_n 0, 1) := by decide +kernel
theorem dX12_keeps_58 : decode cX12_keeps 58 = .ok (.getfield 16, 3) := by decide +kernel
theorem dX12_keeps_61 : decode cX12_keeps 61 = .ok (.bipush 78, 2) := by decide +kernel
theorem dX12_keeps_63 : decode cX12_keeps 63 = .ok (.aload_n 0, 1) := by decide +kernel
theorem dX12_keeps_64 : decode cX12_keeps 64 = .ok (.getfield 58, 3) := by decide +kernel
theorem dX12_keeps_67 : decode cX12_keeps 67 = .ok (.imul, 1) := by decide +kernel
theorem dX12_keeps_68 : decode cX12_keeps 68 = .ok (.iload_n 1, 1) := by decide +kernel
theorem dX12_keeps_69 : decode cX12_keeps 69 = .ok (.iadd, 1) := by decide +kernel
theorem dX12_keeps_70 : decode cX12_keeps 70 = .ok (.aload_n 0, 1) := by decide +kernel
theorem dX12_keeps_71 : decode cX12_keeps 71 = .ok (.getfield 7, 3) := by decide +kernel
theorem dX12_keeps_74 : decode cX12_keeps 74 = .ok (.iload_n 1, 1) := by decide +kernel
theorem dX12_keeps_75 : decode cX12_keeps 75 = .ok (.iaload, 1) := by decide +kernel
theorem dX12_keeps_76 : decode cX12_keeps 76 = .ok (.iastore, 1) := by decide +kernel
theorem dX12_keeps_77 : decode cX12_keeps 77 = .ok (.iinc 1 1, 3) := by decide +kernel
theorem dX12_keeps_80 : decode cX12_keeps 80 = .ok (.goto (-29), 3) := by decide +kernel
theorem dX12_keeps_83 : decode cX12_keeps 83 = .ok (.aload_n 0, 1) := by decide +kernel
theorem dX12_keeps_84 : decode cX12_keeps 84 = .ok (.dup, 1) := by decide +kernel
theorem dX12_keeps_85 : decode cX12_keeps 85 = .ok (.getfield 58, 3) := by decide +kernel
theorem dX12_keeps_88 : decode cX12_keeps 88 = .ok (.iconst 1, 1) := by decide +kernel
theorem dX12_keeps_89 : decode cX12_keeps 89 = .ok (.iadd, 1) := by decide +kernel
theorem dX12_keeps_90 : decode cX12_keeps 90 = .ok (.putfield 58, 3) := by decide +kernel
theorem dX12_keeps_93 : decode cX12_keeps 93 = .ok (.return_, 1) := by decide +kernel
theorem dX12_knees_0 : decode cX12_knees 0 = .ok (.iload_n 1, 1) := by decide +kernel
theorem dX12_knees_1 : decode cX12_knees 1 = .ok (.iconst 0, 1) := by decide +kernel
theorem dX12_knees_2 : decode cX12_knees 2 = .ok (.bipush 7, 2) := by decide +kernel
theorem dX12_knees_4 : decode cX12_knees 4 = .ok (.invokestatic 54, 3) := by decide +kernel
theorem dX12_knees_7 : decode cX12_knees 7 = .ok (.ifCond .eq 28, 3) := by decide +kernel
theorem dX12_knees_10 : decode cX12_knees 10 = .ok (.aload_n 0, 1) := by decide +kernel
theorem dX12_knees_11 : decode cX12_knees 11 = .ok (.iload_n 2, 1) := by decide +kernel
theorem dX12_knees_12 : decode cX12_knees 12 = .ok (.invokevirtual 70, 3) := by decide +kernel
theorem dX12_knees_15 : decode cX12_knees 15 = .ok (.ifCond .eq 20, 3) := by decide +kernel
theorem dX12_knees_18 : decode cX12_knees 18 = .ok (.aload_n 0, 1) := by decide +kernel
theorem dX12_knees_19 : decode cX12_knees 19 = .ok (.getfield 7, 3) := by decide +kernel
theorem dX12_knees_22 : decode cX12_knees 22 = .ok (.bipush 16, 2) := by decide +kernel
theorem dX12_knees_24 : decode cX12_knees 24 = .ok (.iload_n 2, 1) := by decide +kernel
theorem dX12_knees_25 : decode cX12_knees 25 = .ok (.iadd, 1) := by decide +kernel
theorem dX12_knees_26 : decode cX12_knees 26 = .ok (.iaload, 1) := by decide +kernel
theorem dX12_knees_27 : decode cX12_knees 27 = .ok (.iload_n 1, 1) := by decide +kernel
theorem dX12_knees_28 : decode cX12_knees 28 = .ok (.ishr, 1) := by decide +kernel
theorem dX12_knees_29 : decode cX12_knees 29 = .ok (.iconst 1, 1) := by decide +kernel
theorem dX12_knees_30 : decode cX12_knees 30 = .ok (.iand, 1) := by decide +kernel
theorem dX12_knees_31 : decode cX12_knees 31 = .ok (.iconst 1, 1) := by decide +kernel
theorem dX12_knees_32 : decode cX12_knees 32 = .ok (.if_icmp .ne 5, 3) := by decide +kernel
theorem dX12_knees_35 : decode cX12_knees 35 = .ok (.iconst (-1), 1) := by decide +kernel
theorem dX12_knees_36 : decode cX12_knees 36 = .ok (.ireturn, 1) := by decide +kernel
theorem dX12_knees_37 : decode cX12_knees 37 = .ok (.aload_n 0, 1) := by decide +kernel
theorem dX12_knees_38 : decode cX12_knees 38 = .ok (.iload_n 1, 1) := by decide +kernel
theorem dX12_knees_39 : decode cX12_knees 39 = .ok (.invokevirtual 424, 3) := by decide +kernel
theorem dX12_knees_42 : decode cX12_knees 42 = .ok (.istore_n 3, 1) := by decide +kernel
theorem dX12_knees_43 : decode cX12_knees 43 = .ok (.ldc_w 420, 3) := by decide +kernel
theorem dX12_knees_46 : decode cX12_knees 46 = .ok (.istore 4, 2) := by decide +kernel
theorem dX12_knees_48 : decode cX12_knees 48 = .ok (.iconst 0, 1) := by decide +kernel
theorem dX12_knees_49 : decode cX12_knees 49 = .ok (.istore 5, 2) := by decide +kernel
theorem dX12_knees_51 : decode cX12_knees 51 = .ok (.iload 5, 2) := by decide +kernel
theorem dX12_knees_53 : decode cX12_knees 53 = .ok (.iconst 1, 1) := by decide +kernel
theorem dX12_knees_54 : decode cX12_knees 54 = .ok (.aload_n 0, 1) := by decide +kernel
theorem dX12_knees_55 : decode cX12_knees 55 = .ok (.getfield 7, 3) := by decide +kernel
theorem dX12_knees_58 : decode cX12_knees 58 = .ok (.bipush 78, 2) := by decide +kernel
theorem dX12_knees_60 : decode cX12_knees 60 = .ok (.iaload, 1) := by decide +kernel
theorem dX12_knees_61 : decode cX12_knees 61 = .ok (.ishl, 1) := by decide +kernel
theorem dX12_knees_62 : decode cX12_knees 62 = .ok (.if_icmp .ge 97, 3) := by decide +kernel
theorem dX12_knees_65 : decode cX12_knees 65 = .ok (.iload 5, 2) := by decide +kernel
theorem dX12_knees_67 : decode cX12_knees 67 = .ok (.iload_n 3, 1) := by decide +kernel
theorem dX12_knees_68 : decode cX12_knees 68 = .ok (.iand, 1) := by decide +kernel
theorem dX12_knees_69 : decode cX12_knees 69 = .ok (.iload_n 3, 1) := by decide +kernel
theorem dX12_knees_70 : decode cX12_knees 70 = .ok (.if_icmp .ne 83, 3) := by decide +kernel
theorem dX12_knees_73 : decode cX12_knees 73 = .ok (.iload 5, 2) := by decide +kernel
theorem dX12_knees_75 : decode cX12_knees 75 = .ok (.iload_n 2, 1) := by decide +kernel
theorem dX12_knees_76 : decode cX12_knees 76 = .ok (.ishr, 1) := by decide +kernel
theorem dX12_knees_77 : decode cX12_knees 77 = .ok (.iconst 1, 1) := by decide +kernel
theorem dX12_knees_78 : decode cX12_knees 78 = .ok (.iand, 1) := by decide +kernel
theorem dX12_knees_79 : decode cX12_knees 79 = .ok (.iconst 1, 1) := by decide +kernel
theorem dX12_knees_80 : decode cX12_knees 80 = .ok (.if_icmp .ne 6, 3) := by decide +kernel
theorem dX12_knees_83 : decode cX12_knees 83 = .ok (.goto 70, 3) := by decide +kernel
theorem dX12_knees_86 : decode cX12_knees 86 = .ok (.iconst 0, 1) := by decide +kernel
theorem dX12_knees_87 : decode cX12_knees 87 = .ok (.istore 6, 2) := by decide +kernel
theorem dX12_knees_89 : decode cX12_knees 89 = .ok (.iconst 0, 1) := by decide +kernel
theorem dX12_knees_90 : decode cX12_knees 90 = .ok (.istore 7, 2) := by decide +kernel
theorem dX12_knees_92 : decode cX12_knees 92 = .ok (.iload 7, 2) := by decide +kernel
theorem dX12_knees_94 : decode cX12_knees 94 = .ok (.aload_n 0, 1) := by decide +kernel
theorem dX12_knees_95 : decode cX12_knees 95 = .ok (.getfield 7, 3) := by decide +kernel
theorem dX12_knees_98 : decode cX12_knees 98 = .ok (.bipush 78, 2) := by decide +kernel
theorem dX12_knees_100 : decode cX12_knees 100 = .ok (.iaload, 1) := by decide +kernel
theorem dX12_knees_101 : decode cX12_knees 101 = .ok (.if_icmp .ge 43, 3) := by decide +kernel
theorem dX12_knees_104 : decode cX12_knees 104 = .ok (.iload 6, 2) := by decide +kernel
theorem dX12_knees_106 : decode cX12_knees 106 = .ok (.iload 5, 2) := by decide +kernel
theorem dX12_knees_108 : decode cX12_knees 108 = .ok (.iload 7, 2) := by decide +kernel
theorem dX12_knees_110 : decode cX12_knees 110 = .ok (.ishr, 1) := by decide +kernel
theorem dX12_knees_111 : decode cX12_knees 111 = .ok (.iconst 1, 1) := by decide +kernel
theorem dX12_knees_112 : decode cX12_knees 112 = .ok (.iand, 1) := by decide +kernel
theorem dX12_knees_113 : decode cX12_knees 113 = .ok (.iconst 1, 1) := by decide +kernel
theorem dX12_knees_114 : decode cX12_knees 114 = .ok (.if_icmp .ne 20, 3) := by decide +kernel
theorem dX12_knees_117 : decode cX12_knees 117 = .ok (.aload_n 0, 1) := by decide +kernel
theorem dX12_knees_118 : decode cX12_knees 118 = .ok (.iload 7, 2) := by decide +kernel
theorem dX12_knees_120 : decode cX12_knees 120 = .ok (.invokevirtual 370, 3) := by decide +kernel
theorem dX12_knees_123 : decode cX12_knees 123 = .ok (.iload 5, 2) := by decide +kernel
theorem dX12_knees_125 : decode cX12_knees 125 = .ok (.iconst (-1), 1) := by decide +kernel
theorem dX12_knees_126 : decode cX12_knees 126 = .ok (.ixor, 1) := by decide +kernel
theorem dX12_knees_127 : decode cX12_knees 127 = .ok (.iand, 1) := by decide +kernel
theorem dX12_knees_128 : decode cX12_knees 128 = .ok (.invokestatic 291, 3) := by decide +kernel
theorem dX12_knees_131 : decode cX12_knees 131 = .ok (.goto 4, 3) := by decide +kernel
theorem dX12_knees_134 : decode cX12_knees 134 = .ok (.iconst 0, 1) := by decide +kernel
theorem dX12_knees_135 : decode cX12_knees 135 = .ok (.iadd, 1) := by decide +kernel
theorem dX12_knees_136 : decode cX12_knees 136 = .ok (.istore 6, 2) := by decide +kernel
theorem dX12_knees_138 : decode cX12_knees 138 = .ok (.iinc 7 1, 3) := by decide +kernel
theorem dX12_knees_141 : decode cX12_knees 141 = .ok (.goto (-49), 3) := by decide +kernel
theorem dX12_knees_144 : decode cX12_knees 144 = .ok (.iload 4, 2) := by decide +kernel
theorem dX12_knees_146 : decode cX12_knees 146 = .ok (.iload 6, 2) := by decide +kernel
theorem dX12_knees_148 : decode cX12_knees 148 = .ok (.invokestatic 297, 3) := by decide +kernel
theorem dX12_knees_151 : decode cX12_knees 151 = .ok (.istore 4, 2) := by decide +kernel
theorem dX12_knees_153 : decode cX12_knees 153 = .ok (.iinc 5 1, 3) := by decide +kernel
theorem dX12_knees_156 : decode cX12_knees 156 = .ok (.goto (-105), 3) := by decide +kernel
theorem dX12_knees_159 : decode cX12_knees 159 = .ok (.iload 4, 2) := by decide +kernel
theorem dX12_knees_161 : decode cX12_knees 161 = .ok (.ireturn, 1) := by decide +kernel
theorem dX12_knowers_0 : decode cX12_knowers 0 = .ok (.iconst 0, 1) := by decide +kernel
theorem dX12_knowers_1 : decode cX12_knowers 1 = .ok (.istore_n 2, 1) := by decide +kernel
theorem dX12_knowers_2 : decode cX12_knowers 2 = .ok (.iconst 0, 1) := by decide +kernel
theorem dX12_knowers_3 : decode cX12_knowers 3 = .ok (.istore_n 3, 1) := by decide +kernel
theorem dX12_knowers_4 : decode cX12_knowers 4 = .ok (.iload_n 3, 1) := by decide +kernel
theorem dX12_knowers_5 : decode cX12_knowers 5 = .ok (.aload_n 0, 1) := by decide +kernel
theorem dX12_knowers_6 : decode cX12_knowers 6 = .ok (.getfield 7, 3) := by decide +kernel
theorem dX12_knowers_9 : decode cX12_knowers 9 = .ok (.bipush 78, 2) := by decide +kernel
theorem dX12_knowers_11 : decode cX12_knowers 11 = .ok (.iaload, 1) := by decide +kernel
theorem dX12_knowers_12 : decode cX12_knowers 12 = .ok (.if_icmp .ge 27, 3) := by decide +kernel
theorem dX12_knowers_15 : decode cX12_knowers 15 = .ok (.iload_n 2, 1) := by decide +kernel
theorem dX12_knowers_16 : decode cX12_knowers 16 = .ok (.aload_n 0, 1) := by decide +kernel
theorem dX12_knowers_17 : decode cX12_knowers 17 = .ok (.getfield 7, 3) := by decide +kernel
theorem dX12_knowers_20 : decode cX12_knowers 20 = .ok (.bipush 16, 2) := by decide +kernel
theorem dX12_knowers_22 : decode cX12_knowers 22 = .ok (.iload_n 3, 1) := by decide +kernel
theorem dX12_knowers_23 : decode cX12_knowers 23 = .ok (.iadd, 1) := by decide +kernel
theorem dX12_knowers_24 : decode cX12_knowers 24 = .ok (.iaload, 1) := by decide +kernel
theorem dX12_knowers_25 : decode cX12_knowers 25 = .ok (.iload_n 1, 1) := by decide +kernel
theorem dX12_knowers_26 : decode cX12_knowers 26 = .ok (.ishr, 1) := by decide +kernel
theorem dX12_knowers_27 : decode cX12_knowers 27 = .ok (.iconst 1, 1) := by decide +kernel
theorem dX12_knowers_28 : decode cX12_knowers 28 = .ok (.iand, 1) := by decide +kernel
theorem dX12_knowers_29 : decode cX12_knowers 29 = .ok (.iload_n 3, 1) := by decide +kernel
theorem dX12_knowers_30 : decode cX12_knowers 30 = .ok (.ishl, 1) := by decide +kernel
theorem dX12_knowers_31 : decode cX12_knowers 31 = .ok (.ior, 1) := by decide +kernel
theorem dX12_knowers_32 : decode cX12_knowers 32 = .ok (.istore_n 2, 1) := by decide +kernel
theorem dX12_knowers_33 : decode cX12_knowers 33 = .ok (.iinc 3 1, 3) := by decide +kernel
theorem dX12_knowers_36 : decode cX12_knowers 36 = .ok (.goto (-32), 3) := by decide +kernel
theorem dX12_knowers_39 : decode cX12_knowers 39 = .ok (.iload_n 2, 1) := by decide +kernel
theorem dX12_knowers_40 : decode cX12_knowers 40 = .ok (.ireturn, 1) := by decide +kernel
theorem dX12_knownIn_0 : decode cX12_knownIn 0 = .ok (.iconst 0, 1) := by decide +kernel
theorem dX12_knownIn_1 : decode cX12_knownIn 1 = .ok (.istore_n 2, 1) := by decide +kernel
theorem dX12_knownIn_2 : decode cX12_knownIn 2 = .ok (.iconst 0, 1) := by decide +kernel
theorem dX12_knownIn_3 : decode cX12_knownIn 3 = .ok (.istore_n 3, 1) := by decide +kernel
theorem dX12_knownIn_4 : decode cX12_knownIn 4 = .ok (.iload_n 3, 1) := by decide +kernel
theorem dX12_knownIn_5 : decode cX12_knownIn 5 = .ok (.aload_n 0, 1) := by decide +kernel
theorem dX12_knownIn_6 : decode cX12_knownIn 6 = .ok (.getfield 7, 3) := by decide +kernel
theorem dX12_knownIn_9 : decode cX12_knownIn 9 = .ok (.bipush 78, 2) := by decide +kernel
theorem dX12_knownIn_11 : decode cX12_knownIn 11 = .ok (.iaload, 1) := by decide +kernel
theorem dX12_knownIn_12 : decode cX12_knownIn 12 = .ok (.if_icmp .ge 38, 3) := by decide +kernel
theorem dX12_knownIn_15 : decode cX12_knownIn 15 = .ok (.iload_n 2, 1) := by decide +kernel
theorem dX12_knownIn_16 : decode cX12_knownIn 16 = .ok (.aload_n 0, 1) := by decide +kernel
theorem dX12_knownIn_17 : decode cX12_knownIn 17 = .ok (.getfield 7, 3) := by decide +kernel
theorem dX12_knownIn_20 : decode cX12_knownIn 20 = .ok (.bipush 90, 2) := by decide +kernel
theorem dX12_knownIn_22 : decode cX12_knownIn 22 = .ok (.iload_n 3, 1) := by decide +kernel
theorem dX12_knownIn_23 : decode cX12_knownIn 23 = .ok (.iadd, 1) := by decide +kernel
theorem dX12_knownIn_24 : decode cX12_knownIn 24 = .ok (.iaload, 1) := by decide +kernel
theorem dX12_knownIn_25 : decode cX12_knownIn 25 = .ok (.iload_n 1, 1) := by decide +kernel
theorem dX12_knownIn_26 : decode cX12_knownIn 26 = .ok (.if_icmp .ne 15, 3) := by decide +kernel
theorem dX12_knownIn_29 : decode cX12_knownIn 29 = .ok (.aload_n 0, 1) := by decide +kernel
theorem dX12_knownIn_30 : decode cX12_knownIn 30 = .ok (.getfield 7, 3) := by decide +kernel
theorem dX12_knownIn_33 : decode cX12_knownIn 33 = .ok (.bipush 16, 2) := by decide +kernel
theorem dX12_knownIn_35 : decode cX12_knownIn 35 = .ok (.iload_n 3, 1) := by decide +kernel
theorem dX12_knownIn_36 : decode cX12_knownIn 36 = .ok (.iadd, 1) := by decide +kernel
theorem dX12_knownIn_37 : decode cX12_knownIn 37 = .ok (.iaload, 1) := by decide +kernel
theorem dX12_knownIn_38 : decode cX12_knownIn 38 = .ok (.goto 4, 3) := by decide +kernel
theorem dX12_knownIn_41 : decode cX12_knownIn 41 = .ok (.iconst 0, 1) := by decide +kernel
theorem dX12_knownIn_42 : decode cX12_knownIn 42 = .ok (.ior, 1) := by decide +kernel
theorem dX12_knownIn_43 : decode cX12_knownIn 43 = .ok (.istore_n 2, 1) := by decide +kernel
theorem dX12_knownIn_44 : decode cX12_knownIn 44 = .ok (.iinc 3 1, 3) := by decide +kernel
theorem dX12_knownIn_47 : decode cX12_knownIn 47 = .ok (.goto (-43), 3) := by decide +kernel
theorem dX12_knownIn_50 : decode cX12_knownIn 50 = .ok (.iload_n 2, 1) := by decide +kernel
theorem dX12_knownIn_51 : decode cX12_knownIn 51 = .ok (.ireturn, 1) := by decide +kernel
theorem dX12_last_0 : decode cX12_last 0 = .ok (.iconst (-1), 1) := by decide +kernel
theorem dX12_last_1 : decode cX12_last 1 = .ok (.istore_n 1, 1) := by decide +kernel
theorem dX12_last_2 : decode cX12_last 2 = .ok (.iconst 0, 1) := by decide +kernel
theorem dX12_last_3 : decode cX12_last 3 = .ok (.istore_n 2, 1) := by decide +kernel
theorem dX12_last_4 : decode cX12_last 4 = .ok (.iload_n 2, 1) := by decide +kernel
theorem dX12_last_5 : decode cX12_last 5 = .ok (.aload_n 0, 1) := by decide +kernel
theorem dX12_last_6 : decode cX12_last 6 = .ok (.getfield 7, 3) := by decide +kernel
theorem dX12_last_9 : decode cX12_last 9 = .ok (.bipush 78, 2) := by decide +kernel
theorem dX12_last_11 : decode cX12_last 11 = .ok (.iaload, 1) := by decide +kernel
theorem dX12_last_12 : decode cX12_last 12 = .ok (.if_icmp .ge 20, 3) := by decide +kernel
theorem dX12_last_15 : decode cX12_last 15 = .ok (.aload_n 0, 1) := by decide +kernel
theorem dX12_last_16 : decode cX12_last 16 = .ok (.iload_n 2, 1) := by decide +kernel
theorem dX12_last_17 : decode cX12_last 17 = .ok (.iload_n 1, 1) := by decide +kernel
theorem dX12_last_18 : decode cX12_last 18 = .ok (.invokevirtual 454, 3) := by decide +kernel
theorem dX12_last_21 : decode cX12_last 21 = .ok (.ifCond .eq 5, 3) := by decide +kernel
theorem dX12_last_24 : decode cX12_last 24 = .ok (.iload_n 2, 1) := by decide +kernel
theorem dX12_last_25 : decode cX12_last 25 = .ok (.istore_n 1, 1) := by decide +kernel
theorem dX12_last_26 : decode cX12_last 26 = .ok (.iinc 2 1, 3) := by decide +kernel
theorem dX12_last_29 : decode cX12_last 29 = .ok (.goto (-25), 3) := by decide +kernel
theorem dX12_last_32 : decode cX12_last 32 = .ok (.iload_n 1, 1) := by decide +kernel
theorem dX12_last_33 : decode cX12_last 33 = .ok (.ireturn, 1) := by decide +kernel
theorem dX12_lasts_0 : decode cX12_lasts 0 = .ok (.iload_n 1, 1) := by decide +kernel
theorem dX12_lasts_1 : decode cX12_lasts 1 = .ok (.iconst 0, 1) := by decide +kernel
theorem dX12_lasts_2 : decode cX12_lasts 2 = .ok (.iconst 3, 1) := by decide +kernel
theorem dX12_lasts_3 : decode cX12_lasts 3 = .ok (.invokestatic 54, 3) := by decide +kernel
theorem dX12_lasts_6 : decode cX12_lasts 6 = .ok (.ifCond .ne 5, 3) := by decide +kernel
theorem dX12_lasts_9 : decode cX12_lasts 9 = .ok (.iconst (-1), 1) := by decide +kernel
theorem dX12_lasts_10 : decode cX12_lasts 10 = .ok (.ireturn, 1) := by decide +kernel
theorem dX12_lasts_11 : decode cX12_lasts 11 = .ok (.aload_n 0, 1) := by decide +kernel
theorem dX12_lasts_12 : decode cX12_lasts 12 = .ok (.iconst (-1), 1) := by decide +kernel
theorem dX12_lasts_13 : decode cX12_lasts 13 = .ok (.iconst 0, 1) := by decide +kernel
theorem dX12_lasts_14 : decode cX12_lasts 14 = .ok (.invokevirtual 421, 3) := by decide +kernel
theorem dX12_lasts_17 : decode cX12_lasts 17 = .ok (.istore_n 2, 1) := by decide +kernel
theorem dX12_lasts_18 : decode cX12_lasts 18 = .ok (.iload_n 1, 1) := by decide +kernel
theorem dX12_lasts_19 : decode cX12_lasts 19 = .ok (.ifCond .le 12, 3) := by decide +kernel
theorem dX12_lasts_22 : decode cX12_lasts 22 = .ok (.aload_n 0, 1) := by decide +kernel
theorem dX12_lasts_23 : decode cX12_lasts 23 = .ok (.getfield 44, 3) := by decide +kernel
theorem dX12_lasts_26 : decode cX12_lasts 26 = .ok (.iload_n 1, 1) := by decide +kernel
theorem dX12_lasts_27 : decode cX12_lasts 27 = .ok (.iaload, 1) := by decide +kernel
theorem dX12_lasts_28 : decode cX12_lasts 28 = .ok (.goto 15, 3) := by decide +kernel
theorem dX12_lasts_31 : decode cX12_lasts 31 = .ok (.iload_n 2, 1) := by decide +kernel
theorem dX12_lasts_32 : decode cX12_lasts 32 = .ok (.ldc_w 420, 3) := by decide +kernel
theorem dX12_lasts_35 : decode cX12_lasts 35 = .ok (.if_icmp .ne 7, 3) := by decide +kernel
theorem dX12_lasts_38 : decode cX12_lasts 38 = .ok (.iconst (-1), 1) := by decide +kernel
theorem dX12_lasts_39 : decode cX12_lasts 39 = .ok (.goto 4, 3) := by decide +kernel
theorem dX12_lasts_42 : decode cX12_lasts 42 = .ok (.iload_n 2, 1) := by decide +kernel
theorem dX12_lasts_43 : decode cX12_lasts 43 = .ok (.ireturn, 1) := by decide +kernel
theorem dX12_lastsWith_0 : decode cX12_lastsWith 0 = .ok (.iconst 0, 1) := by decide +kernel
theorem dX12_lastsWith_1 : decode cX12_lastsWith 1 = .ok (.istore_n 3, 1) := by decide +kernel
theorem dX12_lastsWith_2 : decode cX12_lastsWith 2 = .ok (.iload_n 3, 1) := by decide +kernel
theorem dX12_lastsWith_3 : decode cX12_lastsWith 3 = .ok (.bipush 78, 2) := by decide +kernel
theorem dX12_lastsWith_5 : decode cX12_lastsWith 5 = .ok (.if_icmp .ge 21, 3) := by decide +kernel
theorem dX12_lastsWith_8 : decode cX12_lastsWith 8 = .ok (.aload_n 0, 1) := by decide +kernel
theorem dX12_lastsWith_9 : decode cX12_lastsWith 9 = .ok (.getfield 19, 3) := by decide +kernel
theorem dX12_lastsWith_12 : decode cX12_lastsWith 12 = .ok (.iload_n 3, 1) := by decide +kernel
theorem dX12_lastsWith_13 : decode cX12_lastsWith 13 = .ok (.aload_n 0, 1) := by decide +kernel
theorem dX12_lastsWith_14 : decode cX12_lastsWith 14 = .ok (.getfield 7, 3) := by decide +kernel
theorem dX12_lastsWith_17 : decode cX12_lastsWith 17 = .ok (.iload_n 3, 1) := by decide +kernel
theorem dX12_lastsWith_18 : decode cX12_lastsWith 18 = .ok (.iaload, 1) := by decide +kernel
theorem dX12_lastsWith_19 : decode cX12_lastsWith 19 = .ok (.iastore, 1) := by decide +kernel
theorem dX12_lastsWith_20 : decode cX12_lastsWith 20 = .ok (.iinc 3 1, 3) := by decide +kernel
theorem dX12_lastsWith_23 : decode cX12_lastsWith 23 = .ok (.goto (-21), 3) := by decide +kernel
theorem dX12_lastsWith_26 : decode cX12_lastsWith 26 = .ok (.aload_n 0, 1) := by decide +kernel
theorem dX12_lastsWith_27 : decode cX12_lastsWith 27 = .ok (.iconst 0, 1) := by decide +kernel
theorem dX12_lastsWith_28 : decode cX12_lastsWith 28 = .ok (.putfield 313, 3) := by decide +kernel
theorem dX12_lastsWith_31 : decode cX12_lastsWith 31 = .ok (.aload_n 0, 1) := by decide +kernel
theorem dX12_lastsWith_32 : decode cX12_lastsWith 32 = .ok (.iload_n 2, 1) := by decide +kernel
theorem dX12_lastsWith_33 : decode cX12_lastsWith 33 = .ok (.putfield 303, 3) := by decide +kernel
theorem dX12_lastsWith_36 : decode cX12_lastsWith 36 = .ok (.aload_n 0, 1) := by decide +kernel
theorem dX12_lastsWith_37 : decode cX12_lastsWith 37 = .ok (.iconst 0, 1) := by decide +kernel
theorem dX12_lastsWith_38 : decode cX12_lastsWith 38 = .ok (.putfield 361, 3) := by decide +kernel
theorem dX12_lastsWith_41 : decode cX12_lastsWith 41 = .ok (.iload_n 1, 1) := by decide +kernel
theorem dX12_lastsWith_42 : decode cX12_lastsWith 42 = .ok (.iconst (-1), 1) := by decide +kernel
theorem dX12_lastsWith_43 : decode cX12_lastsWith 43 = .ok (.if_icmp .eq 8, 3) := by decide +kernel
theorem dX12_lastsWith_46 : decode cX12_lastsWith 46 = .ok (.aload_n 0, 1) := by decide +kernel
theorem dX12_lastsWith_47 : decode cX12_lastsWith 47 = .ok (.iload_n 1, 1) := by decide +kernel
theorem dX12_lastsWith_48 : decode cX12_lastsWith 48 = .ok (.invokevirtual 332, 3) := by decide +kernel
theorem dX12_lastsWith_51 : decode cX12_lastsWith 51 = .ok (.iconst 0, 1) := by decide +kernel
theorem dX12_lastsWith_52 : decode cX12_lastsWith 52 = .ok (.istore_n 3, 1) := by decide +kernel
theorem dX12_lastsWith_53 : decode cX12_lastsWith 53 = .ok (.aload_n 0, 1) := by decide +kernel
theorem dX12_lastsWith_54 : decode cX12_lastsWith 54 = .ok (.getfield 7, 3) := by decide +kernel
theorem dX12_lastsWith_57 : decode cX12_lastsWith 57 = .ok (.iconst 1, 1) := by decide +kernel
theorem dX12_lastsWith_58 : decode cX12_lastsWith 58 = .ok (.iaload, 1) := by decide +kernel
theorem dX12_lastsWith_59 : decode cX12_lastsWith 59 = .ok (.iconst 1, 1) := by decide +kernel
theorem dX12_lastsWith_60 : decode cX12_lastsWith 60 = .ok (.if_icmp .ne 19, 3) := by decide +kernel
theorem dX12_lastsWith_63 : decode cX12_lastsWith 63 = .ok (.iload_n 3, 1) := by decide +kernel
theorem dX12_lastsWith_64 : decode cX12_lastsWith 64 = .ok (.bipush 99, 2) := by decide +kernel
theorem dX12_lastsWith_66 : decode cX12_lastsWith 66 = .ok (.if_icmp .ge 13, 3) := by decide +kernel
theorem dX12_lastsWith_69 : decode cX12_lastsWith 69 = .ok (.aload_n 0, 1) := by decide +kernel
theorem dX12_lastsWith_70 : decode cX12_lastsWith 70 = .ok (.invokevirtual 417, 3) := by decide +kernel
theorem dX12_lastsWith_73 : decode cX12_lastsWith 73 = .ok (.iinc 3 1, 3) := by decide +kernel
theorem dX12_lastsWith_76 : decode cX12_lastsWith 76 = .ok (.goto (-23), 3) := by decide +kernel
theorem dX12_lastsWith_79 : decode cX12_lastsWith 79 = .ok (.aload_n 0, 1) := by decide +kernel
theorem dX12_lastsWith_80 : decode cX12_lastsWith 80 = .ok (.getfield 7, 3) := by decide +kernel
theorem dX12_lastsWith_83 : decode cX12_lastsWith 83 = .ok (.iconst 1, 1) := by decide +kernel
theorem dX12_lastsWith_84 : decode cX12_lastsWith 84 = .ok (.iaload, 1) := by decide +kernel
theorem dX12_lastsWith_85 : decode cX12_lastsWith 85 = .ok (.ifCond .ne 7, 3) := by decide +kernel
theorem dX12_lastsWith_88 : decode cX12_lastsWith 88 = .ok (.iconst 1, 1) := by decide +kernel
theorem dX12_lastsWith_89 : decode cX12_lastsWith 89 = .ok (.goto 4, 3) := by decide +kernel
theorem dX12_lastsWith_92 : decode cX12_lastsWith 92 = .ok (.iconst 0, 1) := by decide +kernel
theorem dX12_lastsWith_93 : decode cX12_lastsWith 93 = .ok (.istore 4, 2) := by decide +kernel
theorem dX12_lastsWith_95 : decode cX12_lastsWith 95 = .ok (.aload_n 0, 1) := by decide +kernel
theorem dX12_lastsWith_96 : decode cX12_lastsWith 96 = .ok (.getfield 44, 3) := by decide +kernel
theorem dX12_lastsWith_99 : decode cX12_lastsWith 99 = .ok (.iconst 1, 1) := by decide +kernel
theorem dX12_lastsWith_100 : decode cX12_lastsWith 100 = .ok (.aload_n 0, 1) := by decide +kernel
theorem dX12_lastsWith_101 : decode cX12_lastsWith 101 = .ok (.getfield 361, 3) := by decide +kernel
theorem dX12_lastsWith_104 : decode cX12_lastsWith 104 = .ok (.iastore, 1) := by decide +kernel
theorem dX12_lastsWith_105 : decode cX12_lastsWith 105 = .ok (.aload_n 0, 1) := by decide +kernel
theorem dX12_lastsWith_106 : decode cX12_lastsWith 106 = .ok (.getfield 44, 3) := by decide +kernel
theorem dX12_lastsWith_109 : decode cX12_lastsWith 109 = .ok (.iconst 2, 1) := by decide +kernel
theorem dX12_lastsWith_110 : decode cX12_lastsWith 110 = .ok (.iconst 0, 1) := by decide +kernel
theorem dX12_lastsWith_111 : decode cX12_lastsWith 111 = .ok (.iastore, 1) := by decide +kernel
theorem dX12_lastsWith_112 : decode cX12_lastsWith 112 = .ok (.aload_n 0, 1) := by decide +kernel
theorem dX12_lastsWith_113 : decode cX12_lastsWith 113 = .ok (.getfield 44, 3) := by decide +kernel
theorem dX12_lastsWith_116 : decode cX12_lastsWith 116 = .ok (.iconst 3, 1) := by decide +kernel
theorem dX12_lastsWith_117 : decode cX12_lastsWith 117 = .ok (.iconst 0, 1) := by decide +kernel
theorem dX12_lastsWith_118 : decode cX12_lastsWith 118 = .ok (.iastore, 1) := by decide +kernel
theorem dX12_lastsWith_119 : decode cX12_lastsWith 119 = .ok (.iconst 0, 1) := by decide +kernel
theorem dX12_lastsWith_120 : decode cX12_lastsWith 120 = .ok (.istore 5, 2) := by decide +kernel
theorem dX12_lastsWith_122 : decode cX12_lastsWith 122 = .ok (.iload 5, 2) := by decide +kernel
theorem dX12_lastsWith_124 : decode cX12_lastsWith 124 = .ok (.aload_n 0, 1) := by decide +kernel
theorem dX12_lastsWith_125 : decode cX12_lastsWith 125 = .ok (.getfield 7, 3) := by decide +kernel
theorem dX12_lastsWith_128 : decode cX12_lastsWith 128 = .ok (.bipush 78, 2) := by decide +kernel
theorem dX12_lastsWith_130 : decode cX12_lastsWith 130 = .ok (.iaload, 1) := by decide +kernel
theorem dX12_lastsWith_131 : decode cX12_lastsWith 131 = .ok (.if_icmp .ge 38, 3) := by decide +kernel
theorem dX12_lastsWith_134 : decode cX12_lastsWith 134 = .ok (.aload_n 0, 1) := by decide +kernel
theorem dX12_lastsWith_135 : decode cX12_lastsWith 135 = .ok (.getfield 44, 3) := by decide +kernel
theorem dX12_lastsWith_138 : decode cX12_lastsWith 138 = .ok (.iconst 2, 1) := by decide +kernel
theorem dX12_lastsWith_139 : decode cX12_lastsWith 139 = .ok (.aload_n 0, 1) := by decide +kernel
theorem dX12_lastsWith_140 : decode cX12_lastsWith 140 = .ok (.getfield 7, 3) := by decide +kernel
theorem dX12_lastsWith_143 : decode cX12_lastsWith 143 = .ok (.bipush 90, 2) := by decide +kernel
theorem dX12_lastsWith_145 : decode cX12_lastsWith 145 = .ok (.iload 5, 2) := by decide +kernel
theorem dX12_lastsWith_147 : decode cX12_lastsWith 147 = .ok (.iadd, 1) := by decide +kernel
theorem dX12_lastsWith_148 : decode cX12_lastsWith 148 = .ok (.iaload, 1) := by decide +kernel
theorem dX12_lastsWith_149 : decode cX12_lastsWith 149 = .ok (.iadd, 1) := by decide +kernel
theorem dX12_lastsWith_150 : decode cX12_lastsWith 150 = .ok (.dup2, 1) := by decide +kernel
theorem dX12_lastsWith_151 : decode cX12_lastsWith 151 = .ok (.iaload, 1) := by decide +kernel
theorem dX12_lastsWith_152 : decode cX12_lastsWith 152 = .ok (.aload_n 0, 1) := by decide +kernel
theorem dX12_lastsWith_153 : decode cX12_lastsWith 153 = .ok (.getfield 7, 3) := by decide +kernel
theorem dX12_lastsWith_156 : decode cX12_lastsWith 156 = .ok (.iconst 4, 1) := by decide +kernel
theorem dX12_lastsWith_157 : decode cX12_lastsWith 157 = .ok (.iload 5, 2) := by decide +kernel
theorem dX12_lastsWith_159 : decode cX12_lastsWith 159 = .ok (.iadd, 1) := by decide +kernel
theorem dX12_lastsWith_160 : decode cX12_lastsWith 160 = .ok (.iaload, 1) := by decide +kernel
theorem dX12_lastsWith_161 : decode cX12_lastsWith 161 = .ok (.iadd, 1) := by decide +kernel
theorem dX12_lastsWith_162 : decode cX12_lastsWith 162 = .ok (.iastore, 1) := by decide +kernel
theorem dX12_lastsWith_163 : decode cX12_lastsWith 163 = .ok (.iinc 5 1, 3) := by decide +kernel
theorem dX12_lastsWith_166 : decode cX12_lastsWith 166 = .ok (.goto (-44), 3) := by decide +kernel
theorem dX12_lastsWith_169 : decode cX12_lastsWith 169 = .ok (.iconst 0, 1) := by decide +kernel
theorem dX12_lastsWith_170 : decode cX12_lastsWith 170 = .ok (.istore 5, 2) := by decide +kernel
theorem dX12_lastsWith_172 : decode cX12_lastsWith 172 = .ok (.iload 5, 2) := by decide +kernel
theorem dX12_lastsWith_174 : decode cX12_lastsWith 174 = .ok (.bipush 78, 2) := by decide +kernel
theorem dX12_lastsWith_176 : decode cX12_lastsWith 176 = .ok (.if_icmp .ge 23, 3) := by decide +kernel
theorem dX12_lastsWith_179 : decode cX12_lastsWith 179 = .ok (.aload_n 0, 1) := by decide +kernel
theorem dX12_lastsWith_180 : decode cX12_lastsWith 180 = .ok (.getfield 7, 3) := by decide +kernel
theorem dX12_lastsWith_183 : decode cX12_lastsWith 183 = .ok (.iload 5, 2) := by decide +kernel
theorem dX12_lastsWith_185 : decode cX12_lastsWith 185 = .ok (.aload_n 0, 1) := by decide +kernel
theorem dX12_lastsWith_186 : decode cX12_lastsWith 186 = .ok (.getfield 19, 3) := by decide +kernel
theorem dX12_lastsWith_189 : decode cX12_lastsWith 189 = .ok (.iload 5, 2) := by decide +kernel
theorem dX12_lastsWith_191 : decode cX12_lastsWith 191 = .ok (.iaload, 1) := by decide +kernel
theorem dX12_lastsWith_192 : decode cX12_lastsWith 192 = .ok (.iastore, 1) := by decide +kernel
theorem dX12_lastsWith_193 : decode cX12_lastsWith 193 = .ok (.iinc 5 1, 3) := by decide +kernel
theorem dX12_lastsWith_196 : decode cX12_lastsWith 196 = .ok (.goto (-24), 3) := by decide +kernel
theorem dX12_lastsWith_199 : decode cX12_lastsWith 199 = .ok (.aload_n 0, 1) := by decide +kernel
theorem dX12_lastsWith_200 : decode cX12_lastsWith 200 = .ok (.iconst 0, 1) := by decide +kernel
theorem dX12_lastsWith_201 : decode cX12_lastsWith 201 = .ok (.putfield 303, 3) := by decide +kernel
theorem dX12_lastsWith_204 : decode cX12_lastsWith 204 = .ok (.iload 4, 2) := by decide +kernel
theorem dX12_lastsWith_206 : decode cX12_lastsWith 206 = .ok (.ifCond .eq 7, 3) := by decide +kernel
theorem dX12_lastsWith_209 : decode cX12_lastsWith 209 = .ok (.iload_n 3, 1) := by decide +kernel
theorem dX12_lastsWith_210 : decode cX12_lastsWith 210 = .ok (.goto 6, 3) := by decide +kernel
theorem dX12_lastsWith_213 : decode cX12_lastsWith 213 = .ok (.ldc_w 420, 3) := by decide +kernel
theorem dX12_lastsWith_216 : decode cX12_lastsWith 216 = .ok (.ireturn, 1) := by decide +kernel
theorem dX12_lawWord_0 : decode cX12_lawWord 0 = .ok (.aload_n 0, 1) := by decide +kernel
theorem dX12_lawWord_1 : decode cX12_lawWord 1 = .ok (.ldc 120, 2) := by decide +kernel
theorem dX12_lawWord_3 : decode cX12_lawWord 3 = .ok (.invokevirtual 101, 3) := by decide +kernel
theorem dX12_lawWord_6 : decode cX12_lawWord 6 = .ok (.ifCond .eq 5, 3) := by decide +kernel
theorem dX12_lawWord_9 : decode cX12_lawWord 9 = .ok (.iconst 3, 1) := by decide +kernel
theorem dX12_lawWord_10 : decode cX12_lawWord 10 = .ok (.ireturn, 1) := by decide +kernel
theorem dX12_lawWord_11 : decode cX12_lawWord 11 = .ok (.aload_n 0, 1) := by decide +kernel
theorem dX12_lawWord_12 : decode cX12_lawWord 12 = .ok (.ldc 122, 2) := by decide +kernel
theorem dX12_lawWord_14 : decode cX12_lawWord 14 = .ok (.invokevirtual 101, 3) := by decide +kernel
theorem dX12_lawWord_17 : decode cX12_lawWord 17 = .ok (.ifCond .eq 5, 3) := by decide +kernel
theorem dX12_lawWord_20 : decode cX12_lawWord 20 = .ok (.iconst 4, 1) := by decide +kernel
theorem dX12_lawWord_21 : decode cX12_lawWord 21 = .ok (.ireturn, 1) := by decide +kernel
theorem dX12_lawWord_22 : decode cX12_lawWord 22 = .ok (.aload_n 0, 1) := by decide +kernel
theorem dX12_lawWord_23 : decode cX12_lawWord 23 = .ok (.ldc 124, 2) := by decide +kernel
theorem dX12_lawWord_25 : decode cX12_lawWord 25 = .ok (.invokevirtual 101, 3) := by decide +kernel
theorem dX12_lawWord_28 : decode cX12_lawWord 28 = .ok (.ifCond .eq 5, 3) := by decide +kernel
theorem dX12_lawWord_31 : decode cX12_lawWord 31 = .ok (.iconst 5, 1) := by decide +kernel
theorem dX12_lawWord_32 : decode cX12_lawWord 32 = .ok (.ireturn, 1) := by decide +kernel
theorem dX12_lawWord_33 : decode cX12_lawWord 33 = .ok (.aload_n 0, 1) := by decide +kernel
theorem dX12_lawWord_34 : decode cX12_lawWord 34 = .ok (.ldc 126, 2) := by decide +kernel
theorem dX12_lawWord_36 : decode cX12_lawWord 36 = .ok (.invokevirtual 101, 3) := by decide +kernel
theorem dX12_lawWord_39 : decode cX12_lawWord 39 = .ok (.ifCond .eq 6, 3) := by decide +kernel
theorem dX12_lawWord_42 : decode cX12_lawWord 42 = .ok (.bipush 6, 2) := by decide +kernel
theorem dX12_lawWord_44 : decode cX12_lawWord 44 = .ok (.ireturn, 1) := by decide +kernel
theorem dX12_lawWord_45 : decode cX12_lawWord 45 = .ok (.aload_n 0, 1) := by decide +kernel
theorem dX12_lawWord_46 : decode cX12_lawWord 46 = .ok (.ldc 128, 2) := by decide +kernel
theorem dX12_lawWord_48 : decode cX12_lawWord 48 = .ok (.invokevirtual 101, 3) := by decide +kernel
theorem dX12_lawWord_51 : decode cX12_lawWord 51 = .ok (.ifCond .eq 6, 3) := by decide +kernel
theorem dX12_lawWord_54 : decode cX12_lawWord 54 = .ok (.bipush 20, 2) := by decide +kernel
theorem dX12_lawWord_56 : decode cX12_lawWord 56 = .ok (.ireturn, 1) := by decide +kernel
theorem dX12_lawWord_57 : decode cX12_lawWord 57 = .ok (.aload_n 0, 1) := by decide +kernel
theorem dX12_lawWord_58 : decode cX12_lawWord 58 = .ok (.ldc 130, 2) := by decide +kernel
theorem dX12_lawWord_60 : decode cX12_lawWord 60 = .ok (.invokevirtual 101, 3) := by decide +kernel
theorem dX12_lawWord_63 : decode cX12_lawWord 63 = .ok (.ifCond .eq 6, 3) := by decide +kernel
theorem dX12_lawWord_66 : decode cX12_lawWord 66 = .ok (.bipush 21, 2) := by decide +kernel
theorem dX12_lawWord_68 : decode cX12_lawWord 68 = .ok (.ireturn, 1) := by decide +kernel
theorem dX12_lawWord_69 : decode cX12_lawWord 69 = .ok (.aload_n 0, 1) := by decide +kernel
theorem dX12_lawWord_70 : decode cX12_lawWord 70 = .ok (.ldc 132, 2) := by decide +kernel
theorem dX12_lawWord_72 : decode cX12_lawWord 72 = .ok (.invokevirtual 101, 3) := by decide +kernel
theorem dX12_lawWord_75 : decode cX12_lawWord 75 = .ok (.ifCond .eq 6, 3) := by decide +kernel
theorem dX12_lawWord_78 : decode cX12_lawWord 78 = .ok (.bipush 22, 2) := by decide +kernel
theorem dX12_lawWord_80 : decode cX12_lawWord 80 = .ok (.ireturn, 1) := by decide +kernel
theorem dX12_lawWord_81 : decode cX12_lawWord 81 = .ok (.aload_n 0, 1) := by decide +kernel
theorem dX12_lawWord_82 : decode cX12_lawWord 82 = .ok (.ldc 134, 2) := by decide +kernel
theorem dX12_lawWord_84 : decode cX12_lawWord 84 = .ok (.invokevirtual 101, 3) := by decide +kernel
theorem dX12_lawWord_87 : decode cX12_lawWord 87 = .ok (.ifCond .eq 8, 3) := by decide +kernel
theorem dX12_lawWord_90 : decode cX12_lawWord 90 = .ok (.bipush 23, 2) := by decide +kernel
theorem dX12_lawWord_92 : decode cX12_lawWord 92 = .ok (.goto 7, 3) := by decide +kernel
theorem dX12_lawWord_95 : decode cX12_lawWord 95 = .ok (.aload_n 0, 1) := by decide +kernel
theorem dX12_lawWord_96 : decode cX12_lawWord 96 = .ok (.invokevirtual 136, 3) := by decide +kernel
theorem dX12_lawWord_99 : decode cX12_lawWord 99 = .ok (.ireturn, 1) := by decide +kernel
theorem dX12_lay_0 : decode cX12_lay 0 = .ok (.aload_n 0, 1) := by decide +kernel
theorem dX12_lay_1 : decode cX12_lay 1 = .ok (.getfield 25, 3) := by decide +kernel
theorem dX12_lay_4 : decode cX12_lay 4 = .ok (.iconst 2, 1) := by decide +kernel
theorem dX12_lay_5 : decode cX12_lay 5 = .ok (.aload_n 0, 1) := by decide +kernel
theorem dX12_lay_6 : decode cX12_lay 6 = .ok (.getfield 197, 3) := by decide +kernel
theorem dX12_lay_9 : decode cX12_lay 9 = .ok (.imul, 1) := by decide +kernel
theorem dX12_lay_10 : decode cX12_lay 10 = .ok (.iload_n 1, 1) := by decide +kernel
theorem dX12_lay_11 : decode cX12_lay 11 = .ok (.iastore, 1) := by decide +kernel
theorem dX12_lay_12 : decode cX12_lay 12 = .ok (.aload_n 0, 1) := by decide +kernel
theorem dX12_lay_13 : decode cX12_lay 13 = .ok (.getfield 25, 3) := by decide +kernel
theorem dX12_lay_16 : decode cX12_lay 16 = .ok (.iconst 2, 1) := by decide +kernel
theorem dX12_lay_17 : decode cX12_lay 17 = .ok (.aload_n 0, 1) := by decide +kernel
theorem dX12_lay_18 : decode cX12_lay 18 = .ok (.getfield 197, 3) := by decide +kernel
theorem dX12_lay_21 : decode cX12_lay 21 = .ok (.imul, 1) := by decide +kernel
theorem dX12_lay_22 : decode cX12_lay 22 = .ok (.iconst 1, 1) := by decide +kernel
theorem dX12_lay_23 : decode cX12_lay 23 = .ok (.iadd, 1) := by decide +kernel
theorem dX12_lay_24 : decode cX12_lay 24 = .ok (.iload_n 2, 1) := by decide +kernel
theorem dX12_lay_25 : decode cX12_lay 25 = .ok (.iastore, 1) := by decide +kernel
theorem dX12_lay_26 : decode cX12_lay 26 = .ok (.aload_n 0, 1) := by decide +kernel
theorem dX12_lay_27 : decode cX12_lay 27 = .ok (.dup, 1) := by decide +kernel
theorem dX12_lay_28 : decode cX12_lay 28 = .ok (.getfield 197, 3) := by decide +kernel
theorem dX12_lay_31 : decode cX12_lay 31 = .ok (.iconst 1, 1) := by decide +kernel
theorem dX12_lay_32 : decode cX12_lay 32 = .ok (.iadd, 1) := by decide +kernel
theorem dX12_lay_33 : decode cX12_lay 33 = .ok (.putfield 197, 3) := by decide +kernel
theorem dX12_lay_36 : decode cX12_lay 36 = .ok (.return_, 1) := by decide +kernel
theorem dX12_laysStands_0 : decode cX12_laysStands 0 = .ok (.iconst 1, 1) := by decide +kernel
theorem dX12_laysStands_1 : decode cX12_laysStands 1 = .ok (.aload_n 0, 1) := by decide +kernel
theorem dX12_laysStands_2 : decode cX12_laysStands 2 = .ok (.getfield 7, 3) := by decide +kernel
theorem dX12_laysStands_5 : decode cX12_laysStands 5 = .ok (.bipush 78, 2) := by decide +kernel
theorem dX12_laysStands_7 : decode cX12_laysStands 7 = .ok (.iaload, 1) := by decide +kernel
theorem dX12_laysStands_8 : decode cX12_laysStands 8 = .ok (.ishl, 1) := by decide +kernel
theorem dX12_laysStands_9 : decode cX12_laysStands 9 = .ok (.istore_n 2, 1) := by decide +kernel
theorem dX12_laysStands_10 : decode cX12_laysStands 10 = .ok (.aload_n 0, 1) := by decide +kernel
theorem dX12_laysStands_11 : decode cX12_laysStands 11 = .ok (.getfield 7, 3) := by decide +kernel
theorem dX12_laysStands_14 : decode cX12_laysStands 14 = .ok (.bipush 78, 2) := by decide +kernel
theorem dX12_laysStands_16 : decode cX12_laysStands 16 = .ok (.iaload, 1) := by decide +kernel
theorem dX12_laysStands_17 : decode cX12_laysStands 17 = .ok (.istore_n 3, 1) := by decide +kernel
theorem dX12_laysStands_18 : decode cX12_laysStands 18 = .ok (.iload_n 3, 1) := by decide +kernel
theorem dX12_laysStands_19 : decode cX12_laysStands 19 = .ok (.ifCond .lt 184, 3) := by decide +kernel
theorem dX12_laysStands_22 : decode cX12_laysStands 22 = .ok (.iconst 0, 1) := by decide +kernel
theorem dX12_laysStands_23 : decode cX12_laysStands 23 = .ok (.istore 4, 2) := by decide +kernel
theorem dX12_laysStands_25 : decode cX12_laysStands 25 = .ok (.iload 4, 2) := by decide +kernel
theorem dX12_laysStands_27 : decode cX12_laysStands 27 = .ok (.iload_n 2, 1) := by decide +kernel
theorem dX12_laysStands_28 : decode cX12_laysStands 28 = .ok (.if_icmp .ge 169, 3) := by decide +kernel
theorem dX12_laysStands_31 : decode cX12_laysStands 31 = .ok (.iload_n 3, 1) := by decide +kernel
theorem dX12_laysStands_32 : decode cX12_laysStands 32 = .ok (.aload_n 0, 1) := by decide +kernel
theorem dX12_laysStands_33 : decode cX12_laysStands 33 = .ok (.getfield 7, 3) := by decide +kernel
theorem dX12_laysStands_36 : decode cX12_laysStands 36 = .ok (.bipush 78, 2) := by decide +kernel
theorem dX12_laysStands_38 : decode cX12_laysStands 38 = .ok (.iaload, 1) := by decide +kernel
theorem dX12_laysStands_39 : decode cX12_laysStands 39 = .ok (.if_icmp .ne 7, 3) := by decide +kernel
theorem dX12_laysStands_42 : decode cX12_laysStands 42 = .ok (.iconst 0, 1) := by decide +kernel
theorem dX12_laysStands_43 : decode cX12_laysStands 43 = .ok (.goto 18, 3) := by decide +kernel
theorem dX12_laysStands_46 : decode cX12_laysStands 46 = .ok (.aload_n 0, 1) := by decide +kernel
theorem dX12_laysStands_47 : decode cX12_laysStands 47 = .ok (.getfield 48, 3) := by decide +kernel
theorem dX12_laysStands_50 : decode cX12_laysStands 50 = .ok (.sipush 4096, 3) := by decide +kernel
theorem dX12_laysStands_53 : decode cX12_laysStands 53 = .ok (.iload_n 3, 1) := by decide +kernel
theorem dX12_laysStands_54 : decode cX12_laysStands 54 = .ok (.iconst 1, 1) := by decide +kernel
theorem dX12_laysStands_55 : decode cX12_laysStands 55 = .ok (.iadd, 1) := by decide +kernel
theorem dX12_laysStands_56 : decode cX12_laysStands 56 = .ok (.imul, 1) := by decide +kernel
theorem dX12_laysStands_57 : decode cX12_laysStands 57 = .ok (.iload 4, 2) := by decide +kernel
theorem dX12_laysStands_59 : decode cX12_laysStands 59 = .ok (.iadd, 1) := by decide +kernel
theorem dX12_laysStands_60 : decode cX12_laysStands 60 = .ok (.iaload, 1) := by decide +kernel
theorem dX12_laysStands_61 : decode cX12_laysStands 61 = .ok (.istore 5, 2) := by decide +kernel
theorem dX12_laysStands_63 : decode cX12_laysStands 63 = .ok (.iload_n 3, 1) := by decide +kernel
theorem dX12_laysStands_64 : decode cX12_laysStands 64 = .ok (.aload_n 0, 1) := by decide +kernel
theorem dX12_laysStands_65 : decode cX12_laysStands 65 = .ok (.getfield 7, 3) := by decide +kernel
theorem dX12_laysStands_68 : decode cX12_laysStands 68 = .ok (.bipush 78, 2) := by decide +kernel
theorem dX12_laysStands_70 : decode cX12_laysStands 70 = .ok (.iaload, 1) := by decide +kernel
theorem dX12_laysStands_71 : decode cX12_laysStands 71 = .ok (.if_icmp .ge 17, 3) := by decide +kernel
theorem dX12_laysStands_74 : decode cX12_laysStands 74 = .ok (.aload_n 0, 1) := by decide +kernel
theorem dX12_laysStands_75 : decode cX12_laysStands 75 = .ok (.iload_n 3, 1) := by decide +kernel
theorem dX12_laysStands_76 : decode cX12_laysStands 76 = .ok (.iload_n 1, 1) := by decide +kernel
theorem dX12_laysStands_77 : decode cX12_laysStands 77 = .ok (.iconst 1, 1) := by decide +kernel
theorem dX12_laysStands_78 : decode cX12_laysStands 78 = .ok (.invokevirtual 320, 3) := by decide +kernel
theorem dX12_laysStands_81 : decode cX12_laysStands 81 = .ok (.ifCond .eq 7, 3) := by decide +kernel
theorem dX12_laysStands_84 : decode cX12_laysStands 84 = .ok (.iconst 1, 1) := by decide +kernel
theorem dX12_laysStands_85 : decode cX12_laysStands 85 = .ok (.goto 4, 3) := by decide +kernel
theorem dX12_laysStands_88 : decode cX12_laysStands 88 = .ok (.iconst 0, 1) := by decide +kernel
theorem dX12_laysStands_89 : decode cX12_laysStands 89 = .ok (.istore 6, 2) := by decide +kernel
theorem dX12_laysStands_91 : decode cX12_laysStands 91 = .ok (.iconst 0, 1) := by decide +kernel
theorem dX12_laysStands_92 : decode cX12_laysStands 92 = .ok (.istore 7, 2) := by decide +kernel
theorem dX12_laysStands_94 : decode cX12_laysStands 94 = .ok (.iload 7, 2) := by decide +kernel
theorem dX12_laysStands_96 : decode cX12_laysStands 96 = .ok (.aload_n 0, 1) := by decide +kernel
theorem dX12_laysStands_97 : decode cX12_laysStands 97 = .ok (.getfield 7, 3) := by decide +kernel
theorem dX12_laysStands_100 : decode cX12_laysStands 100 = .ok (.bipush 78, 2) := by decide +kernel
theorem dX12_laysStands_102 : decode cX12_laysStands 102 = .ok (.iaload, 1) := by decide +kernel
theorem dX12_laysStands_103 : decode cX12_laysStands 103 = .ok (.if_icmp .ge 73, 3) := by decide +kernel
theorem dX12_laysStands_106 : decode cX12_laysStands 106 = .ok (.iload 6, 2) := by decide +kernel
theorem dX12_laysStands_108 : decode cX12_laysStands 108 = .ok (.ifCond .eq 68, 3) := by decide +kernel
theorem dX12_laysStands_111 : decode cX12_laysStands 111 = .ok (.iload 4, 2) := by decide +kernel
theorem dX12_laysStands_113 : decode cX12_laysStands 113 = .ok (.iload 7, 2) := by decide +kernel
theorem dX12_laysStands_115 : decode cX12_laysStands 115 = .ok (.ishr, 1) := by decide +kernel
theorem dX12_laysStands_116 : decode cX12_laysStands 116 = .ok (.iconst 1, 1) := by decide +kernel
theorem dX12_laysStands_117 : decode cX12_laysStands 117 = .ok (.iand, 1) := by decide +kernel
theorem dX12_laysStands_118 : decode cX12_laysStands 118 = .ok (.iconst 1, 1) := by decide +kernel
theorem dX12_laysStands_119 : decode cX12_laysStands 119 = .ok (.if_icmp .ne 51, 3) := by decide +kernel
theorem dX12_laysStands_122 : decode cX12_laysStands 122 = .ok (.aload_n 0, 1) := by decide +kernel
theorem dX12_laysStands_123 : decode cX12_laysStands 123 = .ok (.iload_n 1, 1) := by decide +kernel
theorem dX12_laysStands_124 : decode cX12_laysStands 124 = .ok (.iload 7, 2) := by decide +kernel
theorem dX12_laysStands_126 : decode cX12_laysStands 126 = .ok (.iload_n 3, 1) := by decide +kernel
theorem dX12_laysStands_127 : decode cX12_laysStands 127 = .ok (.invokevirtual 433, 3) := by decide +kernel
theorem dX12_laysStands_130 : decode cX12_laysStands 130 = .ok (.ifCond .eq 40, 3) := by decide +kernel
theorem dX12_laysStands_133 : decode cX12_laysStands 133 = .ok (.iload 5, 2) := by decide +kernel
theorem dX12_laysStands_135 : decode cX12_laysStands 135 = .ok (.aload_n 0, 1) := by decide +kernel
theorem dX12_laysStands_136 : decode cX12_laysStands 136 = .ok (.iload 7, 2) := by decide +kernel
theorem dX12_laysStands_138 : decode cX12_laysStands 138 = .ok (.iload_n 3, 1) := by decide +kernel
theorem dX12_laysStands_139 : decode cX12_laysStands 139 = .ok (.invokevirtual 436, 3) := by decide +kernel
theorem dX12_laysStands_142 : decode cX12_laysStands 142 = .ok (.aload_n 0, 1) := by decide +kernel
theorem dX12_laysStands_143 : decode cX12_laysStands 143 = .ok (.getfield 48, 3) := by decide +kernel
theorem dX12_laysStands_146 : decode cX12_laysStands 146 = .ok (.sipush 4096, 3) := by decide +kernel
theorem dX12_laysStands_149 : decode cX12_laysStands 149 = .ok (.iload_n 3, 1) := by decide +kernel
theorem dX12_laysStands_150 : decode cX12_laysStands 150 = .ok (.iconst 1, 1) := by decide +kernel
theorem dX12_laysStands_151 : decode cX12_laysStands 151 = .ok (.iadd, 1) := by decide +kernel
theorem dX12_laysStands_152 : decode cX12_laysStands 152 = .ok (.imul, 1) := by decide +kernel
theorem dX12_laysStands_153 : decode cX12_laysStands 153 = .ok (.iload 4, 2) := by decide +kernel
theorem dX12_laysStands_155 : decode cX12_laysStands 155 = .ok (.iconst 1, 1) := by decide +kernel
theorem dX12_laysStands_156 : decode cX12_laysStands 156 = .ok (.iload 7, 2) := by decide +kernel
theorem dX12_laysStands_158 : decode cX12_laysStands 158 = .ok (.ishl, 1) := by decide +kernel
theorem dX12_laysStands_159 : decode cX12_laysStands 159 = .ok (.iconst (-1), 1) := by decide +kernel
theorem dX12_laysStands_160 : decode cX12_laysStands 160 = .ok (.ixor, 1) := by decide +kernel
theorem dX12_laysStands_161 : decode cX12_laysStands 161 = .ok (.iand, 1) := by decide +kernel
theorem dX12_laysStands_162 : decode cX12_laysStands 162 = .ok (.iadd, 1) := by decide +kernel
theorem dX12_laysStands_163 : decode cX12_laysStands 163 = .ok (.iaload, 1) := by decide +kernel
theorem dX12_laysStands_164 : decode cX12_laysStands 164 = .ok (.iadd, 1) := by decide +kernel
theorem dX12_laysStands_165 : decode cX12_laysStands 165 = .ok (.invokestatic 300, 3) := by decide +kernel
theorem dX12_laysStands_168 : decode cX12_laysStands 168 = .ok (.istore 5, 2) := by decide +kernel
theorem dX12_laysStands_170 : decode cX12_laysStands 170 = .ok (.iinc 7 1, 3) := by decide +kernel
theorem dX12_laysStands_173 : decode cX12_laysStands 173 = .ok (.goto (-79), 3) := by decide +kernel
theorem dX12_laysStands_176 : decode cX12_laysStands 176 = .ok (.aload_n 0, 1) := by decide +kernel
theorem dX12_laysStands_177 : decode cX12_laysStands 177 = .ok (.getfield 48, 3) := by decide +kernel
theorem dX12_laysStands_180 : decode cX12_laysStands 180 = .ok (.sipush 4096, 3) := by decide +kernel
theorem dX12_laysStands_183 : decode cX12_laysStands 183 = .ok (.iload_n 3, 1) := by decide +kernel
theorem dX12_laysStands_184 : decode cX12_laysStands 184 = .ok (.imul, 1) := by decide +kernel
theorem dX12_laysStands_185 : decode cX12_laysStands 185 = .ok (.iload 4, 2) := by decide +kernel
theorem dX12_laysStands_187 : decode cX12_laysStands 187 = .ok (.iadd, 1) := by decide +kernel
theorem dX12_laysStands_188 : decode cX12_laysStands 188 = .ok (.iload 5, 2) := by decide +kernel
theorem dX12_laysStands_190 : decode cX12_laysStands 190 = .ok (.iastore, 1) := by decide +kernel
theorem dX12_laysStands_191 : decode cX12_laysStands 191 = .ok (.iinc 4 1, 3) := by decide +kernel
theorem dX12_laysStands_194 : decode cX12_laysStands 194 = .ok (.goto (-169), 3) := by decide +kernel
theorem dX12_laysStands_197 : decode cX12_laysStands 197 = .ok (.iinc 3 (-1), 3) := by decide +kernel
theorem dX12_laysStands_200 : decode cX12_laysStands 200 = .ok (.goto (-182), 3) := by decide +kernel
theorem dX12_laysStands_203 : decode cX12_laysStands 203 = .ok (.return_, 1) := by decide +kernel
theorem dX12_left_0 : decode cX12_left 0 = .ok (.iconst 0, 1) := by decide +kernel
theorem dX12_left_1 : decode cX12_left 1 = .ok (.istore_n 1, 1) := by decide +kernel
theorem dX12_left_2 : decode cX12_left 2 = .ok (.iconst 0, 1) := by decide +kernel
theorem dX12_left_3 : decode cX12_left 3 = .ok (.istore_n 2, 1) := by decide +kernel
theorem dX12_left_4 : decode cX12_left 4 = .ok (.iload_n 2, 1) := by decide +kernel
theorem dX12_left_5 : decode cX12_left 5 = .ok (.aload_n 0, 1) := by decide +kernel
theorem dX12_left_6 : decode cX12_left 6 = .ok (.getfield 7, 3) := by decide +kernel
theorem dX12_left_9 : decode cX12_left 9 = .ok (.bipush 78, 2) := by decide +kernel
theorem dX12_left_11 : decode cX12_left 11 = .ok (.iaload, 1) := by decide +kernel
theorem dX12_left_12 : decode cX12_left 12 = .ok (.if_icmp .ge 27, 3) := by decide +kernel
theorem dX12_left_15 : decode cX12_left 15 = .ok (.iload_n 1, 1) := by decide +kernel
theorem dX12_left_16 : decode cX12_left 16 = .ok (.aload_n 0, 1) := by decide +kernel
theorem dX12_left_17 : decode cX12_left 17 = .ok (.iload_n 2, 1) := by decide +kernel
theorem dX12_left_18 : decode cX12_left 18 = .ok (.invokevirtual 445, 3) := by decide +kernel
theorem dX12_left_21 : decode cX12_left 21 = .ok (.ifCond .eq 9, 3) := by decide +kernel
theorem dX12_left_24 : decode cX12_left 24 = .ok (.iconst 1, 1) := by decide +kernel
theorem dX12_left_25 : decode cX12_left 25 = .ok (.iload_n 2, 1) := by decide +kernel
theorem dX12_left_26 : decode cX12_left 26 = .ok (.ishl, 1) := by decide +kernel
theorem dX12_left_27 : decode cX12_left 27 = .ok (.goto 4, 3) := by decide +kernel
theorem dX12_left_30 : decode cX12_left 30 = .ok (.iconst 0, 1) := by decide +kernel
theorem dX12_left_31 : decode cX12_left 31 = .ok (.ior, 1) := by decide +kernel
theorem dX12_left_32 : decode cX12_left 32 = .ok (.istore_n 1, 1) := by decide +kernel
theorem dX12_left_33 : decode cX12_left 33 = .ok (.iinc 2 1, 3) := by decide +kernel
theorem dX12_left_36 : decode cX12_left 36 = .ok (.goto (-32), 3) := by decide +kernel
theorem dX12_left_39 : decode cX12_left 39 = .ok (.iload_n 1, 1) := by decide +kernel
theorem dX12_left_40 : decode cX12_left 40 = .ok (.ireturn, 1) := by decide +kernel
theorem dX12_lesser_0 : decode cX12_lesser 0 = .ok (.iload_n 0, 1) := by decide +kernel
theorem dX12_lesser_1 : decode cX12_lesser 1 = .ok (.iload_n 1, 1) := by decide +kernel
theorem dX12_lesser_2 : decode cX12_lesser 2 = .ok (.if_icmp .ge 7, 3) := by decide +kernel
theorem dX12_lesser_5 : decode cX12_lesser 5 = .ok (.iload_n 0, 1) := by decide +kernel
theorem dX12_lesser_6 : decode cX12_lesser 6 = .ok (.goto 4, 3) := by decide +kernel
theorem dX12_lesser_9 : decode cX12_lesser 9 = .ok (.iload_n 1, 1) := by decide +kernel
theorem dX12_lesser_10 : decode cX12_lesser 10 = .ok (.ireturn, 1) := by decide +kernel
theorem dX12_look_0 : decode cX12_look 0 = .ok (.iload_n 1, 1) := by decide +kernel
theorem dX12_look_1 : decode cX12_look 1 = .ok (.tableswitch 185 0 14 #[75, 83, 90, 97, 105, 113, 121, 126, 133, 140, 148, 156, 164, 172, 180], 75) := by decide +kernel
theorem dX12_look_76 : decode cX12_look 76 = .ok (.aload_n 0, 1) := by decide +kernel
theorem dX12_look_77 : decode cX12_look 77 = .ok (.getfield 7, 3) := by decide +kernel
theorem dX12_look_80 : decode cX12_look 80 = .ok (.bipush 78, 2) := by decide +kernel
theorem dX12_look_82 : decode cX12_look 82 = .ok (.iaload, 1) := by decide +kernel
theorem dX12_look_83 : decode cX12_look 83 = .ok (.ireturn, 1) := by decide +kernel
theorem dX12_look_84 : decode cX12_look 84 = .ok (.aload_n 0, 1) := by decide +kernel
theorem dX12_look_85 : decode cX12_look 85 = .ok (.getfield 7, 3) := by decide +kernel
theorem dX12_look_88 : decode cX12_look 88 = .ok (.iconst 0, 1) := by decide +kernel
theorem dX12_look_89 : decode cX12_look 89 = .ok (.iaload, 1) := by decide +kernel
theorem dX12_look_90 : decode cX12_look 90 = .ok (.ireturn, 1) := by decide +kernel
theorem dX12_look_91 : decode cX12_look 91 = .ok (.aload_n 0, 1) := by decide +kernel
theorem dX12_look_92 : decode cX12_look 92 = .ok (.getfield 7, 3) := by decide +kernel
theorem dX12_look_95 : decode cX12_look 95 = .ok (.iconst 1, 1) := by decide +kernel
theorem dX12_look_96 : decode cX12_look 96 = .ok (.iaload, 1) := by decide +kernel
theorem dX12_look_97 : decode cX12_look 97 = .ok (.ireturn, 1) := by decide +kernel
theorem dX12_look_98 : decode cX12_look 98 = .ok (.aload_n 0, 1) := by decide +kernel
theorem dX12_look_99 : decode cX12_look 99 = .ok (.getfield 7, 3) := by decide +kernel
theorem dX12_look_102 : decode cX12_look 102 = .ok (.bipush 79, 2) := by decide +kernel
theorem dX12_look_104 : decode cX12_look 104 = .ok (.iaload, 1) := by decide +kernel
theorem dX12_look_105 : decode cX12_look 105 = .ok (.ireturn, 1) := by decide +kernel
theorem dX12_look_106 : decode cX12_look 106 = .ok (.aload_n 0, 1) := by decide +kernel
theorem dX12_look_107 : decode cX12_look 107 = .ok (.getfield 7, 3) := by decide +kernel
theorem dX12_look_110 : decode cX12_look 110 = .ok (.bipush 80, 2) := by decide +kernel
theorem dX12_look_112 : decode cX12_look 112 = .ok (.iaload, 1) := by decide +kernel
theorem dX12_look_113 : decode cX12_look 113 = .ok (.ireturn, 1) := by decide +kernel
theorem dX12_look_114 : decode cX12_look 114 = .ok (.aload_n 0, 1) := by decide +kernel
theorem dX12_look_115 : decode cX12_look 115 = .ok (.getfield 7, 3) := by decide +kernel
theorem dX12_look_118 : decode cX12_look 118 = .ok (.bipush 81, 2) := by decide +kernel
theorem dX12_look_120 : decode cX12_look 120 = .ok (.iaload, 1) := by decide +kernel
theorem dX12_look_121 : decode cX12_look 121 = .ok (.ireturn, 1) := by decide +kernel
theorem dX12_look_122 : decode cX12_look 122 = .ok (.aload_n 0, 1) := by decide +kernel
theorem dX12_look_123 : decode cX12_look 123 = .ok (.invokevirtual 463, 3) := by decide +kernel
theorem dX12_look_126 : decode cX12_look 126 = .ok (.ireturn, 1) := by decide +kernel
theorem dX12_look_127 : decode cX12_look 127 = .ok (.aload_n 0, 1) := by decide +kernel
theorem dX12_look_128 : decode cX12_look 128 = .ok (.getfield 7, 3) := by decide +kernel
theorem dX12_look_131 : decode cX12_look 131 = .ok (.iconst 3, 1) := by decide +kernel
theorem dX12_look_132 : decode cX12_look 132 = .ok (.iaload, 1) := by decide +kernel
theorem dX12_look_133 : decode cX12_look 133 = .ok (.ireturn, 1) := by decide +kernel
theorem dX12_look_134 : decode cX12_look 134 = .ok (.aload_n 0, 1) := by decide +kernel
theorem dX12_look_135 : decode cX12_look 135 = .ok (.getfield 7, 3) := by decide +kernel
theorem dX12_look_138 : decode cX12_look 138 = .ok (.iconst 2, 1) := by decide +kernel
theorem dX12_look_139 : decode cX12_look 139 = .ok (.iaload, 1) := by decide +kernel
theorem dX12_look_140 : decode cX12_look 140 = .ok (.ireturn, 1) := by decide +kernel
theorem dX12_look_141 : decode cX12_look 141 = .ok (.aload_n 0, 1) := by decide +kernel
theorem dX12_look_142 : decode cX12_look 142 = .ok (.getfield 7, 3) := by decide +kernel
theorem dX12_look_145 : decode cX12_look 145 = .ok (.bipush 84, 2) := by decide +kernel
theorem dX12_look_147 : decode cX12_look 147 = .ok (.iaload, 1) := by decide +kernel
theorem dX12_look_148 : decode cX12_look 148 = .ok (.ireturn, 1) := by decide +kernel
theorem dX12_look_149 : decode cX12_look 149 = .ok (.aload_n 0, 1) := by decide +kernel
theorem dX12_look_150 : decode cX12_look 150 = .ok (.getfield 7, 3) := by decide +kernel
theorem dX12_look_153 : decode cX12_look 153 = .ok (.bipush 85, 2) := by decide +kernel
theorem dX12_look_155 : decode cX12_look 155 = .ok (.iaload, 1) := by decide +kernel
theorem dX12_look_156 : decode cX12_look 156 = .ok (.ireturn, 1) := by decide +kernel
theorem dX12_look_157 : decode cX12_look 157 = .ok (.aload_n 0, 1) := by decide +kernel
theorem dX12_look_158 : decode cX12_look 158 = .ok (.getfield 7, 3) := by decide +kernel
theorem dX12_look_161 : decode cX12_look 161 = .ok (.bipush 86, 2) := by decide +kernel
theorem dX12_look_163 : decode cX12_look 163 = .ok (.iaload, 1) := by decide +kernel
theorem dX12_look_164 : decode cX12_look 164 = .ok (.ireturn, 1) := by decide +kernel
theorem dX12_look_165 : decode cX12_look 165 = .ok (.aload_n 0, 1) := by decide +kernel
theorem dX12_look_166 : decode cX12_look 166 = .ok (.getfield 7, 3) := by decide +kernel
theorem dX12_look_169 : decode cX12_look 169 = .ok (.bipush 87, 2) := by decide +kernel
theorem dX12_look_171 : decode cX12_look 171 = .ok (.iaload, 1) := by decide +kernel
theorem dX12_look_172 : decode cX12_look 172 = .ok (.ireturn, 1) := by decide +kernel
theorem dX12_look_173 : decode cX12_look 173 = .ok (.aload_n 0, 1) := by decide +kernel
theorem dX12_look_174 : decode cX12_look 174 = .ok (.getfield 7, 3) := by decide +kernel
theorem dX12_look_177 : decode cX12_look 177 = .ok (.bipush 88, 2) := by decide +kernel
theorem dX12_look_179 : decode cX12_look 179 = .ok (.iaload, 1) := by decide +kernel
theorem dX12_look_180 : decode cX12_look 180 = .ok (.ireturn, 1) := by decide +kernel
theorem dX12_look_181 : decode cX12_look 181 = .ok (.aload_n 0, 1) := by decide +kernel
theorem dX12_look_182 : decode cX12_look 182 = .ok (.getfield 58, 3) := by decide +kernel
theorem dX12_look_185 : decode cX12_look 185 = .ok (.ireturn, 1) := by decide +kernel
theorem dX12_look_186 : decode cX12_look 186 = .ok (.iconst (-1), 1) := by decide +kernel
theorem dX12_look_187 : decode cX12_look 187 = .ok (.ireturn, 1) := by decide +kernel
theorem dX12_makesPeace_0 : decode cX12_makesPeace 0 = .ok (.aload_n 0, 1) := by decide +kernel
theorem dX12_makesPeace_1 : decode cX12_makesPeace 1 = .ok (.aload_n 0, 1) := by decide +kernel
theorem dX12_makesPeace_2 : decode cX12_makesPeace 2 = .ok (.iconst 0, 1) := by decide +kernel
theorem dX12_makesPeace_3 : decode cX12_makesPeace 3 = .ok (.invokevirtual 379, 3) := by decide +kernel
theorem dX12_makesPeace_6 : decode cX12_makesPeace 6 = .ok (.iload_n 1, 1) := by decide +kernel
theorem dX12_makesPeace_7 : decode cX12_makesPeace 7 = .ok (.iconst (-1), 1) := by decide +kernel
theorem dX12_makesPeace_8 : decode cX12_makesPeace 8 = .ok (.ixor, 1) := by decide +kernel
theorem dX12_makesPeace_9 : decode cX12_makesPeace 9 = .ok (.iand, 1) := by decide +kernel
theorem dX12_makesPeace_10 : decode cX12_makesPeace 10 = .ok (.invokevirtual 382, 3) := by decide +kernel
theorem dX12_makesPeace_13 : decode cX12_makesPeace 13 = .ok (.aload_n 0, 1) := by decide +kernel
theorem dX12_makesPeace_14 : decode cX12_makesPeace 14 = .ok (.getfield 7, 3) := by decide +kernel
theorem dX12_makesPeace_17 : decode cX12_makesPeace 17 = .ok (.bipush 79, 2) := by decide +kernel
theorem dX12_makesPeace_19 : decode cX12_makesPeace 19 = .ok (.iaload, 1) := by decide +kernel
theorem dX12_makesPeace_20 : decode cX12_makesPeace 20 = .ok (.if_icmp .lt 26, 3) := by decide +kernel
theorem dX12_makesPeace_23 : decode cX12_makesPeace 23 = .ok (.aload_n 0, 1) := by decide +kernel
theorem dX12_makesPeace_24 : decode cX12_makesPeace 24 = .ok (.aload_n 0, 1) := by decide +kernel
theorem dX12_makesPeace_25 : decode cX12_makesPeace 25 = .ok (.iconst 1, 1) := by decide +kernel
theorem dX12_makesPeace_26 : decode cX12_makesPeace 26 = .ok (.invokevirtual 379, 3) := by decide +kernel
theorem dX12_makesPeace_29 : decode cX12_makesPeace 29 = .ok (.iload_n 1, 1) := by decide +kernel
theorem dX12_makesPeace_30 : decode cX12_makesPeace 30 = .ok (.iconst (-1), 1) := by decide +kernel
theorem dX12_makesPeace_31 : decode cX12_makesPeace 31 = .ok (.ixor, 1) := by decide +kernel
theorem dX12_makesPeace_32 : decode cX12_makesPeace 32 = .ok (.iand, 1) := by decide +kernel
theorem dX12_makesPeace_33 : decode cX12_makesPeace 33 = .ok (.invokevirtual 382, 3) := by decide +kernel
theorem dX12_makesPeace_36 : decode cX12_makesPeace 36 = .ok (.aload_n 0, 1) := by decide +kernel
theorem dX12_makesPeace_37 : decode cX12_makesPeace 37 = .ok (.getfield 7, 3) := by decide +kernel
theorem dX12_makesPeace_40 : decode cX12_makesPeace 40 = .ok (.bipush 79, 2) := by decide +kernel
theorem dX12_makesPeace_42 : decode cX12_makesPeace 42 = .ok (.iaload, 1) := by decide +kernel
theorem dX12_makesPeace_43 : decode cX12_makesPeace 43 = .ok (.if_icmp .ge 7, 3) := by decide +kernel
theorem dX12_makesPeace_46 : decode cX12_makesPeace 46 = .ok (.iconst 1, 1) := by decide +kernel
theorem dX12_makesPeace_47 : decode cX12_makesPeace 47 = .ok (.goto 4, 3) := by decide +kernel
theorem dX12_makesPeace_50 : decode cX12_makesPeace 50 = .ok (.iconst 0, 1) := by decide +kernel
theorem dX12_makesPeace_51 : decode cX12_makesPeace 51 = .ok (.ireturn, 1) := by decide +kernel
theorem dX12_man_0 : decode cX12_man 0 = .ok (.iload_n 1, 1) := by decide +kernel
theorem dX12_man_1 : decode cX12_man 1 = .ok (.invokestatic 66, 3) := by decide +kernel
theorem dX12_man_4 : decode cX12_man 4 = .ok (.ifCond .eq 35, 3) := by decide +kernel
theorem dX12_man_7 : decode cX12_man 7 = .ok (.iload_n 2, 1) := by decide +kernel
theorem dX12_man_8 : decode cX12_man 8 = .ok (.iconst 0, 1) := by decide +kernel
theorem dX12_man_9 : decode cX12_man 9 = .ok (.bipush 120, 2) := by decide +kernel
theorem dX12_man_11 : decode cX12_man 11 = .ok (.invokestatic 54, 3) := by decide +kernel
theorem dX12_man_14 : decode cX12_man 14 = .ok (.ifCond .eq 25, 3) := by decide +kernel
theorem dX12_man_17 : decode cX12_man 17 = .ok (.iload_n 3, 1) := by decide +kernel
theorem dX12_man_18 : decode cX12_man 18 = .ok (.iconst 1, 1) := by decide +kernel
theorem dX12_man_19 : decode cX12_man 19 = .ok (.bipush 9, 2) := by decide +kernel
theorem dX12_man_21 : decode cX12_man 21 = .ok (.invokestatic 54, 3) := by decide +kernel
theorem dX12_man_24 : decode cX12_man 24 = .ok (.ifCond .eq 15, 3) := by decide +kernel
theorem dX12_man_27 : decode cX12_man 27 = .ok (.aload_n 0, 1) := by decide +kernel
theorem dX12_man_28 : decode cX12_man 28 = .ok (.getfield 7, 3) := by decide +kernel
theorem dX12_man_31 : decode cX12_man 31 = .ok (.bipush 78, 2) := by decide +kernel
theorem dX12_man_33 : decode cX12_man 33 = .ok (.iaload, 1) := by decide +kernel
theorem dX12_man_34 : decode cX12_man 34 = .ok (.bipush 12, 2) := by decide +kernel
theorem dX12_man_36 : decode cX12_man 36 = .ok (.if_icmp .ne 5, 3) := by decide +kernel
theorem dX12_man_39 : decode cX12_man 39 = .ok (.iconst (-1), 1) := by decide +kernel
theorem dX12_man_40 : decode cX12_man 40 = .ok (.ireturn, 1) := by decide +kernel
theorem dX12_man_41 : decode cX12_man 41 = .ok (.aload_n 0, 1) := by decide +kernel
theorem dX12_man_42 : decode cX12_man 42 = .ok (.getfield 7, 3) := by decide +kernel
theorem dX12_man_45 : decode cX12_man 45 = .ok (.bipush 78, 2) := by decide +kernel
theorem dX12_man_47 : decode cX12_man 47 = .ok (.iaload, 1) := by decide +kernel
theorem dX12_man_48 : decode cX12_man 48 = .ok (.istore 4, 2) := by decide +kernel
theorem dX12_man_50 : decode cX12_man 50 = .ok (.aload_n 0, 1) := by decide +kernel
theorem dX12_man_51 : decode cX12_man 51 = .ok (.getfield 7, 3) := by decide +kernel
theorem dX12_man_54 : decode cX12_man 54 = .ok (.bipush 90, 2) := by decide +kernel
theorem dX12_man_56 : decode cX12_man 56 = .ok (.iload 4, 2) := by decide +kernel
theorem dX12_man_58 : decode cX12_man 58 = .ok (.iadd, 1) := by decide +kernel
theorem dX12_man_59 : decode cX12_man 59 = .ok (.iload_n 1, 1) := by decide +kernel
theorem dX12_man_60 : decode cX12_man 60 = .ok (.iastore, 1) := by decide +kernel
theorem dX12_man_61 : decode cX12_man 61 = .ok (.aload_n 0, 1) := by decide +kernel
theorem dX12_man_62 : decode cX12_man 62 = .ok (.getfield 7, 3) := by decide +kernel
theorem dX12_man_65 : decode cX12_man 65 = .ok (.bipush 102, 2) := by decide +kernel
theorem dX12_man_67 : decode cX12_man 67 = .ok (.iload 4, 2) := by decide +kernel
theorem dX12_man_69 : decode cX12_man 69 = .ok (.iadd, 1) := by decide +kernel
theorem dX12_man_70 : decode cX12_man 70 = .ok (.iload_n 2, 1) := by decide +kernel
theorem dX12_man_71 : decode cX12_man 71 = .ok (.iastore, 1) := by decide +kernel
theorem dX12_man_72 : decode cX12_man 72 = .ok (.aload_n 0, 1) := by decide +kernel
theorem dX12_man_73 : decode cX12_man 73 = .ok (.getfield 7, 3) := by decide +kernel
theorem dX12_man_76 : decode cX12_man 76 = .ok (.bipush 114, 2) := by decide +kernel
theorem dX12_man_78 : decode cX12_man 78 = .ok (.iload 4, 2) := by decide +kernel
theorem dX12_man_80 : decode cX12_man 80 = .ok (.iadd, 1) := by decide +kernel
theorem dX12_man_81 : decode cX12_man 81 = .ok (.iload_n 3, 1) := by decide +kernel
theorem dX12_man_82 : decode cX12_man 82 = .ok (.iastore, 1) := by decide +kernel
theorem dX12_man_83 : decode cX12_man 83 = .ok (.aload_n 0, 1) := by decide +kernel
theorem dX12_man_84 : decode cX12_man 84 = .ok (.getfield 7, 3) := by decide +kernel
theorem dX12_man_87 : decode cX12_man 87 = .ok (.iconst 4, 1) := by decide +kernel
theorem dX12_man_88 : decode cX12_man 88 = .ok (.iload 4, 2) := by decide +kernel
theorem dX12_man_90 : decode cX12_man 90 = .ok (.iadd, 1) := by decide +kernel
theorem dX12_man_91 : decode cX12_man 91 = .ok (.bipush 50, 2) := by decide +kernel
theorem dX12_man_93 : decode cX12_man 93 = .ok (.iastore, 1) := by decide +kernel
theorem dX12_man_94 : decode cX12_man 94 = .ok (.aload_n 0, 1) := by decide +kernel
theorem dX12_man_95 : decode cX12_man 95 = .ok (.getfield 7, 3) := by decide +kernel
theorem dX12_man_98 : decode cX12_man 98 = .ok (.bipush 16, 2) := by decide +kernel
theorem dX12_man_100 : decode cX12_man 100 = .ok (.iload 4, 2) := by decide +kernel
theorem dX12_man_102 : decode cX12_man 102 = .ok (.iadd, 1) := by decide +kernel
theorem dX12_man_103 : decode cX12_man 103 = .ok (.iconst 0, 1) := by decide +kernel
theorem dX12_man_104 : decode cX12_man 104 = .ok (.iastore, 1) := by decide +kernel
theorem dX12_man_105 : decode cX12_man 105 = .ok (.aload_n 0, 1) := by decide +kernel
theorem dX12_man_106 : decode cX12_man 106 = .ok (.getfield 7, 3) := by decide +kernel
theorem dX12_man_109 : decode cX12_man 109 = .ok (.bipush 28, 2) := by decide +kernel
theorem dX12_man_111 : decode cX12_man 111 = .ok (.iload 4, 2) := by decide +kernel
theorem dX12_man_113 : decode cX12_man 113 = .ok (.iadd, 1) := by decide +kernel
theorem dX12_man_114 : decode cX12_man 114 = .ok (.iconst 0, 1) := by decide +kernel
theorem dX12_man_115 : decode cX12_man 115 = .ok (.iastore, 1) := by decide +kernel
theorem dX12_man_116 : decode cX12_man 116 = .ok (.aload_n 0, 1) := by decide +kernel
theorem dX12_man_117 : decode cX12_man 117 = .ok (.getfield 7, 3) := by decide +kernel
theorem dX12_man_120 : decode cX12_man 120 = .ok (.bipush 40, 2) := by decide +kernel
theorem dX12_man_122 : decode cX12_man 122 = .ok (.iload 4, 2) := by decide +kernel
theorem dX12_man_124 : decode cX12_man 124 = .ok (.iadd, 1) := by decide +kernel
theorem dX12_man_125 : decode cX12_man 125 = .ok (.iconst 0, 1) := by decide +kernel
theorem dX12_man_126 : decode cX12_man 126 = .ok (.iastore, 1) := by decide +kernel
theorem dX12_man_127 : decode cX12_man 127 = .ok (.aload_n 0, 1) := by decide +kernel
theorem dX12_man_128 : decode cX12_man 128 = .ok (.getfield 7, 3) := by decide +kernel
theorem dX12_man_131 : decode cX12_man 131 = .ok (.bipush 52, 2) := by decide +kernel
theorem dX12_man_133 : decode cX12_man 133 = .ok (.iload 4, 2) := by decide +kernel
theorem dX12_man_135 : decode cX12_man 135 = .ok (.iadd, 1) := by decide +kernel
theorem dX12_man_136 : decode cX12_man 136 = .ok (.iconst 0, 1) := by decide +kernel
theorem dX12_man_137 : decode cX12_man 137 = .ok (.iastore, 1) := by decide +kernel
theorem dX12_man_138 : decode cX12_man 138 = .ok (.aload_n 0, 1) := by decide +kernel
theorem dX12_man_139 : decode cX12_man 139 = .ok (.getfield 7, 3) := by decide +kernel
theorem dX12_man_142 : decode cX12_man 142 = .ok (.bipush 64, 2) := by decide +kernel
theorem dX12_man_144 : decode cX12_man 144 = .ok (.iload 4, 2) := by decide +kernel
theorem dX12_man_146 : decode cX12_man 146 = .ok (.iadd, 1) := by decide +kernel
theorem dX12_man_147 : decode cX12_man 147 = .ok (.iconst 0, 1) := by decide +kernel
theorem dX12_man_148 : decode cX12_man 148 = .ok (.iastore, 1) := by decide +kernel
theorem dX12_man_149 : decode cX12_man 149 = .ok (.aload_n 0, 1) := by decide +kernel
theorem dX12_man_150 : decode cX12_man 150 = .ok (.getfield 7, 3) := by decide +kernel
theorem dX12_man_153 : decode cX12_man 153 = .ok (.bipush 78, 2) := by decide +kernel
theorem dX12_man_155 : decode cX12_man 155 = .ok (.dup2, 1) := by decide +kernel
theorem dX12_man_156 : decode cX12_man 156 = .ok (.iaload, 1) := by decide +kernel
theorem dX12_man_157 : decode cX12_man 157 = .ok (.iconst 1, 1) := by decide +kernel
theorem dX12_man_158 : decode cX12_man 158 = .ok (.iadd, 1) := by decide +kernel
theorem dX12_man_159 : decode cX12_man 159 = .ok (.iastore, 1) := by decide +kernel
theorem dX12_man_160 : decode cX12_man 160 = .ok (.aload_n 0, 1) := by decide +kernel
theorem dX12_man_161 : decode cX12_man 161 = .ok (.invokevirtual 61, 3) := by decide +kernel
theorem dX12_man_164 : decode cX12_man 164 = .ok (.iload 4, 2) := by decide +kernel
theorem dX12_man_166 : decode cX12_man 166 = .ok (.ireturn, 1) := by decide +kernel
theorem dX12_march_0 : decode cX12_march 0 = .ok (.aload_n 0, 1) := by decide +kernel
theorem dX12_march_1 : decode cX12_march 1 = .ok (.iload_n 1, 1) := by decide +kernel
theorem dX12_march_2 : decode cX12_march 2 = .ok (.invokevirtual 70, 3) := by decide +kernel
theorem dX12_march_5 : decode cX12_march 5 = .ok (.ifCond .eq 33, 3) := by decide +kernel
theorem dX12_march_8 : decode cX12_march 8 = .ok (.iload_n 2, 1) := by decide +kernel
theorem dX12_march_9 : decode cX12_march 9 = .ok (.iconst 0, 1) := by decide +kernel
theorem dX12_march_10 : decode cX12_march 10 = .ok (.bipush 15, 2) := by decide +kernel
theorem dX12_march_12 : decode cX12_march 12 = .ok (.invokestatic 54, 3) := by decide +kernel
theorem dX12_march_15 : decode cX12_march 15 = .ok (.ifCond .eq 23, 3) := by decide +kernel
theorem dX12_march_18 : decode cX12_march 18 = .ok (.iload_n 3, 1) := by decide +kernel
theorem dX12_march_19 : decode cX12_march 19 = .ok (.iconst 1, 1) := by decide +kernel
theorem dX12_march_20 : decode cX12_march 20 = .ok (.bipush 12, 2) := by decide +kernel
theorem dX12_march_22 : decode cX12_march 22 = .ok (.invokestatic 54, 3) := by decide +kernel
theorem dX12_march_25 : decode cX12_march 25 = .ok (.ifCond .eq 13, 3) := by decide +kernel
theorem dX12_march_28 : decode cX12_march 28 = .ok (.iload 4, 2) := by decide +kernel
theorem dX12_march_30 : decode cX12_march 30 = .ok (.iconst 0, 1) := by decide +kernel
theorem dX12_march_31 : decode cX12_march 31 = .ok (.iconst 1, 1) := by decide +kernel
theorem dX12_march_32 : decode cX12_march 32 = .ok (.invokestatic 54, 3) := by decide +kernel
theorem dX12_march_35 : decode cX12_march 35 = .ok (.ifCond .ne 5, 3) := by decide +kernel
theorem dX12_march_38 : decode cX12_march 38 = .ok (.iconst (-1), 1) := by decide +kernel
theorem dX12_march_39 : decode cX12_march 39 = .ok (.ireturn, 1) := by decide +kernel
theorem dX12_march_40 : decode cX12_march 40 = .ok (.iconst (-1), 1) := by decide +kernel
theorem dX12_march_41 : decode cX12_march 41 = .ok (.istore 5, 2) := by decide +kernel
theorem dX12_march_43 : decode cX12_march 43 = .ok (.iconst (-1), 1) := by decide +kernel
theorem dX12_march_44 : decode cX12_march 44 = .ok (.istore 6, 2) := by decide +kernel
theorem dX12_march_46 : decode cX12_march 46 = .ok (.iconst 0, 1) := by decide +kernel
theorem dX12_march_47 : decode cX12_march 47 = .ok (.istore 7, 2) := by decide +kernel
theorem dX12_march_49 : decode cX12_march 49 = .ok (.iload 7, 2) := by decide +kernel
theorem dX12_march_51 : decode cX12_march 51 = .ok (.iconst 1, 1) := by decide +kernel
theorem dX12_march_52 : decode cX12_march 52 = .ok (.iload_n 3, 1) := by decide +kernel
theorem dX12_march_53 : decode cX12_march 53 = .ok (.ishl, 1) := by decide +kernel
theorem dX12_march_54 : decode cX12_march 54 = .ok (.if_icmp .ge 38, 3) := by decide +kernel
theorem dX12_march_57 : decode cX12_march 57 = .ok (.aload_n 0, 1) := by decide +kernel
theorem dX12_march_58 : decode cX12_march 58 = .ok (.iload_n 1, 1) := by decide +kernel
theorem dX12_march_59 : decode cX12_march 59 = .ok (.iload_n 2, 1) := by decide +kernel
theorem dX12_march_60 : decode cX12_march 60 = .ok (.iload_n 3, 1) := by decide +kernel
theorem dX12_march_61 : decode cX12_march 61 = .ok (.iload 7, 2) := by decide +kernel
theorem dX12_march_63 : decode cX12_march 63 = .ok (.invokevirtual 427, 3) := by decide +kernel
theorem dX12_march_66 : decode cX12_march 66 = .ok (.istore 8, 2) := by decide +kernel
theorem dX12_march_68 : decode cX12_march 68 = .ok (.iload 8, 2) := by decide +kernel
theorem dX12_march_70 : decode cX12_march 70 = .ok (.iload 5, 2) := by decide +kernel
theorem dX12_march_72 : decode cX12_march 72 = .ok (.if_icmp .gt 6, 3) := by decide +kernel
theorem dX12_march_75 : decode cX12_march 75 = .ok (.goto 11, 3) := by decide +kernel
theorem dX12_march_78 : decode cX12_march 78 = .ok (.iload 8, 2) := by decide +kernel
theorem dX12_march_80 : decode cX12_march 80 = .ok (.istore 5, 2) := by decide +kernel
theorem dX12_march_82 : decode cX12_march 82 = .ok (.iload 7, 2) := by decide +kernel
theorem dX12_march_84 : decode cX12_march 84 = .ok (.istore 6, 2) := by decide +kernel
theorem dX12_march_86 : decode cX12_march 86 = .ok (.iinc 7 1, 3) := by decide +kernel
theorem dX12_march_89 : decode cX12_march 89 = .ok (.goto (-40), 3) := by decide +kernel
theorem dX12_march_92 : decode cX12_march 92 = .ok (.iload 5, 2) := by decide +kernel
theorem dX12_march_94 : decode cX12_march 94 = .ok (.iconst (-1), 1) := by decide +kernel
theorem dX12_march_95 : decode cX12_march 95 = .ok (.if_icmp .eq 8, 3) := by decide +kernel
theorem dX12_march_98 : decode cX12_march 98 = .ok (.iload 4, 2) := by decide +kernel
theorem dX12_march_100 : decode cX12_march 100 = .ok (.ifCond .ne 8, 3) := by decide +kernel
theorem dX12_march_103 : decode cX12_march 103 = .ok (.iload 5, 2) := by decide +kernel
theorem dX12_march_105 : decode cX12_march 105 = .ok (.goto 9, 3) := by decide +kernel
theorem dX12_march_108 : decode cX12_march 108 = .ok (.iload 6, 2) := by decide +kernel
theorem dX12_march_110 : decode cX12_march 110 = .ok (.iload_n 3, 1) := by decide +kernel
theorem dX12_march_111 : decode cX12_march 111 = .ok (.invokestatic 430, 3) := by decide +kernel
theorem dX12_march_114 : decode cX12_march 114 = .ok (.ireturn, 1) := by decide +kernel
theorem dX12_marched_0 : decode cX12_marched 0 = .ok (.aload_n 0, 1) := by decide +kernel
theorem dX12_marched_1 : decode cX12_marched 1 = .ok (.getfield 7, 3) := by decide +kernel
theorem dX12_marched_4 : decode cX12_marched 4 = .ok (.iconst 4, 1) := by decide +kernel
theorem dX12_marched_5 : decode cX12_marched 5 = .ok (.iload_n 1, 1) := by decide +kernel
theorem dX12_marched_6 : decode cX12_marched 6 = .ok (.iadd, 1) := by decide +kernel
theorem dX12_marched_7 : decode cX12_marched 7 = .ok (.iaload, 1) := by decide +kernel
theorem dX12_marched_8 : decode cX12_marched 8 = .ok (.istore 5, 2) := by decide +kernel
theorem dX12_marched_10 : decode cX12_marched 10 = .ok (.iload_n 2, 1) := by decide +kernel
theorem dX12_marched_11 : decode cX12_marched 11 = .ok (.istore 6, 2) := by decide +kernel
theorem dX12_marched_13 : decode cX12_marched 13 = .ok (.iconst 0, 1) := by decide +kernel
theorem dX12_marched_14 : decode cX12_marched 14 = .ok (.istore 7, 2) := by decide +kernel
theorem dX12_marched_16 : decode cX12_marched 16 = .ok (.iload 7, 2) := by decide +kernel
theorem dX12_marched_18 : decode cX12_marched 18 = .ok (.iload_n 3, 1) := by decide +kernel
theorem dX12_marched_19 : decode cX12_marched 19 = .ok (.if_icmp .ge 82, 3) := by decide +kernel
theorem dX12_marched_22 : decode cX12_marched 22 = .ok (.iload 4, 2) := by decide +kernel
theorem dX12_marched_24 : decode cX12_marched 24 = .ok (.iload_n 3, 1) := by decide +kernel
theorem dX12_marched_25 : decode cX12_marched 25 = .ok (.iconst 1, 1) := by decide +kernel
theorem dX12_marched_26 : decode cX12_marched 26 = .ok (.isub, 1) := by decide +kernel
theorem dX12_marched_27 : decode cX12_marched 27 = .ok (.iload 7, 2) := by decide +kernel
theorem dX12_marched_29 : decode cX12_marched 29 = .ok (.isub, 1) := by decide +kernel
theorem dX12_marched_30 : decode cX12_marched 30 = .ok (.ishr, 1) := by decide +kernel
theorem dX12_marched_31 : decode cX12_marched 31 = .ok (.iconst 1, 1) := by decide +kernel
theorem dX12_marched_32 : decode cX12_marched 32 = .ok (.iand, 1) := by decide +kernel
theorem dX12_marched_33 : decode cX12_marched 33 = .ok (.ifCond .ne 18, 3) := by decide +kernel
theorem dX12_marched_36 : decode cX12_marched 36 = .ok (.bipush 99, 2) := by decide +kernel
theorem dX12_marched_38 : decode cX12_marched 38 = .ok (.iload 5, 2) := by decide +kernel
theorem dX12_marched_40 : decode cX12_marched 40 = .ok (.bipush 10, 2) := by decide +kernel
theorem dX12_marched_42 : decode cX12_marched 42 = .ok (.iadd, 1) := by decide +kernel
theorem dX12_marched_43 : decode cX12_marched 43 = .ok (.invokestatic 297, 3) := by decide +kernel
theorem dX12_marched_46 : decode cX12_marched 46 = .ok (.istore 5, 2) := by decide +kernel
theorem dX12_marched_48 : decode cX12_marched 48 = .ok (.goto 47, 3) := by decide +kernel
theorem dX12_marched_51 : decode cX12_marched 51 = .ok (.iload 6, 2) := by decide +kernel
theorem dX12_marched_53 : decode cX12_marched 53 = .ok (.aload_n 0, 1) := by decide +kernel
theorem dX12_marched_54 : decode cX12_marched 54 = .ok (.getfield 7, 3) := by decide +kernel
theorem dX12_marched_57 : decode cX12_marched 57 = .ok (.bipush 114, 2) := by decide +kernel
theorem dX12_marched_59 : decode cX12_marched 59 = .ok (.iload_n 1, 1) := by decide +kernel
theorem dX12_marched_60 : decode cX12_marched 60 = .ok (.iadd, 1) := by decide +kernel
theorem dX12_marched_61 : decode cX12_marched 61 = .ok (.iaload, 1) := by decide +kernel
theorem dX12_marched_62 : decode cX12_marched 62 = .ok (.invokestatic 297, 3) := by decide +kernel
theorem dX12_marched_65 : decode cX12_marched 65 = .ok (.istore 8, 2) := by decide +kernel
theorem dX12_marched_67 : decode cX12_marched 67 = .ok (.iload 5, 2) := by decide +kernel
theorem dX12_marched_69 : decode cX12_marched 69 = .ok (.iconst 5, 1) := by decide +kernel
theorem dX12_marched_70 : decode cX12_marched 70 = .ok (.iload 8, 2) := by decide +kernel
theorem dX12_marched_72 : decode cX12_marched 72 = .ok (.imul, 1) := by decide +kernel
theorem dX12_marched_73 : decode cX12_marched 73 = .ok (.isub, 1) := by decide +kernel
theorem dX12_marched_74 : decode cX12_marched 74 = .ok (.istore 5, 2) := by decide +kernel
theorem dX12_marched_76 : decode cX12_marched 76 = .ok (.iload 6, 2) := by decide +kernel
theorem dX12_marched_78 : decode cX12_marched 78 = .ok (.iload 8, 2) := by decide +kernel
theorem dX12_marched_80 : decode cX12_marched 80 = .ok (.isub, 1) := by decide +kernel
theorem dX12_marched_81 : decode cX12_marched 81 = .ok (.istore 6, 2) := by decide +kernel
theorem dX12_marched_83 : decode cX12_marched 83 = .ok (.iload 8, 2) := by decide +kernel
theorem dX12_marched_85 : decode cX12_marched 85 = .ok (.ifCond .eq 8, 3) := by decide +kernel
theorem dX12_marched_88 : decode cX12_marched 88 = .ok (.iload 5, 2) := by decide +kernel
theorem dX12_marched_90 : decode cX12_marched 90 = .ok (.ifCond .ge 5, 3) := by decide +kernel
theorem dX12_marched_93 : decode cX12_marched 93 = .ok (.iconst (-1), 1) := by decide +kernel
theorem dX12_marched_94 : decode cX12_marched 94 = .ok (.ireturn, 1) := by decide +kernel
theorem dX12_marched_95 : decode cX12_marched 95 = .ok (.iinc 7 1, 3) := by decide +kernel
theorem dX12_marched_98 : decode cX12_marched 98 = .ok (.goto (-82), 3) := by decide +kernel
theorem dX12_marched_101 : decode cX12_marched 101 = .ok (.iload 6, 2) := by decide +kernel
theorem dX12_marched_103 : decode cX12_marched 103 = .ok (.ifCond .ne 8, 3) := by decide +kernel
theorem dX12_marched_106 : decode cX12_marched 106 = .ok (.iload 5, 2) := by decide +kernel
theorem dX12_marched_108 : decode cX12_marched 108 = .ok (.goto 4, 3) := by decide +kernel
theorem dX12_marched_111 : decode cX12_marched 111 = .ok (.iconst (-1), 1) := by decide +kernel
theorem dX12_marched_112 : decode cX12_marched 112 = .ok (.ireturn, 1) := by decide +kernel
theorem dX12_marches_0 : decode cX12_marches 0 = .ok (.aload_n 0, 1) := by decide +kernel
theorem dX12_marches_1 : decode cX12_marches 1 = .ok (.getfield 7, 3) := by decide +kernel
theorem dX12_marches_4 : decode cX12_marches 4 = .ok (.bipush 40, 2) := by decide +kernel
theorem dX12_marches_6 : decode cX12_marches 6 = .ok (.iload_n 1, 1) := by decide +kernel
theorem dX12_marches_7 : decode cX12_marches 7 = .ok (.iadd, 1) := by decide +kernel
theorem dX12_marches_8 : decode cX12_marches 8 = .ok (.iaload, 1) := by decide +kernel
theorem dX12_marches_9 : decode cX12_marches 9 = .ok (.iconst 1, 1) := by decide +kernel
theorem dX12_marches_10 : decode cX12_marches 10 = .ok (.if_icmp .eq 4, 3) := by decide +kernel
theorem dX12_marches_13 : decode cX12_marches 13 = .ok (.return_, 1) := by decide +kernel
theorem dX12_marches_14 : decode cX12_marches 14 = .ok (.aload_n 0, 1) := by decide +kernel
theorem dX12_marches_15 : decode cX12_marches 15 = .ok (.aload_n 0, 1) := by decide +kernel
theorem dX12_marches_16 : decode cX12_marches 16 = .ok (.getfield 7, 3) := by decide +kernel
theorem dX12_marches_19 : decode cX12_marches 19 = .ok (.bipush 90, 2) := by decide +kernel
theorem dX12_marches_21 : decode cX12_marches 21 = .ok (.iload_n 1, 1) := by decide +kernel
theorem dX12_marches_22 : decode cX12_marches 22 = .ok (.iadd, 1) := by decide +kernel
theorem dX12_marches_23 : decode cX12_marches 23 = .ok (.iaload, 1) := by decide +kernel
theorem dX12_marches_24 : decode cX12_marches 24 = .ok (.invokevirtual 346, 3) := by decide +kernel
theorem dX12_marches_27 : decode cX12_marches 27 = .ok (.ifCond .eq 11, 3) := by decide +kernel
theorem dX12_marches_30 : decode cX12_marches 30 = .ok (.aload_n 0, 1) := by decide +kernel
theorem dX12_marches_31 : decode cX12_marches 31 = .ok (.iload_n 1, 1) := by decide +kernel
theorem dX12_marches_32 : decode cX12_marches 32 = .ok (.bipush 10, 2) := by decide +kernel
theorem dX12_marches_34 : decode cX12_marches 34 = .ok (.invokevirtual 349, 3) := by decide +kernel
theorem dX12_marches_37 : decode cX12_marches 37 = .ok (.return_, 1) := by decide +kernel
theorem dX12_marches_38 : decode cX12_marches 38 = .ok (.aload_n 0, 1) := by decide +kernel
theorem dX12_marches_39 : decode cX12_marches 39 = .ok (.iload_n 1, 1) := by decide +kernel
theorem dX12_marches_40 : decode cX12_marches 40 = .ok (.invokevirtual 352, 3) := by decide +kernel
theorem dX12_marches_43 : decode cX12_marches 43 = .ok (.istore_n 2, 1) := by decide +kernel
theorem dX12_marches_44 : decode cX12_marches 44 = .ok (.iload_n 2, 1) := by decide +kernel
theorem dX12_marches_45 : decode cX12_marches 45 = .ok (.ifCond .le 12, 3) := by decide +kernel
theorem dX12_marches_48 : decode cX12_marches 48 = .ok (.aload_n 0, 1) := by decide +kernel
theorem dX12_marches_49 : decode cX12_marches 49 = .ok (.iload_n 1, 1) := by decide +kernel
theorem dX12_marches_50 : decode cX12_marches 50 = .ok (.iload_n 2, 1) := by decide +kernel
theorem dX12_marches_51 : decode cX12_marches 51 = .ok (.invokevirtual 349, 3) := by decide +kernel
theorem dX12_marches_54 : decode cX12_marches 54 = .ok (.goto 8, 3) := by decide +kernel
theorem dX12_marches_57 : decode cX12_marches 57 = .ok (.aload_n 0, 1) := by decide +kernel
theorem dX12_marches_58 : decode cX12_marches 58 = .ok (.iload_n 1, 1) := by decide +kernel
theorem dX12_marches_59 : decode cX12_marches 59 = .ok (.invokevirtual 355, 3) := by decide +kernel
theorem dX12_marches_62 : decode cX12_marches 62 = .ok (.return_, 1) := by decide +kernel
theorem dX12_napOf_0 : decode cX12_napOf 0 = .ok (.aload_n 0, 1) := by decide +kernel
theorem dX12_napOf_1 : decode cX12_napOf 1 = .ok (.bipush 22, 2) := by decide +kernel
theorem dX12_napOf_3 : decode cX12_napOf 3 = .ok (.iload_n 1, 1) := by decide +kernel
theorem dX12_napOf_4 : decode cX12_napOf 4 = .ok (.iconst 0, 1) := by decide +kernel
theorem dX12_napOf_5 : decode cX12_napOf 5 = .ok (.bipush 99, 2) := by decide +kernel
theorem dX12_napOf_7 : decode cX12_napOf 7 = .ok (.invokevirtual 306, 3) := by decide +kernel
theorem dX12_napOf_10 : decode cX12_napOf 10 = .ok (.ireturn, 1) := by decide +kernel
theorem dX12_need_0 : decode cX12_need 0 = .ok (.aload_n 0, 1) := by decide +kernel
theorem dX12_need_1 : decode cX12_need 1 = .ok (.getfield 170, 3) := by decide +kernel
theorem dX12_need_4 : decode cX12_need 4 = .ok (.iload_n 1, 1) := by decide +kernel
theorem dX12_need_5 : decode cX12_need 5 = .ok (.if_icmp .eq 9, 3) := by decide +kernel
theorem dX12_need_8 : decode cX12_need 8 = .ok (.aload_n 0, 1) := by decide +kernel
theorem dX12_need_9 : decode cX12_need 9 = .ok (.iconst 1, 1) := by decide +kernel
theorem dX12_need_10 : decode cX12_need 10 = .ok (.invokevirtual 191, 3) := by decide +kernel
theorem dX12_need_13 : decode cX12_need 13 = .ok (.ireturn, 1) := by decide +kernel
theorem dX12_need_14 : decode cX12_need 14 = .ok (.aload_n 0, 1) := by decide +kernel
theorem dX12_need_15 : decode cX12_need 15 = .ok (.invokevirtual 194, 3) := by decide +kernel
theorem dX12_need_18 : decode cX12_need 18 = .ok (.iconst 1, 1) := by decide +kernel
theorem dX12_need_19 : decode cX12_need 19 = .ok (.ireturn, 1) := by decide +kernel
theorem dX12_next0_0 : decode cX12_next0 0 = .ok (.aload_n 0, 1) := by decide +kernel
theorem dX12_next0_1 : decode cX12_next0 1 = .ok (.aload_n 0, 1) := by decide +kernel
theorem dX12_next0_2 : decode cX12_next0 2 = .ok (.getfield 83, 3) := by decide +kernel
theorem dX12_next0_5 : decode cX12_next0 5 = .ok (.invokevirtual 166, 3) := by decide +kernel
theorem dX12_next0_8 : decode cX12_next0 8 = .ok (.bipush 32, 2) := by decide +kernel
theorem dX12_next0_10 : decode cX12_next0 10 = .ok (.if_icmp .eq 16, 3) := by decide +kernel
theorem dX12_next0_13 : decode cX12_next0 13 = .ok (.aload_n 0, 1) := by decide +kernel
theorem dX12_next0_14 : decode cX12_next0 14 = .ok (.aload_n 0, 1) := by decide +kernel
theorem dX12_next0_15 : decode cX12_next0 15 = .ok (.getfield 83, 3) := by decide +kernel
theorem dX12_next0_18 : decode cX12_next0 18 = .ok (.invokevirtual 166, 3) := by decide +kernel
theorem dX12_next0_21 : decode cX12_next0 21 = .ok (.bipush 10, 2) := by decide +kernel
theorem dX12_next0_23 : decode cX12_next0 23 = .ok (.if_icmp .ne 16, 3) := by decide +kernel
theorem dX12_next0_26 : decode cX12_next0 26 = .ok (.aload_n 0, 1) := by decide +kernel
theorem dX12_next0_27 : decode cX12_next0 27 = .ok (.dup, 1) := by decide +kernel
theorem dX12_next0_28 : decode cX12_next0 28 = .ok (.getfield 83, 3) := by decide +kernel
theorem dX12_next0_31 : decode cX12_next0 31 = .ok (.iconst 1, 1) := by decide +kernel
theorem dX12_next0_32 : decode cX12_next0 32 = .ok (.iadd, 1) := by decide +kernel
theorem dX12_next0_33 : decode cX12_next0 33 = .ok (.putfield 83, 3) := by decide +kernel
theorem dX12_next0_36 : decode cX12_next0 36 = .ok (.goto (-36), 3) := by decide +kernel
theorem dX12_next0_39 : decode cX12_next0 39 = .ok (.aload_n 0, 1) := by decide +kernel
theorem dX12_next0_40 : decode cX12_next0 40 = .ok (.aload_n 0, 1) := by decide +kernel
theorem dX12_next0_41 : decode cX12_next0 41 = .ok (.getfield 83, 3) := by decide +kernel
theorem dX12_next0_44 : decode cX12_next0 44 = .ok (.putfield 86, 3) := by decide +kernel
theorem dX12_next0_47 : decode cX12_next0 47 = .ok (.aload_n 0, 1) := by decide +kernel
theorem dX12_next0_48 : decode cX12_next0 48 = .ok (.aload_n 0, 1) := by decide +kernel
theorem dX12_next0_49 : decode cX12_next0 49 = .ok (.getfield 83, 3) := by decide +kernel
theorem dX12_next0_52 : decode cX12_next0 52 = .ok (.invokevirtual 166, 3) := by decide +kernel
theorem dX12_next0_55 : decode cX12_next0 55 = .ok (.istore_n 1, 1) := by decide +kernel
theorem dX12_next0_56 : decode cX12_next0 56 = .ok (.iload_n 1, 1) := by decide +kernel
theorem dX12_next0_57 : decode cX12_next0 57 = .ok (.iconst (-1), 1) := by decide +kernel
theorem dX12_next0_58 : decode cX12_next0 58 = .ok (.if_icmp .ne 11, 3) := by decide +kernel
theorem dX12_next0_61 : decode cX12_next0 61 = .ok (.aload_n 0, 1) := by decide +kernel
theorem dX12_next0_62 : decode cX12_next0 62 = .ok (.iconst 0, 1) := by decide +kernel
theorem dX12_next0_63 : decode cX12_next0 63 = .ok (.putfield 170, 3) := by decide +kernel
theorem dX12_next0_66 : decode cX12_next0 66 = .ok (.goto 240, 3) := by decide +kernel
theorem dX12_next0_69 : decode cX12_next0 69 = .ok (.iload_n 1, 1) := by decide +kernel
theorem dX12_next0_70 : decode cX12_next0 70 = .ok (.invokestatic 173, 3) := by decide +kernel
theorem dX12_next0_73 : decode cX12_next0 73 = .ok (.ifCond .eq 41, 3) := by decide +kernel
theorem dX12_next0_76 : decode cX12_next0 76 = .ok (.aload_n 0, 1) := by decide +kernel
theorem dX12_next0_77 : decode cX12_next0 77 = .ok (.aload_n 0, 1) := by decide +kernel
theorem dX12_next0_78 : decode cX12_next0 78 = .ok (.getfield 83, 3) := by decide +kernel
theorem dX12_next0_81 : decode cX12_next0 81 = .ok (.invokevirtual 166, 3) := by decide +kernel
theorem dX12_next0_84 : decode cX12_next0 84 = .ok (.invokestatic 173, 3) := by decide +kernel
theorem dX12_next0_87 : decode cX12_next0 87 = .ok (.ifCond .eq 16, 3) := by decide +kernel
theorem dX12_next0_90 : decode cX12_next0 90 = .ok (.aload_n 0, 1) := by decide +kernel
theorem dX12_next0_91 : decode cX12_next0 91 = .ok (.dup, 1) := by decide +kernel
theorem dX12_next0_92 : decode cX12_next0 92 = .ok (.getfield 83, 3) := by decide +kernel
theorem dX12_next0_95 : decode cX12_next0 95 = .ok (.iconst 1, 1) := by decide +kernel
theorem dX12_next0_96 : decode cX12_next0 96 = .ok (.iadd, 1) := by decide +kernel
theorem dX12_next0_97 : decode cX12_next0 97 = .ok (.putfield 83, 3) := by decide +kernel
theorem dX12_next0_100 : decode cX12_next0 100 = .ok (.goto (-24), 3) := by decide +kernel
theorem dX12_next0_103 : decode cX12_next0 103 = .ok (.aload_n 0, 1) := by decide +kernel
theorem dX12_next0_104 : decode cX12_next0 104 = .ok (.aload_n 0, 1) := by decide +kernel
theorem dX12_next0_105 : decode cX12_next0 105 = .ok (.invokevirtual 176, 3) := by decide +kernel
theorem dX12_next0_108 : decode cX12_next0 108 = .ok (.putfield 170, 3) := by decide +kernel
theorem dX12_next0_111 : decode cX12_next0 111 = .ok (.goto 195, 3) := by decide +kernel
theorem dX12_next0_114 : decode cX12_next0 114 = .ok (.iload_n 1, 1) := by decide +kernel
theorem dX12_next0_115 : decode cX12_next0 115 = .ok (.invokestatic 179, 3) := by decide +kernel
theorem dX12_next0_118 : decode cX12_next0 118 = .ok (.ifCond .eq 96, 3) := by decide +kernel
theorem dX12_next0_121 : decode cX12_next0 121 = .ok (.aload_n 0, 1) := by decide +kernel
theorem dX12_next0_122 : decode cX12_next0 122 = .ok (.iconst 0, 1) := by decide +kernel
theorem dX12_next0_123 : decode cX12_next0 123 = .ok (.putfield 182, 3) := by decide +kernel
theorem dX12_next0_126 : decode cX12_next0 126 = .ok (.aload_n 0, 1) := by decide +kernel
theorem dX12_next0_127 : decode cX12_next0 127 = .ok (.aload_n 0, 1) := by decide +kernel
theorem dX12_next0_128 : decode cX12_next0 128 = .ok (.getfield 83, 3) := by decide +kernel
theorem dX12_next0_131 : decode cX12_next0 131 = .ok (.invokevirtual 166, 3) := by decide +kernel
theorem dX12_next0_134 : decode cX12_next0 134 = .ok (.invokestatic 179, 3) := by decide +kernel
theorem dX12_next0_137 : decode cX12_next0 137 = .ok (.ifCond .eq 52, 3) := by decide +kernel
theorem dX12_next0_140 : decode cX12_next0 140 = .ok (.aload_n 0, 1) := by decide +kernel
theorem dX12_next0_141 : decode cX12_next0 141 = .ok (.getfield 83, 3) := by decide +kernel
theorem dX12_next0_144 : decode cX12_next0 144 = .ok (.aload_n 0, 1) := by decide +kernel
theorem dX12_next0_145 : decode cX12_next0 145 = .ok (.getfield 86, 3) := by decide +kernel
theorem dX12_next0_148 : decode cX12_next0 148 = .ok (.iconst 4, 1) := by decide +kernel
theorem dX12_next0_149 : decode cX12_next0 149 = .ok (.iadd, 1) := by decide +kernel
theorem dX12_next0_150 : decode cX12_next0 150 = .ok (.if_icmp .ge 26, 3) := by decide +kernel
theorem dX12_next0_153 : decode cX12_next0 153 = .ok (.aload_n 0, 1) := by decide +kernel
theorem dX12_next0_154 : decode cX12_next0 154 = .ok (.bipush 10, 2) := by decide +kernel
theorem dX12_next0_156 : decode cX12_next0 156 = .ok (.aload_n 0, 1) := by decide +kernel
theorem dX12_next0_157 : decode cX12_next0 157 = .ok (.getfield 182, 3) := by decide +kernel
theorem dX12_next0_160 : decode cX12_next0 160 = .ok (.imul, 1) := by decide +kernel
theorem dX12_next0_161 : decode cX12_next0 161 = .ok (.aload_n 0, 1) := by decide +kernel
theorem dX12_next0_162 : decode cX12_next0 162 = .ok (.aload_n 0, 1) := by decide +kernel
theorem dX12_next0_163 : decode cX12_next0 163 = .ok (.getfield 83, 3) := by decide +kernel
theorem dX12_next0_166 : decode cX12_next0 166 = .ok (.invokevirtual 166, 3) := by decide +kernel
theorem dX12_next0_169 : decode cX12_next0 169 = .ok (.iadd, 1) := by decide +kernel
theorem dX12_next0_170 : decode cX12_next0 170 = .ok (.bipush 48, 2) := by decide +kernel
theorem dX12_next0_172 : decode cX12_next0 172 = .ok (.isub, 1) := by decide +kernel
theorem dX12_next0_173 : decode cX12_next0 173 = .ok (.putfield 182, 3) := by decide +kernel
theorem dX12_next0_176 : decode cX12_next0 176 = .ok (.aload_n 0, 1) := by decide +kernel
theorem dX12_next0_177 : decode cX12_next0 177 = .ok (.dup, 1) := by decide +kernel
theorem dX12_next0_178 : decode cX12_next0 178 = .ok (.getfield 83, 3) := by decide +kernel
theorem dX12_next0_181 : decode cX12_next0 181 = .ok (.iconst 1, 1) := by decide +kernel
theorem dX12_next0_182 : decode cX12_next0 182 = .ok (.iadd, 1) := by decide +kernel
theorem dX12_next0_183 : decode cX12_next0 183 = .ok (.putfield 83, 3) := by decide +kernel
theorem dX12_next0_186 : decode cX12_next0 186 = .ok (.goto (-60), 3) := by decide +kernel
theorem dX12_next0_189 : decode cX12_next0 189 = .ok (.aload_n 0, 1) := by decide +kernel
theorem dX12_next0_190 : decode cX12_next0 190 = .ok (.aload_n 0, 1) := by decide +kernel
theorem dX12_next0_191 : decode cX12_next0 191 = .ok (.getfield 83, 3) := by decide +kernel
theorem dX12_next0_194 : decode cX12_next0 194 = .ok (.aload_n 0, 1) := by decide +kernel
theorem dX12_next0_195 : decode cX12_next0 195 = .ok (.getfield 86, 3) := by decide +kernel
theorem dX12_next0_198 : decode cX12_next0 198 = .ok (.isub, 1) := by decide +kernel
theorem dX12_next0_199 : decode cX12_next0 199 = .ok (.iconst 5, 1) := by decide +kernel
theorem dX12_next0_200 : decode cX12_next0 200 = .ok (.if_icmp .ge 7, 3) := by decide +kernel
theorem dX12_next0_203 : decode cX12_next0 203 = .ok (.iconst 2, 1) := by decide +kernel
theorem dX12_next0_204 : decode cX12_next0 204 = .ok (.goto 4, 3) := by decide +kernel
theorem dX12_next0_207 : decode cX12_next0 207 = .ok (.iconst 1, 1) := by decide +kernel
theorem dX12_next0_208 : decode cX12_next0 208 = .ok (.putfield 170, 3) := by decide +kernel
theorem dX12_next0_211 : decode cX12_next0 211 = .ok (.goto 95, 3) := by decide +kernel
theorem dX12_next0_214 : decode cX12_next0 214 = .ok (.aload_n 0, 1) := by decide +kernel
theorem dX12_next0_215 : decode cX12_next0 215 = .ok (.dup, 1) := by decide +kernel
theorem dX12_next0_216 : decode cX12_next0 216 = .ok (.getfield 83, 3) := by decide +kernel
theorem dX12_next0_219 : decode cX12_next0 219 = .ok (.iconst 1, 1) := by decide +kernel
theorem dX12_next0_220 : decode cX12_next0 220 = .ok (.iadd, 1) := by decide +kernel
theorem dX12_next0_221 : decode cX12_next0 221 = .ok (.putfield 83, 3) := by decide +kernel
theorem dX12_next0_224 : decode cX12_next0 224 = .ok (.iload_n 1, 1) := by decide +kernel
theorem dX12_next0_225 : decode cX12_next0 225 = .ok (.bipush 59, 2) := by decide +kernel
theorem dX12_next0_227 : decode cX12_next0 227 = .ok (.if_icmp .eq 57, 3) := by decide +kernel
theorem dX12_next0_230 : decode cX12_next0 230 = .ok (.iload_n 1, 1) := by decide +kernel
theorem dX12_next0_231 : decode cX12_next0 231 = .ok (.bipush 43, 2) := by decide +kernel
theorem dX12_next0_233 : decode cX12_next0 233 = .ok (.if_icmp .eq 51, 3) := by decide +kernel
theorem dX12_next0_236 : decode cX12_next0 236 = .ok (.iload_n 1, 1) := by decide +kernel
theorem dX12_next0_237 : decode cX12_next0 237 = .ok (.bipush 45, 2) := by decide +kernel
theorem dX12_next0_239 : decode cX12_next0 239 = .ok (.if_icmp .eq 45, 3) := by decide +kernel
theorem dX12_next0_242 : decode cX12_next0 242 = .ok (.iload_n 1, 1) := by decide +kernel
theorem dX12_next0_243 : decode cX12_next0 243 = .ok (.bipush 42, 2) := by decide +kernel
theorem dX12_next0_245 : decode cX12_next0 245 = .ok (.if_icmp .eq 39, 3) := by decide +kernel
theorem dX12_next0_248 : decode cX12_next0 248 = .ok (.iload_n 1, 1) := by decide +kernel
theorem dX12_next0_249 : decode cX12_next0 249 = .ok (.bipush 47, 2) := by decide +kernel
theorem dX12_next0_251 : decode cX12_next0 251 = .ok (.if_icmp .eq 33, 3) := by decide +kernel
theorem dX12_next0_254 : decode cX12_next0 254 = .ok (.iload_n 1, 1) := by decide +kernel
theorem dX12_next0_255 : decode cX12_next0 255 = .ok (.bipush 40, 2) := by decide +kernel
theorem dX12_next0_257 : decode cX12_next0 257 = .ok (.if_icmp .eq 27, 3) := by decide +kernel
theorem dX12_next0_260 : decode cX12_next0 260 = .ok (.iload_n 1, 1) := by decide +kernel
theorem dX12_next0_261 : decode cX12_next0 261 = .ok (.bipush 41, 2) := by decide +kernel
theorem dX12_next0_263 : decode cX12_next0 263 = .ok (.if_icmp .eq 21, 3) := by decide +kernel
theorem dX12_next0_266 : decode cX12_next0 266 = .ok (.iload_n 1, 1) := by decide +kernel
theorem dX12_next0_267 : decode cX12_next0 267 = .ok (.bipush 60, 2) := by decide +kernel
theorem dX12_next0_269 : decode cX12_next0 269 = .ok (.if_icmp .eq 15, 3) := by decide +kernel
theorem dX12_next0_272 : decode cX12_next0 272 = .ok (.iload_n 1, 1) := by decide +kernel
theorem dX12_next0_273 : decode cX12_next0 273 = .ok (.bipush 61, 2) := by decide +kernel
theorem dX12_next0_275 : decode cX12_next0 275 = .ok (.if_icmp .eq 9, 3) := by decide +kernel
theorem dX12_next0_278 : decode cX12_next0 278 = .ok (.iload_n 1, 1) := by decide +kernel
theorem dX12_next0_279 : decode cX12_next0 279 = .ok (.bipush 62, 2) := by decide +kernel
theorem dX12_next0_281 : decode cX12_next0 281 = .ok (.if_icmp .ne 7, 3) := by decide +kernel
theorem dX12_next0_284 : decode cX12_next0 284 = .ok (.iconst 1, 1) := by decide +kernel
theorem dX12_next0_285 : decode cX12_next0 285 = .ok (.goto 4, 3) := by decide +kernel
theorem dX12_next0_288 : decode cX12_next0 288 = .ok (.iconst 0, 1) := by decide +kernel
theorem dX12_next0_289 : decode cX12_next0 289 = .ok (.istore_n 2, 1) := by decide +kernel
theorem dX12_next0_290 : decode cX12_next0 290 = .ok (.aload_n 0, 1) := by decide +kernel
theorem dX12_next0_291 : decode cX12_next0 291 = .ok (.iload_n 2, 1) := by decide +kernel
theorem dX12_next0_292 : decode cX12_next0 292 = .ok (.ifCond .eq 10, 3) := by decide +kernel
theorem dX12_next0_295 : decode cX12_next0 295 = .ok (.bipush 100, 2) := by decide +kernel
theorem dX12_next0_297 : decode cX12_next0 297 = .ok (.iload_n 1, 1) := by decide +kernel
theorem dX12_next0_298 : decode cX12_next0 298 = .ok (.iadd, 1) := by decide +kernel
theorem dX12_next0_299 : decode cX12_next0 299 = .ok (.goto 4, 3) := by decide +kernel
theorem dX12_next0_302 : decode cX12_next0 302 = .ok (.iconst 1, 1) := by decide +kernel
theorem dX12_next0_303 : decode cX12_next0 303 = .ok (.putfield 170, 3) := by decide +kernel
theorem dX12_next0_306 : decode cX12_next0 306 = .ok (.return_, 1) := by decide +kernel
theorem dX12_notes_0 : decode cX12_notes 0 = .ok (.aload_n 0, 1) := by decide +kernel
theorem dX12_notes_1 : decode cX12_notes 1 = .ok (.getfield 313, 3) := by decide +kernel
theorem dX12_notes_4 : decode cX12_notes 4 = .ok (.ifCond .eq 15, 3) := by decide +kernel
theorem dX12_notes_7 : decode cX12_notes 7 = .ok (.aload_n 0, 1) := by decide +kernel
theorem dX12_notes_8 : decode cX12_notes 8 = .ok (.getfield 7, 3) := by decide +kernel
theorem dX12_notes_11 : decode cX12_notes 11 = .ok (.iconst 3, 1) := by decide +kernel
theorem dX12_notes_12 : decode cX12_notes 12 = .ok (.iaload, 1) := by decide +kernel
theorem dX12_notes_13 : decode cX12_notes 13 = .ok (.sipush 150, 3) := by decide +kernel
theorem dX12_notes_16 : decode cX12_notes 16 = .ok (.if_icmp .ne 4, 3) := by decide +kernel
theorem dX12_notes_19 : decode cX12_notes 19 = .ok (.return_, 1) := by decide +kernel
theorem dX12_notes_20 : decode cX12_notes 20 = .ok (.sipush 300, 3) := by decide +kernel
theorem dX12_notes_23 : decode cX12_notes 23 = .ok (.iconst 4, 1) := by decide +kernel
theorem dX12_notes_24 : decode cX12_notes 24 = .ok (.aload_n 0, 1) := by decide +kernel
theorem dX12_notes_25 : decode cX12_notes 25 = .ok (.getfield 7, 3) := by decide +kernel
theorem dX12_notes_28 : decode cX12_notes 28 = .ok (.iconst 3, 1) := by decide +kernel
theorem dX12_notes_29 : decode cX12_notes 29 = .ok (.iaload, 1) := by decide +kernel
theorem dX12_notes_30 : decode cX12_notes 30 = .ok (.imul, 1) := by decide +kernel
theorem dX12_notes_31 : decode cX12_notes 31 = .ok (.iadd, 1) := by decide +kernel
theorem dX12_notes_32 : decode cX12_notes 32 = .ok (.istore 4, 2) := by decide +kernel
theorem dX12_notes_34 : decode cX12_notes 34 = .ok (.aload_n 0, 1) := by decide +kernel
theorem dX12_notes_35 : decode cX12_notes 35 = .ok (.getfield 7, 3) := by decide +kernel
theorem dX12_notes_38 : decode cX12_notes 38 = .ok (.iload 4, 2) := by decide +kernel
theorem dX12_notes_40 : decode cX12_notes 40 = .ok (.aload_n 0, 1) := by decide +kernel
theorem dX12_notes_41 : decode cX12_notes 41 = .ok (.getfield 7, 3) := by decide +kernel
theorem dX12_notes_44 : decode cX12_notes 44 = .ok (.iconst 0, 1) := by decide +kernel
theorem dX12_notes_45 : decode cX12_notes 45 = .ok (.iaload, 1) := by decide +kernel
theorem dX12_notes_46 : decode cX12_notes 46 = .ok (.iastore, 1) := by decide +kernel
theorem dX12_notes_47 : decode cX12_notes 47 = .ok (.aload_n 0, 1) := by decide +kernel
theorem dX12_notes_48 : decode cX12_notes 48 = .ok (.getfield 7, 3) := by decide +kernel
theorem dX12_notes_51 : decode cX12_notes 51 = .ok (.iload 4, 2) := by decide +kernel
theorem dX12_notes_53 : decode cX12_notes 53 = .ok (.iconst 1, 1) := by decide +kernel
theorem dX12_notes_54 : decode cX12_notes 54 = .ok (.iadd, 1) := by decide +kernel
theorem dX12_notes_55 : decode cX12_notes 55 = .ok (.iload_n 1, 1) := by decide +kernel
theorem dX12_notes_56 : decode cX12_notes 56 = .ok (.iastore, 1) := by decide +kernel
theorem dX12_notes_57 : decode cX12_notes 57 = .ok (.aload_n 0, 1) := by decide +kernel
theorem dX12_notes_58 : decode cX12_notes 58 = .ok (.getfield 7, 3) := by decide +kernel
theorem dX12_notes_61 : decode cX12_notes 61 = .ok (.iload 4, 2) := by decide +kernel
theorem dX12_notes_63 : decode cX12_notes 63 = .ok (.iconst 2, 1) := by decide +kernel
theorem dX12_notes_64 : decode cX12_notes 64 = .ok (.iadd, 1) := by decide +kernel
theorem dX12_notes_65 : decode cX12_notes 65 = .ok (.iload_n 2, 1) := by decide +kernel
theorem dX12_notes_66 : decode cX12_notes 66 = .ok (.iastore, 1) := by decide +kernel
theorem dX12_notes_67 : decode cX12_notes 67 = .ok (.aload_n 0, 1) := by decide +kernel
theorem dX12_notes_68 : decode cX12_notes 68 = .ok (.getfield 7, 3) := by decide +kernel
theorem dX12_notes_71 : decode cX12_notes 71 = .ok (.iload 4, 2) := by decide +kernel
theorem dX12_notes_73 : decode cX12_notes 73 = .ok (.iconst 3, 1) := by decide +kernel
theorem dX12_notes_74 : decode cX12_notes 74 = .ok (.iadd, 1) := by decide +kernel
theorem dX12_notes_75 : decode cX12_notes 75 = .ok (.iload_n 3, 1) := by decide +kernel
theorem dX12_notes_76 : decode cX12_notes 76 = .ok (.iastore, 1) := by decide +kernel
theorem dX12_notes_77 : decode cX12_notes 77 = .ok (.aload_n 0, 1) := by decide +kernel
theorem dX12_notes_78 : decode cX12_notes 78 = .ok (.getfield 7, 3) := by decide +kernel
theorem dX12_notes_81 : decode cX12_notes 81 = .ok (.iconst 3, 1) := by decide +kernel
theorem dX12_notes_82 : decode cX12_notes 82 = .ok (.dup2, 1) := by decide +kernel
theorem dX12_notes_83 : decode cX12_notes 83 = .ok (.iaload, 1) := by decide +kernel
theorem dX12_notes_84 : decode cX12_notes 84 = .ok (.iconst 1, 1) := by decide +kernel
theorem dX12_notes_85 : decode cX12_notes 85 = .ok (.iadd, 1) := by decide +kernel
theorem dX12_notes_86 : decode cX12_notes 86 = .ok (.iastore, 1) := by decide +kernel
theorem dX12_notes_87 : decode cX12_notes 87 = .ok (.return_, 1) := by decide +kernel
theorem dX12_number_0 : decode cX12_number 0 = .ok (.aload_n 0, 1) := by decide +kernel
theorem dX12_number_1 : decode cX12_number 1 = .ok (.getfield 170, 3) := by decide +kernel
theorem dX12_number_4 : decode cX12_number 4 = .ok (.iconst 2, 1) := by decide +kernel
theorem dX12_number_5 : decode cX12_number 5 = .ok (.if_icmp .eq 9, 3) := by decide +kernel
theorem dX12_number_8 : decode cX12_number 8 = .ok (.aload_n 0, 1) := by decide +kernel
theorem dX12_number_9 : decode cX12_number 9 = .ok (.iconst 1, 1) := by decide +kernel
theorem dX12_number_10 : decode cX12_number 10 = .ok (.invokevirtual 191, 3) := by decide +kernel
theorem dX12_number_13 : decode cX12_number 13 = .ok (.ireturn, 1) := by decide +kernel
theorem dX12_number_14 : decode cX12_number 14 = .ok (.aload_n 0, 1) := by decide +kernel
theorem dX12_number_15 : decode cX12_number 15 = .ok (.getfield 182, 3) := by decide +kernel
theorem dX12_number_18 : decode cX12_number 18 = .ok (.iload_n 1, 1) := by decide +kernel
theorem dX12_number_19 : decode cX12_number 19 = .ok (.iload_n 2, 1) := by decide +kernel
theorem dX12_number_20 : decode cX12_number 20 = .ok (.invokestatic 54, 3) := by decide +kernel
theorem dX12_number_23 : decode cX12_number 23 = .ok (.ifCond .ne 9, 3) := by decide +kernel
theorem dX12_number_26 : decode cX12_number 26 = .ok (.aload_n 0, 1) := by decide +kernel
theorem dX12_number_27 : decode cX12_number 27 = .ok (.iconst 2, 1) := by decide +kernel
theorem dX12_number_28 : decode cX12_number 28 = .ok (.invokevirtual 191, 3) := by decide +kernel
theorem dX12_number_31 : decode cX12_number 31 = .ok (.ireturn, 1) := by decide +kernel
theorem dX12_number_32 : decode cX12_number 32 = .ok (.aload_n 0, 1) := by decide +kernel
theorem dX12_number_33 : decode cX12_number 33 = .ok (.aload_n 0, 1) := by decide +kernel
theorem dX12_number_34 : decode cX12_number 34 = .ok (.getfield 182, 3) := by decide +kernel
theorem dX12_number_37 : decode cX12_number 37 = .ok (.putfield 238, 3) := by decide +kernel
theorem dX12_number_40 : decode cX12_number 40 = .ok (.aload_n 0, 1) := by decide +kernel
theorem dX12_number_41 : decode cX12_number 41 = .ok (.invokevirtual 194, 3) := by decide +kernel
theorem dX12_number_44 : decode cX12_number 44 = .ok (.iconst 1, 1) := by decide +kernel
theorem dX12_number_45 : decode cX12_number 45 = .ok (.ireturn, 1) := by decide +kernel
theorem dX12_of_0 : decode cX12_of 0 = .ok (.aload_n 0, 1) := by decide +kernel
theorem dX12_of_1 : decode cX12_of 1 = .ok (.iload_n 1, 1) := by decide +kernel
theorem dX12_of_2 : decode cX12_of 2 = .ok (.invokevirtual 70, 3) := by decide +kernel
theorem dX12_of_5 : decode cX12_of 5 = .ok (.ifCond .ne 6, 3) := by decide +kernel
theorem dX12_of_8 : decode cX12_of 8 = .ok (.bipush (-2), 2) := by decide +kernel
theorem dX12_of_10 : decode cX12_of 10 = .ok (.ireturn, 1) := by decide +kernel
theorem dX12_of_11 : decode cX12_of 11 = .ok (.aload_n 0, 1) := by decide +kernel
theorem dX12_of_12 : decode cX12_of 12 = .ok (.iconst 0, 1) := by decide +kernel
theorem dX12_of_13 : decode cX12_of 13 = .ok (.putfield 303, 3) := by decide +kernel
theorem dX12_of_16 : decode cX12_of 16 = .ok (.iload_n 2, 1) := by decide +kernel
theorem dX12_of_17 : decode cX12_of 17 = .ok (.tableswitch 197 0 13 #[71, 81, 91, 101, 110, 120, 130, 140, 167, 197, 173, 179, 185, 191], 71) := by decide +kernel
theorem dX12_of_88 : decode cX12_of 88 = .ok (.aload_n 0, 1) := by decide +kernel
theorem dX12_of_89 : decode cX12_of 89 = .ok (.getfield 7, 3) := by decide +kernel
theorem dX12_of_92 : decode cX12_of 92 = .ok (.bipush 90, 2) := by decide +kernel
theorem dX12_of_94 : decode cX12_of 94 = .ok (.iload_n 1, 1) := by decide +kernel
theorem dX12_of_95 : decode cX12_of 95 = .ok (.iadd, 1) := by decide +kernel
theorem dX12_of_96 : decode cX12_of 96 = .ok (.iaload, 1) := by decide +kernel
theorem dX12_of_97 : decode cX12_of 97 = .ok (.ireturn, 1) := by decide +kernel
theorem dX12_of_98 : decode cX12_of 98 = .ok (.aload_n 0, 1) := by decide +kernel
theorem dX12_of_99 : decode cX12_of 99 = .ok (.getfield 7, 3) := by decide +kernel
theorem dX12_of_102 : decode cX12_of 102 = .ok (.bipush 102, 2) := by decide +kernel
theorem dX12_of_104 : decode cX12_of 104 = .ok (.iload_n 1, 1) := by decide +kernel
theorem dX12_of_105 : decode cX12_of 105 = .ok (.iadd, 1) := by decide +kernel
theorem dX12_of_106 : decode cX12_of 106 = .ok (.iaload, 1) := by decide +kernel
theorem dX12_of_107 : decode cX12_of 107 = .ok (.ireturn, 1) := by decide +kernel
theorem dX12_of_108 : decode cX12_of 108 = .ok (.aload_n 0, 1) := by decide +kernel
theorem dX12_of_109 : decode cX12_of 109 = .ok (.getfield 7, 3) := by decide +kernel
theorem dX12_of_112 : decode cX12_of 112 = .ok (.bipush 114, 2) := by decide +kernel
theorem dX12_of_114 : decode cX12_of 114 = .ok (.iload_n 1, 1) := by decide +kernel
theorem dX12_of_115 : decode cX12_of 115 = .ok (.iadd, 1) := by decide +kernel
theorem dX12_of_116 : decode cX12_of 116 = .ok (.iaload, 1) := by decide +kernel
theorem dX12_of_117 : decode cX12_of 117 = .ok (.ireturn, 1) := by decide +kernel
theorem dX12_of_118 : decode cX12_of 118 = .ok (.aload_n 0, 1) := by decide +kernel
theorem dX12_of_119 : decode cX12_of 119 = .ok (.getfield 7, 3) := by decide +kernel
theorem dX12_of_122 : decode cX12_of 122 = .ok (.iconst 4, 1) := by decide +kernel
theorem dX12_of_123 : decode cX12_of 123 = .ok (.iload_n 1, 1) := by decide +kernel
theorem dX12_of_124 : decode cX12_of 124 = .ok (.iadd, 1) := by decide +kernel
theorem dX12_of_125 : decode cX12_of 125 = .ok (.iaload, 1) := by decide +kernel
theorem dX12_of_126 : decode cX12_of 126 = .ok (.ireturn, 1) := by decide +kernel
theorem dX12_of_127 : decode cX12_of 127 = .ok (.aload_n 0, 1) := by decide +kernel
theorem dX12_of_128 : decode cX12_of 128 = .ok (.getfield 7, 3) := by decide +kernel
theorem dX12_of_131 : decode cX12_of 131 = .ok (.bipush 16, 2) := by decide +kernel
theorem dX12_of_133 : decode cX12_of 133 = .ok (.iload_n 1, 1) := by decide +kernel
theorem dX12_of_134 : decode cX12_of 134 = .ok (.iadd, 1) := by decide +kernel
theorem dX12_of_135 : decode cX12_of 135 = .ok (.iaload, 1) := by decide +kernel
theorem dX12_of_136 : decode cX12_of 136 = .ok (.ireturn, 1) := by decide +kernel
theorem dX12_of_137 : decode cX12_of 137 = .ok (.aload_n 0, 1) := by decide +kernel
theorem dX12_of_138 : decode cX12_of 138 = .ok (.getfield 7, 3) := by decide +kernel
theorem dX12_of_141 : decode cX12_of 141 = .ok (.bipush 28, 2) := by decide +kernel
theorem dX12_of_143 : decode cX12_of 143 = .ok (.iload_n 1, 1) := by decide +kernel
theorem dX12_of_144 : decode cX12_of 144 = .ok (.iadd, 1) := by decide +kernel
theorem dX12_of_145 : decode cX12_of 145 = .ok (.iaload, 1) := by decide +kernel
theorem dX12_of_146 : decode cX12_of 146 = .ok (.ireturn, 1) := by decide +kernel
theorem dX12_of_147 : decode cX12_of 147 = .ok (.aload_n 0, 1) := by decide +kernel
theorem dX12_of_148 : decode cX12_of 148 = .ok (.getfield 7, 3) := by decide +kernel
theorem dX12_of_151 : decode cX12_of 151 = .ok (.bipush 40, 2) := by decide +kernel
theorem dX12_of_153 : decode cX12_of 153 = .ok (.iload_n 1, 1) := by decide +kernel
theorem dX12_of_154 : decode cX12_of 154 = .ok (.iadd, 1) := by decide +kernel
theorem dX12_of_155 : decode cX12_of 155 = .ok (.iaload, 1) := by decide +kernel
theorem dX12_of_156 : decode cX12_of 156 = .ok (.ireturn, 1) := by decide +kernel
theorem dX12_of_157 : decode cX12_of 157 = .ok (.aload_n 0, 1) := by decide +kernel
theorem dX12_of_158 : decode cX12_of 158 = .ok (.getfield 7, 3) := by decide +kernel
theorem dX12_of_161 : decode cX12_of 161 = .ok (.bipush 40, 2) := by decide +kernel
theorem dX12_of_163 : decode cX12_of 163 = .ok (.iload_n 1, 1) := by decide +kernel
theorem dX12_of_164 : decode cX12_of 164 = .ok (.iadd, 1) := by decide +kernel
theorem dX12_of_165 : decode cX12_of 165 = .ok (.iaload, 1) := by decide +kernel
theorem dX12_of_166 : decode cX12_of 166 = .ok (.iconst 1, 1) := by decide +kernel
theorem dX12_of_167 : decode cX12_of 167 = .ok (.if_icmp .ne 15, 3) := by decide +kernel
theorem dX12_of_170 : decode cX12_of 170 = .ok (.aload_n 0, 1) := by decide +kernel
theorem dX12_of_171 : decode cX12_of 171 = .ok (.getfield 7, 3) := by decide +kernel
theorem dX12_of_174 : decode cX12_of 174 = .ok (.bipush 52, 2) := by decide +kernel
theorem dX12_of_176 : decode cX12_of 176 = .ok (.iload_n 1, 1) := by decide +kernel
theorem dX12_of_177 : decode cX12_of 177 = .ok (.iadd, 1) := by decide +kernel
theorem dX12_of_178 : decode cX12_of 178 = .ok (.iaload, 1) := by decide +kernel
theorem dX12_of_179 : decode cX12_of 179 = .ok (.goto 4, 3) := by decide +kernel
theorem dX12_of_182 : decode cX12_of 182 = .ok (.iconst (-1), 1) := by decide +kernel
theorem dX12_of_183 : decode cX12_of 183 = .ok (.ireturn, 1) := by decide +kernel
theorem dX12_of_184 : decode cX12_of 184 = .ok (.aload_n 0, 1) := by decide +kernel
theorem dX12_of_185 : decode cX12_of 185 = .ok (.iload_n 1, 1) := by decide +kernel
theorem dX12_of_186 : decode cX12_of 186 = .ok (.invokevirtual 370, 3) := by decide +kernel
theorem dX12_of_189 : decode cX12_of 189 = .ok (.ireturn, 1) := by decide +kernel
theorem dX12_of_190 : decode cX12_of 190 = .ok (.aload_n 0, 1) := by decide +kernel
theorem dX12_of_191 : decode cX12_of 191 = .ok (.iload_n 1, 1) := by decide +kernel
theorem dX12_of_192 : decode cX12_of 192 = .ok (.invokevirtual 326, 3) := by decide +kernel
theorem dX12_of_195 : decode cX12_of 195 = .ok (.ireturn, 1) := by decide +kernel
theorem dX12_of_196 : decode cX12_of 196 = .ok (.aload_n 0, 1) := by decide +kernel
theorem dX12_of_197 : decode cX12_of 197 = .ok (.iload_n 1, 1) := by decide +kernel
theorem dX12_of_198 : decode cX12_of 198 = .ok (.invokevirtual 340, 3) := by decide +kernel
theorem dX12_of_201 : decode cX12_of 201 = .ok (.ireturn, 1) := by decide +kernel
theorem dX12_of_202 : decode cX12_of 202 = .ok (.aload_n 0, 1) := by decide +kernel
theorem dX12_of_203 : decode cX12_of 203 = .ok (.iload_n 1, 1) := by decide +kernel
theorem dX12_of_204 : decode cX12_of 204 = .ok (.invokevirtual 352, 3) := by decide +kernel
theorem dX12_of_207 : decode cX12_of 207 = .ok (.ireturn, 1) := by decide +kernel
theorem dX12_of_208 : decode cX12_of 208 = .ok (.aload_n 0, 1) := by decide +kernel
theorem dX12_of_209 : decode cX12_of 209 = .ok (.iload_n 1, 1) := by decide +kernel
theorem dX12_of_210 : decode cX12_of 210 = .ok (.invokevirtual 376, 3) := by decide +kernel
theorem dX12_of_213 : decode cX12_of 213 = .ok (.ireturn, 1) := by decide +kernel
theorem dX12_of_214 : decode cX12_of 214 = .ok (.bipush (-2), 2) := by decide +kernel
theorem dX12_of_216 : decode cX12_of 216 = .ok (.ireturn, 1) := by decide +kernel
theorem dX12_oneTest_0 : decode cX12_oneTest 0 = .ok (.aload_n 0, 1) := by decide +kernel
theorem dX12_oneTest_1 : decode cX12_oneTest 1 = .ok (.getfield 170, 3) := by decide +kernel
theorem dX12_oneTest_4 : decode cX12_oneTest 4 = .ok (.bipush 6, 2) := by decide +kernel
theorem dX12_oneTest_6 : decode cX12_oneTest 6 = .ok (.if_icmp .ne 38, 3) := by decide +kernel
theorem dX12_oneTest_9 : decode cX12_oneTest 9 = .ok (.aload_n 0, 1) := by decide +kernel
theorem dX12_oneTest_10 : decode cX12_oneTest 10 = .ok (.invokevirtual 220, 3) := by decide +kernel
theorem dX12_oneTest_13 : decode cX12_oneTest 13 = .ok (.ifCond .eq 10, 3) := by decide +kernel
theorem dX12_oneTest_16 : decode cX12_oneTest 16 = .ok (.aload_n 0, 1) := by decide +kernel
theorem dX12_oneTest_17 : decode cX12_oneTest 17 = .ok (.invokevirtual 217, 3) := by decide +kernel
theorem dX12_oneTest_20 : decode cX12_oneTest 20 = .ok (.ifCond .ne 5, 3) := by decide +kernel
theorem dX12_oneTest_23 : decode cX12_oneTest 23 = .ok (.iconst 0, 1) := by decide +kernel
theorem dX12_oneTest_24 : decode cX12_oneTest 24 = .ok (.ireturn, 1) := by decide +kernel
theorem dX12_oneTest_25 : decode cX12_oneTest 25 = .ok (.aload_n 0, 1) := by decide +kernel
theorem dX12_oneTest_26 : decode cX12_oneTest 26 = .ok (.dup, 1) := by decide +kernel
theorem dX12_oneTest_27 : decode cX12_oneTest 27 = .ok (.getfield 200, 3) := by decide +kernel
theorem dX12_oneTest_30 : decode cX12_oneTest 30 = .ok (.iconst 1, 1) := by decide +kernel
theorem dX12_oneTest_31 : decode cX12_oneTest 31 = .ok (.isub, 1) := by decide +kernel
theorem dX12_oneTest_32 : decode cX12_oneTest 32 = .ok (.putfield 200, 3) := by decide +kernel
theorem dX12_oneTest_35 : decode cX12_oneTest 35 = .ok (.aload_n 0, 1) := by decide +kernel
theorem dX12_oneTest_36 : decode cX12_oneTest 36 = .ok (.bipush 30, 2) := by decide +kernel
theorem dX12_oneTest_38 : decode cX12_oneTest 38 = .ok (.iconst 0, 1) := by decide +kernel
theorem dX12_oneTest_39 : decode cX12_oneTest 39 = .ok (.invokevirtual 207, 3) := by decide +kernel
theorem dX12_oneTest_42 : decode cX12_oneTest 42 = .ok (.iconst 1, 1) := by decide +kernel
theorem dX12_oneTest_43 : decode cX12_oneTest 43 = .ok (.ireturn, 1) := by decide +kernel
theorem dX12_oneTest_44 : decode cX12_oneTest 44 = .ok (.aload_n 0, 1) := by decide +kernel
theorem dX12_oneTest_45 : decode cX12_oneTest 45 = .ok (.getfield 170, 3) := by decide +kernel
theorem dX12_oneTest_48 : decode cX12_oneTest 48 = .ok (.sipush 140, 3) := by decide +kernel
theorem dX12_oneTest_51 : decode cX12_oneTest 51 = .ok (.if_icmp .ne 41, 3) := by decide +kernel
theorem dX12_oneTest_54 : decode cX12_oneTest 54 = .ok (.aload_n 0, 1) := by decide +kernel
theorem dX12_oneTest_55 : decode cX12_oneTest 55 = .ok (.invokevirtual 220, 3) := by decide +kernel
theorem dX12_oneTest_58 : decode cX12_oneTest 58 = .ok (.ifCond .eq 20, 3) := by decide +kernel
theorem dX12_oneTest_61 : decode cX12_oneTest 61 = .ok (.aload_n 0, 1) := by decide +kernel
theorem dX12_oneTest_62 : decode cX12_oneTest 62 = .ok (.invokevirtual 223, 3) := by decide +kernel
theorem dX12_oneTest_65 : decode cX12_oneTest 65 = .ok (.ifCond .eq 13, 3) := by decide +kernel
theorem dX12_oneTest_68 : decode cX12_oneTest 68 = .ok (.aload_n 0, 1) := by decide +kernel
theorem dX12_oneTest_69 : decode cX12_oneTest 69 = .ok (.sipush 141, 3) := by decide +kernel
theorem dX12_oneTest_72 : decode cX12_oneTest 72 = .ok (.invokevirtual 226, 3) := by decide +kernel
theorem dX12_oneTest_75 : decode cX12_oneTest 75 = .ok (.ifCond .ne 5, 3) := by decide +kernel
theorem dX12_oneTest_78 : decode cX12_oneTest 78 = .ok (.iconst 0, 1) := by decide +kernel
theorem dX12_oneTest_79 : decode cX12_oneTest 79 = .ok (.ireturn, 1) := by decide +kernel
theorem dX12_oneTest_80 : decode cX12_oneTest 80 = .ok (.aload_n 0, 1) := by decide +kernel
theorem dX12_oneTest_81 : decode cX12_oneTest 81 = .ok (.dup, 1) := by decide +kernel
theorem dX12_oneTest_82 : decode cX12_oneTest 82 = .ok (.getfield 200, 3) := by decide +kernel
theorem dX12_oneTest_85 : decode cX12_oneTest 85 = .ok (.iconst 1, 1) := by decide +kernel
theorem dX12_oneTest_86 : decode cX12_oneTest 86 = .ok (.isub, 1) := by decide +kernel
theorem dX12_oneTest_87 : decode cX12_oneTest 87 = .ok (.putfield 200, 3) := by decide +kernel
theorem dX12_oneTest_90 : decode cX12_oneTest 90 = .ok (.iconst 1, 1) := by decide +kernel
theorem dX12_oneTest_91 : decode cX12_oneTest 91 = .ok (.ireturn, 1) := by decide +kernel
theorem dX12_oneTest_92 : decode cX12_oneTest 92 = .ok (.aload_n 0, 1) := by decide +kernel
theorem dX12_oneTest_93 : decode cX12_oneTest 93 = .ok (.invokevirtual 229, 3) := by decide +kernel
theorem dX12_oneTest_96 : decode cX12_oneTest 96 = .ok (.ifCond .ne 5, 3) := by decide +kernel
theorem dX12_oneTest_99 : decode cX12_oneTest 99 = .ok (.iconst 0, 1) := by decide +kernel
theorem dX12_oneTest_100 : decode cX12_oneTest 100 = .ok (.ireturn, 1) := by decide +kernel
theorem dX12_oneTest_101 : decode cX12_oneTest 101 = .ok (.aload_n 0, 1) := by decide +kernel
theorem dX12_oneTest_102 : decode cX12_oneTest 102 = .ok (.getfield 170, 3) := by decide +kernel
theorem dX12_oneTest_105 : decode cX12_oneTest 105 = .ok (.sipush 160, 3) := by decide +kernel
theorem dX12_oneTest_108 : decode cX12_oneTest 108 = .ok (.if_icmp .ne 8, 3) := by decide +kernel
theorem dX12_oneTest_111 : decode cX12_oneTest 111 = .ok (.bipush 27, 2) := by decide +kernel
theorem dX12_oneTest_113 : decode cX12_oneTest 113 = .ok (.goto 34, 3) := by decide +kernel
theorem dX12_oneTest_116 : decode cX12_oneTest 116 = .ok (.aload_n 0, 1) := by decide +kernel
theorem dX12_oneTest_117 : decode cX12_oneTest 117 = .ok (.getfield 170, 3) := by decide +kernel
theorem dX12_oneTest_120 : decode cX12_oneTest 120 = .ok (.sipush 161, 3) := by decide +kernel
theorem dX12_oneTest_123 : decode cX12_oneTest 123 = .ok (.if_icmp .ne 8, 3) := by decide +kernel
theorem dX12_oneTest_126 : decode cX12_oneTest 126 = .ok (.bipush 28, 2) := by decide +kernel
theorem dX12_oneTest_128 : decode cX12_oneTest 128 = .ok (.goto 19, 3) := by decide +kernel
theorem dX12_oneTest_131 : decode cX12_oneTest 131 = .ok (.aload_n 0, 1) := by decide +kernel
theorem dX12_oneTest_132 : decode cX12_oneTest 132 = .ok (.getfield 170, 3) := by decide +kernel
theorem dX12_oneTest_135 : decode cX12_oneTest 135 = .ok (.sipush 162, 3) := by decide +kernel
theorem dX12_oneTest_138 : decode cX12_oneTest 138 = .ok (.if_icmp .ne 8, 3) := by decide +kernel
theorem dX12_oneTest_141 : decode cX12_oneTest 141 = .ok (.bipush 29, 2) := by decide +kernel
theorem dX12_oneTest_143 : decode cX12_oneTest 143 = .ok (.goto 4, 3) := by decide +kernel
theorem dX12_oneTest_146 : decode cX12_oneTest 146 = .ok (.iconst (-1), 1) := by decide +kernel
theorem dX12_oneTest_147 : decode cX12_oneTest 147 = .ok (.istore_n 1, 1) := by decide +kernel
theorem dX12_oneTest_148 : decode cX12_oneTest 148 = .ok (.iload_n 1, 1) := by decide +kernel
theorem dX12_oneTest_149 : decode cX12_oneTest 149 = .ok (.iconst (-1), 1) := by decide +kernel
theorem dX12_oneTest_150 : decode cX12_oneTest 150 = .ok (.if_icmp .ne 9, 3) := by decide +kernel
theorem dX12_oneTest_153 : decode cX12_oneTest 153 = .ok (.aload_n 0, 1) := by decide +kernel
theorem dX12_oneTest_154 : decode cX12_oneTest 154 = .ok (.iconst 1, 1) := by decide +kernel
theorem dX12_oneTest_155 : decode cX12_oneTest 155 = .ok (.invokevirtual 191, 3) := by decide +kernel
theorem dX12_oneTest_158 : decode cX12_oneTest 158 = .ok (.ireturn, 1) := by decide +kernel
theorem dX12_oneTest_159 : decode cX12_oneTest 159 = .ok (.aload_n 0, 1) := by decide +kernel
theorem dX12_oneTest_160 : decode cX12_oneTest 160 = .ok (.invokevirtual 194, 3) := by decide +kernel
theorem dX12_oneTest_163 : decode cX12_oneTest 163 = .ok (.aload_n 0, 1) := by decide +kernel
theorem dX12_oneTest_164 : decode cX12_oneTest 164 = .ok (.invokevirtual 229, 3) := by decide +kernel
theorem dX12_oneTest_167 : decode cX12_oneTest 167 = .ok (.ifCond .ne 5, 3) := by decide +kernel
theorem dX12_oneTest_170 : decode cX12_oneTest 170 = .ok (.iconst 0, 1) := by decide +kernel
theorem dX12_oneTest_171 : decode cX12_oneTest 171 = .ok (.ireturn, 1) := by decide +kernel
theorem dX12_oneTest_172 : decode cX12_oneTest 172 = .ok (.aload_n 0, 1) := by decide +kernel
theorem dX12_oneTest_173 : decode cX12_oneTest 173 = .ok (.iload_n 1, 1) := by decide +kernel
theorem dX12_oneTest_174 : decode cX12_oneTest 174 = .ok (.iconst 0, 1) := by decide +kernel
theorem dX12_oneTest_175 : decode cX12_oneTest 175 = .ok (.invokevirtual 207, 3) := by decide +kernel
theorem dX12_oneTest_178 : decode cX12_oneTest 178 = .ok (.iconst 1, 1) := by decide +kernel
theorem dX12_oneTest_179 : decode cX12_oneTest 179 = .ok (.ireturn, 1) := by decide +kernel
theorem dX12_opens_0 : decode cX12_opens 0 = .ok (.aload_n 0, 1) := by decide +kernel
theorem dX12_opens_1 : decode cX12_opens 1 = .ok (.getfield 200, 3) := by decide +kernel
theorem dX12_opens_4 : decode cX12_opens 4 = .ok (.bipush 8, 2) := by decide +kernel
theorem dX12_opens_6 : decode cX12_opens 6 = .ok (.if_icmp .ne 9, 3) := by decide +kernel
theorem dX12_opens_9 : decode cX12_opens 9 = .ok (.aload_n 0, 1) := by decide +kernel
theorem dX12_opens_10 : decode cX12_opens 10 = .ok (.iconst 3, 1) := by decide +kernel
theorem dX12_opens_11 : decode cX12_opens 11 = .ok (.invokevirtual 191, 3) := by decide +kernel
theorem dX12_opens_14 : decode cX12_opens 14 = .ok (.ireturn, 1) := by decide +kernel
theorem dX12_opens_15 : decode cX12_opens 15 = .ok (.aload_n 0, 1) := by decide +kernel
theorem dX12_opens_16 : decode cX12_opens 16 = .ok (.dup, 1) := by decide +kernel
theorem dX12_opens_17 : decode cX12_opens 17 = .ok (.getfield 200, 3) := by decide +kernel
theorem dX12_opens_20 : decode cX12_opens 20 = .ok (.iconst 1, 1) := by decide +kernel
theorem dX12_opens_21 : decode cX12_opens 21 = .ok (.iadd, 1) := by decide +kernel
theorem dX12_opens_22 : decode cX12_opens 22 = .ok (.putfield 200, 3) := by decide +kernel
theorem dX12_opens_25 : decode cX12_opens 25 = .ok (.aload_n 0, 1) := by decide +kernel
theorem dX12_opens_26 : decode cX12_opens 26 = .ok (.invokevirtual 194, 3) := by decide +kernel
theorem dX12_opens_29 : decode cX12_opens 29 = .ok (.iconst 1, 1) := by decide +kernel
theorem dX12_opens_30 : decode cX12_opens 30 = .ok (.ireturn, 1) := by decide +kernel
theorem dX12_orderWord_0 : decode cX12_orderWord 0 = .ok (.aload_n 0, 1) := by decide +kernel
theorem dX12_orderWord_1 : decode cX12_orderWord 1 = .ok (.ldc 145, 2) := by decide +kernel
theorem dX12_orderWord_3 : decode cX12_orderWord 3 = .ok (.invokevirtual 101, 3) := by decide +kernel
theorem dX12_orderWord_6 : decode cX12_orderWord 6 = .ok (.ifCond .eq 6, 3) := by decide +kernel
theorem dX12_orderWord_9 : decode cX12_orderWord 9 = .ok (.bipush 10, 2) := by decide +kernel
theorem dX12_orderWord_11 : decode cX12_orderWord 11 = .ok (.ireturn, 1) := by decide +kernel
theorem dX12_orderWord_12 : decode cX12_orderWord 12 = .ok (.aload_n 0, 1) := by decide +kernel
theorem dX12_orderWord_13 : decode cX12_orderWord 13 = .ok (.ldc 147, 2) := by decide +kernel
theorem dX12_orderWord_15 : decode cX12_orderWord 15 = .ok (.invokevirtual 101, 3) := by decide +kernel
theorem dX12_orderWord_18 : decode cX12_orderWord 18 = .ok (.ifCond .eq 6, 3) := by decide +kernel
theorem dX12_orderWord_21 : decode cX12_orderWord 21 = .ok (.bipush 11, 2) := by decide +kernel
theorem dX12_orderWord_23 : decode cX12_orderWord 23 = .ok (.ireturn, 1) := by decide +kernel
theorem dX12_orderWord_24 : decode cX12_orderWord 24 = .ok (.aload_n 0, 1) := by decide +kernel
theorem dX12_orderWord_25 : decode cX12_orderWord 25 = .ok (.ldc 149, 2) := by decide +kernel
theorem dX12_orderWord_27 : decode cX12_orderWord 27 = .ok (.invokevirtual 101, 3) := by decide +kernel
theorem dX12_orderWord_30 : decode cX12_orderWord 30 = .ok (.ifCond .eq 8, 3) := by decide +kernel
theorem dX12_orderWord_33 : decode cX12_orderWord 33 = .ok (.bipush 12, 2) := by decide +kernel
theorem dX12_orderWord_35 : decode cX12_orderWord 35 = .ok (.goto 4, 3) := by decide +kernel
theorem dX12_orderWord_38 : decode cX12_orderWord 38 = .ok (.iconst 1, 1) := by decide +kernel
theorem dX12_orderWord_39 : decode cX12_orderWord 39 = .ok (.ireturn, 1) := by decide +kernel
theorem dX12_placeOf_0 : decode cX12_placeOf 0 = .ok (.iload_n 0, 1) := by decide +kernel
theorem dX12_placeOf_1 : decode cX12_placeOf 1 = .ok (.tableswitch 62 0 5 #[39, 42, 45, 48, 53, 58], 39) := by decide +kernel
theorem dX12_placeOf_40 : decode cX12_placeOf 40 = .ok (.bipush 79, 2) := by decide +kernel
theorem dX12_placeOf_42 : decode cX12_placeOf 42 = .ok (.ireturn, 1) := by decide +kernel
theorem dX12_placeOf_43 : decode cX12_placeOf 43 = .ok (.bipush 80, 2) := by decide +kernel
theorem dX12_placeOf_45 : decode cX12_placeOf 45 = .ok (.ireturn, 1) := by decide +kernel
theorem dX12_placeOf_46 : decode cX12_placeOf 46 = .ok (.bipush 81, 2) := by decide +kernel
theorem dX12_placeOf_48 : decode cX12_placeOf 48 = .ok (.ireturn, 1) := by decide +kernel
theorem dX12_placeOf_49 : decode cX12_placeOf 49 = .ok (.bipush 82, 2) := by decide +kernel
theorem dX12_placeOf_51 : decode cX12_placeOf 51 = .ok (.iload_n 1, 1) := by decide +kernel
theorem dX12_placeOf_52 : decode cX12_placeOf 52 = .ok (.iadd, 1) := by decide +kernel
theorem dX12_placeOf_53 : decode cX12_placeOf 53 = .ok (.ireturn, 1) := by decide +kernel
theorem dX12_placeOf_54 : decode cX12_placeOf 54 = .ok (.bipush 126, 2) := by decide +kernel
theorem dX12_placeOf_56 : decode cX12_placeOf 56 = .ok (.iload_n 1, 1) := by decide +kernel
theorem dX12_placeOf_57 : decode cX12_placeOf 57 = .ok (.iadd, 1) := by decide +kernel
theorem dX12_placeOf_58 : decode cX12_placeOf 58 = .ok (.ireturn, 1) := by decide +kernel
theorem dX12_placeOf_59 : decode cX12_placeOf 59 = .ok (.iconst 4, 1) := by decide +kernel
theorem dX12_placeOf_60 : decode cX12_placeOf 60 = .ok (.iload_n 1, 1) := by decide +kernel
theorem dX12_placeOf_61 : decode cX12_placeOf 61 = .ok (.iadd, 1) := by decide +kernel
theorem dX12_placeOf_62 : decode cX12_placeOf 62 = .ok (.ireturn, 1) := by decide +kernel
theorem dX12_placeOf_63 : decode cX12_placeOf 63 = .ok (.bipush 28, 2) := by decide +kernel
theorem dX12_placeOf_65 : decode cX12_placeOf 65 = .ok (.iload_n 1, 1) := by decide +kernel
theorem dX12_placeOf_66 : decode cX12_placeOf 66 = .ok (.iadd, 1) := by decide +kernel
theorem dX12_placeOf_67 : decode cX12_placeOf 67 = .ok (.ireturn, 1) := by decide +kernel
theorem dX12_product_0 : decode cX12_product 0 = .ok (.aload_n 0, 1) := by decide +kernel
theorem dX12_product_1 : decode cX12_product 1 = .ok (.invokevirtual 211, 3) := by decide +kernel
theorem dX12_product_4 : decode cX12_product 4 = .ok (.ifCond .ne 5, 3) := by decide +kernel
theorem dX12_product_7 : decode cX12_product 7 = .ok (.iconst 0, 1) := by decide +kernel
theorem dX12_product_8 : decode cX12_product 8 = .ok (.ireturn, 1) := by decide +kernel
theorem dX12_product_9 : decode cX12_product 9 = .ok (.aload_n 0, 1) := by decide +kernel
theorem dX12_product_10 : decode cX12_product 10 = .ok (.getfield 170, 3) := by decide +kernel
theorem dX12_product_13 : decode cX12_product 13 = .ok (.sipush 142, 3) := by decide +kernel
theorem dX12_product_16 : decode cX12_product 16 = .ok (.if_icmp .eq 13, 3) := by decide +kernel
theorem dX12_product_19 : decode cX12_product 19 = .ok (.aload_n 0, 1) := by decide +kernel
theorem dX12_product_20 : decode cX12_product 20 = .ok (.getfield 170, 3) := by decide +kernel
theorem dX12_product_23 : decode cX12_product 23 = .ok (.sipush 147, 3) := by decide +kernel
theorem dX12_product_26 : decode cX12_product 26 = .ok (.if_icmp .ne 89, 3) := by decide +kernel
theorem dX12_product_29 : decode cX12_product 29 = .ok (.aload_n 0, 1) := by decide +kernel
theorem dX12_product_30 : decode cX12_product 30 = .ok (.getfield 170, 3) := by decide +kernel
theorem dX12_product_33 : decode cX12_product 33 = .ok (.sipush 147, 3) := by decide +kernel
theorem dX12_product_36 : decode cX12_product 36 = .ok (.if_icmp .ne 7, 3) := by decide +kernel
theorem dX12_product_39 : decode cX12_product 39 = .ok (.iconst 1, 1) := by decide +kernel
theorem dX12_product_40 : decode cX12_product 40 = .ok (.goto 4, 3) := by decide +kernel
theorem dX12_product_43 : decode cX12_product 43 = .ok (.iconst 0, 1) := by decide +kernel
theorem dX12_product_44 : decode cX12_product 44 = .ok (.istore_n 1, 1) := by decide +kernel
theorem dX12_product_45 : decode cX12_product 45 = .ok (.aload_n 0, 1) := by decide +kernel
theorem dX12_product_46 : decode cX12_product 46 = .ok (.invokevirtual 194, 3) := by decide +kernel
theorem dX12_product_49 : decode cX12_product 49 = .ok (.iload_n 1, 1) := by decide +kernel
theorem dX12_product_50 : decode cX12_product 50 = .ok (.ifCond .eq 46, 3) := by decide +kernel
theorem dX12_product_53 : decode cX12_product 53 = .ok (.aload_n 0, 1) := by decide +kernel
theorem dX12_product_54 : decode cX12_product 54 = .ok (.getfield 182, 3) := by decide +kernel
theorem dX12_product_57 : decode cX12_product 57 = .ok (.istore_n 2, 1) := by decide +kernel
theorem dX12_product_58 : decode cX12_product 58 = .ok (.aload_n 0, 1) := by decide +kernel
theorem dX12_product_59 : decode cX12_product 59 = .ok (.getfield 170, 3) := by decide +kernel
theorem dX12_product_62 : decode cX12_product 62 = .ok (.iconst 2, 1) := by decide +kernel
theorem dX12_product_63 : decode cX12_product 63 = .ok (.if_icmp .eq 9, 3) := by decide +kernel
theorem dX12_product_66 : decode cX12_product 66 = .ok (.aload_n 0, 1) := by decide +kernel
theorem dX12_product_67 : decode cX12_product 67 = .ok (.iconst 1, 1) := by decide +kernel
theorem dX12_product_68 : decode cX12_product 68 = .ok (.invokevirtual 191, 3) := by decide +kernel
theorem dX12_product_71 : decode cX12_product 71 = .ok (.ireturn, 1) := by decide +kernel
theorem dX12_product_72 : decode cX12_product 72 = .ok (.iload_n 2, 1) := by decide +kernel
theorem dX12_product_73 : decode cX12_product 73 = .ok (.ifCond .ne 9, 3) := by decide +kernel
theorem dX12_product_76 : decode cX12_product 76 = .ok (.aload_n 0, 1) := by decide +kernel
theorem dX12_product_77 : decode cX12_product 77 = .ok (.iconst 2, 1) := by decide +kernel
theorem dX12_product_78 : decode cX12_product 78 = .ok (.invokevirtual 191, 3) := by decide +kernel
theorem dX12_product_81 : decode cX12_product 81 = .ok (.ireturn, 1) := by decide +kernel
theorem dX12_product_82 : decode cX12_product 82 = .ok (.aload_n 0, 1) := by decide +kernel
theorem dX12_product_83 : decode cX12_product 83 = .ok (.invokevirtual 194, 3) := by decide +kernel
theorem dX12_product_86 : decode cX12_product 86 = .ok (.aload_n 0, 1) := by decide +kernel
theorem dX12_product_87 : decode cX12_product 87 = .ok (.bipush 26, 2) := by decide +kernel
theorem dX12_product_89 : decode cX12_product 89 = .ok (.iload_n 2, 1) := by decide +kernel
theorem dX12_product_90 : decode cX12_product 90 = .ok (.invokevirtual 207, 3) := by decide +kernel
theorem dX12_product_93 : decode cX12_product 93 = .ok (.goto 19, 3) := by decide +kernel
theorem dX12_product_96 : decode cX12_product 96 = .ok (.aload_n 0, 1) := by decide +kernel
theorem dX12_product_97 : decode cX12_product 97 = .ok (.invokevirtual 211, 3) := by decide +kernel
theorem dX12_product_100 : decode cX12_product 100 = .ok (.ifCond .ne 5, 3) := by decide +kernel
theorem dX12_product_103 : decode cX12_product 103 = .ok (.iconst 0, 1) := by decide +kernel
theorem dX12_product_104 : decode cX12_product 104 = .ok (.ireturn, 1) := by decide +kernel
theorem dX12_product_105 : decode cX12_product 105 = .ok (.aload_n 0, 1) := by decide +kernel
theorem dX12_product_106 : decode cX12_product 106 = .ok (.bipush 25, 2) := by decide +kernel
theorem dX12_product_108 : decode cX12_product 108 = .ok (.iconst 0, 1) := by decide +kernel
theorem dX12_product_109 : decode cX12_product 109 = .ok (.invokevirtual 207, 3) := by decide +kernel
theorem dX12_product_112 : decode cX12_product 112 = .ok (.goto (-103), 3) := by decide +kernel
theorem dX12_product_115 : decode cX12_product 115 = .ok (.iconst 1, 1) := by decide +kernel
theorem dX12_product_116 : decode cX12_product 116 = .ok (.ireturn, 1) := by decide +kernel
theorem dX12_puts_0 : decode cX12_puts 0 = .ok (.aload_n 0, 1) := by decide +kernel
theorem dX12_puts_1 : decode cX12_puts 1 = .ok (.getfield 7, 3) := by decide +kernel
theorem dX12_puts_4 : decode cX12_puts 4 = .ok (.iload_n 1, 1) := by decide +kernel
theorem dX12_puts_5 : decode cX12_puts 5 = .ok (.aload_n 0, 1) := by decide +kernel
theorem dX12_puts_6 : decode cX12_puts 6 = .ok (.getfield 245, 3) := by decide +kernel
theorem dX12_puts_9 : decode cX12_puts 9 = .ok (.iastore, 1) := by decide +kernel
theorem dX12_puts_10 : decode cX12_puts 10 = .ok (.iconst 0, 1) := by decide +kernel
theorem dX12_puts_11 : decode cX12_puts 11 = .ok (.istore 4, 2) := by decide +kernel
theorem dX12_puts_13 : decode cX12_puts 13 = .ok (.iload 4, 2) := by decide +kernel
theorem dX12_puts_15 : decode cX12_puts 15 = .ok (.iload_n 3, 1) := by decide +kernel
theorem dX12_puts_16 : decode cX12_puts 16 = .ok (.aload_n 0, 1) := by decide +kernel
theorem dX12_puts_17 : decode cX12_puts 17 = .ok (.getfield 245, 3) := by decide +kernel
theorem dX12_puts_20 : decode cX12_puts 20 = .ok (.imul, 1) := by decide +kernel
theorem dX12_puts_21 : decode cX12_puts 21 = .ok (.if_icmp .ge 25, 3) := by decide +kernel
theorem dX12_puts_24 : decode cX12_puts 24 = .ok (.aload_n 0, 1) := by decide +kernel
theorem dX12_puts_25 : decode cX12_puts 25 = .ok (.getfield 7, 3) := by decide +kernel
theorem dX12_puts_28 : decode cX12_puts 28 = .ok (.iload_n 2, 1) := by decide +kernel
theorem dX12_puts_29 : decode cX12_puts 29 = .ok (.iload 4, 2) := by decide +kernel
theorem dX12_puts_31 : decode cX12_puts 31 = .ok (.iadd, 1) := by decide +kernel
theorem dX12_puts_32 : decode cX12_puts 32 = .ok (.aload_n 0, 1) := by decide +kernel
theorem dX12_puts_33 : decode cX12_puts 33 = .ok (.getfield 28, 3) := by decide +kernel
theorem dX12_puts_36 : decode cX12_puts 36 = .ok (.iload 4, 2) := by decide +kernel
theorem dX12_puts_38 : decode cX12_puts 38 = .ok (.iaload, 1) := by decide +kernel
theorem dX12_puts_39 : decode cX12_puts 39 = .ok (.iastore, 1) := by decide +kernel
theorem dX12_puts_40 : decode cX12_puts 40 = .ok (.iinc 4 1, 3) := by decide +kernel
theorem dX12_puts_43 : decode cX12_puts 43 = .ok (.goto (-30), 3) := by decide +kernel
theorem dX12_puts_46 : decode cX12_puts 46 = .ok (.aload_n 0, 1) := by decide +kernel
theorem dX12_puts_47 : decode cX12_puts 47 = .ok (.getfield 245, 3) := by decide +kernel
theorem dX12_puts_50 : decode cX12_puts 50 = .ok (.ireturn, 1) := by decide +kernel
theorem dX12_putsLaw_0 : decode cX12_putsLaw 0 = .ok (.aload_n 0, 1) := by decide +kernel
theorem dX12_putsLaw_1 : decode cX12_putsLaw 1 = .ok (.getfield 7, 3) := by decide +kernel
theorem dX12_putsLaw_4 : decode cX12_putsLaw 4 = .ok (.bipush 84, 2) := by decide +kernel
theorem dX12_putsLaw_6 : decode cX12_putsLaw 6 = .ok (.aload_n 0, 1) := by decide +kernel
theorem dX12_putsLaw_7 : decode cX12_putsLaw 7 = .ok (.getfield 232, 3) := by decide +kernel
theorem dX12_putsLaw_10 : decode cX12_putsLaw 10 = .ok (.iastore, 1) := by decide +kernel
theorem dX12_putsLaw_11 : decode cX12_putsLaw 11 = .ok (.iconst 0, 1) := by decide +kernel
theorem dX12_putsLaw_12 : decode cX12_putsLaw 12 = .ok (.istore_n 1, 1) := by decide +kernel
theorem dX12_putsLaw_13 : decode cX12_putsLaw 13 = .ok (.iload_n 1, 1) := by decide +kernel
theorem dX12_putsLaw_14 : decode cX12_putsLaw 14 = .ok (.aload_n 0, 1) := by decide +kernel
theorem dX12_putsLaw_15 : decode cX12_putsLaw 15 = .ok (.getfield 232, 3) := by decide +kernel
theorem dX12_putsLaw_18 : decode cX12_putsLaw 18 = .ok (.if_icmp .ge 87, 3) := by decide +kernel
theorem dX12_putsLaw_21 : decode cX12_putsLaw 21 = .ok (.aload_n 0, 1) := by decide +kernel
theorem dX12_putsLaw_22 : decode cX12_putsLaw 22 = .ok (.getfield 7, 3) := by decide +kernel
theorem dX12_putsLaw_25 : decode cX12_putsLaw 25 = .ok (.sipush 900, 3) := by decide +kernel
theorem dX12_putsLaw_28 : decode cX12_putsLaw 28 = .ok (.iload_n 1, 1) := by decide +kernel
theorem dX12_putsLaw_29 : decode cX12_putsLaw 29 = .ok (.iadd, 1) := by decide +kernel
theorem dX12_putsLaw_30 : decode cX12_putsLaw 30 = .ok (.aload_n 0, 1) := by decide +kernel
theorem dX12_putsLaw_31 : decode cX12_putsLaw 31 = .ok (.getfield 22, 3) := by decide +kernel
theorem dX12_putsLaw_34 : decode cX12_putsLaw 34 = .ok (.iconst 4, 1) := by decide +kernel
theorem dX12_putsLaw_35 : decode cX12_putsLaw 35 = .ok (.iload_n 1, 1) := by decide +kernel
theorem dX12_putsLaw_36 : decode cX12_putsLaw 36 = .ok (.imul, 1) := by decide +kernel
theorem dX12_putsLaw_37 : decode cX12_putsLaw 37 = .ok (.iaload, 1) := by decide +kernel
theorem dX12_putsLaw_38 : decode cX12_putsLaw 38 = .ok (.iastore, 1) := by decide +kernel
theorem dX12_putsLaw_39 : decode cX12_putsLaw 39 = .ok (.aload_n 0, 1) := by decide +kernel
theorem dX12_putsLaw_40 : decode cX12_putsLaw 40 = .ok (.getfield 7, 3) := by decide +kernel
theorem dX12_putsLaw_43 : decode cX12_putsLaw 43 = .ok (.sipush 916, 3) := by decide +kernel
theorem dX12_putsLaw_46 : decode cX12_putsLaw 46 = .ok (.iload_n 1, 1) := by decide +kernel
theorem dX12_putsLaw_47 : decode cX12_putsLaw 47 = .ok (.iadd, 1) := by decide +kernel
theorem dX12_putsLaw_48 : decode cX12_putsLaw 48 = .ok (.aload_n 0, 1) := by decide +kernel
theorem dX12_putsLaw_49 : decode cX12_putsLaw 49 = .ok (.getfield 22, 3) := by decide +kernel
theorem dX12_putsLaw_52 : decode cX12_putsLaw 52 = .ok (.iconst 4, 1) := by decide +kernel
theorem dX12_putsLaw_53 : decode cX12_putsLaw 53 = .ok (.iload_n 1, 1) := by decide +kernel
theorem dX12_putsLaw_54 : decode cX12_putsLaw 54 = .ok (.imul, 1) := by decide +kernel
theorem dX12_putsLaw_55 : decode cX12_putsLaw 55 = .ok (.iconst 1, 1) := by decide +kernel
theorem dX12_putsLaw_56 : decode cX12_putsLaw 56 = .ok (.iadd, 1) := by decide +kernel
theorem dX12_putsLaw_57 : decode cX12_putsLaw 57 = .ok (.iaload, 1) := by decide +kernel
theorem dX12_putsLaw_58 : decode cX12_putsLaw 58 = .ok (.iastore, 1) := by decide +kernel
theorem dX12_putsLaw_59 : decode cX12_putsLaw 59 = .ok (.aload_n 0, 1) := by decide +kernel
theorem dX12_putsLaw_60 : decode cX12_putsLaw 60 = .ok (.getfield 7, 3) := by decide +kernel
theorem dX12_putsLaw_63 : decode cX12_putsLaw 63 = .ok (.sipush 932, 3) := by decide +kernel
theorem dX12_putsLaw_66 : decode cX12_putsLaw 66 = .ok (.iload_n 1, 1) := by decide +kernel
theorem dX12_putsLaw_67 : decode cX12_putsLaw 67 = .ok (.iadd, 1) := by decide +kernel
theorem dX12_putsLaw_68 : decode cX12_putsLaw 68 = .ok (.aload_n 0, 1) := by decide +kernel
theorem dX12_putsLaw_69 : decode cX12_putsLaw 69 = .ok (.getfield 22, 3) := by decide +kernel
theorem dX12_putsLaw_72 : decode cX12_putsLaw 72 = .ok (.iconst 4, 1) := by decide +kernel
theorem dX12_putsLaw_73 : decode cX12_putsLaw 73 = .ok (.iload_n 1, 1) := by decide +kernel
theorem dX12_putsLaw_74 : decode cX12_putsLaw 74 = .ok (.imul, 1) := by decide +kernel
theorem dX12_putsLaw_75 : decode cX12_putsLaw 75 = .ok (.iconst 2, 1) := by decide +kernel
theorem dX12_putsLaw_76 : decode cX12_putsLaw 76 = .ok (.iadd, 1) := by decide +kernel
theorem dX12_putsLaw_77 : decode cX12_putsLaw 77 = .ok (.iaload, 1) := by decide +kernel
theorem dX12_putsLaw_78 : decode cX12_putsLaw 78 = .ok (.iastore, 1) := by decide +kernel
theorem dX12_putsLaw_79 : decode cX12_putsLaw 79 = .ok (.aload_n 0, 1) := by decide +kernel
theorem dX12_putsLaw_80 : decode cX12_putsLaw 80 = .ok (.getfield 7, 3) := by decide +kernel
theorem dX12_putsLaw_83 : decode cX12_putsLaw 83 = .ok (.sipush 948, 3) := by decide +kernel
theorem dX12_putsLaw_86 : decode cX12_putsLaw 86 = .ok (.iload_n 1, 1) := by decide +kernel
theorem dX12_putsLaw_87 : decode cX12_putsLaw 87 = .ok (.iadd, 1) := by decide +kernel
theorem dX12_putsLaw_88 : decode cX12_putsLaw 88 = .ok (.aload_n 0, 1) := by decide +kernel
theorem dX12_putsLaw_89 : decode cX12_putsLaw 89 = .ok (.getfield 22, 3) := by decide +kernel
theorem dX12_putsLaw_92 : decode cX12_putsLaw 92 = .ok (.iconst 4, 1) := by decide +kernel
theorem dX12_putsLaw_93 : decode cX12_putsLaw 93 = .ok (.iload_n 1, 1) := by decide +kernel
theorem dX12_putsLaw_94 : decode cX12_putsLaw 94 = .ok (.imul, 1) := by decide +kernel
theorem dX12_putsLaw_95 : decode cX12_putsLaw 95 = .ok (.iconst 3, 1) := by decide +kernel
theorem dX12_putsLaw_96 : decode cX12_putsLaw 96 = .ok (.iadd, 1) := by decide +kernel
theorem dX12_putsLaw_97 : decode cX12_putsLaw 97 = .ok (.iaload, 1) := by decide +kernel
theorem dX12_putsLaw_98 : decode cX12_putsLaw 98 = .ok (.iastore, 1) := by decide +kernel
theorem dX12_putsLaw_99 : decode cX12_putsLaw 99 = .ok (.iinc 1 1, 3) := by decide +kernel
theorem dX12_putsLaw_102 : decode cX12_putsLaw 102 = .ok (.goto (-89), 3) := by decide +kernel
theorem dX12_putsLaw_105 : decode cX12_putsLaw 105 = .ok (.iconst 0, 1) := by decide +kernel
theorem dX12_putsLaw_106 : decode cX12_putsLaw 106 = .ok (.istore_n 1, 1) := by decide +kernel
theorem dX12_putsLaw_107 : decode cX12_putsLaw 107 = .ok (.iload_n 1, 1) := by decide +kernel
theorem dX12_putsLaw_108 : decode cX12_putsLaw 108 = .ok (.iconst 2, 1) := by decide +kernel
theorem dX12_putsLaw_109 : decode cX12_putsLaw 109 = .ok (.aload_n 0, 1) := by decide +kernel
theorem dX12_putsLaw_110 : decode cX12_putsLaw 110 = .ok (.getfield 197, 3) := by decide +kernel
theorem dX12_putsLaw_113 : decode cX12_putsLaw 113 = .ok (.imul, 1) := by decide +kernel
theorem dX12_putsLaw_114 : decode cX12_putsLaw 114 = .ok (.if_icmp .ge 25, 3) := by decide +kernel
theorem dX12_putsLaw_117 : decode cX12_putsLaw 117 = .ok (.aload_n 0, 1) := by decide +kernel
theorem dX12_putsLaw_118 : decode cX12_putsLaw 118 = .ok (.getfield 7, 3) := by decide +kernel
theorem dX12_putsLaw_121 : decode cX12_putsLaw 121 = .ok (.sipush 966, 3) := by decide +kernel
theorem dX12_putsLaw_124 : decode cX12_putsLaw 124 = .ok (.iload_n 1, 1) := by decide +kernel
theorem dX12_putsLaw_125 : decode cX12_putsLaw 125 = .ok (.iadd, 1) := by decide +kernel
theorem dX12_putsLaw_126 : decode cX12_putsLaw 126 = .ok (.aload_n 0, 1) := by decide +kernel
theorem dX12_putsLaw_127 : decode cX12_putsLaw 127 = .ok (.getfield 25, 3) := by decide +kernel
theorem dX12_putsLaw_130 : decode cX12_putsLaw 130 = .ok (.iload_n 1, 1) := by decide +kernel
theorem dX12_putsLaw_131 : decode cX12_putsLaw 131 = .ok (.iaload, 1) := by decide +kernel
theorem dX12_putsLaw_132 : decode cX12_putsLaw 132 = .ok (.iastore, 1) := by decide +kernel
theorem dX12_putsLaw_133 : decode cX12_putsLaw 133 = .ok (.iinc 1 1, 3) := by decide +kernel
theorem dX12_putsLaw_136 : decode cX12_putsLaw 136 = .ok (.goto (-29), 3) := by decide +kernel
theorem dX12_putsLaw_139 : decode cX12_putsLaw 139 = .ok (.aload_n 0, 1) := by decide +kernel
theorem dX12_putsLaw_140 : decode cX12_putsLaw 140 = .ok (.getfield 232, 3) := by decide +kernel
theorem dX12_putsLaw_143 : decode cX12_putsLaw 143 = .ok (.ireturn, 1) := by decide +kernel
theorem dX12_putsText_0 : decode cX12_putsText 0 = .ok (.iload_n 1, 1) := by decide +kernel
theorem dX12_putsText_1 : decode cX12_putsText 1 = .ok (.ifCond .ne 8, 3) := by decide +kernel
theorem dX12_putsText_4 : decode cX12_putsText 4 = .ok (.aload_n 0, 1) := by decide +kernel
theorem dX12_putsText_5 : decode cX12_putsText 5 = .ok (.invokevirtual 266, 3) := by decide +kernel
theorem dX12_putsText_8 : decode cX12_putsText 8 = .ok (.ireturn, 1) := by decide +kernel
theorem dX12_putsText_9 : decode cX12_putsText 9 = .ok (.iload_n 1, 1) := by decide +kernel
theorem dX12_putsText_10 : decode cX12_putsText 10 = .ok (.iconst 2, 1) := by decide +kernel
theorem dX12_putsText_11 : decode cX12_putsText 11 = .ok (.if_icmp .ne 14, 3) := by decide +kernel
theorem dX12_putsText_14 : decode cX12_putsText 14 = .ok (.aload_n 0, 1) := by decide +kernel
theorem dX12_putsText_15 : decode cX12_putsText 15 = .ok (.bipush 86, 2) := by decide +kernel
theorem dX12_putsText_17 : decode cX12_putsText 17 = .ok (.sipush 190, 3) := by decide +kernel
theorem dX12_putsText_20 : decode cX12_putsText 20 = .ok (.iconst 2, 1) := by decide +kernel
theorem dX12_putsText_21 : decode cX12_putsText 21 = .ok (.invokevirtual 269, 3) := by decide +kernel
theorem dX12_putsText_24 : decode cX12_putsText 24 = .ok (.ireturn, 1) := by decide +kernel
theorem dX12_putsText_25 : decode cX12_putsText 25 = .ok (.aload_n 0, 1) := by decide +kernel
theorem dX12_putsText_26 : decode cX12_putsText 26 = .ok (.invokevirtual 61, 3) := by decide +kernel
theorem dX12_putsText_29 : decode cX12_putsText 29 = .ok (.iload_n 1, 1) := by decide +kernel
theorem dX12_putsText_30 : decode cX12_putsText 30 = .ok (.iconst 1, 1) := by decide +kernel
theorem dX12_putsText_31 : decode cX12_putsText 31 = .ok (.if_icmp .ne 16, 3) := by decide +kernel
theorem dX12_putsText_34 : decode cX12_putsText 34 = .ok (.aload_n 0, 1) := by decide +kernel
theorem dX12_putsText_35 : decode cX12_putsText 35 = .ok (.bipush 85, 2) := by decide +kernel
theorem dX12_putsText_37 : decode cX12_putsText 37 = .ok (.sipush 158, 3) := by decide +kernel
theorem dX12_putsText_40 : decode cX12_putsText 40 = .ok (.iconst 2, 1) := by decide +kernel
theorem dX12_putsText_41 : decode cX12_putsText 41 = .ok (.invokevirtual 269, 3) := by decide +kernel
theorem dX12_putsText_44 : decode cX12_putsText 44 = .ok (.goto 13, 3) := by decide +kernel
theorem dX12_putsText_47 : decode cX12_putsText 47 = .ok (.aload_n 0, 1) := by decide +kernel
theorem dX12_putsText_48 : decode cX12_putsText 48 = .ok (.bipush 87, 2) := by decide +kernel
theorem dX12_putsText_50 : decode cX12_putsText 50 = .ok (.sipush 222, 3) := by decide +kernel
theorem dX12_putsText_53 : decode cX12_putsText 53 = .ok (.iconst 3, 1) := by decide +kernel
theorem dX12_putsText_54 : decode cX12_putsText 54 = .ok (.invokevirtual 269, 3) := by decide +kernel
theorem dX12_putsText_57 : decode cX12_putsText 57 = .ok (.ireturn, 1) := by decide +kernel
theorem dX12_readsLaw_0 : decode cX12_readsLaw 0 = .ok (.aload_n 0, 1) := by decide +kernel
theorem dX12_readsLaw_1 : decode cX12_readsLaw 1 = .ok (.iconst 0, 1) := by decide +kernel
theorem dX12_readsLaw_2 : decode cX12_readsLaw 2 = .ok (.putfield 232, 3) := by decide +kernel
theorem dX12_readsLaw_5 : decode cX12_readsLaw 5 = .ok (.aload_n 0, 1) := by decide +kernel
theorem dX12_readsLaw_6 : decode cX12_readsLaw 6 = .ok (.iconst 0, 1) := by decide +kernel
theorem dX12_readsLaw_7 : decode cX12_readsLaw 7 = .ok (.putfield 197, 3) := by decide +kernel
theorem dX12_readsLaw_10 : decode cX12_readsLaw 10 = .ok (.iconst 1, 1) := by decide +kernel
theorem dX12_readsLaw_11 : decode cX12_readsLaw 11 = .ok (.istore_n 1, 1) := by decide +kernel
theorem dX12_readsLaw_12 : decode cX12_readsLaw 12 = .ok (.iload_n 1, 1) := by decide +kernel
theorem dX12_readsLaw_13 : decode cX12_readsLaw 13 = .ok (.ifCond .eq 36, 3) := by decide +kernel
theorem dX12_readsLaw_16 : decode cX12_readsLaw 16 = .ok (.aload_n 0, 1) := by decide +kernel
theorem dX12_readsLaw_17 : decode cX12_readsLaw 17 = .ok (.getfield 170, 3) := by decide +kernel
theorem dX12_readsLaw_20 : decode cX12_readsLaw 20 = .ok (.ifCond .eq 29, 3) := by decide +kernel
theorem dX12_readsLaw_23 : decode cX12_readsLaw 23 = .ok (.aload_n 0, 1) := by decide +kernel
theorem dX12_readsLaw_24 : decode cX12_readsLaw 24 = .ok (.invokevirtual 235, 3) := by decide +kernel
theorem dX12_readsLaw_27 : decode cX12_readsLaw 27 = .ok (.istore_n 1, 1) := by decide +kernel
theorem dX12_readsLaw_28 : decode cX12_readsLaw 28 = .ok (.aload_n 0, 1) := by decide +kernel
theorem dX12_readsLaw_29 : decode cX12_readsLaw 29 = .ok (.dup, 1) := by decide +kernel
theorem dX12_readsLaw_30 : decode cX12_readsLaw 30 = .ok (.getfield 232, 3) := by decide +kernel
theorem dX12_readsLaw_33 : decode cX12_readsLaw 33 = .ok (.iload_n 1, 1) := by decide +kernel
theorem dX12_readsLaw_34 : decode cX12_readsLaw 34 = .ok (.ifCond .eq 7, 3) := by decide +kernel
theorem dX12_readsLaw_37 : decode cX12_readsLaw 37 = .ok (.iconst 1, 1) := by decide +kernel
theorem dX12_readsLaw_38 : decode cX12_readsLaw 38 = .ok (.goto 4, 3) := by decide +kernel
theorem dX12_readsLaw_41 : decode cX12_readsLaw 41 = .ok (.iconst 0, 1) := by decide +kernel
theorem dX12_readsLaw_42 : decode cX12_readsLaw 42 = .ok (.iadd, 1) := by decide +kernel
theorem dX12_readsLaw_43 : decode cX12_readsLaw 43 = .ok (.putfield 232, 3) := by decide +kernel
theorem dX12_readsLaw_46 : decode cX12_readsLaw 46 = .ok (.goto (-34), 3) := by decide +kernel
theorem dX12_readsLaw_49 : decode cX12_readsLaw 49 = .ok (.iload_n 1, 1) := by decide +kernel
theorem dX12_readsLaw_50 : decode cX12_readsLaw 50 = .ok (.ireturn, 1) := by decide +kernel
theorem dX12_readsRows_0 : decode cX12_readsRows 0 = .ok (.aload_n 0, 1) := by decide +kernel
theorem dX12_readsRows_1 : decode cX12_readsRows 1 = .ok (.iconst 0, 1) := by decide +kernel
theorem dX12_readsRows_2 : decode cX12_readsRows 2 = .ok (.putfield 245, 3) := by decide +kernel
theorem dX12_readsRows_5 : decode cX12_readsRows 5 = .ok (.iconst 1, 1) := by decide +kernel
theorem dX12_readsRows_6 : decode cX12_readsRows 6 = .ok (.istore_n 1, 1) := by decide +kernel
theorem dX12_readsRows_7 : decode cX12_readsRows 7 = .ok (.iload_n 1, 1) := by decide +kernel
theorem dX12_readsRows_8 : decode cX12_readsRows 8 = .ok (.ifCond .eq 58, 3) := by decide +kernel
theorem dX12_readsRows_11 : decode cX12_readsRows 11 = .ok (.aload_n 0, 1) := by decide +kernel
theorem dX12_readsRows_12 : decode cX12_readsRows 12 = .ok (.getfield 170, 3) := by decide +kernel
theorem dX12_readsRows_15 : decode cX12_readsRows 15 = .ok (.ifCond .eq 51, 3) := by decide +kernel
theorem dX12_readsRows_18 : decode cX12_readsRows 18 = .ok (.aload_n 0, 1) := by decide +kernel
theorem dX12_readsRows_19 : decode cX12_readsRows 19 = .ok (.getfield 245, 3) := by decide +kernel
theorem dX12_readsRows_22 : decode cX12_readsRows 22 = .ok (.bipush 16, 2) := by decide +kernel
theorem dX12_readsRows_24 : decode cX12_readsRows 24 = .ok (.if_icmp .ne 16, 3) := by decide +kernel
theorem dX12_readsRows_27 : decode cX12_readsRows 27 = .ok (.aload_n 0, 1) := by decide +kernel
theorem dX12_readsRows_28 : decode cX12_readsRows 28 = .ok (.invokevirtual 260, 3) := by decide +kernel
theorem dX12_readsRows_31 : decode cX12_readsRows 31 = .ok (.ifCond .eq 9, 3) := by decide +kernel
theorem dX12_readsRows_34 : decode cX12_readsRows 34 = .ok (.aload_n 0, 1) := by decide +kernel
theorem dX12_readsRows_35 : decode cX12_readsRows 35 = .ok (.iconst 3, 1) := by decide +kernel
theorem dX12_readsRows_36 : decode cX12_readsRows 36 = .ok (.invokevirtual 191, 3) := by decide +kernel
theorem dX12_readsRows_39 : decode cX12_readsRows 39 = .ok (.ireturn, 1) := by decide +kernel
theorem dX12_readsRows_40 : decode cX12_readsRows 40 = .ok (.aload_n 0, 1) := by decide +kernel
theorem dX12_readsRows_41 : decode cX12_readsRows 41 = .ok (.invokevirtual 263, 3) := by decide +kernel
theorem dX12_readsRows_44 : decode cX12_readsRows 44 = .ok (.istore_n 1, 1) := by decide +kernel
theorem dX12_readsRows_45 : decode cX12_readsRows 45 = .ok (.aload_n 0, 1) := by decide +kernel
theorem dX12_readsRows_46 : decode cX12_readsRows 46 = .ok (.dup, 1) := by decide +kernel
theorem dX12_readsRows_47 : decode cX12_readsRows 47 = .ok (.getfield 245, 3) := by decide +kernel
theorem dX12_readsRows_50 : decode cX12_readsRows 50 = .ok (.iload_n 1, 1) := by decide +kernel
theorem dX12_readsRows_51 : decode cX12_readsRows 51 = .ok (.ifCond .eq 7, 3) := by decide +kernel
theorem dX12_readsRows_54 : decode cX12_readsRows 54 = .ok (.iconst 1, 1) := by decide +kernel
theorem dX12_readsRows_55 : decode cX12_readsRows 55 = .ok (.goto 4, 3) := by decide +kernel
theorem dX12_readsRows_58 : decode cX12_readsRows 58 = .ok (.iconst 0, 1) := by decide +kernel
theorem dX12_readsRows_59 : decode cX12_readsRows 59 = .ok (.iadd, 1) := by decide +kernel
theorem dX12_readsRows_60 : decode cX12_readsRows 60 = .ok (.putfield 245, 3) := by decide +kernel
theorem dX12_readsRows_63 : decode cX12_readsRows 63 = .ok (.goto (-56), 3) := by decide +kernel
theorem dX12_readsRows_66 : decode cX12_readsRows 66 = .ok (.iload_n 1, 1) := by decide +kernel
theorem dX12_readsRows_67 : decode cX12_readsRows 67 = .ok (.ireturn, 1) := by decide +kernel
theorem dX12_rests_0 : decode cX12_rests 0 = .ok (.iconst 0, 1) := by decide +kernel
theorem dX12_rests_1 : decode cX12_rests 1 = .ok (.istore_n 2, 1) := by decide +kernel
theorem dX12_rests_2 : decode cX12_rests 2 = .ok (.iconst 0, 1) := by decide +kernel
theorem dX12_rests_3 : decode cX12_rests 3 = .ok (.istore_n 3, 1) := by decide +kernel
theorem dX12_rests_4 : decode cX12_rests 4 = .ok (.iload_n 3, 1) := by decide +kernel
theorem dX12_rests_5 : decode cX12_rests 5 = .ok (.aload_n 0, 1) := by decide +kernel
theorem dX12_rests_6 : decode cX12_rests 6 = .ok (.getfield 7, 3) := by decide +kernel
theorem dX12_rests_9 : decode cX12_rests 9 = .ok (.bipush 87, 2) := by decide +kernel
theorem dX12_rests_11 : decode cX12_rests 11 = .ok (.iaload, 1) := by decide +kernel
theorem dX12_rests_12 : decode cX12_rests 12 = .ok (.if_icmp .ge 67, 3) := by decide +kernel
theorem dX12_rests_15 : decode cX12_rests 15 = .ok (.sipush 222, 3) := by decide +kernel
theorem dX12_rests_18 : decode cX12_rests 18 = .ok (.iconst 3, 1) := by decide +kernel
theorem dX12_rests_19 : decode cX12_rests 19 = .ok (.iload_n 3, 1) := by decide +kernel
theorem dX12_rests_20 : decode cX12_rests 20 = .ok (.imul, 1) := by decide +kernel
theorem dX12_rests_21 : decode cX12_rests 21 = .ok (.iadd, 1) := by decide +kernel
theorem dX12_rests_22 : decode cX12_rests 22 = .ok (.istore 4, 2) := by decide +kernel
theorem dX12_rests_24 : decode cX12_rests 24 = .ok (.aload_n 0, 1) := by decide +kernel
theorem dX12_rests_25 : decode cX12_rests 25 = .ok (.getfield 7, 3) := by decide +kernel
theorem dX12_rests_28 : decode cX12_rests 28 = .ok (.iload 4, 2) := by decide +kernel
theorem dX12_rests_30 : decode cX12_rests 30 = .ok (.iaload, 1) := by decide +kernel
theorem dX12_rests_31 : decode cX12_rests 31 = .ok (.aload_n 0, 1) := by decide +kernel
theorem dX12_rests_32 : decode cX12_rests 32 = .ok (.getfield 7, 3) := by decide +kernel
theorem dX12_rests_35 : decode cX12_rests 35 = .ok (.iconst 0, 1) := by decide +kernel
theorem dX12_rests_36 : decode cX12_rests 36 = .ok (.iaload, 1) := by decide +kernel
theorem dX12_rests_37 : decode cX12_rests 37 = .ok (.if_icmp .ne 36, 3) := by decide +kernel
theorem dX12_rests_40 : decode cX12_rests 40 = .ok (.aload_n 0, 1) := by decide +kernel
theorem dX12_rests_41 : decode cX12_rests 41 = .ok (.getfield 7, 3) := by decide +kernel
theorem dX12_rests_44 : decode cX12_rests 44 = .ok (.iload 4, 2) := by decide +kernel
theorem dX12_rests_46 : decode cX12_rests 46 = .ok (.iconst 2, 1) := by decide +kernel
theorem dX12_rests_47 : decode cX12_rests 47 = .ok (.iadd, 1) := by decide +kernel
theorem dX12_rests_48 : decode cX12_rests 48 = .ok (.iaload, 1) := by decide +kernel
theorem dX12_rests_49 : decode cX12_rests 49 = .ok (.iload_n 1, 1) := by decide +kernel
theorem dX12_rests_50 : decode cX12_rests 50 = .ok (.if_icmp .ne 23, 3) := by decide +kernel
theorem dX12_rests_53 : decode cX12_rests 53 = .ok (.aload_n 0, 1) := by decide +kernel
theorem dX12_rests_54 : decode cX12_rests 54 = .ok (.getfield 7, 3) := by decide +kernel
theorem dX12_rests_57 : decode cX12_rests 57 = .ok (.iload 4, 2) := by decide +kernel
theorem dX12_rests_59 : decode cX12_rests 59 = .ok (.iconst 1, 1) := by decide +kernel
theorem dX12_rests_60 : decode cX12_rests 60 = .ok (.iadd, 1) := by decide +kernel
theorem dX12_rests_61 : decode cX12_rests 61 = .ok (.iaload, 1) := by decide +kernel
theorem dX12_rests_62 : decode cX12_rests 62 = .ok (.bipush 11, 2) := by decide +kernel
theorem dX12_rests_64 : decode cX12_rests 64 = .ok (.if_icmp .ne 7, 3) := by decide +kernel
theorem dX12_rests_67 : decode cX12_rests 67 = .ok (.iconst 1, 1) := by decide +kernel
theorem dX12_rests_68 : decode cX12_rests 68 = .ok (.goto 4, 3) := by decide +kernel
theorem dX12_rests_71 : decode cX12_rests 71 = .ok (.iconst 0, 1) := by decide +kernel
theorem dX12_rests_72 : decode cX12_rests 72 = .ok (.istore_n 2, 1) := by decide +kernel
theorem dX12_rests_73 : decode cX12_rests 73 = .ok (.iinc 3 1, 3) := by decide +kernel
theorem dX12_rests_76 : decode cX12_rests 76 = .ok (.goto (-72), 3) := by decide +kernel
theorem dX12_rests_79 : decode cX12_rests 79 = .ok (.iload_n 2, 1) := by decide +kernel
theorem dX12_rests_80 : decode cX12_rests 80 = .ok (.ireturn, 1) := by decide +kernel
theorem dX12_says_0 : decode cX12_says 0 = .ok (.aload_n 0, 1) := by decide +kernel
theorem dX12_says_1 : decode cX12_says 1 = .ok (.getfield 7, 3) := by decide +kernel
theorem dX12_says_4 : decode cX12_says 4 = .ok (.bipush 40, 2) := by decide +kernel
theorem dX12_says_6 : decode cX12_says 6 = .ok (.iload_n 2, 1) := by decide +kernel
theorem dX12_says_7 : decode cX12_says 7 = .ok (.iadd, 1) := by decide +kernel
theorem dX12_says_8 : decode cX12_says 8 = .ok (.iaload, 1) := by decide +kernel
theorem dX12_says_9 : decode cX12_says 9 = .ok (.iconst 1, 1) := by decide +kernel
theorem dX12_says_10 : decode cX12_says 10 = .ok (.if_icmp .ne 7, 3) := by decide +kernel
theorem dX12_says_13 : decode cX12_says 13 = .ok (.iconst 1, 1) := by decide +kernel
theorem dX12_says_14 : decode cX12_says 14 = .ok (.goto 4, 3) := by decide +kernel
theorem dX12_says_17 : decode cX12_says 17 = .ok (.iconst 0, 1) := by decide +kernel
theorem dX12_says_18 : decode cX12_says 18 = .ok (.istore 5, 2) := by decide +kernel
theorem dX12_says_20 : decode cX12_says 20 = .ok (.aload_n 0, 1) := by decide +kernel
theorem dX12_says_21 : decode cX12_says 21 = .ok (.getfield 37, 3) := by decide +kernel
theorem dX12_says_24 : decode cX12_says 24 = .ok (.iconst 1, 1) := by decide +kernel
theorem dX12_says_25 : decode cX12_says 25 = .ok (.aload_n 0, 1) := by decide +kernel
theorem dX12_says_26 : decode cX12_says 26 = .ok (.getfield 7, 3) := by decide +kernel
theorem dX12_says_29 : decode cX12_says 29 = .ok (.bipush 90, 2) := by decide +kernel
theorem dX12_says_31 : decode cX12_says 31 = .ok (.iload_n 2, 1) := by decide +kernel
theorem dX12_says_32 : decode cX12_says 32 = .ok (.iadd, 1) := by decide +kernel
theorem dX12_says_33 : decode cX12_says 33 = .ok (.iaload, 1) := by decide +kernel
theorem dX12_says_34 : decode cX12_says 34 = .ok (.iastore, 1) := by decide +kernel
theorem dX12_says_35 : decode cX12_says 35 = .ok (.aload_n 0, 1) := by decide +kernel
theorem dX12_says_36 : decode cX12_says 36 = .ok (.getfield 37, 3) := by decide +kernel
theorem dX12_says_39 : decode cX12_says 39 = .ok (.iconst 2, 1) := by decide +kernel
theorem dX12_says_40 : decode cX12_says 40 = .ok (.aload_n 0, 1) := by decide +kernel
theorem dX12_says_41 : decode cX12_says 41 = .ok (.getfield 7, 3) := by decide +kernel
theorem dX12_says_44 : decode cX12_says 44 = .ok (.bipush 102, 2) := by decide +kernel
theorem dX12_says_46 : decode cX12_says 46 = .ok (.iload_n 2, 1) := by decide +kernel
theorem dX12_says_47 : decode cX12_says 47 = .ok (.iadd, 1) := by decide +kernel
theorem dX12_says_48 : decode cX12_says 48 = .ok (.iaload, 1) := by decide +kernel
theorem dX12_says_49 : decode cX12_says 49 = .ok (.iastore, 1) := by decide +kernel
theorem dX12_says_50 : decode cX12_says 50 = .ok (.aload_n 0, 1) := by decide +kernel
theorem dX12_says_51 : decode cX12_says 51 = .ok (.getfield 37, 3) := by decide +kernel
theorem dX12_says_54 : decode cX12_says 54 = .ok (.iconst 3, 1) := by decide +kernel
theorem dX12_says_55 : decode cX12_says 55 = .ok (.aload_n 0, 1) := by decide +kernel
theorem dX12_says_56 : decode cX12_says 56 = .ok (.getfield 7, 3) := by decide +kernel
theorem dX12_says_59 : decode cX12_says 59 = .ok (.bipush 114, 2) := by decide +kernel
theorem dX12_says_61 : decode cX12_says 61 = .ok (.iload_n 2, 1) := by decide +kernel
theorem dX12_says_62 : decode cX12_says 62 = .ok (.iadd, 1) := by decide +kernel
theorem dX12_says_63 : decode cX12_says 63 = .ok (.iaload, 1) := by decide +kernel
theorem dX12_says_64 : decode cX12_says 64 = .ok (.iastore, 1) := by decide +kernel
theorem dX12_says_65 : decode cX12_says 65 = .ok (.aload_n 0, 1) := by decide +kernel
theorem dX12_says_66 : decode cX12_says 66 = .ok (.getfield 37, 3) := by decide +kernel
theorem dX12_says_69 : decode cX12_says 69 = .ok (.iconst 4, 1) := by decide +kernel
theorem dX12_says_70 : decode cX12_says 70 = .ok (.aload_n 0, 1) := by decide +kernel
theorem dX12_says_71 : decode cX12_says 71 = .ok (.getfield 7, 3) := by decide +kernel
theorem dX12_says_74 : decode cX12_says 74 = .ok (.iconst 4, 1) := by decide +kernel
theorem dX12_says_75 : decode cX12_says 75 = .ok (.iload_n 2, 1) := by decide +kernel
theorem dX12_says_76 : decode cX12_says 76 = .ok (.iadd, 1) := by decide +kernel
theorem dX12_says_77 : decode cX12_says 77 = .ok (.iaload, 1) := by decide +kernel
theorem dX12_says_78 : decode cX12_says 78 = .ok (.iastore, 1) := by decide +kernel
theorem dX12_says_79 : decode cX12_says 79 = .ok (.aload_n 0, 1) := by decide +kernel
theorem dX12_says_80 : decode cX12_says 80 = .ok (.getfield 37, 3) := by decide +kernel
theorem dX12_says_83 : decode cX12_says 83 = .ok (.iconst 5, 1) := by decide +kernel
theorem dX12_says_84 : decode cX12_says 84 = .ok (.aload_n 0, 1) := by decide +kernel
theorem dX12_says_85 : decode cX12_says 85 = .ok (.getfield 7, 3) := by decide +kernel
theorem dX12_says_88 : decode cX12_says 88 = .ok (.bipush 16, 2) := by decide +kernel
theorem dX12_says_90 : decode cX12_says 90 = .ok (.iload_n 2, 1) := by decide +kernel
theorem dX12_says_91 : decode cX12_says 91 = .ok (.iadd, 1) := by decide +kernel
theorem dX12_says_92 : decode cX12_says 92 = .ok (.iaload, 1) := by decide +kernel
theorem dX12_says_93 : decode cX12_says 93 = .ok (.invokestatic 291, 3) := by decide +kernel
theorem dX12_says_96 : decode cX12_says 96 = .ok (.iastore, 1) := by decide +kernel
theorem dX12_says_97 : decode cX12_says 97 = .ok (.aload_n 0, 1) := by decide +kernel
theorem dX12_says_98 : decode cX12_says 98 = .ok (.getfield 37, 3) := by decide +kernel
theorem dX12_says_101 : decode cX12_says 101 = .ok (.bipush 6, 2) := by decide +kernel
theorem dX12_says_103 : decode cX12_says 103 = .ok (.iload 5, 2) := by decide +kernel
theorem dX12_says_105 : decode cX12_says 105 = .ok (.ifCond .eq 15, 3) := by decide +kernel
theorem dX12_says_108 : decode cX12_says 108 = .ok (.aload_n 0, 1) := by decide +kernel
theorem dX12_says_109 : decode cX12_says 109 = .ok (.getfield 7, 3) := by decide +kernel
theorem dX12_says_112 : decode cX12_says 112 = .ok (.bipush 52, 2) := by decide +kernel
theorem dX12_says_114 : decode cX12_says 114 = .ok (.iload_n 2, 1) := by decide +kernel
theorem dX12_says_115 : decode cX12_says 115 = .ok (.iadd, 1) := by decide +kernel
theorem dX12_says_116 : decode cX12_says 116 = .ok (.iaload, 1) := by decide +kernel
theorem dX12_says_117 : decode cX12_says 117 = .ok (.goto 4, 3) := by decide +kernel
theorem dX12_says_120 : decode cX12_says 120 = .ok (.iconst 0, 1) := by decide +kernel
theorem dX12_says_121 : decode cX12_says 121 = .ok (.iastore, 1) := by decide +kernel
theorem dX12_says_122 : decode cX12_says 122 = .ok (.aload_n 0, 1) := by decide +kernel
theorem dX12_says_123 : decode cX12_says 123 = .ok (.getfield 37, 3) := by decide +kernel
theorem dX12_says_126 : decode cX12_says 126 = .ok (.bipush 7, 2) := by decide +kernel
theorem dX12_says_128 : decode cX12_says 128 = .ok (.aload_n 0, 1) := by decide +kernel
theorem dX12_says_129 : decode cX12_says 129 = .ok (.getfield 7, 3) := by decide +kernel
theorem dX12_says_132 : decode cX12_says 132 = .ok (.iconst 0, 1) := by decide +kernel
theorem dX12_says_133 : decode cX12_says 133 = .ok (.iaload, 1) := by decide +kernel
theorem dX12_says_134 : decode cX12_says 134 = .ok (.iastore, 1) := by decide +kernel
theorem dX12_says_135 : decode cX12_says 135 = .ok (.aload_n 0, 1) := by decide +kernel
theorem dX12_says_136 : decode cX12_says 136 = .ok (.getfield 37, 3) := by decide +kernel
theorem dX12_says_139 : decode cX12_says 139 = .ok (.bipush 8, 2) := by decide +kernel
theorem dX12_says_141 : decode cX12_says 141 = .ok (.aload_n 0, 1) := by decide +kernel
theorem dX12_says_142 : decode cX12_says 142 = .ok (.getfield 7, 3) := by decide +kernel
theorem dX12_says_145 : decode cX12_says 145 = .ok (.bipush 80, 2) := by decide +kernel
theorem dX12_says_147 : decode cX12_says 147 = .ok (.iaload, 1) := by decide +kernel
theorem dX12_says_148 : decode cX12_says 148 = .ok (.iastore, 1) := by decide +kernel
theorem dX12_says_149 : decode cX12_says 149 = .ok (.aload_n 0, 1) := by decide +kernel
theorem dX12_says_150 : decode cX12_says 150 = .ok (.getfield 37, 3) := by decide +kernel
theorem dX12_says_153 : decode cX12_says 153 = .ok (.bipush 9, 2) := by decide +kernel
theorem dX12_says_155 : decode cX12_says 155 = .ok (.iload 5, 2) := by decide +kernel
theorem dX12_says_157 : decode cX12_says 157 = .ok (.ifCond .eq 23, 3) := by decide +kernel
theorem dX12_says_160 : decode cX12_says 160 = .ok (.aload_n 0, 1) := by decide +kernel
theorem dX12_says_161 : decode cX12_says 161 = .ok (.getfield 7, 3) := by decide +kernel
theorem dX12_says_164 : decode cX12_says 164 = .ok (.bipush 126, 2) := by decide +kernel
theorem dX12_says_166 : decode cX12_says 166 = .ok (.aload_n 0, 1) := by decide +kernel
theorem dX12_says_167 : decode cX12_says 167 = .ok (.getfield 7, 3) := by decide +kernel
theorem dX12_says_170 : decode cX12_says 170 = .ok (.bipush 52, 2) := by decide +kernel
theorem dX12_says_172 : decode cX12_says 172 = .ok (.iload_n 2, 1) := by decide +kernel
theorem dX12_says_173 : decode cX12_says 173 = .ok (.iadd, 1) := by decide +kernel
theorem dX12_says_174 : decode cX12_says 174 = .ok (.iaload, 1) := by decide +kernel
theorem dX12_says_175 : decode cX12_says 175 = .ok (.iadd, 1) := by decide +kernel
theorem dX12_says_176 : decode cX12_says 176 = .ok (.iaload, 1) := by decide +kernel
theorem dX12_says_177 : decode cX12_says 177 = .ok (.goto 4, 3) := by decide +kernel
theorem dX12_says_180 : decode cX12_says 180 = .ok (.iconst 0, 1) := by decide +kernel
theorem dX12_says_181 : decode cX12_says 181 = .ok (.iastore, 1) := by decide +kernel
theorem dX12_says_182 : decode cX12_says 182 = .ok (.iconst 0, 1) := by decide +kernel
theorem dX12_says_183 : decode cX12_says 183 = .ok (.istore 6, 2) := by decide +kernel
theorem dX12_says_185 : decode cX12_says 185 = .ok (.iload 6, 2) := by decide +kernel
theorem dX12_says_187 : decode cX12_says 187 = .ok (.aload_n 0, 1) := by decide +kernel
theorem dX12_says_188 : decode cX12_says 188 = .ok (.getfield 7, 3) := by decide +kernel
theorem dX12_says_191 : decode cX12_says 191 = .ok (.bipush 84, 2) := by decide +kernel
theorem dX12_says_193 : decode cX12_says 193 = .ok (.iaload, 1) := by decide +kernel
theorem dX12_says_194 : decode cX12_says 194 = .ok (.if_icmp .ge 70, 3) := by decide +kernel
theorem dX12_says_197 : decode cX12_says 197 = .ok (.aload_n 0, 1) := by decide +kernel
theorem dX12_says_198 : decode cX12_says 198 = .ok (.getfield 7, 3) := by decide +kernel
theorem dX12_says_201 : decode cX12_says 201 = .ok (.sipush 948, 3) := by decide +kernel
theorem dX12_says_204 : decode cX12_says 204 = .ok (.iload 6, 2) := by decide +kernel
theorem dX12_says_206 : decode cX12_says 206 = .ok (.iadd, 1) := by decide +kernel
theorem dX12_says_207 : decode cX12_says 207 = .ok (.iaload, 1) := by decide +kernel
theorem dX12_says_208 : decode cX12_says 208 = .ok (.iload_n 1, 1) := by decide +kernel
theorem dX12_says_209 : decode cX12_says 209 = .ok (.if_icmp .ne 49, 3) := by decide +kernel
theorem dX12_says_212 : decode cX12_says 212 = .ok (.aload_n 0, 1) := by decide +kernel
theorem dX12_says_213 : decode cX12_says 213 = .ok (.iload 6, 2) := by decide +kernel
theorem dX12_says_215 : decode cX12_says 215 = .ok (.invokevirtual 294, 3) := by decide +kernel
theorem dX12_says_218 : decode cX12_says 218 = .ok (.ifCond .eq 40, 3) := by decide +kernel
theorem dX12_says_221 : decode cX12_says 221 = .ok (.iconst 0, 1) := by decide +kernel
theorem dX12_says_222 : decode cX12_says 222 = .ok (.iload 4, 2) := by decide +kernel
theorem dX12_says_224 : decode cX12_says 224 = .ok (.aload_n 0, 1) := by decide +kernel
theorem dX12_says_225 : decode cX12_says 225 = .ok (.iconst 0, 1) := by decide +kernel
theorem dX12_says_226 : decode cX12_says 226 = .ok (.aload_n 0, 1) := by decide +kernel
theorem dX12_says_227 : decode cX12_says 227 = .ok (.getfield 7, 3) := by decide +kernel
theorem dX12_says_230 : decode cX12_says 230 = .ok (.sipush 900, 3) := by decide +kernel
theorem dX12_says_233 : decode cX12_says 233 = .ok (.iload 6, 2) := by decide +kernel
theorem dX12_says_235 : decode cX12_says 235 = .ok (.iadd, 1) := by decide +kernel
theorem dX12_says_236 : decode cX12_says 236 = .ok (.iaload, 1) := by decide +kernel
theorem dX12_says_237 : decode cX12_says 237 = .ok (.aload_n 0, 1) := by decide +kernel
theorem dX12_says_238 : decode cX12_says 238 = .ok (.getfield 7, 3) := by decide +kernel
theorem dX12_says_241 : decode cX12_says 241 = .ok (.sipush 916, 3) := by decide +kernel
theorem dX12_says_244 : decode cX12_says 244 = .ok (.iload 6, 2) := by decide +kernel
theorem dX12_says_246 : decode cX12_says 246 = .ok (.iadd, 1) := by decide +kernel
theorem dX12_says_247 : decode cX12_says 247 = .ok (.iaload, 1) := by decide +kernel
theorem dX12_says_248 : decode cX12_says 248 = .ok (.invokevirtual 288, 3) := by decide +kernel
theorem dX12_says_251 : decode cX12_says 251 = .ok (.invokestatic 297, 3) := by decide +kernel
theorem dX12_says_254 : decode cX12_says 254 = .ok (.invokestatic 300, 3) := by decide +kernel
theorem dX12_says_257 : decode cX12_says 257 = .ok (.ireturn, 1) := by decide +kernel
theorem dX12_says_258 : decode cX12_says 258 = .ok (.iinc 6 1, 3) := by decide +kernel
theorem dX12_says_261 : decode cX12_says 261 = .ok (.goto (-76), 3) := by decide +kernel
theorem dX12_says_264 : decode cX12_says 264 = .ok (.iconst 0, 1) := by decide +kernel
theorem dX12_says_265 : decode cX12_says 265 = .ok (.iload 4, 2) := by decide +kernel
theorem dX12_says_267 : decode cX12_says 267 = .ok (.iload_n 3, 1) := by decide +kernel
theorem dX12_says_268 : decode cX12_says 268 = .ok (.invokestatic 297, 3) := by decide +kernel
theorem dX12_says_271 : decode cX12_says 271 = .ok (.invokestatic 300, 3) := by decide +kernel
theorem dX12_says_274 : decode cX12_says 274 = .ok (.ireturn, 1) := by decide +kernel
theorem dX12_see_0 : decode cX12_see 0 = .ok (.iload_n 1, 1) := by decide +kernel
theorem dX12_see_1 : decode cX12_see 1 = .ok (.aload_n 0, 1) := by decide +kernel
theorem dX12_see_2 : decode cX12_see 2 = .ok (.getfield 80, 3) := by decide +kernel
theorem dX12_see_5 : decode cX12_see 5 = .ok (.if_icmp .ge 12, 3) := by decide +kernel
theorem dX12_see_8 : decode cX12_see 8 = .ok (.aload_n 0, 1) := by decide +kernel
theorem dX12_see_9 : decode cX12_see 9 = .ok (.getfield 31, 3) := by decide +kernel
theorem dX12_see_12 : decode cX12_see 12 = .ok (.iload_n 1, 1) := by decide +kernel
theorem dX12_see_13 : decode cX12_see 13 = .ok (.iaload, 1) := by decide +kernel
theorem dX12_see_14 : decode cX12_see 14 = .ok (.goto 4, 3) := by decide +kernel
theorem dX12_see_17 : decode cX12_see 17 = .ok (.iconst (-1), 1) := by decide +kernel
theorem dX12_see_18 : decode cX12_see 18 = .ok (.ireturn, 1) := by decide +kernel
theorem dX12_send_0 : decode cX12_send 0 = .ok (.aload_n 0, 1) := by decide +kernel
theorem dX12_send_1 : decode cX12_send 1 = .ok (.iload_n 1, 1) := by decide +kernel
theorem dX12_send_2 : decode cX12_send 2 = .ok (.invokevirtual 70, 3) := by decide +kernel
theorem dX12_send_5 : decode cX12_send 5 = .ok (.ifCond .eq 57, 3) := by decide +kernel
theorem dX12_send_8 : decode cX12_send 8 = .ok (.aload_n 0, 1) := by decide +kernel
theorem dX12_send_9 : decode cX12_send 9 = .ok (.iload_n 2, 1) := by decide +kernel
theorem dX12_send_10 : decode cX12_send 10 = .ok (.invokevirtual 70, 3) := by decide +kernel
theorem dX12_send_13 : decode cX12_send 13 = .ok (.ifCond .eq 49, 3) := by decide +kernel
theorem dX12_send_16 : decode cX12_send 16 = .ok (.aload_n 0, 1) := by decide +kernel
theorem dX12_send_17 : decode cX12_send 17 = .ok (.getfield 7, 3) := by decide +kernel
theorem dX12_send_20 : decode cX12_send 20 = .ok (.bipush 90, 2) := by decide +kernel
theorem dX12_send_22 : decode cX12_send 22 = .ok (.iload_n 1, 1) := by decide +kernel
theorem dX12_send_23 : decode cX12_send 23 = .ok (.iadd, 1) := by decide +kernel
theorem dX12_send_24 : decode cX12_send 24 = .ok (.iaload, 1) := by decide +kernel
theorem dX12_send_25 : decode cX12_send 25 = .ok (.aload_n 0, 1) := by decide +kernel
theorem dX12_send_26 : decode cX12_send 26 = .ok (.getfield 7, 3) := by decide +kernel
theorem dX12_send_29 : decode cX12_send 29 = .ok (.bipush 90, 2) := by decide +kernel
theorem dX12_send_31 : decode cX12_send 31 = .ok (.iload_n 2, 1) := by decide +kernel
theorem dX12_send_32 : decode cX12_send 32 = .ok (.iadd, 1) := by decide +kernel
theorem dX12_send_33 : decode cX12_send 33 = .ok (.iaload, 1) := by decide +kernel
theorem dX12_send_34 : decode cX12_send 34 = .ok (.if_icmp .ne 28, 3) := by decide +kernel
theorem dX12_send_37 : decode cX12_send 37 = .ok (.aload_n 0, 1) := by decide +kernel
theorem dX12_send_38 : decode cX12_send 38 = .ok (.getfield 7, 3) := by decide +kernel
theorem dX12_send_41 : decode cX12_send 41 = .ok (.bipush 40, 2) := by decide +kernel
theorem dX12_send_43 : decode cX12_send 43 = .ok (.iload_n 1, 1) := by decide +kernel
theorem dX12_send_44 : decode cX12_send 44 = .ok (.iadd, 1) := by decide +kernel
theorem dX12_send_45 : decode cX12_send 45 = .ok (.iaload, 1) := by decide +kernel
theorem dX12_send_46 : decode cX12_send 46 = .ok (.ifCond .ne 16, 3) := by decide +kernel
theorem dX12_send_49 : decode cX12_send 49 = .ok (.aload_n 0, 1) := by decide +kernel
theorem dX12_send_50 : decode cX12_send 50 = .ok (.getfield 7, 3) := by decide +kernel
theorem dX12_send_53 : decode cX12_send 53 = .ok (.bipush 40, 2) := by decide +kernel
theorem dX12_send_55 : decode cX12_send 55 = .ok (.iload_n 2, 1) := by decide +kernel
theorem dX12_send_56 : decode cX12_send 56 = .ok (.iadd, 1) := by decide +kernel
theorem dX12_send_57 : decode cX12_send 57 = .ok (.iaload, 1) := by decide +kernel
theorem dX12_send_58 : decode cX12_send 58 = .ok (.iconst 1, 1) := by decide +kernel
theorem dX12_send_59 : decode cX12_send 59 = .ok (.if_icmp .eq 5, 3) := by decide +kernel
theorem dX12_send_62 : decode cX12_send 62 = .ok (.iconst 0, 1) := by decide +kernel
theorem dX12_send_63 : decode cX12_send 63 = .ok (.ireturn, 1) := by decide +kernel
theorem dX12_send_64 : decode cX12_send 64 = .ok (.aload_n 0, 1) := by decide +kernel
theorem dX12_send_65 : decode cX12_send 65 = .ok (.getfield 7, 3) := by decide +kernel
theorem dX12_send_68 : decode cX12_send 68 = .ok (.bipush 102, 2) := by decide +kernel
theorem dX12_send_70 : decode cX12_send 70 = .ok (.iload_n 1, 1) := by decide +kernel
theorem dX12_send_71 : decode cX12_send 71 = .ok (.iadd, 1) := by decide +kernel
theorem dX12_send_72 : decode cX12_send 72 = .ok (.iaload, 1) := by decide +kernel
theorem dX12_send_73 : decode cX12_send 73 = .ok (.aload_n 0, 1) := by decide +kernel
theorem dX12_send_74 : decode cX12_send 74 = .ok (.getfield 7, 3) := by decide +kernel
theorem dX12_send_77 : decode cX12_send 77 = .ok (.bipush 102, 2) := by decide +kernel
theorem dX12_send_79 : decode cX12_send 79 = .ok (.iload_n 2, 1) := by decide +kernel
theorem dX12_send_80 : decode cX12_send 80 = .ok (.iadd, 1) := by decide +kernel
theorem dX12_send_81 : decode cX12_send 81 = .ok (.iaload, 1) := by decide +kernel
theorem dX12_send_82 : decode cX12_send 82 = .ok (.if_icmp .le 20, 3) := by decide +kernel
theorem dX12_send_85 : decode cX12_send 85 = .ok (.iload_n 3, 1) := by decide +kernel
theorem dX12_send_86 : decode cX12_send 86 = .ok (.iconst 0, 1) := by decide +kernel
theorem dX12_send_87 : decode cX12_send 87 = .ok (.aload_n 0, 1) := by decide +kernel
theorem dX12_send_88 : decode cX12_send 88 = .ok (.getfield 7, 3) := by decide +kernel
theorem dX12_send_91 : decode cX12_send 91 = .ok (.bipush 28, 2) := by decide +kernel
theorem dX12_send_93 : decode cX12_send 93 = .ok (.iload_n 2, 1) := by decide +kernel
theorem dX12_send_94 : decode cX12_send 94 = .ok (.iadd, 1) := by decide +kernel
theorem dX12_send_95 : decode cX12_send 95 = .ok (.iaload, 1) := by decide +kernel
theorem dX12_send_96 : decode cX12_send 96 = .ok (.invokestatic 54, 3) := by decide +kernel
theorem dX12_send_99 : decode cX12_send 99 = .ok (.ifCond .ne 5, 3) := by decide +kernel
theorem dX12_send_102 : decode cX12_send 102 = .ok (.iconst 0, 1) := by decide +kernel
theorem dX12_send_103 : decode cX12_send 103 = .ok (.ireturn, 1) := by decide +kernel
theorem dX12_send_104 : decode cX12_send 104 = .ok (.aload_n 0, 1) := by decide +kernel
theorem dX12_send_105 : decode cX12_send 105 = .ok (.invokevirtual 317, 3) := by decide +kernel
theorem dX12_send_108 : decode cX12_send 108 = .ok (.aload_n 0, 1) := by decide +kernel
theorem dX12_send_109 : decode cX12_send 109 = .ok (.getfield 7, 3) := by decide +kernel
theorem dX12_send_112 : decode cX12_send 112 = .ok (.bipush 40, 2) := by decide +kernel
theorem dX12_send_114 : decode cX12_send 114 = .ok (.iload_n 1, 1) := by decide +kernel
theorem dX12_send_115 : decode cX12_send 115 = .ok (.iadd, 1) := by decide +kernel
theorem dX12_send_116 : decode cX12_send 116 = .ok (.iconst 1, 1) := by decide +kernel
theorem dX12_send_117 : decode cX12_send 117 = .ok (.iastore, 1) := by decide +kernel
theorem dX12_send_118 : decode cX12_send 118 = .ok (.aload_n 0, 1) := by decide +kernel
theorem dX12_send_119 : decode cX12_send 119 = .ok (.getfield 7, 3) := by decide +kernel
theorem dX12_send_122 : decode cX12_send 122 = .ok (.bipush 52, 2) := by decide +kernel
theorem dX12_send_124 : decode cX12_send 124 = .ok (.iload_n 1, 1) := by decide +kernel
theorem dX12_send_125 : decode cX12_send 125 = .ok (.iadd, 1) := by decide +kernel
theorem dX12_send_126 : decode cX12_send 126 = .ok (.aload_n 0, 1) := by decide +kernel
theorem dX12_send_127 : decode cX12_send 127 = .ok (.getfield 7, 3) := by decide +kernel
theorem dX12_send_130 : decode cX12_send 130 = .ok (.bipush 52, 2) := by decide +kernel
theorem dX12_send_132 : decode cX12_send 132 = .ok (.iload_n 2, 1) := by decide +kernel
theorem dX12_send_133 : decode cX12_send 133 = .ok (.iadd, 1) := by decide +kernel
theorem dX12_send_134 : decode cX12_send 134 = .ok (.iaload, 1) := by decide +kernel
theorem dX12_send_135 : decode cX12_send 135 = .ok (.iastore, 1) := by decide +kernel
theorem dX12_send_136 : decode cX12_send 136 = .ok (.aload_n 0, 1) := by decide +kernel
theorem dX12_send_137 : decode cX12_send 137 = .ok (.getfield 7, 3) := by decide +kernel
theorem dX12_send_140 : decode cX12_send 140 = .ok (.bipush 40, 2) := by decide +kernel
theorem dX12_send_142 : decode cX12_send 142 = .ok (.iload_n 2, 1) := by decide +kernel
theorem dX12_send_143 : decode cX12_send 143 = .ok (.iadd, 1) := by decide +kernel
theorem dX12_send_144 : decode cX12_send 144 = .ok (.iconst 0, 1) := by decide +kernel
theorem dX12_send_145 : decode cX12_send 145 = .ok (.iastore, 1) := by decide +kernel
theorem dX12_send_146 : decode cX12_send 146 = .ok (.aload_n 0, 1) := by decide +kernel
theorem dX12_send_147 : decode cX12_send 147 = .ok (.getfield 7, 3) := by decide +kernel
theorem dX12_send_150 : decode cX12_send 150 = .ok (.bipush 28, 2) := by decide +kernel
theorem dX12_send_152 : decode cX12_send 152 = .ok (.iload_n 2, 1) := by decide +kernel
theorem dX12_send_153 : decode cX12_send 153 = .ok (.iadd, 1) := by decide +kernel
theorem dX12_send_154 : decode cX12_send 154 = .ok (.dup2, 1) := by decide +kernel
theorem dX12_send_155 : decode cX12_send 155 = .ok (.iaload, 1) := by decide +kernel
theorem dX12_send_156 : decode cX12_send 156 = .ok (.iload_n 3, 1) := by decide +kernel
theorem dX12_send_157 : decode cX12_send 157 = .ok (.isub, 1) := by decide +kernel
theorem dX12_send_158 : decode cX12_send 158 = .ok (.iastore, 1) := by decide +kernel
theorem dX12_send_159 : decode cX12_send 159 = .ok (.aload_n 0, 1) := by decide +kernel
theorem dX12_send_160 : decode cX12_send 160 = .ok (.getfield 7, 3) := by decide +kernel
theorem dX12_send_163 : decode cX12_send 163 = .ok (.bipush 28, 2) := by decide +kernel
theorem dX12_send_165 : decode cX12_send 165 = .ok (.iload_n 1, 1) := by decide +kernel
theorem dX12_send_166 : decode cX12_send 166 = .ok (.iadd, 1) := by decide +kernel
theorem dX12_send_167 : decode cX12_send 167 = .ok (.sipush 999, 3) := by decide +kernel
theorem dX12_send_170 : decode cX12_send 170 = .ok (.aload_n 0, 1) := by decide +kernel
theorem dX12_send_171 : decode cX12_send 171 = .ok (.getfield 7, 3) := by decide +kernel
theorem dX12_send_174 : decode cX12_send 174 = .ok (.bipush 28, 2) := by decide +kernel
theorem dX12_send_176 : decode cX12_send 176 = .ok (.iload_n 1, 1) := by decide +kernel
theorem dX12_send_177 : decode cX12_send 177 = .ok (.iadd, 1) := by decide +kernel
theorem dX12_send_178 : decode cX12_send 178 = .ok (.iaload, 1) := by decide +kernel
theorem dX12_send_179 : decode cX12_send 179 = .ok (.iload_n 3, 1) := by decide +kernel
theorem dX12_send_180 : decode cX12_send 180 = .ok (.iadd, 1) := by decide +kernel
theorem dX12_send_181 : decode cX12_send 181 = .ok (.invokestatic 297, 3) := by decide +kernel
theorem dX12_send_184 : decode cX12_send 184 = .ok (.iastore, 1) := by decide +kernel
theorem dX12_send_185 : decode cX12_send 185 = .ok (.iconst 1, 1) := by decide +kernel
theorem dX12_send_186 : decode cX12_send 186 = .ok (.ireturn, 1) := by decide +kernel
theorem dX12_set_0 : decode cX12_set 0 = .ok (.aload_n 0, 1) := by decide +kernel
theorem dX12_set_1 : decode cX12_set 1 = .ok (.iload_n 1, 1) := by decide +kernel
theorem dX12_set_2 : decode cX12_set 2 = .ok (.iload_n 2, 1) := by decide +kernel
theorem dX12_set_3 : decode cX12_set 3 = .ok (.iload_n 3, 1) := by decide +kernel
theorem dX12_set_4 : decode cX12_set 4 = .ok (.invokevirtual 73, 3) := by decide +kernel
theorem dX12_set_7 : decode cX12_set 7 = .ok (.ifCond .ne 5, 3) := by decide +kernel
theorem dX12_set_10 : decode cX12_set 10 = .ok (.iconst 0, 1) := by decide +kernel
theorem dX12_set_11 : decode cX12_set 11 = .ok (.ireturn, 1) := by decide +kernel
theorem dX12_set_12 : decode cX12_set 12 = .ok (.aload_n 0, 1) := by decide +kernel
theorem dX12_set_13 : decode cX12_set 13 = .ok (.getfield 7, 3) := by decide +kernel
theorem dX12_set_16 : decode cX12_set 16 = .ok (.iload_n 1, 1) := by decide +kernel
theorem dX12_set_17 : decode cX12_set 17 = .ok (.iload_n 2, 1) := by decide +kernel
theorem dX12_set_18 : decode cX12_set 18 = .ok (.invokestatic 76, 3) := by decide +kernel
theorem dX12_set_21 : decode cX12_set 21 = .ok (.iload_n 3, 1) := by decide +kernel
theorem dX12_set_22 : decode cX12_set 22 = .ok (.iastore, 1) := by decide +kernel
theorem dX12_set_23 : decode cX12_set 23 = .ok (.aload_n 0, 1) := by decide +kernel
theorem dX12_set_24 : decode cX12_set 24 = .ok (.invokevirtual 61, 3) := by decide +kernel
theorem dX12_set_27 : decode cX12_set 27 = .ok (.iconst 1, 1) := by decide +kernel
theorem dX12_set_28 : decode cX12_set 28 = .ok (.ireturn, 1) := by decide +kernel
theorem dX12_slipper_0 : decode cX12_slipper 0 = .ok (.iload_n 1, 1) := by decide +kernel
theorem dX12_slipper_1 : decode cX12_slipper 1 = .ok (.iconst (-1), 1) := by decide +kernel
theorem dX12_slipper_2 : decode cX12_slipper 2 = .ok (.if_icmp .ne 13, 3) := by decide +kernel
theorem dX12_slipper_5 : decode cX12_slipper 5 = .ok (.aload_n 0, 1) := by decide +kernel
theorem dX12_slipper_6 : decode cX12_slipper 6 = .ok (.getfield 7, 3) := by decide +kernel
theorem dX12_slipper_9 : decode cX12_slipper 9 = .ok (.bipush 88, 2) := by decide +kernel
theorem dX12_slipper_11 : decode cX12_slipper 11 = .ok (.iconst 0, 1) := by decide +kernel
theorem dX12_slipper_12 : decode cX12_slipper 12 = .ok (.iastore, 1) := by decide +kernel
theorem dX12_slipper_13 : decode cX12_slipper 13 = .ok (.iconst 0, 1) := by decide +kernel
theorem dX12_slipper_14 : decode cX12_slipper 14 = .ok (.ireturn, 1) := by decide +kernel
theorem dX12_slipper_15 : decode cX12_slipper 15 = .ok (.iload_n 1, 1) := by decide +kernel
theorem dX12_slipper_16 : decode cX12_slipper 16 = .ok (.iconst 0, 1) := by decide +kernel
theorem dX12_slipper_17 : decode cX12_slipper 17 = .ok (.bipush 30, 2) := by decide +kernel
theorem dX12_slipper_19 : decode cX12_slipper 19 = .ok (.invokestatic 54, 3) := by decide +kernel
theorem dX12_slipper_22 : decode cX12_slipper 22 = .ok (.ifCond .eq 35, 3) := by decide +kernel
theorem dX12_slipper_25 : decode cX12_slipper 25 = .ok (.iload_n 2, 1) := by decide +kernel
theorem dX12_slipper_26 : decode cX12_slipper 26 = .ok (.iconst 0, 1) := by decide +kernel
theorem dX12_slipper_27 : decode cX12_slipper 27 = .ok (.bipush 15, 2) := by decide +kernel
theorem dX12_slipper_29 : decode cX12_slipper 29 = .ok (.invokestatic 54, 3) := by decide +kernel
theorem dX12_slipper_32 : decode cX12_slipper 32 = .ok (.ifCond .eq 25, 3) := by decide +kernel
theorem dX12_slipper_35 : decode cX12_slipper 35 = .ok (.iload_n 3, 1) := by decide +kernel
theorem dX12_slipper_36 : decode cX12_slipper 36 = .ok (.iconst 0, 1) := by decide +kernel
theorem dX12_slipper_37 : decode cX12_slipper 37 = .ok (.bipush 9, 2) := by decide +kernel
theorem dX12_slipper_39 : decode cX12_slipper 39 = .ok (.invokestatic 54, 3) := by decide +kernel
theorem dX12_slipper_42 : decode cX12_slipper 42 = .ok (.ifCond .eq 15, 3) := by decide +kernel
theorem dX12_slipper_45 : decode cX12_slipper 45 = .ok (.aload_n 0, 1) := by decide +kernel
theorem dX12_slipper_46 : decode cX12_slipper 46 = .ok (.getfield 7, 3) := by decide +kernel
theorem dX12_slipper_49 : decode cX12_slipper 49 = .ok (.bipush 88, 2) := by decide +kernel
theorem dX12_slipper_51 : decode cX12_slipper 51 = .ok (.iaload, 1) := by decide +kernel
theorem dX12_slipper_52 : decode cX12_slipper 52 = .ok (.bipush 10, 2) := by decide +kernel
theorem dX12_slipper_54 : decode cX12_slipper 54 = .ok (.if_icmp .ne 5, 3) := by decide +kernel
theorem dX12_slipper_57 : decode cX12_slipper 57 = .ok (.iconst (-1), 1) := by decide +kernel
theorem dX12_slipper_58 : decode cX12_slipper 58 = .ok (.ireturn, 1) := by decide +kernel
theorem dX12_slipper_59 : decode cX12_slipper 59 = .ok (.sipush 270, 3) := by decide +kernel
theorem dX12_slipper_62 : decode cX12_slipper 62 = .ok (.iconst 3, 1) := by decide +kernel
theorem dX12_slipper_63 : decode cX12_slipper 63 = .ok (.aload_n 0, 1) := by decide +kernel
theorem dX12_slipper_64 : decode cX12_slipper 64 = .ok (.getfield 7, 3) := by decide +kernel
theorem dX12_slipper_67 : decode cX12_slipper 67 = .ok (.bipush 88, 2) := by decide +kernel
theorem dX12_slipper_69 : decode cX12_slipper 69 = .ok (.iaload, 1) := by decide +kernel
theorem dX12_slipper_70 : decode cX12_slipper 70 = .ok (.imul, 1) := by decide +kernel
theorem dX12_slipper_71 : decode cX12_slipper 71 = .ok (.iadd, 1) := by decide +kernel
theorem dX12_slipper_72 : decode cX12_slipper 72 = .ok (.istore 4, 2) := by decide +kernel
theorem dX12_slipper_74 : decode cX12_slipper 74 = .ok (.aload_n 0, 1) := by decide +kernel
theorem dX12_slipper_75 : decode cX12_slipper 75 = .ok (.getfield 7, 3) := by decide +kernel
theorem dX12_slipper_78 : decode cX12_slipper 78 = .ok (.iload 4, 2) := by decide +kernel
theorem dX12_slipper_80 : decode cX12_slipper 80 = .ok (.iload_n 1, 1) := by decide +kernel
theorem dX12_slipper_81 : decode cX12_slipper 81 = .ok (.iastore, 1) := by decide +kernel
theorem dX12_slipper_82 : decode cX12_slipper 82 = .ok (.aload_n 0, 1) := by decide +kernel
theorem dX12_slipper_83 : decode cX12_slipper 83 = .ok (.getfield 7, 3) := by decide +kernel
theorem dX12_slipper_86 : decode cX12_slipper 86 = .ok (.iload 4, 2) := by decide +kernel
theorem dX12_slipper_88 : decode cX12_slipper 88 = .ok (.iconst 1, 1) := by decide +kernel
theorem dX12_slipper_89 : decode cX12_slipper 89 = .ok (.iadd, 1) := by decide +kernel
theorem dX12_slipper_90 : decode cX12_slipper 90 = .ok (.iload_n 2, 1) := by decide +kernel
theorem dX12_slipper_91 : decode cX12_slipper 91 = .ok (.iastore, 1) := by decide +kernel
theorem dX12_slipper_92 : decode cX12_slipper 92 = .ok (.aload_n 0, 1) := by decide +kernel
theorem dX12_slipper_93 : decode cX12_slipper 93 = .ok (.getfield 7, 3) := by decide +kernel
theorem dX12_slipper_96 : decode cX12_slipper 96 = .ok (.iload 4, 2) := by decide +kernel
theorem dX12_slipper_98 : decode cX12_slipper 98 = .ok (.iconst 2, 1) := by decide +kernel
theorem dX12_slipper_99 : decode cX12_slipper 99 = .ok (.iadd, 1) := by decide +kernel
theorem dX12_slipper_100 : decode cX12_slipper 100 = .ok (.iload_n 3, 1) := by decide +kernel
theorem dX12_slipper_101 : decode cX12_slipper 101 = .ok (.iastore, 1) := by decide +kernel
theorem dX12_slipper_102 : decode cX12_slipper 102 = .ok (.aload_n 0, 1) := by decide +kernel
theorem dX12_slipper_103 : decode cX12_slipper 103 = .ok (.getfield 7, 3) := by decide +kernel
theorem dX12_slipper_106 : decode cX12_slipper 106 = .ok (.bipush 88, 2) := by decide +kernel
theorem dX12_slipper_108 : decode cX12_slipper 108 = .ok (.dup2, 1) := by decide +kernel
theorem dX12_slipper_109 : decode cX12_slipper 109 = .ok (.iaload, 1) := by decide +kernel
theorem dX12_slipper_110 : decode cX12_slipper 110 = .ok (.iconst 1, 1) := by decide +kernel
theorem dX12_slipper_111 : decode cX12_slipper 111 = .ok (.iadd, 1) := by decide +kernel
theorem dX12_slipper_112 : decode cX12_slipper 112 = .ok (.iastore, 1) := by decide +kernel
theorem dX12_slipper_113 : decode cX12_slipper 113 = .ok (.aload_n 0, 1) := by decide +kernel
theorem dX12_slipper_114 : decode cX12_slipper 114 = .ok (.getfield 7, 3) := by decide +kernel
theorem dX12_slipper_117 : decode cX12_slipper 117 = .ok (.bipush 88, 2) := by decide +kernel
theorem dX12_slipper_119 : decode cX12_slipper 119 = .ok (.iaload, 1) := by decide +kernel
theorem dX12_slipper_120 : decode cX12_slipper 120 = .ok (.ireturn, 1) := by decide +kernel
theorem dX12_soonest_0 : decode cX12_soonest 0 = .ok (.iload_n 1, 1) := by decide +kernel
theorem dX12_soonest_1 : decode cX12_soonest 1 = .ok (.invokestatic 66, 3) := by decide +kernel
theorem dX12_soonest_4 : decode cX12_soonest 4 = .ok (.ifCond .eq 12, 3) := by decide +kernel
theorem dX12_soonest_7 : decode cX12_soonest 7 = .ok (.iload_n 2, 1) := by decide +kernel
theorem dX12_soonest_8 : decode cX12_soonest 8 = .ok (.iconst 0, 1) := by decide +kernel
theorem dX12_soonest_9 : decode cX12_soonest 9 = .ok (.iconst 1, 1) := by decide +kernel
theorem dX12_soonest_10 : decode cX12_soonest 10 = .ok (.invokestatic 54, 3) := by decide +kernel
theorem dX12_soonest_13 : decode cX12_soonest 13 = .ok (.ifCond .ne 5, 3) := by decide +kernel
theorem dX12_soonest_16 : decode cX12_soonest 16 = .ok (.iconst (-1), 1) := by decide +kernel
theorem dX12_soonest_17 : decode cX12_soonest 17 = .ok (.ireturn, 1) := by decide +kernel
theorem dX12_soonest_18 : decode cX12_soonest 18 = .ok (.iconst (-1), 1) := by decide +kernel
theorem dX12_soonest_19 : decode cX12_soonest 19 = .ok (.istore_n 3, 1) := by decide +kernel
theorem dX12_soonest_20 : decode cX12_soonest 20 = .ok (.ldc_w 420, 3) := by decide +kernel
theorem dX12_soonest_23 : decode cX12_soonest 23 = .ok (.istore 4, 2) := by decide +kernel
theorem dX12_soonest_25 : decode cX12_soonest 25 = .ok (.iconst 0, 1) := by decide +kernel
theorem dX12_soonest_26 : decode cX12_soonest 26 = .ok (.istore 5, 2) := by decide +kernel
theorem dX12_soonest_28 : decode cX12_soonest 28 = .ok (.iload 5, 2) := by decide +kernel
theorem dX12_soonest_30 : decode cX12_soonest 30 = .ok (.aload_n 0, 1) := by decide +kernel
theorem dX12_soonest_31 : decode cX12_soonest 31 = .ok (.getfield 7, 3) := by decide +kernel
theorem dX12_soonest_34 : decode cX12_soonest 34 = .ok (.bipush 78, 2) := by decide +kernel
theorem dX12_soonest_36 : decode cX12_soonest 36 = .ok (.iaload, 1) := by decide +kernel
theorem dX12_soonest_37 : decode cX12_soonest 37 = .ok (.if_icmp .ge 49, 3) := by decide +kernel
theorem dX12_soonest_40 : decode cX12_soonest 40 = .ok (.aload_n 0, 1) := by decide +kernel
theorem dX12_soonest_41 : decode cX12_soonest 41 = .ok (.iload 5, 2) := by decide +kernel
theorem dX12_soonest_43 : decode cX12_soonest 43 = .ok (.iload_n 1, 1) := by decide +kernel
theorem dX12_soonest_44 : decode cX12_soonest 44 = .ok (.iconst 0, 1) := by decide +kernel
theorem dX12_soonest_45 : decode cX12_soonest 45 = .ok (.invokevirtual 320, 3) := by decide +kernel
theorem dX12_soonest_48 : decode cX12_soonest 48 = .ok (.ifCond .ne 6, 3) := by decide +kernel
theorem dX12_soonest_51 : decode cX12_soonest 51 = .ok (.goto 29, 3) := by decide +kernel
theorem dX12_soonest_54 : decode cX12_soonest 54 = .ok (.aload_n 0, 1) := by decide +kernel
theorem dX12_soonest_55 : decode cX12_soonest 55 = .ok (.iload 5, 2) := by decide +kernel
theorem dX12_soonest_57 : decode cX12_soonest 57 = .ok (.iconst 0, 1) := by decide +kernel
theorem dX12_soonest_58 : decode cX12_soonest 58 = .ok (.invokevirtual 421, 3) := by decide +kernel
theorem dX12_soonest_61 : decode cX12_soonest 61 = .ok (.istore 6, 2) := by decide +kernel
theorem dX12_soonest_63 : decode cX12_soonest 63 = .ok (.iload 6, 2) := by decide +kernel
theorem dX12_soonest_65 : decode cX12_soonest 65 = .ok (.iload 4, 2) := by decide +kernel
theorem dX12_soonest_67 : decode cX12_soonest 67 = .ok (.if_icmp .lt 6, 3) := by decide +kernel
theorem dX12_soonest_70 : decode cX12_soonest 70 = .ok (.goto 10, 3) := by decide +kernel
theorem dX12_soonest_73 : decode cX12_soonest 73 = .ok (.iload 6, 2) := by decide +kernel
theorem dX12_soonest_75 : decode cX12_soonest 75 = .ok (.istore 4, 2) := by decide +kernel
theorem dX12_soonest_77 : decode cX12_soonest 77 = .ok (.iload 5, 2) := by decide +kernel
theorem dX12_soonest_79 : decode cX12_soonest 79 = .ok (.istore_n 3, 1) := by decide +kernel
theorem dX12_soonest_80 : decode cX12_soonest 80 = .ok (.iinc 5 1, 3) := by decide +kernel
theorem dX12_soonest_83 : decode cX12_soonest 83 = .ok (.goto (-55), 3) := by decide +kernel
theorem dX12_soonest_86 : decode cX12_soonest 86 = .ok (.iload_n 3, 1) := by decide +kernel
theorem dX12_soonest_87 : decode cX12_soonest 87 = .ok (.iconst (-1), 1) := by decide +kernel
theorem dX12_soonest_88 : decode cX12_soonest 88 = .ok (.if_icmp .eq 7, 3) := by decide +kernel
theorem dX12_soonest_91 : decode cX12_soonest 91 = .ok (.iload_n 2, 1) := by decide +kernel
theorem dX12_soonest_92 : decode cX12_soonest 92 = .ok (.ifCond .ne 7, 3) := by decide +kernel
theorem dX12_soonest_95 : decode cX12_soonest 95 = .ok (.iload_n 3, 1) := by decide +kernel
theorem dX12_soonest_96 : decode cX12_soonest 96 = .ok (.goto 5, 3) := by decide +kernel
theorem dX12_soonest_99 : decode cX12_soonest 99 = .ok (.iload 4, 2) := by decide +kernel
theorem dX12_soonest_101 : decode cX12_soonest 101 = .ok (.ireturn, 1) := by decide +kernel
theorem dX12_standIn_0 : decode cX12_standIn 0 = .ok (.iconst 0, 1) := by decide +kernel
theorem dX12_standIn_1 : decode cX12_standIn 1 = .ok (.istore 4, 2) := by decide +kernel
theorem dX12_standIn_3 : decode cX12_standIn 3 = .ok (.iload 4, 2) := by decide +kernel
theorem dX12_standIn_5 : decode cX12_standIn 5 = .ok (.aload_n 0, 1) := by decide +kernel
theorem dX12_standIn_6 : decode cX12_standIn 6 = .ok (.getfield 7, 3) := by decide +kernel
theorem dX12_standIn_9 : decode cX12_standIn 9 = .ok (.bipush 78, 2) := by decide +kernel
theorem dX12_standIn_11 : decode cX12_standIn 11 = .ok (.iaload, 1) := by decide +kernel
theorem dX12_standIn_12 : decode cX12_standIn 12 = .ok (.if_icmp .ge 87, 3) := by decide +kernel
theorem dX12_standIn_15 : decode cX12_standIn 15 = .ok (.aload_n 0, 1) := by decide +kernel
theorem dX12_standIn_16 : decode cX12_standIn 16 = .ok (.iload_n 2, 1) := by decide +kernel
theorem dX12_standIn_17 : decode cX12_standIn 17 = .ok (.iload_n 1, 1) := by decide +kernel
theorem dX12_standIn_18 : decode cX12_standIn 18 = .ok (.iconst 1, 1) := by decide +kernel
theorem dX12_standIn_19 : decode cX12_standIn 19 = .ok (.invokevirtual 320, 3) := by decide +kernel
theorem dX12_standIn_22 : decode cX12_standIn 22 = .ok (.ifCond .eq 77, 3) := by decide +kernel
theorem dX12_standIn_25 : decode cX12_standIn 25 = .ok (.iload_n 3, 1) := by decide +kernel
theorem dX12_standIn_26 : decode cX12_standIn 26 = .ok (.iload 4, 2) := by decide +kernel
theorem dX12_standIn_28 : decode cX12_standIn 28 = .ok (.ishr, 1) := by decide +kernel
theorem dX12_standIn_29 : decode cX12_standIn 29 = .ok (.iconst 1, 1) := by decide +kernel
theorem dX12_standIn_30 : decode cX12_standIn 30 = .ok (.iand, 1) := by decide +kernel
theorem dX12_standIn_31 : decode cX12_standIn 31 = .ok (.iconst 1, 1) := by decide +kernel
theorem dX12_standIn_32 : decode cX12_standIn 32 = .ok (.if_icmp .ne 61, 3) := by decide +kernel
theorem dX12_standIn_35 : decode cX12_standIn 35 = .ok (.aload_n 0, 1) := by decide +kernel
theorem dX12_standIn_36 : decode cX12_standIn 36 = .ok (.iload_n 1, 1) := by decide +kernel
theorem dX12_standIn_37 : decode cX12_standIn 37 = .ok (.iload 4, 2) := by decide +kernel
theorem dX12_standIn_39 : decode cX12_standIn 39 = .ok (.iload_n 2, 1) := by decide +kernel
theorem dX12_standIn_40 : decode cX12_standIn 40 = .ok (.invokevirtual 433, 3) := by decide +kernel
theorem dX12_standIn_43 : decode cX12_standIn 43 = .ok (.ifCond .eq 50, 3) := by decide +kernel
theorem dX12_standIn_46 : decode cX12_standIn 46 = .ok (.aload_n 0, 1) := by decide +kernel
theorem dX12_standIn_47 : decode cX12_standIn 47 = .ok (.iload 4, 2) := by decide +kernel
theorem dX12_standIn_49 : decode cX12_standIn 49 = .ok (.iload_n 2, 1) := by decide +kernel
theorem dX12_standIn_50 : decode cX12_standIn 50 = .ok (.invokevirtual 436, 3) := by decide +kernel
theorem dX12_standIn_53 : decode cX12_standIn 53 = .ok (.aload_n 0, 1) := by decide +kernel
theorem dX12_standIn_54 : decode cX12_standIn 54 = .ok (.getfield 48, 3) := by decide +kernel
theorem dX12_standIn_57 : decode cX12_standIn 57 = .ok (.sipush 4096, 3) := by decide +kernel
theorem dX12_standIn_60 : decode cX12_standIn 60 = .ok (.iload_n 2, 1) := by decide +kernel
theorem dX12_standIn_61 : decode cX12_standIn 61 = .ok (.iconst 1, 1) := by decide +kernel
theorem dX12_standIn_62 : decode cX12_standIn 62 = .ok (.iadd, 1) := by decide +kernel
theorem dX12_standIn_63 : decode cX12_standIn 63 = .ok (.imul, 1) := by decide +kernel
theorem dX12_standIn_64 : decode cX12_standIn 64 = .ok (.iload_n 3, 1) := by decide +kernel
theorem dX12_standIn_65 : decode cX12_standIn 65 = .ok (.iconst 1, 1) := by decide +kernel
theorem dX12_standIn_66 : decode cX12_standIn 66 = .ok (.iload 4, 2) := by decide +kernel
theorem dX12_standIn_68 : decode cX12_standIn 68 = .ok (.ishl, 1) := by decide +kernel
theorem dX12_standIn_69 : decode cX12_standIn 69 = .ok (.iconst (-1), 1) := by decide +kernel
theorem dX12_standIn_70 : decode cX12_standIn 70 = .ok (.ixor, 1) := by decide +kernel
theorem dX12_standIn_71 : decode cX12_standIn 71 = .ok (.iand, 1) := by decide +kernel
theorem dX12_standIn_72 : decode cX12_standIn 72 = .ok (.iadd, 1) := by decide +kernel
theorem dX12_standIn_73 : decode cX12_standIn 73 = .ok (.iaload, 1) := by decide +kernel
theorem dX12_standIn_74 : decode cX12_standIn 74 = .ok (.iadd, 1) := by decide +kernel
theorem dX12_standIn_75 : decode cX12_standIn 75 = .ok (.aload_n 0, 1) := by decide +kernel
theorem dX12_standIn_76 : decode cX12_standIn 76 = .ok (.getfield 48, 3) := by decide +kernel
theorem dX12_standIn_79 : decode cX12_standIn 79 = .ok (.sipush 4096, 3) := by decide +kernel
theorem dX12_standIn_82 : decode cX12_standIn 82 = .ok (.iload_n 2, 1) := by decide +kernel
theorem dX12_standIn_83 : decode cX12_standIn 83 = .ok (.imul, 1) := by decide +kernel
theorem dX12_standIn_84 : decode cX12_standIn 84 = .ok (.iload_n 3, 1) := by decide +kernel
theorem dX12_standIn_85 : decode cX12_standIn 85 = .ok (.iadd, 1) := by decide +kernel
theorem dX12_standIn_86 : decode cX12_standIn 86 = .ok (.iaload, 1) := by decide +kernel
theorem dX12_standIn_87 : decode cX12_standIn 87 = .ok (.if_icmp .ne 6, 3) := by decide +kernel
theorem dX12_standIn_90 : decode cX12_standIn 90 = .ok (.iload 4, 2) := by decide +kernel
theorem dX12_standIn_92 : decode cX12_standIn 92 = .ok (.ireturn, 1) := by decide +kernel
theorem dX12_standIn_93 : decode cX12_standIn 93 = .ok (.iinc 4 1, 3) := by decide +kernel
theorem dX12_standIn_96 : decode cX12_standIn 96 = .ok (.goto (-93), 3) := by decide +kernel
theorem dX12_standIn_99 : decode cX12_standIn 99 = .ok (.iconst (-1), 1) := by decide +kernel
theorem dX12_standIn_100 : decode cX12_standIn 100 = .ok (.ireturn, 1) := by decide +kernel
theorem dX12_standWorth_0 : decode cX12_standWorth 0 = .ok (.sipush 10000, 3) := by decide +kernel
theorem dX12_standWorth_3 : decode cX12_standWorth 3 = .ok (.aload_n 0, 1) := by decide +kernel
theorem dX12_standWorth_4 : decode cX12_standWorth 4 = .ok (.getfield 7, 3) := by decide +kernel
theorem dX12_standWorth_7 : decode cX12_standWorth 7 = .ok (.bipush 102, 2) := by decide +kernel
theorem dX12_standWorth_9 : decode cX12_standWorth 9 = .ok (.iload_n 1, 1) := by decide +kernel
theorem dX12_standWorth_10 : decode cX12_standWorth 10 = .ok (.iadd, 1) := by decide +kernel
theorem dX12_standWorth_11 : decode cX12_standWorth 11 = .ok (.iaload, 1) := by decide +kernel
theorem dX12_standWorth_12 : decode cX12_standWorth 12 = .ok (.isub, 1) := by decide +kernel
theorem dX12_standWorth_13 : decode cX12_standWorth 13 = .ok (.aload_n 0, 1) := by decide +kernel
theorem dX12_standWorth_14 : decode cX12_standWorth 14 = .ok (.getfield 7, 3) := by decide +kernel
theorem dX12_standWorth_17 : decode cX12_standWorth 17 = .ok (.bipush 102, 2) := by decide +kernel
theorem dX12_standWorth_19 : decode cX12_standWorth 19 = .ok (.iload_n 2, 1) := by decide +kernel
theorem dX12_standWorth_20 : decode cX12_standWorth 20 = .ok (.iadd, 1) := by decide +kernel
theorem dX12_standWorth_21 : decode cX12_standWorth 21 = .ok (.iaload, 1) := by decide +kernel
theorem dX12_standWorth_22 : decode cX12_standWorth 22 = .ok (.iadd, 1) := by decide +kernel
theorem dX12_standWorth_23 : decode cX12_standWorth 23 = .ok (.ireturn, 1) := by decide +kernel
theorem dX12_stands_0 : decode cX12_stands 0 = .ok (.iload_n 1, 1) := by decide +kernel
theorem dX12_stands_1 : decode cX12_stands 1 = .ok (.invokestatic 66, 3) := by decide +kernel
theorem dX12_stands_4 : decode cX12_stands 4 = .ok (.ifCond .eq 31, 3) := by decide +kernel
theorem dX12_stands_7 : decode cX12_stands 7 = .ok (.iload_n 2, 1) := by decide +kernel
theorem dX12_stands_8 : decode cX12_stands 8 = .ok (.iconst 0, 1) := by decide +kernel
theorem dX12_stands_9 : decode cX12_stands 9 = .ok (.iconst 1, 1) := by decide +kernel
theorem dX12_stands_10 : decode cX12_stands 10 = .ok (.invokestatic 54, 3) := by decide +kernel
theorem dX12_stands_13 : decode cX12_stands 13 = .ok (.ifCond .ne 24, 3) := by decide +kernel
theorem dX12_stands_16 : decode cX12_stands 16 = .ok (.iload_n 2, 1) := by decide +kernel
theorem dX12_stands_17 : decode cX12_stands 17 = .ok (.bipush 10, 2) := by decide +kernel
theorem dX12_stands_19 : decode cX12_stands 19 = .ok (.bipush 9, 2) := by decide +kernel
theorem dX12_stands_21 : decode cX12_stands 21 = .ok (.aload_n 0, 1) := by decide +kernel
theorem dX12_stands_22 : decode cX12_stands 22 = .ok (.getfield 7, 3) := by decide +kernel
theorem dX12_stands_25 : decode cX12_stands 25 = .ok (.bipush 78, 2) := by decide +kernel
theorem dX12_stands_27 : decode cX12_stands 27 = .ok (.iaload, 1) := by decide +kernel
theorem dX12_stands_28 : decode cX12_stands 28 = .ok (.iadd, 1) := by decide +kernel
theorem dX12_stands_29 : decode cX12_stands 29 = .ok (.invokestatic 54, 3) := by decide +kernel
theorem dX12_stands_32 : decode cX12_stands 32 = .ok (.ifCond .ne 5, 3) := by decide +kernel
theorem dX12_stands_35 : decode cX12_stands 35 = .ok (.iconst (-1), 1) := by decide +kernel
theorem dX12_stands_36 : decode cX12_stands 36 = .ok (.ireturn, 1) := by decide +kernel
theorem dX12_stands_37 : decode cX12_stands 37 = .ok (.aload_n 0, 1) := by decide +kernel
theorem dX12_stands_38 : decode cX12_stands 38 = .ok (.iload_n 1, 1) := by decide +kernel
theorem dX12_stands_39 : decode cX12_stands 39 = .ok (.invokevirtual 439, 3) := by decide +kernel
