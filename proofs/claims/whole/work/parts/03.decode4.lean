theorem dX6_go_21 : decode cX6_go 21 = .ok (.if_icmp .ge 27, 3) := by decide +kernel
theorem dX6_go_24 : decode cX6_go 24 = .ok (.aload_n 0, 1) := by decide +kernel
theorem dX6_go_25 : decode cX6_go 25 = .ok (.getfield 188, 3) := by decide +kernel
theorem dX6_go_28 : decode cX6_go 28 = .ok (.aload_n 0, 1) := by decide +kernel
theorem dX6_go_29 : decode cX6_go 29 = .ok (.getfield 15, 3) := by decide +kernel
theorem dX6_go_32 : decode cX6_go 32 = .ok (.arraylength, 1) := by decide +kernel
theorem dX6_go_33 : decode cX6_go 33 = .ok (.if_icmp .ge 15, 3) := by decide +kernel
theorem dX6_go_36 : decode cX6_go 36 = .ok (.aload_n 0, 1) := by decide +kernel
theorem dX6_go_37 : decode cX6_go 37 = .ok (.getfield 15, 3) := by decide +kernel
theorem dX6_go_40 : decode cX6_go 40 = .ok (.aload_n 0, 1) := by decide +kernel
theorem dX6_go_41 : decode cX6_go 41 = .ok (.getfield 188, 3) := by decide +kernel
theorem dX6_go_44 : decode cX6_go 44 = .ok (.iaload, 1) := by decide +kernel
theorem dX6_go_45 : decode cX6_go 45 = .ok (.goto 4, 3) := by decide +kernel
theorem dX6_go_48 : decode cX6_go 48 = .ok (.iconst 0, 1) := by decide +kernel
theorem dX6_go_49 : decode cX6_go 49 = .ok (.putfield 67, 3) := by decide +kernel
theorem dX6_go_52 : decode cX6_go 52 = .ok (.return_, 1) := by decide +kernel
theorem dX6_hand_0 : decode cX6_hand 0 = .ok (.iload_n 1, 1) := by decide +kernel
theorem dX6_hand_1 : decode cX6_hand 1 = .ok (.tableswitch 85 0 2 #[27, 41, 63], 27) := by decide +kernel
theorem dX6_hand_28 : decode cX6_hand 28 = .ok (.aload_n 2, 1) := by decide +kernel
theorem dX6_hand_29 : decode cX6_hand 29 = .ok (.getfield 106, 3) := by decide +kernel
theorem dX6_hand_32 : decode cX6_hand 32 = .ok (.aload_n 0, 1) := by decide +kernel
theorem dX6_hand_33 : decode cX6_hand 33 = .ok (.getfield 27, 3) := by decide +kernel
theorem dX6_hand_36 : decode cX6_hand 36 = .ok (.invokevirtual 107, 3) := by decide +kernel
theorem dX6_hand_39 : decode cX6_hand 39 = .ok (.goto 58, 3) := by decide +kernel
theorem dX6_hand_42 : decode cX6_hand 42 = .ok (.aload_n 0, 1) := by decide +kernel
theorem dX6_hand_43 : decode cX6_hand 43 = .ok (.getfield 38, 3) := by decide +kernel
theorem dX6_hand_46 : decode cX6_hand 46 = .ok (.aload_n 2, 1) := by decide +kernel
theorem dX6_hand_47 : decode cX6_hand 47 = .ok (.getfield 111, 3) := by decide +kernel
theorem dX6_hand_50 : decode cX6_hand 50 = .ok (.invokestatic 112, 3) := by decide +kernel
theorem dX6_hand_53 : decode cX6_hand 53 = .ok (.aload_n 2, 1) := by decide +kernel
theorem dX6_hand_54 : decode cX6_hand 54 = .ok (.aload_n 0, 1) := by decide +kernel
theorem dX6_hand_55 : decode cX6_hand 55 = .ok (.getfield 92, 3) := by decide +kernel
theorem dX6_hand_58 : decode cX6_hand 58 = .ok (.putfield 116, 3) := by decide +kernel
theorem dX6_hand_61 : decode cX6_hand 61 = .ok (.goto 36, 3) := by decide +kernel
theorem dX6_hand_64 : decode cX6_hand 64 = .ok (.aload_n 0, 1) := by decide +kernel
theorem dX6_hand_65 : decode cX6_hand 65 = .ok (.getfield 41, 3) := by decide +kernel
theorem dX6_hand_68 : decode cX6_hand 68 = .ok (.aload_n 2, 1) := by decide +kernel
theorem dX6_hand_69 : decode cX6_hand 69 = .ok (.getfield 119, 3) := by decide +kernel
theorem dX6_hand_72 : decode cX6_hand 72 = .ok (.invokestatic 112, 3) := by decide +kernel
theorem dX6_hand_75 : decode cX6_hand 75 = .ok (.aload_n 2, 1) := by decide +kernel
theorem dX6_hand_76 : decode cX6_hand 76 = .ok (.aload_n 0, 1) := by decide +kernel
theorem dX6_hand_77 : decode cX6_hand 77 = .ok (.getfield 92, 3) := by decide +kernel
theorem dX6_hand_80 : decode cX6_hand 80 = .ok (.putfield 120, 3) := by decide +kernel
theorem dX6_hand_83 : decode cX6_hand 83 = .ok (.goto 14, 3) := by decide +kernel
theorem dX6_hand_86 : decode cX6_hand 86 = .ok (.aload_n 2, 1) := by decide +kernel
theorem dX6_hand_87 : decode cX6_hand 87 = .ok (.getfield 123, 3) := by decide +kernel
theorem dX6_hand_90 : decode cX6_hand 90 = .ok (.aload_n 0, 1) := by decide +kernel
theorem dX6_hand_91 : decode cX6_hand 91 = .ok (.getfield 34, 3) := by decide +kernel
theorem dX6_hand_94 : decode cX6_hand 94 = .ok (.invokevirtual 124, 3) := by decide +kernel
theorem dX6_hand_97 : decode cX6_hand 97 = .ok (.return_, 1) := by decide +kernel
theorem dX6_hasRoom_0 : decode cX6_hasRoom 0 = .ok (.aload_n 0, 1) := by decide +kernel
theorem dX6_hasRoom_1 : decode cX6_hasRoom 1 = .ok (.getfield 48, 3) := by decide +kernel
theorem dX6_hasRoom_4 : decode cX6_hasRoom 4 = .ok (.ifCond .lt 20, 3) := by decide +kernel
theorem dX6_hasRoom_7 : decode cX6_hasRoom 7 = .ok (.aload_n 0, 1) := by decide +kernel
theorem dX6_hasRoom_8 : decode cX6_hasRoom 8 = .ok (.getfield 48, 3) := by decide +kernel
theorem dX6_hasRoom_11 : decode cX6_hasRoom 11 = .ok (.bipush 20, 2) := by decide +kernel
theorem dX6_hasRoom_13 : decode cX6_hasRoom 13 = .ok (.iadd, 1) := by decide +kernel
theorem dX6_hasRoom_14 : decode cX6_hasRoom 14 = .ok (.sipush 400, 3) := by decide +kernel
theorem dX6_hasRoom_17 : decode cX6_hasRoom 17 = .ok (.if_icmp .gt 7, 3) := by decide +kernel
theorem dX6_hasRoom_20 : decode cX6_hasRoom 20 = .ok (.iconst 1, 1) := by decide +kernel
theorem dX6_hasRoom_21 : decode cX6_hasRoom 21 = .ok (.goto 4, 3) := by decide +kernel
theorem dX6_hasRoom_24 : decode cX6_hasRoom 24 = .ok (.iconst 0, 1) := by decide +kernel
theorem dX6_hasRoom_25 : decode cX6_hasRoom 25 = .ok (.ireturn, 1) := by decide +kernel
theorem dX6_init_0 : decode cX6_init 0 = .ok (.aload_n 0, 1) := by decide +kernel
theorem dX6_init_1 : decode cX6_init 1 = .ok (.invokespecial 5, 3) := by decide +kernel
theorem dX6_init_4 : decode cX6_init 4 = .ok (.aload_n 0, 1) := by decide +kernel
theorem dX6_init_5 : decode cX6_init 5 = .ok (.sipush 400, 3) := by decide +kernel
theorem dX6_init_8 : decode cX6_init 8 = .ok (.newarray .int, 2) := by decide +kernel
theorem dX6_init_10 : decode cX6_init 10 = .ok (.putfield 11, 3) := by decide +kernel
theorem dX6_init_13 : decode cX6_init 13 = .ok (.aload_n 0, 1) := by decide +kernel
theorem dX6_init_14 : decode cX6_init 14 = .ok (.sipush 401, 3) := by decide +kernel
theorem dX6_init_17 : decode cX6_init 17 = .ok (.newarray .int, 2) := by decide +kernel
theorem dX6_init_19 : decode cX6_init 19 = .ok (.putfield 15, 3) := by decide +kernel
theorem dX6_init_22 : decode cX6_init 22 = .ok (.aload_n 0, 1) := by decide +kernel
theorem dX6_init_23 : decode cX6_init 23 = .ok (.sipush 401, 3) := by decide +kernel
theorem dX6_init_26 : decode cX6_init 26 = .ok (.newarray .int, 2) := by decide +kernel
theorem dX6_init_28 : decode cX6_init 28 = .ok (.putfield 18, 3) := by decide +kernel
theorem dX6_init_31 : decode cX6_init 31 = .ok (.aload_n 0, 1) := by decide +kernel
theorem dX6_init_32 : decode cX6_init 32 = .ok (.sipush 401, 3) := by decide +kernel
theorem dX6_init_35 : decode cX6_init 35 = .ok (.newarray .int, 2) := by decide +kernel
theorem dX6_init_37 : decode cX6_init 37 = .ok (.putfield 21, 3) := by decide +kernel
theorem dX6_init_40 : decode cX6_init 40 = .ok (.aload_n 0, 1) := by decide +kernel
theorem dX6_init_41 : decode cX6_init 41 = .ok (.new 24, 3) := by decide +kernel
theorem dX6_init_44 : decode cX6_init 44 = .ok (.dup, 1) := by decide +kernel
theorem dX6_init_45 : decode cX6_init 45 = .ok (.invokespecial 26, 3) := by decide +kernel
theorem dX6_init_48 : decode cX6_init 48 = .ok (.putfield 27, 3) := by decide +kernel
theorem dX6_init_51 : decode cX6_init 51 = .ok (.aload_n 0, 1) := by decide +kernel
theorem dX6_init_52 : decode cX6_init 52 = .ok (.new 31, 3) := by decide +kernel
theorem dX6_init_55 : decode cX6_init 55 = .ok (.dup, 1) := by decide +kernel
theorem dX6_init_56 : decode cX6_init 56 = .ok (.invokespecial 33, 3) := by decide +kernel
theorem dX6_init_59 : decode cX6_init 59 = .ok (.putfield 34, 3) := by decide +kernel
theorem dX6_init_62 : decode cX6_init 62 = .ok (.aload_n 0, 1) := by decide +kernel
theorem dX6_init_63 : decode cX6_init 63 = .ok (.bipush 12, 2) := by decide +kernel
theorem dX6_init_65 : decode cX6_init 65 = .ok (.newarray .int, 2) := by decide +kernel
theorem dX6_init_67 : decode cX6_init 67 = .ok (.putfield 38, 3) := by decide +kernel
theorem dX6_init_70 : decode cX6_init 70 = .ok (.aload_n 0, 1) := by decide +kernel
theorem dX6_init_71 : decode cX6_init 71 = .ok (.bipush 8, 2) := by decide +kernel
theorem dX6_init_73 : decode cX6_init 73 = .ok (.newarray .int, 2) := by decide +kernel
theorem dX6_init_75 : decode cX6_init 75 = .ok (.putfield 41, 3) := by decide +kernel
theorem dX6_init_78 : decode cX6_init 78 = .ok (.aload_n 0, 1) := by decide +kernel
theorem dX6_init_79 : decode cX6_init 79 = .ok (.iconst (-1), 1) := by decide +kernel
theorem dX6_init_80 : decode cX6_init 80 = .ok (.putfield 44, 3) := by decide +kernel
theorem dX6_init_83 : decode cX6_init 83 = .ok (.return_, 1) := by decide +kernel
theorem dX6_isDigit_0 : decode cX6_isDigit 0 = .ok (.iload_n 0, 1) := by decide +kernel
theorem dX6_isDigit_1 : decode cX6_isDigit 1 = .ok (.bipush 48, 2) := by decide +kernel
theorem dX6_isDigit_3 : decode cX6_isDigit 3 = .ok (.if_icmp .lt 13, 3) := by decide +kernel
theorem dX6_isDigit_6 : decode cX6_isDigit 6 = .ok (.iload_n 0, 1) := by decide +kernel
theorem dX6_isDigit_7 : decode cX6_isDigit 7 = .ok (.bipush 57, 2) := by decide +kernel
theorem dX6_isDigit_9 : decode cX6_isDigit 9 = .ok (.if_icmp .gt 7, 3) := by decide +kernel
theorem dX6_isDigit_12 : decode cX6_isDigit 12 = .ok (.iconst 1, 1) := by decide +kernel
theorem dX6_isDigit_13 : decode cX6_isDigit 13 = .ok (.goto 4, 3) := by decide +kernel
theorem dX6_isDigit_16 : decode cX6_isDigit 16 = .ok (.iconst 0, 1) := by decide +kernel
theorem dX6_isDigit_17 : decode cX6_isDigit 17 = .ok (.ireturn, 1) := by decide +kernel
theorem dX6_isLetter_0 : decode cX6_isLetter 0 = .ok (.iload_n 0, 1) := by decide +kernel
theorem dX6_isLetter_1 : decode cX6_isLetter 1 = .ok (.bipush 97, 2) := by decide +kernel
theorem dX6_isLetter_3 : decode cX6_isLetter 3 = .ok (.if_icmp .lt 9, 3) := by decide +kernel
theorem dX6_isLetter_6 : decode cX6_isLetter 6 = .ok (.iload_n 0, 1) := by decide +kernel
theorem dX6_isLetter_7 : decode cX6_isLetter 7 = .ok (.bipush 122, 2) := by decide +kernel
theorem dX6_isLetter_9 : decode cX6_isLetter 9 = .ok (.if_icmp .le 15, 3) := by decide +kernel
theorem dX6_isLetter_12 : decode cX6_isLetter 12 = .ok (.iload_n 0, 1) := by decide +kernel
theorem dX6_isLetter_13 : decode cX6_isLetter 13 = .ok (.bipush 65, 2) := by decide +kernel
theorem dX6_isLetter_15 : decode cX6_isLetter 15 = .ok (.if_icmp .lt 13, 3) := by decide +kernel
theorem dX6_isLetter_18 : decode cX6_isLetter 18 = .ok (.iload_n 0, 1) := by decide +kernel
theorem dX6_isLetter_19 : decode cX6_isLetter 19 = .ok (.bipush 90, 2) := by decide +kernel
theorem dX6_isLetter_21 : decode cX6_isLetter 21 = .ok (.if_icmp .gt 7, 3) := by decide +kernel
theorem dX6_isLetter_24 : decode cX6_isLetter 24 = .ok (.iconst 1, 1) := by decide +kernel
theorem dX6_isLetter_25 : decode cX6_isLetter 25 = .ok (.goto 4, 3) := by decide +kernel
theorem dX6_isLetter_28 : decode cX6_isLetter 28 = .ok (.iconst 0, 1) := by decide +kernel
theorem dX6_isLetter_29 : decode cX6_isLetter 29 = .ok (.ireturn, 1) := by decide +kernel
theorem dX6_keyword_0 : decode cX6_keyword 0 = .ok (.iconst 0, 1) := by decide +kernel
theorem dX6_keyword_1 : decode cX6_keyword 1 = .ok (.istore 4, 2) := by decide +kernel
theorem dX6_keyword_3 : decode cX6_keyword 3 = .ok (.iconst 0, 1) := by decide +kernel
theorem dX6_keyword_4 : decode cX6_keyword 4 = .ok (.istore 5, 2) := by decide +kernel
theorem dX6_keyword_6 : decode cX6_keyword 6 = .ok (.iconst 0, 1) := by decide +kernel
theorem dX6_keyword_7 : decode cX6_keyword 7 = .ok (.istore 6, 2) := by decide +kernel
theorem dX6_keyword_9 : decode cX6_keyword 9 = .ok (.iload 6, 2) := by decide +kernel
theorem dX6_keyword_11 : decode cX6_keyword 11 = .ok (.aload_n 1, 1) := by decide +kernel
theorem dX6_keyword_12 : decode cX6_keyword 12 = .ok (.invokevirtual 177, 3) := by decide +kernel
theorem dX6_keyword_15 : decode cX6_keyword 15 = .ok (.if_icmp .gt 64, 3) := by decide +kernel
theorem dX6_keyword_18 : decode cX6_keyword 18 = .ok (.iload 6, 2) := by decide +kernel
theorem dX6_keyword_20 : decode cX6_keyword 20 = .ok (.aload_n 1, 1) := by decide +kernel
theorem dX6_keyword_21 : decode cX6_keyword 21 = .ok (.invokevirtual 177, 3) := by decide +kernel
theorem dX6_keyword_24 : decode cX6_keyword 24 = .ok (.if_icmp .eq 14, 3) := by decide +kernel
theorem dX6_keyword_27 : decode cX6_keyword 27 = .ok (.aload_n 1, 1) := by decide +kernel
theorem dX6_keyword_28 : decode cX6_keyword 28 = .ok (.iload 6, 2) := by decide +kernel
theorem dX6_keyword_30 : decode cX6_keyword 30 = .ok (.invokevirtual 180, 3) := by decide +kernel
theorem dX6_keyword_33 : decode cX6_keyword 33 = .ok (.bipush 32, 2) := by decide +kernel
theorem dX6_keyword_35 : decode cX6_keyword 35 = .ok (.if_icmp .ne 38, 3) := by decide +kernel
theorem dX6_keyword_38 : decode cX6_keyword 38 = .ok (.iload 6, 2) := by decide +kernel
theorem dX6_keyword_40 : decode cX6_keyword 40 = .ok (.iload 5, 2) := by decide +kernel
theorem dX6_keyword_42 : decode cX6_keyword 42 = .ok (.isub, 1) := by decide +kernel
theorem dX6_keyword_43 : decode cX6_keyword 43 = .ok (.iload_n 3, 1) := by decide +kernel
theorem dX6_keyword_44 : decode cX6_keyword 44 = .ok (.iload_n 2, 1) := by decide +kernel
theorem dX6_keyword_45 : decode cX6_keyword 45 = .ok (.isub, 1) := by decide +kernel
theorem dX6_keyword_46 : decode cX6_keyword 46 = .ok (.if_icmp .ne 18, 3) := by decide +kernel
theorem dX6_keyword_49 : decode cX6_keyword 49 = .ok (.aload_n 0, 1) := by decide +kernel
theorem dX6_keyword_50 : decode cX6_keyword 50 = .ok (.aload_n 1, 1) := by decide +kernel
theorem dX6_keyword_51 : decode cX6_keyword 51 = .ok (.iload 5, 2) := by decide +kernel
theorem dX6_keyword_53 : decode cX6_keyword 53 = .ok (.iload_n 2, 1) := by decide +kernel
theorem dX6_keyword_54 : decode cX6_keyword 54 = .ok (.iload_n 3, 1) := by decide +kernel
theorem dX6_keyword_55 : decode cX6_keyword 55 = .ok (.invokevirtual 184, 3) := by decide +kernel
theorem dX6_keyword_58 : decode cX6_keyword 58 = .ok (.ifCond .eq 6, 3) := by decide +kernel
theorem dX6_keyword_61 : decode cX6_keyword 61 = .ok (.iload 4, 2) := by decide +kernel
theorem dX6_keyword_63 : decode cX6_keyword 63 = .ok (.ireturn, 1) := by decide +kernel
theorem dX6_keyword_64 : decode cX6_keyword 64 = .ok (.iinc 4 1, 3) := by decide +kernel
theorem dX6_keyword_67 : decode cX6_keyword 67 = .ok (.iload 6, 2) := by decide +kernel
theorem dX6_keyword_69 : decode cX6_keyword 69 = .ok (.iconst 1, 1) := by decide +kernel
theorem dX6_keyword_70 : decode cX6_keyword 70 = .ok (.iadd, 1) := by decide +kernel
theorem dX6_keyword_71 : decode cX6_keyword 71 = .ok (.istore 5, 2) := by decide +kernel
theorem dX6_keyword_73 : decode cX6_keyword 73 = .ok (.iinc 6 1, 3) := by decide +kernel
theorem dX6_keyword_76 : decode cX6_keyword 76 = .ok (.goto (-67), 3) := by decide +kernel
theorem dX6_keyword_79 : decode cX6_keyword 79 = .ok (.iconst (-1), 1) := by decide +kernel
theorem dX6_keyword_80 : decode cX6_keyword 80 = .ok (.ireturn, 1) := by decide +kernel
theorem dX6_keywords_0 : decode cX6_keywords 0 = .ok (.iload_n 0, 1) := by decide +kernel
theorem dX6_keywords_1 : decode cX6_keywords 1 = .ok (.tableswitch 36 0 2 #[27, 30, 33], 27) := by decide +kernel
theorem dX6_keywords_28 : decode cX6_keywords 28 = .ok (.ldc 127, 2) := by decide +kernel
theorem dX6_keywords_30 : decode cX6_keywords 30 = .ok (.areturn, 1) := by decide +kernel
theorem dX6_keywords_31 : decode cX6_keywords 31 = .ok (.ldc 129, 2) := by decide +kernel
theorem dX6_keywords_33 : decode cX6_keywords 33 = .ok (.areturn, 1) := by decide +kernel
theorem dX6_keywords_34 : decode cX6_keywords 34 = .ok (.ldc 131, 2) := by decide +kernel
theorem dX6_keywords_36 : decode cX6_keywords 36 = .ok (.areturn, 1) := by decide +kernel
theorem dX6_keywords_37 : decode cX6_keywords 37 = .ok (.ldc 133, 2) := by decide +kernel
theorem dX6_keywords_39 : decode cX6_keywords 39 = .ok (.areturn, 1) := by decide +kernel
theorem dX6_lawLine_0 : decode cX6_lawLine 0 = .ok (.aload_n 0, 1) := by decide +kernel
theorem dX6_lawLine_1 : decode cX6_lawLine 1 = .ok (.getfield 67, 3) := by decide +kernel
theorem dX6_lawLine_4 : decode cX6_lawLine 4 = .ok (.sipush 256, 3) := by decide +kernel
theorem dX6_lawLine_7 : decode cX6_lawLine 7 = .ok (.isub, 1) := by decide +kernel
theorem dX6_lawLine_8 : decode cX6_lawLine 8 = .ok (.istore_n 1, 1) := by decide +kernel
theorem dX6_lawLine_9 : decode cX6_lawLine 9 = .ok (.aload_n 0, 1) := by decide +kernel
theorem dX6_lawLine_10 : decode cX6_lawLine 10 = .ok (.iload_n 1, 1) := by decide +kernel
theorem dX6_lawLine_11 : decode cX6_lawLine 11 = .ok (.ifCond .lt 8, 3) := by decide +kernel
theorem dX6_lawLine_14 : decode cX6_lawLine 14 = .ok (.iload_n 1, 1) := by decide +kernel
theorem dX6_lawLine_15 : decode cX6_lawLine 15 = .ok (.iconst 3, 1) := by decide +kernel
theorem dX6_lawLine_16 : decode cX6_lawLine 16 = .ok (.if_icmp .le 7, 3) := by decide +kernel
theorem dX6_lawLine_19 : decode cX6_lawLine 19 = .ok (.iconst (-1), 1) := by decide +kernel
theorem dX6_lawLine_20 : decode cX6_lawLine 20 = .ok (.goto 7, 3) := by decide +kernel
theorem dX6_lawLine_23 : decode cX6_lawLine 23 = .ok (.aload_n 0, 1) := by decide +kernel
theorem dX6_lawLine_24 : decode cX6_lawLine 24 = .ok (.getfield 67, 3) := by decide +kernel
theorem dX6_lawLine_27 : decode cX6_lawLine 27 = .ok (.invokevirtual 200, 3) := by decide +kernel
theorem dX6_lawLine_30 : decode cX6_lawLine 30 = .ok (.aload_n 0, 1) := by decide +kernel
theorem dX6_lawLine_31 : decode cX6_lawLine 31 = .ok (.getfield 27, 3) := by decide +kernel
theorem dX6_lawLine_34 : decode cX6_lawLine 34 = .ok (.iload_n 1, 1) := by decide +kernel
theorem dX6_lawLine_35 : decode cX6_lawLine 35 = .ok (.invokevirtual 203, 3) := by decide +kernel
theorem dX6_lawLine_38 : decode cX6_lawLine 38 = .ok (.aload_n 0, 1) := by decide +kernel
theorem dX6_lawLine_39 : decode cX6_lawLine 39 = .ok (.invokevirtual 204, 3) := by decide +kernel
theorem dX6_lawLine_42 : decode cX6_lawLine 42 = .ok (.aload_n 0, 1) := by decide +kernel
theorem dX6_lawLine_43 : decode cX6_lawLine 43 = .ok (.getfield 27, 3) := by decide +kernel
theorem dX6_lawLine_46 : decode cX6_lawLine 46 = .ok (.invokevirtual 207, 3) := by decide +kernel
theorem dX6_lawLine_49 : decode cX6_lawLine 49 = .ok (.aload_n 0, 1) := by decide +kernel
theorem dX6_lawLine_50 : decode cX6_lawLine 50 = .ok (.sipush 260, 3) := by decide +kernel
theorem dX6_lawLine_53 : decode cX6_lawLine 53 = .ok (.invokevirtual 191, 3) := by decide +kernel
theorem dX6_lawLine_56 : decode cX6_lawLine 56 = .ok (.ifCond .eq 8, 3) := by decide +kernel
theorem dX6_lawLine_59 : decode cX6_lawLine 59 = .ok (.aload_n 0, 1) := by decide +kernel
theorem dX6_lawLine_60 : decode cX6_lawLine 60 = .ok (.iconst 0, 1) := by decide +kernel
theorem dX6_lawLine_61 : decode cX6_lawLine 61 = .ok (.invokevirtual 210, 3) := by decide +kernel
theorem dX6_lawLine_64 : decode cX6_lawLine 64 = .ok (.aload_n 0, 1) := by decide +kernel
theorem dX6_lawLine_65 : decode cX6_lawLine 65 = .ok (.bipush 59, 2) := by decide +kernel
theorem dX6_lawLine_67 : decode cX6_lawLine 67 = .ok (.invokevirtual 197, 3) := by decide +kernel
theorem dX6_lawLine_70 : decode cX6_lawLine 70 = .ok (.aload_n 0, 1) := by decide +kernel
theorem dX6_lawLine_71 : decode cX6_lawLine 71 = .ok (.getfield 27, 3) := by decide +kernel
theorem dX6_lawLine_74 : decode cX6_lawLine 74 = .ok (.invokevirtual 213, 3) := by decide +kernel
theorem dX6_lawLine_77 : decode cX6_lawLine 77 = .ok (.aload_n 0, 1) := by decide +kernel
theorem dX6_lawLine_78 : decode cX6_lawLine 78 = .ok (.dup, 1) := by decide +kernel
theorem dX6_lawLine_79 : decode cX6_lawLine 79 = .ok (.getfield 92, 3) := by decide +kernel
theorem dX6_lawLine_82 : decode cX6_lawLine 82 = .ok (.iconst 1, 1) := by decide +kernel
theorem dX6_lawLine_83 : decode cX6_lawLine 83 = .ok (.iadd, 1) := by decide +kernel
theorem dX6_lawLine_84 : decode cX6_lawLine 84 = .ok (.putfield 92, 3) := by decide +kernel
theorem dX6_lawLine_87 : decode cX6_lawLine 87 = .ok (.return_, 1) := by decide +kernel
theorem dX6_need_0 : decode cX6_need 0 = .ok (.aload_n 0, 1) := by decide +kernel
theorem dX6_need_1 : decode cX6_need 1 = .ok (.iload_n 1, 1) := by decide +kernel
theorem dX6_need_2 : decode cX6_need 2 = .ok (.invokevirtual 191, 3) := by decide +kernel
theorem dX6_need_5 : decode cX6_need 5 = .ok (.ifCond .ne 8, 3) := by decide +kernel
theorem dX6_need_8 : decode cX6_need 8 = .ok (.aload_n 0, 1) := by decide +kernel
theorem dX6_need_9 : decode cX6_need 9 = .ok (.iconst 1, 1) := by decide +kernel
theorem dX6_need_10 : decode cX6_need 10 = .ok (.invokevirtual 194, 3) := by decide +kernel
theorem dX6_need_13 : decode cX6_need 13 = .ok (.return_, 1) := by decide +kernel
theorem dX6_number_0 : decode cX6_number 0 = .ok (.aload_n 0, 1) := by decide +kernel
theorem dX6_number_1 : decode cX6_number 1 = .ok (.getfield 67, 3) := by decide +kernel
theorem dX6_number_4 : decode cX6_number 4 = .ok (.iconst 1, 1) := by decide +kernel
theorem dX6_number_5 : decode cX6_number 5 = .ok (.if_icmp .ne 22, 3) := by decide +kernel
theorem dX6_number_8 : decode cX6_number 8 = .ok (.aload_n 0, 1) := by decide +kernel
theorem dX6_number_9 : decode cX6_number 9 = .ok (.getfield 188, 3) := by decide +kernel
theorem dX6_number_12 : decode cX6_number 12 = .ok (.ifCond .lt 15, 3) := by decide +kernel
theorem dX6_number_15 : decode cX6_number 15 = .ok (.aload_n 0, 1) := by decide +kernel
theorem dX6_number_16 : decode cX6_number 16 = .ok (.getfield 188, 3) := by decide +kernel
theorem dX6_number_19 : decode cX6_number 19 = .ok (.aload_n 0, 1) := by decide +kernel
theorem dX6_number_20 : decode cX6_number 20 = .ok (.getfield 21, 3) := by decide +kernel
theorem dX6_number_23 : decode cX6_number 23 = .ok (.arraylength, 1) := by decide +kernel
theorem dX6_number_24 : decode cX6_number 24 = .ok (.if_icmp .lt 10, 3) := by decide +kernel
theorem dX6_number_27 : decode cX6_number 27 = .ok (.aload_n 0, 1) := by decide +kernel
theorem dX6_number_28 : decode cX6_number 28 = .ok (.iconst 1, 1) := by decide +kernel
theorem dX6_number_29 : decode cX6_number 29 = .ok (.invokevirtual 194, 3) := by decide +kernel
theorem dX6_number_32 : decode cX6_number 32 = .ok (.iconst (-1), 1) := by decide +kernel
theorem dX6_number_33 : decode cX6_number 33 = .ok (.ireturn, 1) := by decide +kernel
theorem dX6_number_34 : decode cX6_number 34 = .ok (.aload_n 0, 1) := by decide +kernel
theorem dX6_number_35 : decode cX6_number 35 = .ok (.getfield 21, 3) := by decide +kernel
theorem dX6_number_38 : decode cX6_number 38 = .ok (.aload_n 0, 1) := by decide +kernel
theorem dX6_number_39 : decode cX6_number 39 = .ok (.getfield 188, 3) := by decide +kernel
theorem dX6_number_42 : decode cX6_number 42 = .ok (.iaload, 1) := by decide +kernel
theorem dX6_number_43 : decode cX6_number 43 = .ok (.istore_n 3, 1) := by decide +kernel
theorem dX6_number_44 : decode cX6_number 44 = .ok (.iload_n 3, 1) := by decide +kernel
theorem dX6_number_45 : decode cX6_number 45 = .ok (.iload_n 1, 1) := by decide +kernel
theorem dX6_number_46 : decode cX6_number 46 = .ok (.if_icmp .gt 8, 3) := by decide +kernel
theorem dX6_number_49 : decode cX6_number 49 = .ok (.iload_n 3, 1) := by decide +kernel
theorem dX6_number_50 : decode cX6_number 50 = .ok (.iload_n 2, 1) := by decide +kernel
theorem dX6_number_51 : decode cX6_number 51 = .ok (.if_icmp .ne 10, 3) := by decide +kernel
theorem dX6_number_54 : decode cX6_number 54 = .ok (.aload_n 0, 1) := by decide +kernel
theorem dX6_number_55 : decode cX6_number 55 = .ok (.iconst 2, 1) := by decide +kernel
theorem dX6_number_56 : decode cX6_number 56 = .ok (.invokevirtual 194, 3) := by decide +kernel
theorem dX6_number_59 : decode cX6_number 59 = .ok (.iconst (-1), 1) := by decide +kernel
theorem dX6_number_60 : decode cX6_number 60 = .ok (.ireturn, 1) := by decide +kernel
theorem dX6_number_61 : decode cX6_number 61 = .ok (.aload_n 0, 1) := by decide +kernel
theorem dX6_number_62 : decode cX6_number 62 = .ok (.aload_n 0, 1) := by decide +kernel
theorem dX6_number_63 : decode cX6_number 63 = .ok (.getfield 188, 3) := by decide +kernel
theorem dX6_number_66 : decode cX6_number 66 = .ok (.iconst 1, 1) := by decide +kernel
theorem dX6_number_67 : decode cX6_number 67 = .ok (.iadd, 1) := by decide +kernel
theorem dX6_number_68 : decode cX6_number 68 = .ok (.invokevirtual 95, 3) := by decide +kernel
theorem dX6_number_71 : decode cX6_number 71 = .ok (.iload_n 3, 1) := by decide +kernel
theorem dX6_number_72 : decode cX6_number 72 = .ok (.ireturn, 1) := by decide +kernel
theorem dX6_orderLine_0 : decode cX6_orderLine 0 = .ok (.aload_n 0, 1) := by decide +kernel
theorem dX6_orderLine_1 : decode cX6_orderLine 1 = .ok (.sipush 256, 3) := by decide +kernel
theorem dX6_orderLine_4 : decode cX6_orderLine 4 = .ok (.invokevirtual 200, 3) := by decide +kernel
theorem dX6_orderLine_7 : decode cX6_orderLine 7 = .ok (.aload_n 0, 1) := by decide +kernel
theorem dX6_orderLine_8 : decode cX6_orderLine 8 = .ok (.sipush 999, 3) := by decide +kernel
theorem dX6_orderLine_11 : decode cX6_orderLine 11 = .ok (.iconst (-1), 1) := by decide +kernel
theorem dX6_orderLine_12 : decode cX6_orderLine 12 = .ok (.invokevirtual 225, 3) := by decide +kernel
theorem dX6_orderLine_15 : decode cX6_orderLine 15 = .ok (.istore_n 1, 1) := by decide +kernel
theorem dX6_orderLine_16 : decode cX6_orderLine 16 = .ok (.aload_n 0, 1) := by decide +kernel
theorem dX6_orderLine_17 : decode cX6_orderLine 17 = .ok (.getfield 67, 3) := by decide +kernel
theorem dX6_orderLine_20 : decode cX6_orderLine 20 = .ok (.sipush 257, 3) := by decide +kernel
theorem dX6_orderLine_23 : decode cX6_orderLine 23 = .ok (.if_icmp .ne 7, 3) := by decide +kernel
theorem dX6_orderLine_26 : decode cX6_orderLine 26 = .ok (.iconst 1, 1) := by decide +kernel
theorem dX6_orderLine_27 : decode cX6_orderLine 27 = .ok (.goto 4, 3) := by decide +kernel
theorem dX6_orderLine_30 : decode cX6_orderLine 30 = .ok (.iconst 0, 1) := by decide +kernel
theorem dX6_orderLine_31 : decode cX6_orderLine 31 = .ok (.istore_n 2, 1) := by decide +kernel
theorem dX6_orderLine_32 : decode cX6_orderLine 32 = .ok (.aload_n 0, 1) := by decide +kernel
theorem dX6_orderLine_33 : decode cX6_orderLine 33 = .ok (.iload_n 2, 1) := by decide +kernel
theorem dX6_orderLine_34 : decode cX6_orderLine 34 = .ok (.ifCond .eq 9, 3) := by decide +kernel
theorem dX6_orderLine_37 : decode cX6_orderLine 37 = .ok (.sipush 257, 3) := by decide +kernel
theorem dX6_orderLine_40 : decode cX6_orderLine 40 = .ok (.goto 6, 3) := by decide +kernel
theorem dX6_orderLine_43 : decode cX6_orderLine 43 = .ok (.sipush 258, 3) := by decide +kernel
theorem dX6_orderLine_46 : decode cX6_orderLine 46 = .ok (.invokevirtual 197, 3) := by decide +kernel
theorem dX6_orderLine_49 : decode cX6_orderLine 49 = .ok (.aload_n 0, 1) := by decide +kernel
theorem dX6_orderLine_50 : decode cX6_orderLine 50 = .ok (.iconst 1, 1) := by decide +kernel
theorem dX6_orderLine_51 : decode cX6_orderLine 51 = .ok (.iconst (-1), 1) := by decide +kernel
theorem dX6_orderLine_52 : decode cX6_orderLine 52 = .ok (.invokevirtual 225, 3) := by decide +kernel
theorem dX6_orderLine_55 : decode cX6_orderLine 55 = .ok (.istore_n 3, 1) := by decide +kernel
theorem dX6_orderLine_56 : decode cX6_orderLine 56 = .ok (.aload_n 0, 1) := by decide +kernel
theorem dX6_orderLine_57 : decode cX6_orderLine 57 = .ok (.bipush 59, 2) := by decide +kernel
theorem dX6_orderLine_59 : decode cX6_orderLine 59 = .ok (.invokevirtual 197, 3) := by decide +kernel
theorem dX6_orderLine_62 : decode cX6_orderLine 62 = .ok (.aload_n 0, 1) := by decide +kernel
theorem dX6_orderLine_63 : decode cX6_orderLine 63 = .ok (.getfield 57, 3) := by decide +kernel
theorem dX6_orderLine_66 : decode cX6_orderLine 66 = .ok (.ifCond .ne 13, 3) := by decide +kernel
theorem dX6_orderLine_69 : decode cX6_orderLine 69 = .ok (.aload_n 0, 1) := by decide +kernel
theorem dX6_orderLine_70 : decode cX6_orderLine 70 = .ok (.getfield 34, 3) := by decide +kernel
theorem dX6_orderLine_73 : decode cX6_orderLine 73 = .ok (.iload_n 1, 1) := by decide +kernel
theorem dX6_orderLine_74 : decode cX6_orderLine 74 = .ok (.iload_n 2, 1) := by decide +kernel
theorem dX6_orderLine_75 : decode cX6_orderLine 75 = .ok (.iload_n 3, 1) := by decide +kernel
theorem dX6_orderLine_76 : decode cX6_orderLine 76 = .ok (.invokevirtual 231, 3) := by decide +kernel
theorem dX6_orderLine_79 : decode cX6_orderLine 79 = .ok (.aload_n 0, 1) := by decide +kernel
theorem dX6_orderLine_80 : decode cX6_orderLine 80 = .ok (.dup, 1) := by decide +kernel
theorem dX6_orderLine_81 : decode cX6_orderLine 81 = .ok (.getfield 92, 3) := by decide +kernel
theorem dX6_orderLine_84 : decode cX6_orderLine 84 = .ok (.iconst 1, 1) := by decide +kernel
theorem dX6_orderLine_85 : decode cX6_orderLine 85 = .ok (.iadd, 1) := by decide +kernel
theorem dX6_orderLine_86 : decode cX6_orderLine 86 = .ok (.putfield 92, 3) := by decide +kernel
theorem dX6_orderLine_89 : decode cX6_orderLine 89 = .ok (.return_, 1) := by decide +kernel
theorem dX6_read_0 : decode cX6_read 0 = .ok (.aload_n 0, 1) := by decide +kernel
theorem dX6_read_1 : decode cX6_read 1 = .ok (.getfield 48, 3) := by decide +kernel
theorem dX6_read_4 : decode cX6_read 4 = .ok (.sipush 400, 3) := by decide +kernel
theorem dX6_read_7 : decode cX6_read 7 = .ok (.invokestatic 51, 3) := by decide +kernel
theorem dX6_read_10 : decode cX6_read 10 = .ok (.istore_n 3, 1) := by decide +kernel
theorem dX6_read_11 : decode cX6_read 11 = .ok (.aload_n 0, 1) := by decide +kernel
theorem dX6_read_12 : decode cX6_read 12 = .ok (.iconst 0, 1) := by decide +kernel
theorem dX6_read_13 : decode cX6_read 13 = .ok (.putfield 48, 3) := by decide +kernel
theorem dX6_read_16 : decode cX6_read 16 = .ok (.aload_n 0, 1) := by decide +kernel
theorem dX6_read_17 : decode cX6_read 17 = .ok (.iconst 0, 1) := by decide +kernel
theorem dX6_read_18 : decode cX6_read 18 = .ok (.putfield 57, 3) := by decide +kernel
theorem dX6_read_21 : decode cX6_read 21 = .ok (.aload_n 0, 1) := by decide +kernel
theorem dX6_read_22 : decode cX6_read 22 = .ok (.iconst (-1), 1) := by decide +kernel
theorem dX6_read_23 : decode cX6_read 23 = .ok (.putfield 44, 3) := by decide +kernel
theorem dX6_read_26 : decode cX6_read 26 = .ok (.iload_n 1, 1) := by decide +kernel
theorem dX6_read_27 : decode cX6_read 27 = .ok (.ifCond .lt 8, 3) := by decide +kernel
theorem dX6_read_30 : decode cX6_read 30 = .ok (.iload_n 1, 1) := by decide +kernel
theorem dX6_read_31 : decode cX6_read 31 = .ok (.iconst 3, 1) := by decide +kernel
theorem dX6_read_32 : decode cX6_read 32 = .ok (.if_icmp .le 5, 3) := by decide +kernel
theorem dX6_read_35 : decode cX6_read 35 = .ok (.iconst (-1), 1) := by decide +kernel
theorem dX6_read_36 : decode cX6_read 36 = .ok (.ireturn, 1) := by decide +kernel
theorem dX6_read_37 : decode cX6_read 37 = .ok (.aload_n 0, 1) := by decide +kernel
theorem dX6_read_38 : decode cX6_read 38 = .ok (.iload_n 3, 1) := by decide +kernel
theorem dX6_read_39 : decode cX6_read 39 = .ok (.iload_n 1, 1) := by decide +kernel
theorem dX6_read_40 : decode cX6_read 40 = .ok (.invokevirtual 60, 3) := by decide +kernel
theorem dX6_read_43 : decode cX6_read 43 = .ok (.aload_n 0, 1) := by decide +kernel
theorem dX6_read_44 : decode cX6_read 44 = .ok (.invokevirtual 64, 3) := by decide +kernel
theorem dX6_read_47 : decode cX6_read 47 = .ok (.iconst 0, 1) := by decide +kernel
theorem dX6_read_48 : decode cX6_read 48 = .ok (.istore 4, 2) := by decide +kernel
theorem dX6_read_50 : decode cX6_read 50 = .ok (.iload 4, 2) := by decide +kernel
theorem dX6_read_52 : decode cX6_read 52 = .ok (.sipush 400, 3) := by decide +kernel
theorem dX6_read_55 : decode cX6_read 55 = .ok (.if_icmp .gt 72, 3) := by decide +kernel
theorem dX6_read_58 : decode cX6_read 58 = .ok (.aload_n 0, 1) := by decide +kernel
theorem dX6_read_59 : decode cX6_read 59 = .ok (.getfield 67, 3) := by decide +kernel
theorem dX6_read_62 : decode cX6_read 62 = .ok (.ifCond .eq 65, 3) := by decide +kernel
theorem dX6_read_65 : decode cX6_read 65 = .ok (.iload_n 1, 1) := by decide +kernel
theorem dX6_read_66 : decode cX6_read 66 = .ok (.tableswitch 51 0 2 #[26, 33, 44], 26) := by decide +kernel
theorem dX6_read_92 : decode cX6_read 92 = .ok (.aload_n 0, 1) := by decide +kernel
theorem dX6_read_93 : decode cX6_read 93 = .ok (.invokevirtual 70, 3) := by decide +kernel
theorem dX6_read_96 : decode cX6_read 96 = .ok (.goto 25, 3) := by decide +kernel
theorem dX6_read_99 : decode cX6_read 99 = .ok (.aload_n 0, 1) := by decide +kernel
theorem dX6_read_100 : decode cX6_read 100 = .ok (.aload_n 2, 1) := by decide +kernel
theorem dX6_read_101 : decode cX6_read 101 = .ok (.getfield 73, 3) := by decide +kernel
theorem dX6_read_104 : decode cX6_read 104 = .ok (.invokevirtual 78, 3) := by decide +kernel
theorem dX6_read_107 : decode cX6_read 107 = .ok (.goto 14, 3) := by decide +kernel
theorem dX6_read_110 : decode cX6_read 110 = .ok (.aload_n 0, 1) := by decide +kernel
theorem dX6_read_111 : decode cX6_read 111 = .ok (.invokevirtual 82, 3) := by decide +kernel
theorem dX6_read_114 : decode cX6_read 114 = .ok (.goto 7, 3) := by decide +kernel
theorem dX6_read_117 : decode cX6_read 117 = .ok (.aload_n 0, 1) := by decide +kernel
theorem dX6_read_118 : decode cX6_read 118 = .ok (.invokevirtual 85, 3) := by decide +kernel
theorem dX6_read_121 : decode cX6_read 121 = .ok (.iinc 4 1, 3) := by decide +kernel
theorem dX6_read_124 : decode cX6_read 124 = .ok (.goto (-74), 3) := by decide +kernel
theorem dX6_read_127 : decode cX6_read 127 = .ok (.aload_n 0, 1) := by decide +kernel
theorem dX6_read_128 : decode cX6_read 128 = .ok (.getfield 57, 3) := by decide +kernel
theorem dX6_read_131 : decode cX6_read 131 = .ok (.ifCond .eq 5, 3) := by decide +kernel
theorem dX6_read_134 : decode cX6_read 134 = .ok (.iconst (-1), 1) := by decide +kernel
theorem dX6_read_135 : decode cX6_read 135 = .ok (.ireturn, 1) := by decide +kernel
theorem dX6_read_136 : decode cX6_read 136 = .ok (.aload_n 0, 1) := by decide +kernel
theorem dX6_read_137 : decode cX6_read 137 = .ok (.iload_n 1, 1) := by decide +kernel
theorem dX6_read_138 : decode cX6_read 138 = .ok (.aload_n 2, 1) := by decide +kernel
theorem dX6_read_139 : decode cX6_read 139 = .ok (.invokevirtual 88, 3) := by decide +kernel
theorem dX6_read_142 : decode cX6_read 142 = .ok (.aload_n 0, 1) := by decide +kernel
theorem dX6_read_143 : decode cX6_read 143 = .ok (.getfield 92, 3) := by decide +kernel
theorem dX6_read_146 : decode cX6_read 146 = .ok (.ireturn, 1) := by decide +kernel
theorem dX6_same_0 : decode cX6_same 0 = .ok (.iconst 0, 1) := by decide +kernel
theorem dX6_same_1 : decode cX6_same 1 = .ok (.istore 5, 2) := by decide +kernel
theorem dX6_same_3 : decode cX6_same 3 = .ok (.iload_n 3, 1) := by decide +kernel
theorem dX6_same_4 : decode cX6_same 4 = .ok (.iload 5, 2) := by decide +kernel
theorem dX6_same_6 : decode cX6_same 6 = .ok (.iadd, 1) := by decide +kernel
theorem dX6_same_7 : decode cX6_same 7 = .ok (.iload 4, 2) := by decide +kernel
theorem dX6_same_9 : decode cX6_same 9 = .ok (.if_icmp .ge 64, 3) := by decide +kernel
theorem dX6_same_12 : decode cX6_same 12 = .ok (.iload_n 2, 1) := by decide +kernel
theorem dX6_same_13 : decode cX6_same 13 = .ok (.iload 5, 2) := by decide +kernel
theorem dX6_same_15 : decode cX6_same 15 = .ok (.iadd, 1) := by decide +kernel
theorem dX6_same_16 : decode cX6_same 16 = .ok (.aload_n 1, 1) := by decide +kernel
theorem dX6_same_17 : decode cX6_same 17 = .ok (.invokevirtual 177, 3) := by decide +kernel
theorem dX6_same_20 : decode cX6_same 20 = .ok (.if_icmp .ge 17, 3) := by decide +kernel
theorem dX6_same_23 : decode cX6_same 23 = .ok (.iload_n 3, 1) := by decide +kernel
theorem dX6_same_24 : decode cX6_same 24 = .ok (.iload 5, 2) := by decide +kernel
theorem dX6_same_26 : decode cX6_same 26 = .ok (.iadd, 1) := by decide +kernel
theorem dX6_same_27 : decode cX6_same 27 = .ok (.sipush 400, 3) := by decide +kernel
theorem dX6_same_30 : decode cX6_same 30 = .ok (.if_icmp .ge 7, 3) := by decide +kernel
theorem dX6_same_33 : decode cX6_same 33 = .ok (.iconst 1, 1) := by decide +kernel
theorem dX6_same_34 : decode cX6_same 34 = .ok (.goto 4, 3) := by decide +kernel
theorem dX6_same_37 : decode cX6_same 37 = .ok (.iconst 0, 1) := by decide +kernel
theorem dX6_same_38 : decode cX6_same 38 = .ok (.istore 6, 2) := by decide +kernel
theorem dX6_same_40 : decode cX6_same 40 = .ok (.iload 6, 2) := by decide +kernel
theorem dX6_same_42 : decode cX6_same 42 = .ok (.ifCond .eq 23, 3) := by decide +kernel
theorem dX6_same_45 : decode cX6_same 45 = .ok (.aload_n 1, 1) := by decide +kernel
theorem dX6_same_46 : decode cX6_same 46 = .ok (.iload_n 2, 1) := by decide +kernel
theorem dX6_same_47 : decode cX6_same 47 = .ok (.iload 5, 2) := by decide +kernel
theorem dX6_same_49 : decode cX6_same 49 = .ok (.iadd, 1) := by decide +kernel
theorem dX6_same_50 : decode cX6_same 50 = .ok (.invokevirtual 180, 3) := by decide +kernel
theorem dX6_same_53 : decode cX6_same 53 = .ok (.aload_n 0, 1) := by decide +kernel
theorem dX6_same_54 : decode cX6_same 54 = .ok (.getfield 11, 3) := by decide +kernel
theorem dX6_same_57 : decode cX6_same 57 = .ok (.iload_n 3, 1) := by decide +kernel
theorem dX6_same_58 : decode cX6_same 58 = .ok (.iload 5, 2) := by decide +kernel
theorem dX6_same_60 : decode cX6_same 60 = .ok (.iadd, 1) := by decide +kernel
theorem dX6_same_61 : decode cX6_same 61 = .ok (.iaload, 1) := by decide +kernel
theorem dX6_same_62 : decode cX6_same 62 = .ok (.if_icmp .eq 5, 3) := by decide +kernel
theorem dX6_same_65 : decode cX6_same 65 = .ok (.iconst 0, 1) := by decide +kernel
theorem dX6_same_66 : decode cX6_same 66 = .ok (.ireturn, 1) := by decide +kernel
theorem dX6_same_67 : decode cX6_same 67 = .ok (.iinc 5 1, 3) := by decide +kernel
theorem dX6_same_70 : decode cX6_same 70 = .ok (.goto (-67), 3) := by decide +kernel
theorem dX6_same_73 : decode cX6_same 73 = .ok (.iconst 1, 1) := by decide +kernel
theorem dX6_same_74 : decode cX6_same 74 = .ok (.ireturn, 1) := by decide +kernel
theorem dX6_single_0 : decode cX6_single 0 = .ok (.iconst 0, 1) := by decide +kernel
theorem dX6_single_1 : decode cX6_single 1 = .ok (.istore_n 2, 1) := by decide +kernel
theorem dX6_single_2 : decode cX6_single 2 = .ok (.iload_n 1, 1) := by decide +kernel
theorem dX6_single_3 : decode cX6_single 3 = .ok (.iload_n 2, 1) := by decide +kernel
theorem dX6_single_4 : decode cX6_single 4 = .ok (.iadd, 1) := by decide +kernel
theorem dX6_single_5 : decode cX6_single 5 = .ok (.bipush 8, 2) := by decide +kernel
theorem dX6_single_7 : decode cX6_single 7 = .ok (.if_icmp .ge 19, 3) := by decide +kernel
theorem dX6_single_10 : decode cX6_single 10 = .ok (.aload_n 0, 1) := by decide +kernel
theorem dX6_single_11 : decode cX6_single 11 = .ok (.sipush 263, 3) := by decide +kernel
theorem dX6_single_14 : decode cX6_single 14 = .ok (.invokevirtual 191, 3) := by decide +kernel
theorem dX6_single_17 : decode cX6_single 17 = .ok (.ifCond .eq 9, 3) := by decide +kernel
theorem dX6_single_20 : decode cX6_single 20 = .ok (.iinc 2 1, 3) := by decide +kernel
theorem dX6_single_23 : decode cX6_single 23 = .ok (.goto (-21), 3) := by decide +kernel
theorem dX6_single_26 : decode cX6_single 26 = .ok (.aload_n 0, 1) := by decide +kernel
theorem dX6_single_27 : decode cX6_single 27 = .ok (.getfield 67, 3) := by decide +kernel
theorem dX6_single_30 : decode cX6_single 30 = .ok (.sipush 263, 3) := by decide +kernel
theorem dX6_single_33 : decode cX6_single 33 = .ok (.if_icmp .eq 12, 3) := by decide +kernel
theorem dX6_single_36 : decode cX6_single 36 = .ok (.aload_n 0, 1) := by decide +kernel
theorem dX6_single_37 : decode cX6_single 37 = .ok (.getfield 67, 3) := by decide +kernel
theorem dX6_single_40 : decode cX6_single 40 = .ok (.bipush 40, 2) := by decide +kernel
theorem dX6_single_42 : decode cX6_single 42 = .ok (.if_icmp .ne 19, 3) := by decide +kernel
theorem dX6_single_45 : decode cX6_single 45 = .ok (.iload_n 1, 1) := by decide +kernel
theorem dX6_single_46 : decode cX6_single 46 = .ok (.iload_n 2, 1) := by decide +kernel
theorem dX6_single_47 : decode cX6_single 47 = .ok (.iadd, 1) := by decide +kernel
theorem dX6_single_48 : decode cX6_single 48 = .ok (.bipush 8, 2) := by decide +kernel
theorem dX6_single_50 : decode cX6_single 50 = .ok (.if_icmp .lt 11, 3) := by decide +kernel
theorem dX6_single_53 : decode cX6_single 53 = .ok (.aload_n 0, 1) := by decide +kernel
theorem dX6_single_54 : decode cX6_single 54 = .ok (.iconst 3, 1) := by decide +kernel
theorem dX6_single_55 : decode cX6_single 55 = .ok (.invokevirtual 194, 3) := by decide +kernel
theorem dX6_single_58 : decode cX6_single 58 = .ok (.goto 108, 3) := by decide +kernel
theorem dX6_single_61 : decode cX6_single 61 = .ok (.aload_n 0, 1) := by decide +kernel
theorem dX6_single_62 : decode cX6_single 62 = .ok (.bipush 40, 2) := by decide +kernel
theorem dX6_single_64 : decode cX6_single 64 = .ok (.invokevirtual 191, 3) := by decide +kernel
theorem dX6_single_67 : decode cX6_single 67 = .ok (.ifCond .eq 21, 3) := by decide +kernel
theorem dX6_single_70 : decode cX6_single 70 = .ok (.aload_n 0, 1) := by decide +kernel
theorem dX6_single_71 : decode cX6_single 71 = .ok (.iload_n 1, 1) := by decide +kernel
theorem dX6_single_72 : decode cX6_single 72 = .ok (.iload_n 2, 1) := by decide +kernel
theorem dX6_single_73 : decode cX6_single 73 = .ok (.iadd, 1) := by decide +kernel
theorem dX6_single_74 : decode cX6_single 74 = .ok (.iconst 1, 1) := by decide +kernel
theorem dX6_single_75 : decode cX6_single 75 = .ok (.iadd, 1) := by decide +kernel
theorem dX6_single_76 : decode cX6_single 76 = .ok (.invokevirtual 210, 3) := by decide +kernel
theorem dX6_single_79 : decode cX6_single 79 = .ok (.aload_n 0, 1) := by decide +kernel
theorem dX6_single_80 : decode cX6_single 80 = .ok (.bipush 41, 2) := by decide +kernel
theorem dX6_single_82 : decode cX6_single 82 = .ok (.invokevirtual 197, 3) := by decide +kernel
theorem dX6_single_85 : decode cX6_single 85 = .ok (.goto 81, 3) := by decide +kernel
theorem dX6_single_88 : decode cX6_single 88 = .ok (.aload_n 0, 1) := by decide +kernel
theorem dX6_single_89 : decode cX6_single 89 = .ok (.invokevirtual 204, 3) := by decide +kernel
theorem dX6_single_92 : decode cX6_single 92 = .ok (.aload_n 0, 1) := by decide +kernel
theorem dX6_single_93 : decode cX6_single 93 = .ok (.getfield 67, 3) := by decide +kernel
theorem dX6_single_96 : decode cX6_single 96 = .ok (.bipush 60, 2) := by decide +kernel
theorem dX6_single_98 : decode cX6_single 98 = .ok (.if_icmp .ne 8, 3) := by decide +kernel
theorem dX6_single_101 : decode cX6_single 101 = .ok (.bipush (-14), 2) := by decide +kernel
theorem dX6_single_103 : decode cX6_single 103 = .ok (.goto 19, 3) := by decide +kernel
theorem dX6_single_106 : decode cX6_single 106 = .ok (.aload_n 0, 1) := by decide +kernel
theorem dX6_single_107 : decode cX6_single 107 = .ok (.getfield 67, 3) := by decide +kernel
theorem dX6_single_110 : decode cX6_single 110 = .ok (.bipush 61, 2) := by decide +kernel
theorem dX6_single_112 : decode cX6_single 112 = .ok (.if_icmp .ne 8, 3) := by decide +kernel
theorem dX6_single_115 : decode cX6_single 115 = .ok (.bipush (-15), 2) := by decide +kernel
theorem dX6_single_117 : decode cX6_single 117 = .ok (.goto 5, 3) := by decide +kernel
theorem dX6_single_120 : decode cX6_single 120 = .ok (.bipush (-16), 2) := by decide +kernel
theorem dX6_single_122 : decode cX6_single 122 = .ok (.istore_n 3, 1) := by decide +kernel
theorem dX6_single_123 : decode cX6_single 123 = .ok (.aload_n 0, 1) := by decide +kernel
theorem dX6_single_124 : decode cX6_single 124 = .ok (.aload_n 0, 1) := by decide +kernel
theorem dX6_single_125 : decode cX6_single 125 = .ok (.getfield 67, 3) := by decide +kernel
theorem dX6_single_128 : decode cX6_single 128 = .ok (.bipush 60, 2) := by decide +kernel
theorem dX6_single_130 : decode cX6_single 130 = .ok (.if_icmp .eq 12, 3) := by decide +kernel
theorem dX6_single_133 : decode cX6_single 133 = .ok (.aload_n 0, 1) := by decide +kernel
theorem dX6_single_134 : decode cX6_single 134 = .ok (.getfield 67, 3) := by decide +kernel
theorem dX6_single_137 : decode cX6_single 137 = .ok (.bipush 61, 2) := by decide +kernel
theorem dX6_single_139 : decode cX6_single 139 = .ok (.if_icmp .ne 10, 3) := by decide +kernel
theorem dX6_single_142 : decode cX6_single 142 = .ok (.aload_n 0, 1) := by decide +kernel
theorem dX6_single_143 : decode cX6_single 143 = .ok (.getfield 67, 3) := by decide +kernel
theorem dX6_single_146 : decode cX6_single 146 = .ok (.goto 5, 3) := by decide +kernel
theorem dX6_single_149 : decode cX6_single 149 = .ok (.bipush 62, 2) := by decide +kernel
theorem dX6_single_151 : decode cX6_single 151 = .ok (.invokevirtual 197, 3) := by decide +kernel
theorem dX6_single_154 : decode cX6_single 154 = .ok (.aload_n 0, 1) := by decide +kernel
theorem dX6_single_155 : decode cX6_single 155 = .ok (.invokevirtual 204, 3) := by decide +kernel
theorem dX6_single_158 : decode cX6_single 158 = .ok (.aload_n 0, 1) := by decide +kernel
theorem dX6_single_159 : decode cX6_single 159 = .ok (.getfield 27, 3) := by decide +kernel
theorem dX6_single_162 : decode cX6_single 162 = .ok (.iload_n 3, 1) := by decide +kernel
theorem dX6_single_163 : decode cX6_single 163 = .ok (.invokevirtual 219, 3) := by decide +kernel
theorem dX6_single_166 : decode cX6_single 166 = .ok (.iconst 0, 1) := by decide +kernel
theorem dX6_single_167 : decode cX6_single 167 = .ok (.istore_n 3, 1) := by decide +kernel
theorem dX6_single_168 : decode cX6_single 168 = .ok (.iload_n 3, 1) := by decide +kernel
theorem dX6_single_169 : decode cX6_single 169 = .ok (.iload_n 2, 1) := by decide +kernel
theorem dX6_single_170 : decode cX6_single 170 = .ok (.if_icmp .ge 24, 3) := by decide +kernel
theorem dX6_single_173 : decode cX6_single 173 = .ok (.iload_n 3, 1) := by decide +kernel
theorem dX6_single_174 : decode cX6_single 174 = .ok (.bipush 8, 2) := by decide +kernel
theorem dX6_single_176 : decode cX6_single 176 = .ok (.if_icmp .ge 18, 3) := by decide +kernel
theorem dX6_single_179 : decode cX6_single 179 = .ok (.aload_n 0, 1) := by decide +kernel
theorem dX6_single_180 : decode cX6_single 180 = .ok (.getfield 27, 3) := by decide +kernel
theorem dX6_single_183 : decode cX6_single 183 = .ok (.bipush (-19), 2) := by decide +kernel
theorem dX6_single_185 : decode cX6_single 185 = .ok (.invokevirtual 219, 3) := by decide +kernel
theorem dX6_single_188 : decode cX6_single 188 = .ok (.iinc 3 1, 3) := by decide +kernel
theorem dX6_single_191 : decode cX6_single 191 = .ok (.goto (-23), 3) := by decide +kernel
theorem dX6_single_194 : decode cX6_single 194 = .ok (.return_, 1) := by decide +kernel
theorem dX6_sum_0 : decode cX6_sum 0 = .ok (.iconst 0, 1) := by decide +kernel
theorem dX6_sum_1 : decode cX6_sum 1 = .ok (.istore_n 1, 1) := by decide +kernel
theorem dX6_sum_2 : decode cX6_sum 2 = .ok (.iconst 1, 1) := by decide +kernel
theorem dX6_sum_3 : decode cX6_sum 3 = .ok (.istore_n 2, 1) := by decide +kernel
theorem dX6_sum_4 : decode cX6_sum 4 = .ok (.iconst 0, 1) := by decide +kernel
theorem dX6_sum_5 : decode cX6_sum 5 = .ok (.istore_n 3, 1) := by decide +kernel
theorem dX6_sum_6 : decode cX6_sum 6 = .ok (.iload_n 3, 1) := by decide +kernel
theorem dX6_sum_7 : decode cX6_sum 7 = .ok (.sipush 400, 3) := by decide +kernel
theorem dX6_sum_10 : decode cX6_sum 10 = .ok (.if_icmp .gt 168, 3) := by decide +kernel
theorem dX6_sum_13 : decode cX6_sum 13 = .ok (.iload_n 2, 1) := by decide +kernel
theorem dX6_sum_14 : decode cX6_sum 14 = .ok (.ifCond .eq 164, 3) := by decide +kernel
theorem dX6_sum_17 : decode cX6_sum 17 = .ok (.aload_n 0, 1) := by decide +kernel
theorem dX6_sum_18 : decode cX6_sum 18 = .ok (.invokevirtual 222, 3) := by decide +kernel
theorem dX6_sum_21 : decode cX6_sum 21 = .ok (.iconst 0, 1) := by decide +kernel
theorem dX6_sum_22 : decode cX6_sum 22 = .ok (.istore 4, 2) := by decide +kernel
theorem dX6_sum_24 : decode cX6_sum 24 = .ok (.iload 4, 2) := by decide +kernel
theorem dX6_sum_26 : decode cX6_sum 26 = .ok (.sipush 400, 3) := by decide +kernel
theorem dX6_sum_29 : decode cX6_sum 29 = .ok (.if_icmp .gt 90, 3) := by decide +kernel
theorem dX6_sum_32 : decode cX6_sum 32 = .ok (.aload_n 0, 1) := by decide +kernel
theorem dX6_sum_33 : decode cX6_sum 33 = .ok (.getfield 67, 3) := by decide +kernel
theorem dX6_sum_36 : decode cX6_sum 36 = .ok (.bipush 42, 2) := by decide +kernel
theorem dX6_sum_38 : decode cX6_sum 38 = .ok (.if_icmp .eq 12, 3) := by decide +kernel
theorem dX6_sum_41 : decode cX6_sum 41 = .ok (.aload_n 0, 1) := by decide +kernel
theorem dX6_sum_42 : decode cX6_sum 42 = .ok (.getfield 67, 3) := by decide +kernel
theorem dX6_sum_45 : decode cX6_sum 45 = .ok (.bipush 47, 2) := by decide +kernel
theorem dX6_sum_47 : decode cX6_sum 47 = .ok (.if_icmp .ne 72, 3) := by decide +kernel
theorem dX6_sum_50 : decode cX6_sum 50 = .ok (.aload_n 0, 1) := by decide +kernel
theorem dX6_sum_51 : decode cX6_sum 51 = .ok (.bipush 42, 2) := by decide +kernel
theorem dX6_sum_53 : decode cX6_sum 53 = .ok (.invokevirtual 191, 3) := by decide +kernel
theorem dX6_sum_56 : decode cX6_sum 56 = .ok (.ifCond .eq 19, 3) := by decide +kernel
theorem dX6_sum_59 : decode cX6_sum 59 = .ok (.aload_n 0, 1) := by decide +kernel
theorem dX6_sum_60 : decode cX6_sum 60 = .ok (.invokevirtual 222, 3) := by decide +kernel
theorem dX6_sum_63 : decode cX6_sum 63 = .ok (.aload_n 0, 1) := by decide +kernel
theorem dX6_sum_64 : decode cX6_sum 64 = .ok (.getfield 27, 3) := by decide +kernel
theorem dX6_sum_67 : decode cX6_sum 67 = .ok (.bipush (-12), 2) := by decide +kernel
theorem dX6_sum_69 : decode cX6_sum 69 = .ok (.invokevirtual 219, 3) := by decide +kernel
theorem dX6_sum_72 : decode cX6_sum 72 = .ok (.goto 41, 3) := by decide +kernel
theorem dX6_sum_75 : decode cX6_sum 75 = .ok (.aload_n 0, 1) := by decide +kernel
theorem dX6_sum_76 : decode cX6_sum 76 = .ok (.aload_n 0, 1) := by decide +kernel
theorem dX6_sum_77 : decode cX6_sum 77 = .ok (.getfield 188, 3) := by decide +kernel
theorem dX6_sum_80 : decode cX6_sum 80 = .ok (.iconst 1, 1) := by decide +kernel
theorem dX6_sum_81 : decode cX6_sum 81 = .ok (.iadd, 1) := by decide +kernel
theorem dX6_sum_82 : decode cX6_sum 82 = .ok (.invokevirtual 95, 3) := by decide +kernel
theorem dX6_sum_85 : decode cX6_sum 85 = .ok (.aload_n 0, 1) := by decide +kernel
theorem dX6_sum_86 : decode cX6_sum 86 = .ok (.getfield 27, 3) := by decide +kernel
theorem dX6_sum_89 : decode cX6_sum 89 = .ok (.iconst 0, 1) := by decide +kernel
theorem dX6_sum_90 : decode cX6_sum 90 = .ok (.aload_n 0, 1) := by decide +kernel
theorem dX6_sum_91 : decode cX6_sum 91 = .ok (.sipush 9999, 3) := by decide +kernel
theorem dX6_sum_94 : decode cX6_sum 94 = .ok (.iconst 0, 1) := by decide +kernel
theorem dX6_sum_95 : decode cX6_sum 95 = .ok (.invokevirtual 225, 3) := by decide +kernel
theorem dX6_sum_98 : decode cX6_sum 98 = .ok (.invokestatic 174, 3) := by decide +kernel
theorem dX6_sum_101 : decode cX6_sum 101 = .ok (.invokevirtual 219, 3) := by decide +kernel
theorem dX6_sum_104 : decode cX6_sum 104 = .ok (.aload_n 0, 1) := by decide +kernel
theorem dX6_sum_105 : decode cX6_sum 105 = .ok (.getfield 27, 3) := by decide +kernel
theorem dX6_sum_108 : decode cX6_sum 108 = .ok (.bipush (-13), 2) := by decide +kernel
theorem dX6_sum_110 : decode cX6_sum 110 = .ok (.invokevirtual 219, 3) := by decide +kernel
theorem dX6_sum_113 : decode cX6_sum 113 = .ok (.iinc 4 1, 3) := by decide +kernel
theorem dX6_sum_116 : decode cX6_sum 116 = .ok (.goto (-92), 3) := by decide +kernel
theorem dX6_sum_119 : decode cX6_sum 119 = .ok (.iload_n 1, 1) := by decide +kernel
theorem dX6_sum_120 : decode cX6_sum 120 = .ok (.ifCond .eq 11, 3) := by decide +kernel
theorem dX6_sum_123 : decode cX6_sum 123 = .ok (.aload_n 0, 1) := by decide +kernel
theorem dX6_sum_124 : decode cX6_sum 124 = .ok (.getfield 27, 3) := by decide +kernel
theorem dX6_sum_127 : decode cX6_sum 127 = .ok (.iload_n 1, 1) := by decide +kernel
theorem dX6_sum_128 : decode cX6_sum 128 = .ok (.invokevirtual 219, 3) := by decide +kernel
theorem dX6_sum_131 : decode cX6_sum 131 = .ok (.aload_n 0, 1) := by decide +kernel
theorem dX6_sum_132 : decode cX6_sum 132 = .ok (.getfield 67, 3) := by decide +kernel
theorem dX6_sum_135 : decode cX6_sum 135 = .ok (.bipush 43, 2) := by decide +kernel
theorem dX6_sum_137 : decode cX6_sum 137 = .ok (.if_icmp .ne 8, 3) := by decide +kernel
theorem dX6_sum_140 : decode cX6_sum 140 = .ok (.bipush (-10), 2) := by decide +kernel
theorem dX6_sum_142 : decode cX6_sum 142 = .ok (.goto 5, 3) := by decide +kernel
theorem dX6_sum_145 : decode cX6_sum 145 = .ok (.bipush (-11), 2) := by decide +kernel
theorem dX6_sum_147 : decode cX6_sum 147 = .ok (.istore_n 1, 1) := by decide +kernel
theorem dX6_sum_148 : decode cX6_sum 148 = .ok (.aload_n 0, 1) := by decide +kernel
theorem dX6_sum_149 : decode cX6_sum 149 = .ok (.bipush 43, 2) := by decide +kernel
theorem dX6_sum_151 : decode cX6_sum 151 = .ok (.invokevirtual 191, 3) := by decide +kernel
theorem dX6_sum_154 : decode cX6_sum 154 = .ok (.ifCond .ne 12, 3) := by decide +kernel
theorem dX6_sum_157 : decode cX6_sum 157 = .ok (.aload_n 0, 1) := by decide +kernel
theorem dX6_sum_158 : decode cX6_sum 158 = .ok (.bipush 45, 2) := by decide +kernel
theorem dX6_sum_160 : decode cX6_sum 160 = .ok (.invokevirtual 191, 3) := by decide +kernel
theorem dX6_sum_163 : decode cX6_sum 163 = .ok (.ifCond .eq 7, 3) := by decide +kernel
theorem dX6_sum_166 : decode cX6_sum 166 = .ok (.iconst 1, 1) := by decide +kernel
theorem dX6_sum_167 : decode cX6_sum 167 = .ok (.goto 4, 3) := by decide +kernel
theorem dX6_sum_170 : decode cX6_sum 170 = .ok (.iconst 0, 1) := by decide +kernel
theorem dX6_sum_171 : decode cX6_sum 171 = .ok (.istore_n 2, 1) := by decide +kernel
theorem dX6_sum_172 : decode cX6_sum 172 = .ok (.iinc 3 1, 3) := by decide +kernel
theorem dX6_sum_175 : decode cX6_sum 175 = .ok (.goto (-169), 3) := by decide +kernel
theorem dX6_sum_178 : decode cX6_sum 178 = .ok (.return_, 1) := by decide +kernel
theorem dX6_take_0 : decode cX6_take 0 = .ok (.aload_n 0, 1) := by decide +kernel
theorem dX6_take_1 : decode cX6_take 1 = .ok (.getfield 67, 3) := by decide +kernel
theorem dX6_take_4 : decode cX6_take 4 = .ok (.iload_n 1, 1) := by decide +kernel
theorem dX6_take_5 : decode cX6_take 5 = .ok (.if_icmp .eq 5, 3) := by decide +kernel
theorem dX6_take_8 : decode cX6_take 8 = .ok (.iconst 0, 1) := by decide +kernel
theorem dX6_take_9 : decode cX6_take 9 = .ok (.ireturn, 1) := by decide +kernel
theorem dX6_take_10 : decode cX6_take 10 = .ok (.aload_n 0, 1) := by decide +kernel
theorem dX6_take_11 : decode cX6_take 11 = .ok (.aload_n 0, 1) := by decide +kernel
theorem dX6_take_12 : decode cX6_take 12 = .ok (.getfield 188, 3) := by decide +kernel
theorem dX6_take_15 : decode cX6_take 15 = .ok (.iconst 1, 1) := by decide +kernel
theorem dX6_take_16 : decode cX6_take 16 = .ok (.iadd, 1) := by decide +kernel
theorem dX6_take_17 : decode cX6_take 17 = .ok (.invokevirtual 95, 3) := by decide +kernel
theorem dX6_take_20 : decode cX6_take 20 = .ok (.iconst 1, 1) := by decide +kernel
theorem dX6_take_21 : decode cX6_take 21 = .ok (.ireturn, 1) := by decide +kernel
theorem dX6_tellingLine_0 : decode cX6_tellingLine 0 = .ok (.aload_n 0, 1) := by decide +kernel
theorem dX6_tellingLine_1 : decode cX6_tellingLine 1 = .ok (.getfield 188, 3) := by decide +kernel
theorem dX6_tellingLine_4 : decode cX6_tellingLine 4 = .ok (.istore_n 2, 1) := by decide +kernel
theorem dX6_tellingLine_5 : decode cX6_tellingLine 5 = .ok (.aload_n 0, 1) := by decide +kernel
theorem dX6_tellingLine_6 : decode cX6_tellingLine 6 = .ok (.iload_n 1, 1) := by decide +kernel
theorem dX6_tellingLine_7 : decode cX6_tellingLine 7 = .ok (.iconst 1, 1) := by decide +kernel
theorem dX6_tellingLine_8 : decode cX6_tellingLine 8 = .ok (.isub, 1) := by decide +kernel
theorem dX6_tellingLine_9 : decode cX6_tellingLine 9 = .ok (.iconst (-1), 1) := by decide +kernel
theorem dX6_tellingLine_10 : decode cX6_tellingLine 10 = .ok (.invokevirtual 225, 3) := by decide +kernel
theorem dX6_tellingLine_13 : decode cX6_tellingLine 13 = .ok (.istore_n 3, 1) := by decide +kernel
theorem dX6_tellingLine_14 : decode cX6_tellingLine 14 = .ok (.iload_n 3, 1) := by decide +kernel
theorem dX6_tellingLine_15 : decode cX6_tellingLine 15 = .ok (.iconst (-1), 1) := by decide +kernel
theorem dX6_tellingLine_16 : decode cX6_tellingLine 16 = .ok (.if_icmp .eq 22, 3) := by decide +kernel
theorem dX6_tellingLine_19 : decode cX6_tellingLine 19 = .ok (.aload_n 0, 1) := by decide +kernel
theorem dX6_tellingLine_20 : decode cX6_tellingLine 20 = .ok (.getfield 92, 3) := by decide +kernel
theorem dX6_tellingLine_23 : decode cX6_tellingLine 23 = .ok (.bipush 16, 2) := by decide +kernel
theorem dX6_tellingLine_25 : decode cX6_tellingLine 25 = .ok (.if_icmp .ne 13, 3) := by decide +kernel
theorem dX6_tellingLine_28 : decode cX6_tellingLine 28 = .ok (.aload_n 0, 1) := by decide +kernel
theorem dX6_tellingLine_29 : decode cX6_tellingLine 29 = .ok (.iload_n 2, 1) := by decide +kernel
theorem dX6_tellingLine_30 : decode cX6_tellingLine 30 = .ok (.invokevirtual 95, 3) := by decide +kernel
theorem dX6_tellingLine_33 : decode cX6_tellingLine 33 = .ok (.aload_n 0, 1) := by decide +kernel
theorem dX6_tellingLine_34 : decode cX6_tellingLine 34 = .ok (.iconst 3, 1) := by decide +kernel
theorem dX6_tellingLine_35 : decode cX6_tellingLine 35 = .ok (.invokevirtual 194, 3) := by decide +kernel
theorem dX6_tellingLine_38 : decode cX6_tellingLine 38 = .ok (.aload_n 0, 1) := by decide +kernel
theorem dX6_tellingLine_39 : decode cX6_tellingLine 39 = .ok (.sipush 256, 3) := by decide +kernel
theorem dX6_tellingLine_42 : decode cX6_tellingLine 42 = .ok (.invokevirtual 197, 3) := by decide +kernel
theorem dX6_tellingLine_45 : decode cX6_tellingLine 45 = .ok (.iconst 0, 1) := by decide +kernel
theorem dX6_tellingLine_46 : decode cX6_tellingLine 46 = .ok (.istore 4, 2) := by decide +kernel
theorem dX6_tellingLine_48 : decode cX6_tellingLine 48 = .ok (.iconst 1, 1) := by decide +kernel
theorem dX6_tellingLine_49 : decode cX6_tellingLine 49 = .ok (.istore 5, 2) := by decide +kernel
theorem dX6_tellingLine_51 : decode cX6_tellingLine 51 = .ok (.iconst 0, 1) := by decide +kernel
theorem dX6_tellingLine_52 : decode cX6_tellingLine 52 = .ok (.istore 6, 2) := by decide +kernel
theorem dX6_tellingLine_54 : decode cX6_tellingLine 54 = .ok (.iload 6, 2) := by decide +kernel
theorem dX6_tellingLine_56 : decode cX6_tellingLine 56 = .ok (.sipush 400, 3) := by decide +kernel
theorem dX6_tellingLine_59 : decode cX6_tellingLine 59 = .ok (.if_icmp .ge 58, 3) := by decide +kernel
theorem dX6_tellingLine_62 : decode cX6_tellingLine 62 = .ok (.iload 5, 2) := by decide +kernel
theorem dX6_tellingLine_64 : decode cX6_tellingLine 64 = .ok (.ifCond .eq 53, 3) := by decide +kernel
theorem dX6_tellingLine_67 : decode cX6_tellingLine 67 = .ok (.aload_n 0, 1) := by decide +kernel
theorem dX6_tellingLine_68 : decode cX6_tellingLine 68 = .ok (.iload_n 1, 1) := by decide +kernel
theorem dX6_tellingLine_69 : decode cX6_tellingLine 69 = .ok (.iconst 1, 1) := by decide +kernel
theorem dX6_tellingLine_70 : decode cX6_tellingLine 70 = .ok (.isub, 1) := by decide +kernel
theorem dX6_tellingLine_71 : decode cX6_tellingLine 71 = .ok (.iload_n 3, 1) := by decide +kernel
theorem dX6_tellingLine_72 : decode cX6_tellingLine 72 = .ok (.invokevirtual 225, 3) := by decide +kernel
theorem dX6_tellingLine_75 : decode cX6_tellingLine 75 = .ok (.istore 7, 2) := by decide +kernel
theorem dX6_tellingLine_77 : decode cX6_tellingLine 77 = .ok (.iload 4, 2) := by decide +kernel
theorem dX6_tellingLine_79 : decode cX6_tellingLine 79 = .ok (.iload 7, 2) := by decide +kernel
theorem dX6_tellingLine_81 : decode cX6_tellingLine 81 = .ok (.ifCond .lt 17, 3) := by decide +kernel
theorem dX6_tellingLine_84 : decode cX6_tellingLine 84 = .ok (.iload 7, 2) := by decide +kernel
theorem dX6_tellingLine_86 : decode cX6_tellingLine 86 = .ok (.bipush 12, 2) := by decide +kernel
theorem dX6_tellingLine_88 : decode cX6_tellingLine 88 = .ok (.if_icmp .ge 10, 3) := by decide +kernel
theorem dX6_tellingLine_91 : decode cX6_tellingLine 91 = .ok (.iconst 1, 1) := by decide +kernel
theorem dX6_tellingLine_92 : decode cX6_tellingLine 92 = .ok (.iload 7, 2) := by decide +kernel
theorem dX6_tellingLine_94 : decode cX6_tellingLine 94 = .ok (.ishl, 1) := by decide +kernel
theorem dX6_tellingLine_95 : decode cX6_tellingLine 95 = .ok (.goto 4, 3) := by decide +kernel
theorem dX6_tellingLine_98 : decode cX6_tellingLine 98 = .ok (.iconst 0, 1) := by decide +kernel
theorem dX6_tellingLine_99 : decode cX6_tellingLine 99 = .ok (.ior, 1) := by decide +kernel
theorem dX6_tellingLine_100 : decode cX6_tellingLine 100 = .ok (.istore 4, 2) := by decide +kernel
theorem dX6_tellingLine_102 : decode cX6_tellingLine 102 = .ok (.aload_n 0, 1) := by decide +kernel
theorem dX6_tellingLine_103 : decode cX6_tellingLine 103 = .ok (.sipush 257, 3) := by decide +kernel
theorem dX6_tellingLine_106 : decode cX6_tellingLine 106 = .ok (.invokevirtual 191, 3) := by decide +kernel
theorem dX6_tellingLine_109 : decode cX6_tellingLine 109 = .ok (.istore 5, 2) := by decide +kernel
theorem dX6_tellingLine_111 : decode cX6_tellingLine 111 = .ok (.iinc 6 1, 3) := by decide +kernel
theorem dX6_tellingLine_114 : decode cX6_tellingLine 114 = .ok (.goto (-60), 3) := by decide +kernel
theorem dX6_tellingLine_117 : decode cX6_tellingLine 117 = .ok (.aload_n 0, 1) := by decide +kernel
theorem dX6_tellingLine_118 : decode cX6_tellingLine 118 = .ok (.bipush 59, 2) := by decide +kernel
theorem dX6_tellingLine_120 : decode cX6_tellingLine 120 = .ok (.invokevirtual 197, 3) := by decide +kernel
theorem dX6_tellingLine_123 : decode cX6_tellingLine 123 = .ok (.aload_n 0, 1) := by decide +kernel
theorem dX6_tellingLine_124 : decode cX6_tellingLine 124 = .ok (.getfield 57, 3) := by decide +kernel
theorem dX6_tellingLine_127 : decode cX6_tellingLine 127 = .ok (.ifCond .ne 24, 3) := by decide +kernel
theorem dX6_tellingLine_130 : decode cX6_tellingLine 130 = .ok (.iload_n 3, 1) := by decide +kernel
theorem dX6_tellingLine_131 : decode cX6_tellingLine 131 = .ok (.ifCond .lt 20, 3) := by decide +kernel
theorem dX6_tellingLine_134 : decode cX6_tellingLine 134 = .ok (.iload_n 3, 1) := by decide +kernel
theorem dX6_tellingLine_135 : decode cX6_tellingLine 135 = .ok (.bipush 12, 2) := by decide +kernel
theorem dX6_tellingLine_137 : decode cX6_tellingLine 137 = .ok (.if_icmp .ge 14, 3) := by decide +kernel
theorem dX6_tellingLine_140 : decode cX6_tellingLine 140 = .ok (.aload_n 0, 1) := by decide +kernel
theorem dX6_tellingLine_141 : decode cX6_tellingLine 141 = .ok (.getfield 38, 3) := by decide +kernel
theorem dX6_tellingLine_144 : decode cX6_tellingLine 144 = .ok (.iload_n 3, 1) := by decide +kernel
theorem dX6_tellingLine_145 : decode cX6_tellingLine 145 = .ok (.dup2, 1) := by decide +kernel
theorem dX6_tellingLine_146 : decode cX6_tellingLine 146 = .ok (.iaload, 1) := by decide +kernel
theorem dX6_tellingLine_147 : decode cX6_tellingLine 147 = .ok (.iload 4, 2) := by decide +kernel
theorem dX6_tellingLine_149 : decode cX6_tellingLine 149 = .ok (.ior, 1) := by decide +kernel
theorem dX6_tellingLine_150 : decode cX6_tellingLine 150 = .ok (.iastore, 1) := by decide +kernel
theorem dX6_tellingLine_151 : decode cX6_tellingLine 151 = .ok (.aload_n 0, 1) := by decide +kernel
theorem dX6_tellingLine_152 : decode cX6_tellingLine 152 = .ok (.dup, 1) := by decide +kernel
theorem dX6_tellingLine_153 : decode cX6_tellingLine 153 = .ok (.getfield 92, 3) := by decide +kernel
theorem dX6_tellingLine_156 : decode cX6_tellingLine 156 = .ok (.iconst 1, 1) := by decide +kernel
theorem dX6_tellingLine_157 : decode cX6_tellingLine 157 = .ok (.iadd, 1) := by decide +kernel
theorem dX6_tellingLine_158 : decode cX6_tellingLine 158 = .ok (.putfield 92, 3) := by decide +kernel
theorem dX6_tellingLine_161 : decode cX6_tellingLine 161 = .ok (.return_, 1) := by decide +kernel
theorem dX6_token_0 : decode cX6_token 0 = .ok (.aload_n 0, 1) := by decide +kernel
theorem dX6_token_1 : decode cX6_token 1 = .ok (.getfield 135, 3) := by decide +kernel
theorem dX6_token_4 : decode cX6_token 4 = .ok (.ifCond .lt 55, 3) := by decide +kernel
theorem dX6_token_7 : decode cX6_token 7 = .ok (.aload_n 0, 1) := by decide +kernel
theorem dX6_token_8 : decode cX6_token 8 = .ok (.getfield 135, 3) := by decide +kernel
theorem dX6_token_11 : decode cX6_token 11 = .ok (.aload_n 0, 1) := by decide +kernel
theorem dX6_token_12 : decode cX6_token 12 = .ok (.getfield 15, 3) := by decide +kernel
theorem dX6_token_15 : decode cX6_token 15 = .ok (.arraylength, 1) := by decide +kernel
theorem dX6_token_16 : decode cX6_token 16 = .ok (.if_icmp .ge 43, 3) := by decide +kernel
theorem dX6_token_19 : decode cX6_token 19 = .ok (.aload_n 0, 1) := by decide +kernel
theorem dX6_token_20 : decode cX6_token 20 = .ok (.getfield 15, 3) := by decide +kernel
theorem dX6_token_23 : decode cX6_token 23 = .ok (.aload_n 0, 1) := by decide +kernel
theorem dX6_token_24 : decode cX6_token 24 = .ok (.getfield 135, 3) := by decide +kernel
theorem dX6_token_27 : decode cX6_token 27 = .ok (.iload_n 1, 1) := by decide +kernel
theorem dX6_token_28 : decode cX6_token 28 = .ok (.iastore, 1) := by decide +kernel
theorem dX6_token_29 : decode cX6_token 29 = .ok (.aload_n 0, 1) := by decide +kernel
theorem dX6_token_30 : decode cX6_token 30 = .ok (.getfield 18, 3) := by decide +kernel
theorem dX6_token_33 : decode cX6_token 33 = .ok (.aload_n 0, 1) := by decide +kernel
theorem dX6_token_34 : decode cX6_token 34 = .ok (.getfield 135, 3) := by decide +kernel
theorem dX6_token_37 : decode cX6_token 37 = .ok (.iload_n 2, 1) := by decide +kernel
theorem dX6_token_38 : decode cX6_token 38 = .ok (.iastore, 1) := by decide +kernel
theorem dX6_token_39 : decode cX6_token 39 = .ok (.aload_n 0, 1) := by decide +kernel
theorem dX6_token_40 : decode cX6_token 40 = .ok (.getfield 21, 3) := by decide +kernel
theorem dX6_token_43 : decode cX6_token 43 = .ok (.aload_n 0, 1) := by decide +kernel
theorem dX6_token_44 : decode cX6_token 44 = .ok (.getfield 135, 3) := by decide +kernel
theorem dX6_token_47 : decode cX6_token 47 = .ok (.iload_n 3, 1) := by decide +kernel
theorem dX6_token_48 : decode cX6_token 48 = .ok (.iastore, 1) := by decide +kernel
theorem dX6_token_49 : decode cX6_token 49 = .ok (.aload_n 0, 1) := by decide +kernel
theorem dX6_token_50 : decode cX6_token 50 = .ok (.dup, 1) := by decide +kernel
theorem dX6_token_51 : decode cX6_token 51 = .ok (.getfield 135, 3) := by decide +kernel
theorem dX6_token_54 : decode cX6_token 54 = .ok (.iconst 1, 1) := by decide +kernel
theorem dX6_token_55 : decode cX6_token 55 = .ok (.iadd, 1) := by decide +kernel
theorem dX6_token_56 : decode cX6_token 56 = .ok (.putfield 135, 3) := by decide +kernel
theorem dX6_token_59 : decode cX6_token 59 = .ok (.return_, 1) := by decide +kernel
theorem dX6_unit_0 : decode cX6_unit 0 = .ok (.aload_n 0, 1) := by decide +kernel
theorem dX6_unit_1 : decode cX6_unit 1 = .ok (.getfield 67, 3) := by decide +kernel
theorem dX6_unit_4 : decode cX6_unit 4 = .ok (.sipush 264, 3) := by decide +kernel
theorem dX6_unit_7 : decode cX6_unit 7 = .ok (.isub, 1) := by decide +kernel
theorem dX6_unit_8 : decode cX6_unit 8 = .ok (.istore_n 1, 1) := by decide +kernel
theorem dX6_unit_9 : decode cX6_unit 9 = .ok (.iload_n 1, 1) := by decide +kernel
theorem dX6_unit_10 : decode cX6_unit 10 = .ok (.ifCond .lt 32, 3) := by decide +kernel
theorem dX6_unit_13 : decode cX6_unit 13 = .ok (.iload_n 1, 1) := by decide +kernel
theorem dX6_unit_14 : decode cX6_unit 14 = .ok (.bipush 9, 2) := by decide +kernel
theorem dX6_unit_16 : decode cX6_unit 16 = .ok (.if_icmp .ge 26, 3) := by decide +kernel
theorem dX6_unit_19 : decode cX6_unit 19 = .ok (.aload_n 0, 1) := by decide +kernel
theorem dX6_unit_20 : decode cX6_unit 20 = .ok (.getfield 27, 3) := by decide +kernel
theorem dX6_unit_23 : decode cX6_unit 23 = .ok (.iconst (-1), 1) := by decide +kernel
theorem dX6_unit_24 : decode cX6_unit 24 = .ok (.iload_n 1, 1) := by decide +kernel
theorem dX6_unit_25 : decode cX6_unit 25 = .ok (.isub, 1) := by decide +kernel
theorem dX6_unit_26 : decode cX6_unit 26 = .ok (.invokevirtual 219, 3) := by decide +kernel
theorem dX6_unit_29 : decode cX6_unit 29 = .ok (.aload_n 0, 1) := by decide +kernel
theorem dX6_unit_30 : decode cX6_unit 30 = .ok (.aload_n 0, 1) := by decide +kernel
theorem dX6_unit_31 : decode cX6_unit 31 = .ok (.getfield 188, 3) := by decide +kernel
theorem dX6_unit_34 : decode cX6_unit 34 = .ok (.iconst 1, 1) := by decide +kernel
theorem dX6_unit_35 : decode cX6_unit 35 = .ok (.iadd, 1) := by decide +kernel
theorem dX6_unit_36 : decode cX6_unit 36 = .ok (.invokevirtual 95, 3) := by decide +kernel
theorem dX6_unit_39 : decode cX6_unit 39 = .ok (.goto 64, 3) := by decide +kernel
theorem dX6_unit_42 : decode cX6_unit 42 = .ok (.aload_n 0, 1) := by decide +kernel
theorem dX6_unit_43 : decode cX6_unit 43 = .ok (.getfield 67, 3) := by decide +kernel
theorem dX6_unit_46 : decode cX6_unit 46 = .ok (.iconst 1, 1) := by decide +kernel
theorem dX6_unit_47 : decode cX6_unit 47 = .ok (.if_icmp .ne 51, 3) := by decide +kernel
theorem dX6_unit_50 : decode cX6_unit 50 = .ok (.aload_n 0, 1) := by decide +kernel
theorem dX6_unit_51 : decode cX6_unit 51 = .ok (.getfield 188, 3) := by decide +kernel
theorem dX6_unit_54 : decode cX6_unit 54 = .ok (.ifCond .lt 44, 3) := by decide +kernel
theorem dX6_unit_57 : decode cX6_unit 57 = .ok (.aload_n 0, 1) := by decide +kernel
theorem dX6_unit_58 : decode cX6_unit 58 = .ok (.getfield 188, 3) := by decide +kernel
theorem dX6_unit_61 : decode cX6_unit 61 = .ok (.aload_n 0, 1) := by decide +kernel
theorem dX6_unit_62 : decode cX6_unit 62 = .ok (.getfield 21, 3) := by decide +kernel
theorem dX6_unit_65 : decode cX6_unit 65 = .ok (.arraylength, 1) := by decide +kernel
theorem dX6_unit_66 : decode cX6_unit 66 = .ok (.if_icmp .ge 32, 3) := by decide +kernel
theorem dX6_unit_69 : decode cX6_unit 69 = .ok (.aload_n 0, 1) := by decide +kernel
theorem dX6_unit_70 : decode cX6_unit 70 = .ok (.getfield 27, 3) := by decide +kernel
theorem dX6_unit_73 : decode cX6_unit 73 = .ok (.aload_n 0, 1) := by decide +kernel
theorem dX6_unit_74 : decode cX6_unit 74 = .ok (.getfield 21, 3) := by decide +kernel
theorem dX6_unit_77 : decode cX6_unit 77 = .ok (.aload_n 0, 1) := by decide +kernel
theorem dX6_unit_78 : decode cX6_unit 78 = .ok (.getfield 188, 3) := by decide +kernel
theorem dX6_unit_81 : decode cX6_unit 81 = .ok (.iaload, 1) := by decide +kernel
theorem dX6_unit_82 : decode cX6_unit 82 = .ok (.invokevirtual 219, 3) := by decide +kernel
theorem dX6_unit_85 : decode cX6_unit 85 = .ok (.aload_n 0, 1) := by decide +kernel
theorem dX6_unit_86 : decode cX6_unit 86 = .ok (.aload_n 0, 1) := by decide +kernel
theorem dX6_unit_87 : decode cX6_unit 87 = .ok (.getfield 188, 3) := by decide +kernel
theorem dX6_unit_90 : decode cX6_unit 90 = .ok (.iconst 1, 1) := by decide +kernel
theorem dX6_unit_91 : decode cX6_unit 91 = .ok (.iadd, 1) := by decide +kernel
theorem dX6_unit_92 : decode cX6_unit 92 = .ok (.invokevirtual 95, 3) := by decide +kernel
theorem dX6_unit_95 : decode cX6_unit 95 = .ok (.goto 8, 3) := by decide +kernel
theorem dX6_unit_98 : decode cX6_unit 98 = .ok (.aload_n 0, 1) := by decide +kernel
theorem dX6_unit_99 : decode cX6_unit 99 = .ok (.iconst 1, 1) := by decide +kernel
theorem dX6_unit_100 : decode cX6_unit 100 = .ok (.invokevirtual 194, 3) := by decide +kernel
theorem dX6_unit_103 : decode cX6_unit 103 = .ok (.return_, 1) := by decide +kernel
theorem dX6_value_0 : decode cX6_value 0 = .ok (.iconst 0, 1) := by decide +kernel
theorem dX6_value_1 : decode cX6_value 1 = .ok (.istore_n 3, 1) := by decide +kernel
theorem dX6_value_2 : decode cX6_value 2 = .ok (.iconst 0, 1) := by decide +kernel
theorem dX6_value_3 : decode cX6_value 3 = .ok (.iload_n 1, 1) := by decide +kernel
theorem dX6_value_4 : decode cX6_value 4 = .ok (.invokestatic 174, 3) := by decide +kernel
theorem dX6_value_7 : decode cX6_value 7 = .ok (.istore 4, 2) := by decide +kernel
theorem dX6_value_9 : decode cX6_value 9 = .ok (.iload 4, 2) := by decide +kernel
theorem dX6_value_11 : decode cX6_value 11 = .ok (.iload_n 2, 1) := by decide +kernel
theorem dX6_value_12 : decode cX6_value 12 = .ok (.if_icmp .ge 41, 3) := by decide +kernel
theorem dX6_value_15 : decode cX6_value 15 = .ok (.iload 4, 2) := by decide +kernel
theorem dX6_value_17 : decode cX6_value 17 = .ok (.iload_n 1, 1) := by decide +kernel
theorem dX6_value_18 : decode cX6_value 18 = .ok (.iconst 4, 1) := by decide +kernel
theorem dX6_value_19 : decode cX6_value 19 = .ok (.iadd, 1) := by decide +kernel
theorem dX6_value_20 : decode cX6_value 20 = .ok (.if_icmp .ge 33, 3) := by decide +kernel
theorem dX6_value_23 : decode cX6_value 23 = .ok (.iload 4, 2) := by decide +kernel
theorem dX6_value_25 : decode cX6_value 25 = .ok (.sipush 400, 3) := by decide +kernel
theorem dX6_value_28 : decode cX6_value 28 = .ok (.if_icmp .ge 25, 3) := by decide +kernel
theorem dX6_value_31 : decode cX6_value 31 = .ok (.iload_n 3, 1) := by decide +kernel
theorem dX6_value_32 : decode cX6_value 32 = .ok (.bipush 10, 2) := by decide +kernel
theorem dX6_value_34 : decode cX6_value 34 = .ok (.imul, 1) := by decide +kernel
theorem dX6_value_35 : decode cX6_value 35 = .ok (.aload_n 0, 1) := by decide +kernel
theorem dX6_value_36 : decode cX6_value 36 = .ok (.getfield 11, 3) := by decide +kernel
theorem dX6_value_39 : decode cX6_value 39 = .ok (.iload 4, 2) := by decide +kernel
theorem dX6_value_41 : decode cX6_value 41 = .ok (.iaload, 1) := by decide +kernel
theorem dX6_value_42 : decode cX6_value 42 = .ok (.iadd, 1) := by decide +kernel
theorem dX6_value_43 : decode cX6_value 43 = .ok (.bipush 48, 2) := by decide +kernel
theorem dX6_value_45 : decode cX6_value 45 = .ok (.isub, 1) := by decide +kernel
theorem dX6_value_46 : decode cX6_value 46 = .ok (.istore_n 3, 1) := by decide +kernel
theorem dX6_value_47 : decode cX6_value 47 = .ok (.iinc 4 1, 3) := by decide +kernel
theorem dX6_value_50 : decode cX6_value 50 = .ok (.goto (-41), 3) := by decide +kernel
theorem dX6_value_53 : decode cX6_value 53 = .ok (.iload_n 3, 1) := by decide +kernel
theorem dX6_value_54 : decode cX6_value 54 = .ok (.ireturn, 1) := by decide +kernel
theorem dX6_weightLine_0 : decode cX6_weightLine 0 = .ok (.aload_n 0, 1) := by decide +kernel
theorem dX6_weightLine_1 : decode cX6_weightLine 1 = .ok (.sipush 256, 3) := by decide +kernel
theorem dX6_weightLine_4 : decode cX6_weightLine 4 = .ok (.invokevirtual 200, 3) := by decide +kernel
theorem dX6_weightLine_7 : decode cX6_weightLine 7 = .ok (.aload_n 0, 1) := by decide +kernel
theorem dX6_weightLine_8 : decode cX6_weightLine 8 = .ok (.bipush 7, 2) := by decide +kernel
theorem dX6_weightLine_10 : decode cX6_weightLine 10 = .ok (.iconst (-1), 1) := by decide +kernel
theorem dX6_weightLine_11 : decode cX6_weightLine 11 = .ok (.invokevirtual 225, 3) := by decide +kernel
theorem dX6_weightLine_14 : decode cX6_weightLine 14 = .ok (.istore_n 1, 1) := by decide +kernel
theorem dX6_weightLine_15 : decode cX6_weightLine 15 = .ok (.aload_n 0, 1) := by decide +kernel
theorem dX6_weightLine_16 : decode cX6_weightLine 16 = .ok (.sipush 257, 3) := by decide +kernel
theorem dX6_weightLine_19 : decode cX6_weightLine 19 = .ok (.invokevirtual 197, 3) := by decide +kernel
theorem dX6_weightLine_22 : decode cX6_weightLine 22 = .ok (.aload_n 0, 1) := by decide +kernel
theorem dX6_weightLine_23 : decode cX6_weightLine 23 = .ok (.bipush 99, 2) := by decide +kernel
theorem dX6_weightLine_25 : decode cX6_weightLine 25 = .ok (.iconst (-1), 1) := by decide +kernel
theorem dX6_weightLine_26 : decode cX6_weightLine 26 = .ok (.invokevirtual 225, 3) := by decide +kernel
theorem dX6_weightLine_29 : decode cX6_weightLine 29 = .ok (.istore_n 2, 1) := by decide +kernel
theorem dX6_weightLine_30 : decode cX6_weightLine 30 = .ok (.aload_n 0, 1) := by decide +kernel
theorem dX6_weightLine_31 : decode cX6_weightLine 31 = .ok (.bipush 59, 2) := by decide +kernel
theorem dX6_weightLine_33 : decode cX6_weightLine 33 = .ok (.invokevirtual 197, 3) := by decide +kernel
theorem dX6_weightLine_36 : decode cX6_weightLine 36 = .ok (.aload_n 0, 1) := by decide +kernel
theorem dX6_weightLine_37 : decode cX6_weightLine 37 = .ok (.getfield 57, 3) := by decide +kernel
theorem dX6_weightLine_40 : decode cX6_weightLine 40 = .ok (.ifCond .ne 17, 3) := by decide +kernel
theorem dX6_weightLine_43 : decode cX6_weightLine 43 = .ok (.iload_n 1, 1) := by decide +kernel
theorem dX6_weightLine_44 : decode cX6_weightLine 44 = .ok (.invokestatic 228, 3) := by decide +kernel
theorem dX6_weightLine_47 : decode cX6_weightLine 47 = .ok (.ifCond .eq 10, 3) := by decide +kernel
theorem dX6_weightLine_50 : decode cX6_weightLine 50 = .ok (.aload_n 0, 1) := by decide +kernel
theorem dX6_weightLine_51 : decode cX6_weightLine 51 = .ok (.getfield 41, 3) := by decide +kernel
theorem dX6_weightLine_54 : decode cX6_weightLine 54 = .ok (.iload_n 1, 1) := by decide +kernel
theorem dX6_weightLine_55 : decode cX6_weightLine 55 = .ok (.iload_n 2, 1) := by decide +kernel
theorem dX6_weightLine_56 : decode cX6_weightLine 56 = .ok (.iastore, 1) := by decide +kernel
theorem dX6_weightLine_57 : decode cX6_weightLine 57 = .ok (.aload_n 0, 1) := by decide +kernel
theorem dX6_weightLine_58 : decode cX6_weightLine 58 = .ok (.dup, 1) := by decide +kernel
theorem dX6_weightLine_59 : decode cX6_weightLine 59 = .ok (.getfield 92, 3) := by decide +kernel
theorem dX6_weightLine_62 : decode cX6_weightLine 62 = .ok (.iconst 1, 1) := by decide +kernel
theorem dX6_weightLine_63 : decode cX6_weightLine 63 = .ok (.iadd, 1) := by decide +kernel
theorem dX6_weightLine_64 : decode cX6_weightLine 64 = .ok (.putfield 92, 3) := by decide +kernel
theorem dX6_weightLine_67 : decode cX6_weightLine 67 = .ok (.return_, 1) := by decide +kernel
theorem dX7_bestMarch_0 : decode cX7_bestMarch 0 = .ok (.aload_n 0, 1) := by decide +kernel
theorem dX7_bestMarch_1 : decode cX7_bestMarch 1 = .ok (.getfield 36, 3) := by decide +kernel
theorem dX7_bestMarch_4 : decode cX7_bestMarch 4 = .ok (.iload_n 1, 1) := by decide +kernel
theorem dX7_bestMarch_5 : decode cX7_bestMarch 5 = .ok (.invokevirtual 77, 3) := by decide +kernel
theorem dX7_bestMarch_8 : decode cX7_bestMarch 8 = .ok (.ifCond .eq 15, 3) := by decide +kernel
theorem dX7_bestMarch_11 : decode cX7_bestMarch 11 = .ok (.aload_n 0, 1) := by decide +kernel
theorem dX7_bestMarch_12 : decode cX7_bestMarch 12 = .ok (.getfield 36, 3) := by decide +kernel
theorem dX7_bestMarch_15 : decode cX7_bestMarch 15 = .ok (.getfield 81, 3) := by decide +kernel
theorem dX7_bestMarch_18 : decode cX7_bestMarch 18 = .ok (.iload_n 1, 1) := by decide +kernel
theorem dX7_bestMarch_19 : decode cX7_bestMarch 19 = .ok (.iaload, 1) := by decide +kernel
theorem dX7_bestMarch_20 : decode cX7_bestMarch 20 = .ok (.ifCond .gt 5, 3) := by decide +kernel
theorem dX7_bestMarch_23 : decode cX7_bestMarch 23 = .ok (.iconst (-1), 1) := by decide +kernel
theorem dX7_bestMarch_24 : decode cX7_bestMarch 24 = .ok (.ireturn, 1) := by decide +kernel
theorem dX7_bestMarch_25 : decode cX7_bestMarch 25 = .ok (.iload_n 2, 1) := by decide +kernel
theorem dX7_bestMarch_26 : decode cX7_bestMarch 26 = .ok (.aload_n 0, 1) := by decide +kernel
theorem dX7_bestMarch_27 : decode cX7_bestMarch 27 = .ok (.getfield 36, 3) := by decide +kernel
theorem dX7_bestMarch_30 : decode cX7_bestMarch 30 = .ok (.getfield 81, 3) := by decide +kernel
theorem dX7_bestMarch_33 : decode cX7_bestMarch 33 = .ok (.iload_n 1, 1) := by decide +kernel
theorem dX7_bestMarch_34 : decode cX7_bestMarch 34 = .ok (.iaload, 1) := by decide +kernel
theorem dX7_bestMarch_35 : decode cX7_bestMarch 35 = .ok (.iadd, 1) := by decide +kernel
theorem dX7_bestMarch_36 : decode cX7_bestMarch 36 = .ok (.iconst 1, 1) := by decide +kernel
theorem dX7_bestMarch_37 : decode cX7_bestMarch 37 = .ok (.isub, 1) := by decide +kernel
theorem dX7_bestMarch_38 : decode cX7_bestMarch 38 = .ok (.aload_n 0, 1) := by decide +kernel
theorem dX7_bestMarch_39 : decode cX7_bestMarch 39 = .ok (.getfield 36, 3) := by decide +kernel
theorem dX7_bestMarch_42 : decode cX7_bestMarch 42 = .ok (.getfield 81, 3) := by decide +kernel
theorem dX7_bestMarch_45 : decode cX7_bestMarch 45 = .ok (.iload_n 1, 1) := by decide +kernel
theorem dX7_bestMarch_46 : decode cX7_bestMarch 46 = .ok (.iaload, 1) := by decide +kernel
theorem dX7_bestMarch_47 : decode cX7_bestMarch 47 = .ok (.idiv, 1) := by decide +kernel
theorem dX7_bestMarch_48 : decode cX7_bestMarch 48 = .ok (.istore 5, 2) := by decide +kernel
theorem dX7_bestMarch_50 : decode cX7_bestMarch 50 = .ok (.iconst (-1), 1) := by decide +kernel
theorem dX7_bestMarch_51 : decode cX7_bestMarch 51 = .ok (.istore 6, 2) := by decide +kernel
theorem dX7_bestMarch_53 : decode cX7_bestMarch 53 = .ok (.iconst (-1), 1) := by decide +kernel
theorem dX7_bestMarch_54 : decode cX7_bestMarch 54 = .ok (.istore 7, 2) := by decide +kernel
theorem dX7_bestMarch_56 : decode cX7_bestMarch 56 = .ok (.iconst 0, 1) := by decide +kernel
theorem dX7_bestMarch_57 : decode cX7_bestMarch 57 = .ok (.istore 8, 2) := by decide +kernel
theorem dX7_bestMarch_59 : decode cX7_bestMarch 59 = .ok (.iload 8, 2) := by decide +kernel
theorem dX7_bestMarch_61 : decode cX7_bestMarch 61 = .ok (.iconst 1, 1) := by decide +kernel
theorem dX7_bestMarch_62 : decode cX7_bestMarch 62 = .ok (.iload_n 3, 1) := by decide +kernel
theorem dX7_bestMarch_63 : decode cX7_bestMarch 63 = .ok (.ishl, 1) := by decide +kernel
theorem dX7_bestMarch_64 : decode cX7_bestMarch 64 = .ok (.if_icmp .ge 49, 3) := by decide +kernel
theorem dX7_bestMarch_67 : decode cX7_bestMarch 67 = .ok (.iload 8, 2) := by decide +kernel
theorem dX7_bestMarch_69 : decode cX7_bestMarch 69 = .ok (.invokestatic 84, 3) := by decide +kernel
theorem dX7_bestMarch_72 : decode cX7_bestMarch 72 = .ok (.iload 5, 2) := by decide +kernel
theorem dX7_bestMarch_74 : decode cX7_bestMarch 74 = .ok (.if_icmp .ne 15, 3) := by decide +kernel
theorem dX7_bestMarch_77 : decode cX7_bestMarch 77 = .ok (.aload_n 0, 1) := by decide +kernel
theorem dX7_bestMarch_78 : decode cX7_bestMarch 78 = .ok (.iload_n 1, 1) := by decide +kernel
theorem dX7_bestMarch_79 : decode cX7_bestMarch 79 = .ok (.iload_n 2, 1) := by decide +kernel
theorem dX7_bestMarch_80 : decode cX7_bestMarch 80 = .ok (.iload_n 3, 1) := by decide +kernel
theorem dX7_bestMarch_81 : decode cX7_bestMarch 81 = .ok (.iload 8, 2) := by decide +kernel
theorem dX7_bestMarch_83 : decode cX7_bestMarch 83 = .ok (.invokevirtual 89, 3) := by decide +kernel
theorem dX7_bestMarch_86 : decode cX7_bestMarch 86 = .ok (.goto 4, 3) := by decide +kernel
theorem dX7_bestMarch_89 : decode cX7_bestMarch 89 = .ok (.iconst (-1), 1) := by decide +kernel
theorem dX7_bestMarch_90 : decode cX7_bestMarch 90 = .ok (.istore 9, 2) := by decide +kernel
theorem dX7_bestMarch_92 : decode cX7_bestMarch 92 = .ok (.iload 9, 2) := by decide +kernel
theorem dX7_bestMarch_94 : decode cX7_bestMarch 94 = .ok (.iload 6, 2) := by decide +kernel
theorem dX7_bestMarch_96 : decode cX7_bestMarch 96 = .ok (.if_icmp .le 11, 3) := by decide +kernel
theorem dX7_bestMarch_99 : decode cX7_bestMarch 99 = .ok (.iload 9, 2) := by decide +kernel
theorem dX7_bestMarch_101 : decode cX7_bestMarch 101 = .ok (.istore 6, 2) := by decide +kernel
theorem dX7_bestMarch_103 : decode cX7_bestMarch 103 = .ok (.iload 8, 2) := by decide +kernel
theorem dX7_bestMarch_105 : decode cX7_bestMarch 105 = .ok (.istore 7, 2) := by decide +kernel
theorem dX7_bestMarch_107 : decode cX7_bestMarch 107 = .ok (.iinc 8 1, 3) := by decide +kernel
theorem dX7_bestMarch_110 : decode cX7_bestMarch 110 = .ok (.goto (-51), 3) := by decide +kernel
theorem dX7_bestMarch_113 : decode cX7_bestMarch 113 = .ok (.iload 4, 2) := by decide +kernel
theorem dX7_bestMarch_115 : decode cX7_bestMarch 115 = .ok (.ifCond .eq 9, 3) := by decide +kernel
theorem dX7_bestMarch_118 : decode cX7_bestMarch 118 = .ok (.iload 7, 2) := by decide +kernel
theorem dX7_bestMarch_120 : decode cX7_bestMarch 120 = .ok (.iconst (-1), 1) := by decide +kernel
theorem dX7_bestMarch_121 : decode cX7_bestMarch 121 = .ok (.if_icmp .ne 8, 3) := by decide +kernel
theorem dX7_bestMarch_124 : decode cX7_bestMarch 124 = .ok (.iload 6, 2) := by decide +kernel
theorem dX7_bestMarch_126 : decode cX7_bestMarch 126 = .ok (.goto 9, 3) := by decide +kernel
theorem dX7_bestMarch_129 : decode cX7_bestMarch 129 = .ok (.iload 7, 2) := by decide +kernel
theorem dX7_bestMarch_131 : decode cX7_bestMarch 131 = .ok (.iload_n 3, 1) := by decide +kernel
theorem dX7_bestMarch_132 : decode cX7_bestMarch 132 = .ok (.invokestatic 93, 3) := by decide +kernel
theorem dX7_bestMarch_135 : decode cX7_bestMarch 135 = .ok (.ireturn, 1) := by decide +kernel
theorem dX7_bestTreaty_0 : decode cX7_bestTreaty 0 = .ok (.aload_n 0, 1) := by decide +kernel
theorem dX7_bestTreaty_1 : decode cX7_bestTreaty 1 = .ok (.getfield 44, 3) := by decide +kernel
theorem dX7_bestTreaty_4 : decode cX7_bestTreaty 4 = .ok (.iconst 0, 1) := by decide +kernel
theorem dX7_bestTreaty_5 : decode cX7_bestTreaty 5 = .ok (.invokevirtual 156, 3) := by decide +kernel
theorem dX7_bestTreaty_8 : decode cX7_bestTreaty 8 = .ok (.aload_n 0, 1) := by decide +kernel
theorem dX7_bestTreaty_9 : decode cX7_bestTreaty 9 = .ok (.getfield 44, 3) := by decide +kernel
theorem dX7_bestTreaty_12 : decode cX7_bestTreaty 12 = .ok (.iconst 1, 1) := by decide +kernel
theorem dX7_bestTreaty_13 : decode cX7_bestTreaty 13 = .ok (.invokevirtual 156, 3) := by decide +kernel
theorem dX7_bestTreaty_16 : decode cX7_bestTreaty 16 = .ok (.ior, 1) := by decide +kernel
theorem dX7_bestTreaty_17 : decode cX7_bestTreaty 17 = .ok (.istore_n 2, 1) := by decide +kernel
theorem dX7_bestTreaty_18 : decode cX7_bestTreaty 18 = .ok (.iconst (-1), 1) := by decide +kernel
theorem dX7_bestTreaty_19 : decode cX7_bestTreaty 19 = .ok (.istore_n 3, 1) := by decide +kernel
theorem dX7_bestTreaty_20 : decode cX7_bestTreaty 20 = .ok (.iconst (-1), 1) := by decide +kernel
theorem dX7_bestTreaty_21 : decode cX7_bestTreaty 21 = .ok (.istore 4, 2) := by decide +kernel
theorem dX7_bestTreaty_23 : decode cX7_bestTreaty 23 = .ok (.iconst 0, 1) := by decide +kernel
theorem dX7_bestTreaty_24 : decode cX7_bestTreaty 24 = .ok (.istore 5, 2) := by decide +kernel
theorem dX7_bestTreaty_26 : decode cX7_bestTreaty 26 = .ok (.iload 5, 2) := by decide +kernel
theorem dX7_bestTreaty_28 : decode cX7_bestTreaty 28 = .ok (.sipush 256, 3) := by decide +kernel
theorem dX7_bestTreaty_31 : decode cX7_bestTreaty 31 = .ok (.if_icmp .ge 91, 3) := by decide +kernel
theorem dX7_bestTreaty_34 : decode cX7_bestTreaty 34 = .ok (.iload 5, 2) := by decide +kernel
theorem dX7_bestTreaty_36 : decode cX7_bestTreaty 36 = .ok (.iload_n 2, 1) := by decide +kernel
theorem dX7_bestTreaty_37 : decode cX7_bestTreaty 37 = .ok (.iconst (-1), 1) := by decide +kernel
theorem dX7_bestTreaty_38 : decode cX7_bestTreaty 38 = .ok (.ixor, 1) := by decide +kernel
theorem dX7_bestTreaty_39 : decode cX7_bestTreaty 39 = .ok (.iand, 1) := by decide +kernel
theorem dX7_bestTreaty_40 : decode cX7_bestTreaty 40 = .ok (.ifCond .ne 76, 3) := by decide +kernel
theorem dX7_bestTreaty_43 : decode cX7_bestTreaty 43 = .ok (.aload_n 0, 1) := by decide +kernel
theorem dX7_bestTreaty_44 : decode cX7_bestTreaty 44 = .ok (.iload 5, 2) := by decide +kernel
theorem dX7_bestTreaty_46 : decode cX7_bestTreaty 46 = .ok (.invokevirtual 159, 3) := by decide +kernel
theorem dX7_bestTreaty_49 : decode cX7_bestTreaty 49 = .ok (.ifCond .ne 6, 3) := by decide +kernel
theorem dX7_bestTreaty_52 : decode cX7_bestTreaty 52 = .ok (.goto 64, 3) := by decide +kernel
theorem dX7_bestTreaty_55 : decode cX7_bestTreaty 55 = .ok (.aload_n 0, 1) := by decide +kernel
theorem dX7_bestTreaty_56 : decode cX7_bestTreaty 56 = .ok (.getfield 36, 3) := by decide +kernel
theorem dX7_bestTreaty_59 : decode cX7_bestTreaty 59 = .ok (.iload 5, 2) := by decide +kernel
theorem dX7_bestTreaty_61 : decode cX7_bestTreaty 61 = .ok (.invokevirtual 162, 3) := by decide +kernel
theorem dX7_bestTreaty_64 : decode cX7_bestTreaty 64 = .ok (.istore 6, 2) := by decide +kernel
theorem dX7_bestTreaty_66 : decode cX7_bestTreaty 66 = .ok (.iload 5, 2) := by decide +kernel
theorem dX7_bestTreaty_68 : decode cX7_bestTreaty 68 = .ok (.invokestatic 84, 3) := by decide +kernel
theorem dX7_bestTreaty_71 : decode cX7_bestTreaty 71 = .ok (.iload_n 3, 1) := by decide +kernel
theorem dX7_bestTreaty_72 : decode cX7_bestTreaty 72 = .ok (.invokestatic 84, 3) := by decide +kernel
theorem dX7_bestTreaty_75 : decode cX7_bestTreaty 75 = .ok (.if_icmp .ge 7, 3) := by decide +kernel
theorem dX7_bestTreaty_78 : decode cX7_bestTreaty 78 = .ok (.iconst 1, 1) := by decide +kernel
theorem dX7_bestTreaty_79 : decode cX7_bestTreaty 79 = .ok (.goto 4, 3) := by decide +kernel
theorem dX7_bestTreaty_82 : decode cX7_bestTreaty 82 = .ok (.iconst 0, 1) := by decide +kernel
theorem dX7_bestTreaty_83 : decode cX7_bestTreaty 83 = .ok (.istore 7, 2) := by decide +kernel
theorem dX7_bestTreaty_85 : decode cX7_bestTreaty 85 = .ok (.iload_n 3, 1) := by decide +kernel
theorem dX7_bestTreaty_86 : decode cX7_bestTreaty 86 = .ok (.iconst (-1), 1) := by decide +kernel
theorem dX7_bestTreaty_87 : decode cX7_bestTreaty 87 = .ok (.if_icmp .eq 22, 3) := by decide +kernel
theorem dX7_bestTreaty_90 : decode cX7_bestTreaty 90 = .ok (.iload 6, 2) := by decide +kernel
theorem dX7_bestTreaty_92 : decode cX7_bestTreaty 92 = .ok (.iload 4, 2) := by decide +kernel
theorem dX7_bestTreaty_94 : decode cX7_bestTreaty 94 = .ok (.if_icmp .lt 15, 3) := by decide +kernel
theorem dX7_bestTreaty_97 : decode cX7_bestTreaty 97 = .ok (.iload 6, 2) := by decide +kernel
theorem dX7_bestTreaty_99 : decode cX7_bestTreaty 99 = .ok (.iload 4, 2) := by decide +kernel
theorem dX7_bestTreaty_101 : decode cX7_bestTreaty 101 = .ok (.if_icmp .ne 15, 3) := by decide +kernel
theorem dX7_bestTreaty_104 : decode cX7_bestTreaty 104 = .ok (.iload 7, 2) := by decide +kernel
theorem dX7_bestTreaty_106 : decode cX7_bestTreaty 106 = .ok (.ifCond .eq 10, 3) := by decide +kernel
theorem dX7_bestTreaty_109 : decode cX7_bestTreaty 109 = .ok (.iload 5, 2) := by decide +kernel
theorem dX7_bestTreaty_111 : decode cX7_bestTreaty 111 = .ok (.istore_n 3, 1) := by decide +kernel
theorem dX7_bestTreaty_112 : decode cX7_bestTreaty 112 = .ok (.iload 6, 2) := by decide +kernel
theorem dX7_bestTreaty_114 : decode cX7_bestTreaty 114 = .ok (.istore 4, 2) := by decide +kernel
theorem dX7_bestTreaty_116 : decode cX7_bestTreaty 116 = .ok (.iinc 5 1, 3) := by decide +kernel
theorem dX7_bestTreaty_119 : decode cX7_bestTreaty 119 = .ok (.goto (-93), 3) := by decide +kernel
theorem dX7_bestTreaty_122 : decode cX7_bestTreaty 122 = .ok (.iload_n 1, 1) := by decide +kernel
theorem dX7_bestTreaty_123 : decode cX7_bestTreaty 123 = .ok (.ifCond .ne 8, 3) := by decide +kernel
theorem dX7_bestTreaty_126 : decode cX7_bestTreaty 126 = .ok (.iload 4, 2) := by decide +kernel
theorem dX7_bestTreaty_128 : decode cX7_bestTreaty 128 = .ok (.goto 4, 3) := by decide +kernel
theorem dX7_bestTreaty_131 : decode cX7_bestTreaty 131 = .ok (.iload_n 3, 1) := by decide +kernel
theorem dX7_bestTreaty_132 : decode cX7_bestTreaty 132 = .ok (.ireturn, 1) := by decide +kernel
theorem dX7_breathBehind_0 : decode cX7_breathBehind 0 = .ok (.aload_n 0, 1) := by decide +kernel
theorem dX7_breathBehind_1 : decode cX7_breathBehind 1 = .ok (.getfield 40, 3) := by decide +kernel
theorem dX7_breathBehind_4 : decode cX7_breathBehind 4 = .ok (.getfield 97, 3) := by decide +kernel
theorem dX7_breathBehind_7 : decode cX7_breathBehind 7 = .ok (.iload_n 1, 1) := by decide +kernel
theorem dX7_breathBehind_8 : decode cX7_breathBehind 8 = .ok (.iaload, 1) := by decide +kernel
theorem dX7_breathBehind_9 : decode cX7_breathBehind 9 = .ok (.istore 5, 2) := by decide +kernel
theorem dX7_breathBehind_11 : decode cX7_breathBehind 11 = .ok (.iload_n 2, 1) := by decide +kernel
theorem dX7_breathBehind_12 : decode cX7_breathBehind 12 = .ok (.istore 6, 2) := by decide +kernel
theorem dX7_breathBehind_14 : decode cX7_breathBehind 14 = .ok (.iload_n 3, 1) := by decide +kernel
theorem dX7_breathBehind_15 : decode cX7_breathBehind 15 = .ok (.iconst 1, 1) := by decide +kernel
theorem dX7_breathBehind_16 : decode cX7_breathBehind 16 = .ok (.isub, 1) := by decide +kernel
theorem dX7_breathBehind_17 : decode cX7_breathBehind 17 = .ok (.istore 7, 2) := by decide +kernel
theorem dX7_breathBehind_19 : decode cX7_breathBehind 19 = .ok (.iload 7, 2) := by decide +kernel
theorem dX7_breathBehind_21 : decode cX7_breathBehind 21 = .ok (.ifCond .lt 71, 3) := by decide +kernel
theorem dX7_breathBehind_24 : decode cX7_breathBehind 24 = .ok (.iload 5, 2) := by decide +kernel
theorem dX7_breathBehind_26 : decode cX7_breathBehind 26 = .ok (.ifCond .lt 66, 3) := by decide +kernel
theorem dX7_breathBehind_29 : decode cX7_breathBehind 29 = .ok (.iload 4, 2) := by decide +kernel
theorem dX7_breathBehind_31 : decode cX7_breathBehind 31 = .ok (.iload 7, 2) := by decide +kernel
theorem dX7_breathBehind_33 : decode cX7_breathBehind 33 = .ok (.invokestatic 59, 3) := by decide +kernel
theorem dX7_breathBehind_36 : decode cX7_breathBehind 36 = .ok (.ifCond .eq 38, 3) := by decide +kernel
theorem dX7_breathBehind_39 : decode cX7_breathBehind 39 = .ok (.iload 6, 2) := by decide +kernel
theorem dX7_breathBehind_41 : decode cX7_breathBehind 41 = .ok (.aload_n 0, 1) := by decide +kernel
theorem dX7_breathBehind_42 : decode cX7_breathBehind 42 = .ok (.getfield 36, 3) := by decide +kernel
theorem dX7_breathBehind_45 : decode cX7_breathBehind 45 = .ok (.getfield 81, 3) := by decide +kernel
theorem dX7_breathBehind_48 : decode cX7_breathBehind 48 = .ok (.iload_n 1, 1) := by decide +kernel
theorem dX7_breathBehind_49 : decode cX7_breathBehind 49 = .ok (.iaload, 1) := by decide +kernel
theorem dX7_breathBehind_50 : decode cX7_breathBehind 50 = .ok (.invokestatic 100, 3) := by decide +kernel
theorem dX7_breathBehind_53 : decode cX7_breathBehind 53 = .ok (.istore 8, 2) := by decide +kernel
theorem dX7_breathBehind_55 : decode cX7_breathBehind 55 = .ok (.iload 6, 2) := by decide +kernel
theorem dX7_breathBehind_57 : decode cX7_breathBehind 57 = .ok (.iload 8, 2) := by decide +kernel
theorem dX7_breathBehind_59 : decode cX7_breathBehind 59 = .ok (.isub, 1) := by decide +kernel
theorem dX7_breathBehind_60 : decode cX7_breathBehind 60 = .ok (.istore 6, 2) := by decide +kernel
theorem dX7_breathBehind_62 : decode cX7_breathBehind 62 = .ok (.iload 5, 2) := by decide +kernel
theorem dX7_breathBehind_64 : decode cX7_breathBehind 64 = .ok (.iconst 5, 1) := by decide +kernel
theorem dX7_breathBehind_65 : decode cX7_breathBehind 65 = .ok (.iload 8, 2) := by decide +kernel
theorem dX7_breathBehind_67 : decode cX7_breathBehind 67 = .ok (.imul, 1) := by decide +kernel
theorem dX7_breathBehind_68 : decode cX7_breathBehind 68 = .ok (.isub, 1) := by decide +kernel
theorem dX7_breathBehind_69 : decode cX7_breathBehind 69 = .ok (.istore 5, 2) := by decide +kernel
theorem dX7_breathBehind_71 : decode cX7_breathBehind 71 = .ok (.goto 15, 3) := by decide +kernel
theorem dX7_breathBehind_74 : decode cX7_breathBehind 74 = .ok (.bipush 99, 2) := by decide +kernel
theorem dX7_breathBehind_76 : decode cX7_breathBehind 76 = .ok (.iload 5, 2) := by decide +kernel
theorem dX7_breathBehind_78 : decode cX7_breathBehind 78 = .ok (.bipush 10, 2) := by decide +kernel
theorem dX7_breathBehind_80 : decode cX7_breathBehind 80 = .ok (.iadd, 1) := by decide +kernel
theorem dX7_breathBehind_81 : decode cX7_breathBehind 81 = .ok (.invokestatic 100, 3) := by decide +kernel
theorem dX7_breathBehind_84 : decode cX7_breathBehind 84 = .ok (.istore 5, 2) := by decide +kernel
theorem dX7_breathBehind_86 : decode cX7_breathBehind 86 = .ok (.iinc 7 (-1), 3) := by decide +kernel
theorem dX7_breathBehind_89 : decode cX7_breathBehind 89 = .ok (.goto (-70), 3) := by decide +kernel
theorem dX7_breathBehind_92 : decode cX7_breathBehind 92 = .ok (.iload 5, 2) := by decide +kernel
theorem dX7_breathBehind_94 : decode cX7_breathBehind 94 = .ok (.ifCond .ge 7, 3) := by decide +kernel
theorem dX7_breathBehind_97 : decode cX7_breathBehind 97 = .ok (.iconst (-1), 1) := by decide +kernel
theorem dX7_breathBehind_98 : decode cX7_breathBehind 98 = .ok (.goto 5, 3) := by decide +kernel
theorem dX7_breathBehind_101 : decode cX7_breathBehind 101 = .ok (.iload 5, 2) := by decide +kernel
theorem dX7_breathBehind_103 : decode cX7_breathBehind 103 = .ok (.ireturn, 1) := by decide +kernel
theorem dX7_chooseGoers_0 : decode cX7_chooseGoers 0 = .ok (.aload_n 0, 1) := by decide +kernel
theorem dX7_chooseGoers_1 : decode cX7_chooseGoers 1 = .ok (.getfield 27, 3) := by decide +kernel
theorem dX7_chooseGoers_4 : decode cX7_chooseGoers 4 = .ok (.iconst (-1), 1) := by decide +kernel
theorem dX7_chooseGoers_5 : decode cX7_chooseGoers 5 = .ok (.invokestatic 138, 3) := by decide +kernel
theorem dX7_chooseGoers_8 : decode cX7_chooseGoers 8 = .ok (.iconst 0, 1) := by decide +kernel
theorem dX7_chooseGoers_9 : decode cX7_chooseGoers 9 = .ok (.istore_n 2, 1) := by decide +kernel
theorem dX7_chooseGoers_10 : decode cX7_chooseGoers 10 = .ok (.iconst 0, 1) := by decide +kernel
theorem dX7_chooseGoers_11 : decode cX7_chooseGoers 11 = .ok (.istore_n 3, 1) := by decide +kernel
theorem dX7_chooseGoers_12 : decode cX7_chooseGoers 12 = .ok (.iconst 0, 1) := by decide +kernel
theorem dX7_chooseGoers_13 : decode cX7_chooseGoers 13 = .ok (.istore 4, 2) := by decide +kernel
theorem dX7_chooseGoers_15 : decode cX7_chooseGoers 15 = .ok (.iconst 0, 1) := by decide +kernel
theorem dX7_chooseGoers_16 : decode cX7_chooseGoers 16 = .ok (.istore 5, 2) := by decide +kernel
theorem dX7_chooseGoers_18 : decode cX7_chooseGoers 18 = .ok (.iload 5, 2) := by decide +kernel
theorem dX7_chooseGoers_20 : decode cX7_chooseGoers 20 = .ok (.aload_n 0, 1) := by decide +kernel
theorem dX7_chooseGoers_21 : decode cX7_chooseGoers 21 = .ok (.getfield 114, 3) := by decide +kernel
theorem dX7_chooseGoers_24 : decode cX7_chooseGoers 24 = .ok (.if_icmp .ge 134, 3) := by decide +kernel
theorem dX7_chooseGoers_27 : decode cX7_chooseGoers 27 = .ok (.iload 5, 2) := by decide +kernel
theorem dX7_chooseGoers_29 : decode cX7_chooseGoers 29 = .ok (.bipush 12, 2) := by decide +kernel
theorem dX7_chooseGoers_31 : decode cX7_chooseGoers 31 = .ok (.if_icmp .ge 127, 3) := by decide +kernel
theorem dX7_chooseGoers_34 : decode cX7_chooseGoers 34 = .ok (.iconst 0, 1) := by decide +kernel
theorem dX7_chooseGoers_35 : decode cX7_chooseGoers 35 = .ok (.istore 6, 2) := by decide +kernel
theorem dX7_chooseGoers_37 : decode cX7_chooseGoers 37 = .ok (.iload 6, 2) := by decide +kernel
theorem dX7_chooseGoers_39 : decode cX7_chooseGoers 39 = .ok (.aload_n 0, 1) := by decide +kernel
theorem dX7_chooseGoers_40 : decode cX7_chooseGoers 40 = .ok (.getfield 117, 3) := by decide +kernel
theorem dX7_chooseGoers_43 : decode cX7_chooseGoers 43 = .ok (.if_icmp .ge 109, 3) := by decide +kernel
theorem dX7_chooseGoers_46 : decode cX7_chooseGoers 46 = .ok (.iload 6, 2) := by decide +kernel
theorem dX7_chooseGoers_48 : decode cX7_chooseGoers 48 = .ok (.bipush 12, 2) := by decide +kernel
theorem dX7_chooseGoers_50 : decode cX7_chooseGoers 50 = .ok (.if_icmp .ge 102, 3) := by decide +kernel
theorem dX7_chooseGoers_53 : decode cX7_chooseGoers 53 = .ok (.iload_n 2, 1) := by decide +kernel
theorem dX7_chooseGoers_54 : decode cX7_chooseGoers 54 = .ok (.iload 6, 2) := by decide +kernel
theorem dX7_chooseGoers_56 : decode cX7_chooseGoers 56 = .ok (.invokestatic 59, 3) := by decide +kernel
theorem dX7_chooseGoers_59 : decode cX7_chooseGoers 59 = .ok (.ifCond .eq 7, 3) := by decide +kernel
theorem dX7_chooseGoers_62 : decode cX7_chooseGoers 62 = .ok (.iconst 0, 1) := by decide +kernel
theorem dX7_chooseGoers_63 : decode cX7_chooseGoers 63 = .ok (.goto 11, 3) := by decide +kernel
theorem dX7_chooseGoers_66 : decode cX7_chooseGoers 66 = .ok (.aload_n 0, 1) := by decide +kernel
theorem dX7_chooseGoers_67 : decode cX7_chooseGoers 67 = .ok (.iload 5, 2) := by decide +kernel
theorem dX7_chooseGoers_69 : decode cX7_chooseGoers 69 = .ok (.iload 6, 2) := by decide +kernel
theorem dX7_chooseGoers_71 : decode cX7_chooseGoers 71 = .ok (.invokevirtual 132, 3) := by decide +kernel
theorem dX7_chooseGoers_74 : decode cX7_chooseGoers 74 = .ok (.istore 7, 2) := by decide +kernel
theorem dX7_chooseGoers_76 : decode cX7_chooseGoers 76 = .ok (.iload 7, 2) := by decide +kernel
theorem dX7_chooseGoers_78 : decode cX7_chooseGoers 78 = .ok (.ifCond .eq 68, 3) := by decide +kernel
theorem dX7_chooseGoers_81 : decode cX7_chooseGoers 81 = .ok (.iload 7, 2) := by decide +kernel
theorem dX7_chooseGoers_83 : decode cX7_chooseGoers 83 = .ok (.aload_n 0, 1) := by decide +kernel
theorem dX7_chooseGoers_84 : decode cX7_chooseGoers 84 = .ok (.iload 5, 2) := by decide +kernel
theorem dX7_chooseGoers_86 : decode cX7_chooseGoers 86 = .ok (.iconst 1, 1) := by decide +kernel
theorem dX7_chooseGoers_87 : decode cX7_chooseGoers 87 = .ok (.iadd, 1) := by decide +kernel
theorem dX7_chooseGoers_88 : decode cX7_chooseGoers 88 = .ok (.iload_n 2, 1) := by decide +kernel
theorem dX7_chooseGoers_89 : decode cX7_chooseGoers 89 = .ok (.iconst 1, 1) := by decide +kernel
theorem dX7_chooseGoers_90 : decode cX7_chooseGoers 90 = .ok (.iload 6, 2) := by decide +kernel
theorem dX7_chooseGoers_92 : decode cX7_chooseGoers 92 = .ok (.ishl, 1) := by decide +kernel
theorem dX7_chooseGoers_93 : decode cX7_chooseGoers 93 = .ok (.ior, 1) := by decide +kernel
theorem dX7_chooseGoers_94 : decode cX7_chooseGoers 94 = .ok (.invokevirtual 129, 3) := by decide +kernel
theorem dX7_chooseGoers_97 : decode cX7_chooseGoers 97 = .ok (.iadd, 1) := by decide +kernel
theorem dX7_chooseGoers_98 : decode cX7_chooseGoers 98 = .ok (.aload_n 0, 1) := by decide +kernel
theorem dX7_chooseGoers_99 : decode cX7_chooseGoers 99 = .ok (.iload 5, 2) := by decide +kernel
theorem dX7_chooseGoers_101 : decode cX7_chooseGoers 101 = .ok (.iload_n 2, 1) := by decide +kernel
theorem dX7_chooseGoers_102 : decode cX7_chooseGoers 102 = .ok (.invokevirtual 129, 3) := by decide +kernel
theorem dX7_chooseGoers_105 : decode cX7_chooseGoers 105 = .ok (.if_icmp .ne 41, 3) := by decide +kernel
theorem dX7_chooseGoers_108 : decode cX7_chooseGoers 108 = .ok (.aload_n 0, 1) := by decide +kernel
theorem dX7_chooseGoers_109 : decode cX7_chooseGoers 109 = .ok (.getfield 27, 3) := by decide +kernel
theorem dX7_chooseGoers_112 : decode cX7_chooseGoers 112 = .ok (.iload 5, 2) := by decide +kernel
theorem dX7_chooseGoers_114 : decode cX7_chooseGoers 114 = .ok (.aload_n 0, 1) := by decide +kernel
theorem dX7_chooseGoers_115 : decode cX7_chooseGoers 115 = .ok (.getfield 24, 3) := by decide +kernel
theorem dX7_chooseGoers_118 : decode cX7_chooseGoers 118 = .ok (.iload 6, 2) := by decide +kernel
theorem dX7_chooseGoers_120 : decode cX7_chooseGoers 120 = .ok (.iaload, 1) := by decide +kernel
theorem dX7_chooseGoers_121 : decode cX7_chooseGoers 121 = .ok (.iastore, 1) := by decide +kernel
theorem dX7_chooseGoers_122 : decode cX7_chooseGoers 122 = .ok (.iload_n 2, 1) := by decide +kernel
theorem dX7_chooseGoers_123 : decode cX7_chooseGoers 123 = .ok (.iconst 1, 1) := by decide +kernel
theorem dX7_chooseGoers_124 : decode cX7_chooseGoers 124 = .ok (.iload 6, 2) := by decide +kernel
theorem dX7_chooseGoers_126 : decode cX7_chooseGoers 126 = .ok (.ishl, 1) := by decide +kernel
theorem dX7_chooseGoers_127 : decode cX7_chooseGoers 127 = .ok (.ior, 1) := by decide +kernel
theorem dX7_chooseGoers_128 : decode cX7_chooseGoers 128 = .ok (.istore_n 2, 1) := by decide +kernel
theorem dX7_chooseGoers_129 : decode cX7_chooseGoers 129 = .ok (.iinc 3 1, 3) := by decide +kernel
theorem dX7_chooseGoers_132 : decode cX7_chooseGoers 132 = .ok (.iload 4, 2) := by decide +kernel
theorem dX7_chooseGoers_134 : decode cX7_chooseGoers 134 = .ok (.sipush 10000, 3) := by decide +kernel
theorem dX7_chooseGoers_137 : decode cX7_chooseGoers 137 = .ok (.iload 7, 2) := by decide +kernel
theorem dX7_chooseGoers_139 : decode cX7_chooseGoers 139 = .ok (.isub, 1) := by decide +kernel
theorem dX7_chooseGoers_140 : decode cX7_chooseGoers 140 = .ok (.iadd, 1) := by decide +kernel
theorem dX7_chooseGoers_141 : decode cX7_chooseGoers 141 = .ok (.istore 4, 2) := by decide +kernel
theorem dX7_chooseGoers_143 : decode cX7_chooseGoers 143 = .ok (.goto 9, 3) := by decide +kernel
theorem dX7_chooseGoers_146 : decode cX7_chooseGoers 146 = .ok (.iinc 6 1, 3) := by decide +kernel
theorem dX7_chooseGoers_149 : decode cX7_chooseGoers 149 = .ok (.goto (-112), 3) := by decide +kernel
theorem dX7_chooseGoers_152 : decode cX7_chooseGoers 152 = .ok (.iinc 5 1, 3) := by decide +kernel
theorem dX7_chooseGoers_155 : decode cX7_chooseGoers 155 = .ok (.goto (-137), 3) := by decide +kernel
theorem dX7_chooseGoers_158 : decode cX7_chooseGoers 158 = .ok (.iload_n 1, 1) := by decide +kernel
theorem dX7_chooseGoers_159 : decode cX7_chooseGoers 159 = .ok (.lookupswitch 30 #[(0, 25), (1, 27)], 25) := by decide +kernel
theorem dX7_chooseGoers_184 : decode cX7_chooseGoers 184 = .ok (.iload_n 3, 1) := by decide +kernel
theorem dX7_chooseGoers_185 : decode cX7_chooseGoers 185 = .ok (.ireturn, 1) := by decide +kernel
theorem dX7_chooseGoers_186 : decode cX7_chooseGoers 186 = .ok (.iload 4, 2) := by decide +kernel
theorem dX7_chooseGoers_188 : decode cX7_chooseGoers 188 = .ok (.ireturn, 1) := by decide +kernel
theorem dX7_chooseGoers_189 : decode cX7_chooseGoers 189 = .ok (.aload_n 0, 1) := by decide +kernel
theorem dX7_chooseGoers_190 : decode cX7_chooseGoers 190 = .ok (.iload_n 1, 1) := by decide +kernel
theorem dX7_chooseGoers_191 : decode cX7_chooseGoers 191 = .ok (.bipush 10, 2) := by decide +kernel
theorem dX7_chooseGoers_193 : decode cX7_chooseGoers 193 = .ok (.isub, 1) := by decide +kernel
theorem dX7_chooseGoers_194 : decode cX7_chooseGoers 194 = .ok (.invokevirtual 144, 3) := by decide +kernel
theorem dX7_chooseGoers_197 : decode cX7_chooseGoers 197 = .ok (.ireturn, 1) := by decide +kernel
theorem dX7_endsWar_0 : decode cX7_endsWar 0 = .ok (.aload_n 0, 1) := by decide +kernel
theorem dX7_endsWar_1 : decode cX7_endsWar 1 = .ok (.getfield 36, 3) := by decide +kernel
theorem dX7_endsWar_4 : decode cX7_endsWar 4 = .ok (.aload_n 0, 1) := by decide +kernel
theorem dX7_endsWar_5 : decode cX7_endsWar 5 = .ok (.getfield 44, 3) := by decide +kernel
theorem dX7_endsWar_8 : decode cX7_endsWar 8 = .ok (.iconst 0, 1) := by decide +kernel
theorem dX7_endsWar_9 : decode cX7_endsWar 9 = .ok (.invokevirtual 156, 3) := by decide +kernel
theorem dX7_endsWar_12 : decode cX7_endsWar 12 = .ok (.iload_n 1, 1) := by decide +kernel
theorem dX7_endsWar_13 : decode cX7_endsWar 13 = .ok (.iconst (-1), 1) := by decide +kernel
theorem dX7_endsWar_14 : decode cX7_endsWar 14 = .ok (.ixor, 1) := by decide +kernel
theorem dX7_endsWar_15 : decode cX7_endsWar 15 = .ok (.iand, 1) := by decide +kernel
theorem dX7_endsWar_16 : decode cX7_endsWar 16 = .ok (.invokevirtual 162, 3) := by decide +kernel
theorem dX7_endsWar_19 : decode cX7_endsWar 19 = .ok (.aload_n 0, 1) := by decide +kernel
theorem dX7_endsWar_20 : decode cX7_endsWar 20 = .ok (.getfield 36, 3) := by decide +kernel
theorem dX7_endsWar_23 : decode cX7_endsWar 23 = .ok (.getfield 165, 3) := by decide +kernel
theorem dX7_endsWar_26 : decode cX7_endsWar 26 = .ok (.if_icmp .lt 32, 3) := by decide +kernel
theorem dX7_endsWar_29 : decode cX7_endsWar 29 = .ok (.aload_n 0, 1) := by decide +kernel
theorem dX7_endsWar_30 : decode cX7_endsWar 30 = .ok (.getfield 36, 3) := by decide +kernel
theorem dX7_endsWar_33 : decode cX7_endsWar 33 = .ok (.aload_n 0, 1) := by decide +kernel
theorem dX7_endsWar_34 : decode cX7_endsWar 34 = .ok (.getfield 44, 3) := by decide +kernel
theorem dX7_endsWar_37 : decode cX7_endsWar 37 = .ok (.iconst 1, 1) := by decide +kernel
theorem dX7_endsWar_38 : decode cX7_endsWar 38 = .ok (.invokevirtual 156, 3) := by decide +kernel
theorem dX7_endsWar_41 : decode cX7_endsWar 41 = .ok (.iload_n 1, 1) := by decide +kernel
theorem dX7_endsWar_42 : decode cX7_endsWar 42 = .ok (.iconst (-1), 1) := by decide +kernel
theorem dX7_endsWar_43 : decode cX7_endsWar 43 = .ok (.ixor, 1) := by decide +kernel
theorem dX7_endsWar_44 : decode cX7_endsWar 44 = .ok (.iand, 1) := by decide +kernel
theorem dX7_endsWar_45 : decode cX7_endsWar 45 = .ok (.invokevirtual 162, 3) := by decide +kernel
theorem dX7_endsWar_48 : decode cX7_endsWar 48 = .ok (.aload_n 0, 1) := by decide +kernel
theorem dX7_endsWar_49 : decode cX7_endsWar 49 = .ok (.getfield 36, 3) := by decide +kernel
theorem dX7_endsWar_52 : decode cX7_endsWar 52 = .ok (.getfield 165, 3) := by decide +kernel
theorem dX7_endsWar_55 : decode cX7_endsWar 55 = .ok (.if_icmp .ge 7, 3) := by decide +kernel
theorem dX7_endsWar_58 : decode cX7_endsWar 58 = .ok (.iconst 1, 1) := by decide +kernel
theorem dX7_endsWar_59 : decode cX7_endsWar 59 = .ok (.goto 4, 3) := by decide +kernel
theorem dX7_endsWar_62 : decode cX7_endsWar 62 = .ok (.iconst 0, 1) := by decide +kernel
theorem dX7_endsWar_63 : decode cX7_endsWar 63 = .ok (.ireturn, 1) := by decide +kernel
theorem dX7_fewestTellings_0 : decode cX7_fewestTellings 0 = .ok (.iconst 0, 1) := by decide +kernel
theorem dX7_fewestTellings_1 : decode cX7_fewestTellings 1 = .ok (.istore_n 3, 1) := by decide +kernel
theorem dX7_fewestTellings_2 : decode cX7_fewestTellings 2 = .ok (.iload_n 3, 1) := by decide +kernel
theorem dX7_fewestTellings_3 : decode cX7_fewestTellings 3 = .ok (.bipush 12, 2) := by decide +kernel
theorem dX7_fewestTellings_5 : decode cX7_fewestTellings 5 = .ok (.if_icmp .ge 59, 3) := by decide +kernel
theorem dX7_fewestTellings_8 : decode cX7_fewestTellings 8 = .ok (.iconst 0, 1) := by decide +kernel
theorem dX7_fewestTellings_9 : decode cX7_fewestTellings 9 = .ok (.istore 4, 2) := by decide +kernel
theorem dX7_fewestTellings_11 : decode cX7_fewestTellings 11 = .ok (.iload 4, 2) := by decide +kernel
theorem dX7_fewestTellings_13 : decode cX7_fewestTellings 13 = .ok (.bipush 12, 2) := by decide +kernel
theorem dX7_fewestTellings_15 : decode cX7_fewestTellings 15 = .ok (.if_icmp .ge 43, 3) := by decide +kernel
theorem dX7_fewestTellings_18 : decode cX7_fewestTellings 18 = .ok (.aload_n 0, 1) := by decide +kernel
theorem dX7_fewestTellings_19 : decode cX7_fewestTellings 19 = .ok (.getfield 9, 3) := by decide +kernel
theorem dX7_fewestTellings_22 : decode cX7_fewestTellings 22 = .ok (.iload_n 3, 1) := by decide +kernel
theorem dX7_fewestTellings_23 : decode cX7_fewestTellings 23 = .ok (.bipush 12, 2) := by decide +kernel
theorem dX7_fewestTellings_25 : decode cX7_fewestTellings 25 = .ok (.imul, 1) := by decide +kernel
theorem dX7_fewestTellings_26 : decode cX7_fewestTellings 26 = .ok (.iload 4, 2) := by decide +kernel
theorem dX7_fewestTellings_28 : decode cX7_fewestTellings 28 = .ok (.iadd, 1) := by decide +kernel
theorem dX7_fewestTellings_29 : decode cX7_fewestTellings 29 = .ok (.aload_n 0, 1) := by decide +kernel
theorem dX7_fewestTellings_30 : decode cX7_fewestTellings 30 = .ok (.getfield 36, 3) := by decide +kernel
theorem dX7_fewestTellings_33 : decode cX7_fewestTellings 33 = .ok (.getfield 67, 3) := by decide +kernel
theorem dX7_fewestTellings_36 : decode cX7_fewestTellings 36 = .ok (.iload_n 3, 1) := by decide +kernel
theorem dX7_fewestTellings_37 : decode cX7_fewestTellings 37 = .ok (.iaload, 1) := by decide +kernel
theorem dX7_fewestTellings_38 : decode cX7_fewestTellings 38 = .ok (.iload 4, 2) := by decide +kernel
theorem dX7_fewestTellings_40 : decode cX7_fewestTellings 40 = .ok (.invokestatic 59, 3) := by decide +kernel
theorem dX7_fewestTellings_43 : decode cX7_fewestTellings 43 = .ok (.ifCond .eq 7, 3) := by decide +kernel
theorem dX7_fewestTellings_46 : decode cX7_fewestTellings 46 = .ok (.iconst 1, 1) := by decide +kernel
theorem dX7_fewestTellings_47 : decode cX7_fewestTellings 47 = .ok (.goto 4, 3) := by decide +kernel
theorem dX7_fewestTellings_50 : decode cX7_fewestTellings 50 = .ok (.iconst 0, 1) := by decide +kernel
theorem dX7_fewestTellings_51 : decode cX7_fewestTellings 51 = .ok (.iastore, 1) := by decide +kernel
theorem dX7_fewestTellings_52 : decode cX7_fewestTellings 52 = .ok (.iinc 4 1, 3) := by decide +kernel
theorem dX7_fewestTellings_55 : decode cX7_fewestTellings 55 = .ok (.goto (-44), 3) := by decide +kernel
theorem dX7_fewestTellings_58 : decode cX7_fewestTellings 58 = .ok (.iinc 3 1, 3) := by decide +kernel
theorem dX7_fewestTellings_61 : decode cX7_fewestTellings 61 = .ok (.goto (-59), 3) := by decide +kernel
theorem dX7_fewestTellings_64 : decode cX7_fewestTellings 64 = .ok (.iconst 0, 1) := by decide +kernel
theorem dX7_fewestTellings_65 : decode cX7_fewestTellings 65 = .ok (.istore_n 3, 1) := by decide +kernel
theorem dX7_fewestTellings_66 : decode cX7_fewestTellings 66 = .ok (.iload_n 3, 1) := by decide +kernel
theorem dX7_fewestTellings_67 : decode cX7_fewestTellings 67 = .ok (.bipush 12, 2) := by decide +kernel
theorem dX7_fewestTellings_69 : decode cX7_fewestTellings 69 = .ok (.if_icmp .ge 27, 3) := by decide +kernel
theorem dX7_fewestTellings_72 : decode cX7_fewestTellings 72 = .ok (.aload_n 0, 1) := by decide +kernel
theorem dX7_fewestTellings_73 : decode cX7_fewestTellings 73 = .ok (.aload_n 0, 1) := by decide +kernel
theorem dX7_fewestTellings_74 : decode cX7_fewestTellings 74 = .ok (.iload_n 1, 1) := by decide +kernel
theorem dX7_fewestTellings_75 : decode cX7_fewestTellings 75 = .ok (.invokevirtual 63, 3) := by decide +kernel
theorem dX7_fewestTellings_78 : decode cX7_fewestTellings 78 = .ok (.iload_n 2, 1) := by decide +kernel
theorem dX7_fewestTellings_79 : decode cX7_fewestTellings 79 = .ok (.invokevirtual 70, 3) := by decide +kernel
theorem dX7_fewestTellings_82 : decode cX7_fewestTellings 82 = .ok (.ifCond .eq 14, 3) := by decide +kernel
theorem dX7_fewestTellings_85 : decode cX7_fewestTellings 85 = .ok (.aload_n 0, 1) := by decide +kernel
theorem dX7_fewestTellings_86 : decode cX7_fewestTellings 86 = .ok (.iload_n 2, 1) := by decide +kernel
theorem dX7_fewestTellings_87 : decode cX7_fewestTellings 87 = .ok (.invokevirtual 73, 3) := by decide +kernel
theorem dX7_fewestTellings_90 : decode cX7_fewestTellings 90 = .ok (.iinc 3 1, 3) := by decide +kernel
theorem dX7_fewestTellings_93 : decode cX7_fewestTellings 93 = .ok (.goto (-27), 3) := by decide +kernel
theorem dX7_fewestTellings_96 : decode cX7_fewestTellings 96 = .ok (.iload_n 3, 1) := by decide +kernel
theorem dX7_fewestTellings_97 : decode cX7_fewestTellings 97 = .ok (.ireturn, 1) := by decide +kernel
theorem dX7_findWay_0 : decode cX7_findWay 0 = .ok (.iload_n 1, 1) := by decide +kernel
theorem dX7_findWay_1 : decode cX7_findWay 1 = .ok (.istore_n 3, 1) := by decide +kernel
theorem dX7_findWay_2 : decode cX7_findWay 2 = .ok (.iconst 0, 1) := by decide +kernel
theorem dX7_findWay_3 : decode cX7_findWay 3 = .ok (.istore 4, 2) := by decide +kernel
theorem dX7_findWay_5 : decode cX7_findWay 5 = .ok (.iconst 0, 1) := by decide +kernel
theorem dX7_findWay_6 : decode cX7_findWay 6 = .ok (.istore 5, 2) := by decide +kernel
theorem dX7_findWay_8 : decode cX7_findWay 8 = .ok (.iload 5, 2) := by decide +kernel
theorem dX7_findWay_10 : decode cX7_findWay 10 = .ok (.bipush 12, 2) := by decide +kernel
theorem dX7_findWay_12 : decode cX7_findWay 12 = .ok (.if_icmp .ge 45, 3) := by decide +kernel
theorem dX7_findWay_15 : decode cX7_findWay 15 = .ok (.aload_n 0, 1) := by decide +kernel
theorem dX7_findWay_16 : decode cX7_findWay 16 = .ok (.getfield 15, 3) := by decide +kernel
theorem dX7_findWay_19 : decode cX7_findWay 19 = .ok (.iload 5, 2) := by decide +kernel
theorem dX7_findWay_21 : decode cX7_findWay 21 = .ok (.iconst (-1), 1) := by decide +kernel
theorem dX7_findWay_22 : decode cX7_findWay 22 = .ok (.iastore, 1) := by decide +kernel
theorem dX7_findWay_23 : decode cX7_findWay 23 = .ok (.iload_n 1, 1) := by decide +kernel
theorem dX7_findWay_24 : decode cX7_findWay 24 = .ok (.iload 5, 2) := by decide +kernel
theorem dX7_findWay_26 : decode cX7_findWay 26 = .ok (.invokestatic 59, 3) := by decide +kernel
theorem dX7_findWay_29 : decode cX7_findWay 29 = .ok (.ifCond .eq 22, 3) := by decide +kernel
theorem dX7_findWay_32 : decode cX7_findWay 32 = .ok (.iload 4, 2) := by decide +kernel
theorem dX7_findWay_34 : decode cX7_findWay 34 = .ok (.bipush 12, 2) := by decide +kernel
theorem dX7_findWay_36 : decode cX7_findWay 36 = .ok (.if_icmp .ge 15, 3) := by decide +kernel
theorem dX7_findWay_39 : decode cX7_findWay 39 = .ok (.aload_n 0, 1) := by decide +kernel
theorem dX7_findWay_40 : decode cX7_findWay 40 = .ok (.getfield 18, 3) := by decide +kernel
theorem dX7_findWay_43 : decode cX7_findWay 43 = .ok (.iload 4, 2) := by decide +kernel
theorem dX7_findWay_45 : decode cX7_findWay 45 = .ok (.iload 5, 2) := by decide +kernel
theorem dX7_findWay_47 : decode cX7_findWay 47 = .ok (.iastore, 1) := by decide +kernel
theorem dX7_findWay_48 : decode cX7_findWay 48 = .ok (.iinc 4 1, 3) := by decide +kernel
theorem dX7_findWay_51 : decode cX7_findWay 51 = .ok (.iinc 5 1, 3) := by decide +kernel
theorem dX7_findWay_54 : decode cX7_findWay 54 = .ok (.goto (-46), 3) := by decide +kernel
theorem dX7_findWay_57 : decode cX7_findWay 57 = .ok (.iconst 0, 1) := by decide +kernel
theorem dX7_findWay_58 : decode cX7_findWay 58 = .ok (.istore 5, 2) := by decide +kernel
theorem dX7_findWay_60 : decode cX7_findWay 60 = .ok (.iload 5, 2) := by decide +kernel
theorem dX7_findWay_62 : decode cX7_findWay 62 = .ok (.iload 4, 2) := by decide +kernel
theorem dX7_findWay_64 : decode cX7_findWay 64 = .ok (.if_icmp .ge 125, 3) := by decide +kernel
theorem dX7_findWay_67 : decode cX7_findWay 67 = .ok (.iload 5, 2) := by decide +kernel
theorem dX7_findWay_69 : decode cX7_findWay 69 = .ok (.bipush 12, 2) := by decide +kernel
theorem dX7_findWay_71 : decode cX7_findWay 71 = .ok (.if_icmp .ge 118, 3) := by decide +kernel
theorem dX7_findWay_74 : decode cX7_findWay 74 = .ok (.aload_n 0, 1) := by decide +kernel
theorem dX7_findWay_75 : decode cX7_findWay 75 = .ok (.getfield 18, 3) := by decide +kernel
theorem dX7_findWay_78 : decode cX7_findWay 78 = .ok (.iload 5, 2) := by decide +kernel
theorem dX7_findWay_80 : decode cX7_findWay 80 = .ok (.iaload, 1) := by decide +kernel
theorem dX7_findWay_81 : decode cX7_findWay 81 = .ok (.istore 6, 2) := by decide +kernel
theorem dX7_findWay_83 : decode cX7_findWay 83 = .ok (.iconst 0, 1) := by decide +kernel
theorem dX7_findWay_84 : decode cX7_findWay 84 = .ok (.istore 7, 2) := by decide +kernel
theorem dX7_findWay_86 : decode cX7_findWay 86 = .ok (.iload 7, 2) := by decide +kernel
theorem dX7_findWay_88 : decode cX7_findWay 88 = .ok (.bipush 12, 2) := by decide +kernel
theorem dX7_findWay_90 : decode cX7_findWay 90 = .ok (.if_icmp .ge 93, 3) := by decide +kernel
theorem dX7_findWay_93 : decode cX7_findWay 93 = .ok (.iload 6, 2) := by decide +kernel
theorem dX7_findWay_95 : decode cX7_findWay 95 = .ok (.ifCond .lt 30, 3) := by decide +kernel
theorem dX7_findWay_98 : decode cX7_findWay 98 = .ok (.iload 6, 2) := by decide +kernel
theorem dX7_findWay_100 : decode cX7_findWay 100 = .ok (.bipush 12, 2) := by decide +kernel
theorem dX7_findWay_102 : decode cX7_findWay 102 = .ok (.if_icmp .ge 23, 3) := by decide +kernel
theorem dX7_findWay_105 : decode cX7_findWay 105 = .ok (.aload_n 0, 1) := by decide +kernel
theorem dX7_findWay_106 : decode cX7_findWay 106 = .ok (.getfield 9, 3) := by decide +kernel
theorem dX7_findWay_109 : decode cX7_findWay 109 = .ok (.iload 6, 2) := by decide +kernel
theorem dX7_findWay_111 : decode cX7_findWay 111 = .ok (.bipush 12, 2) := by decide +kernel
theorem dX7_findWay_113 : decode cX7_findWay 113 = .ok (.imul, 1) := by decide +kernel
theorem dX7_findWay_114 : decode cX7_findWay 114 = .ok (.iload 7, 2) := by decide +kernel
theorem dX7_findWay_116 : decode cX7_findWay 116 = .ok (.iadd, 1) := by decide +kernel
theorem dX7_findWay_117 : decode cX7_findWay 117 = .ok (.iaload, 1) := by decide +kernel
theorem dX7_findWay_118 : decode cX7_findWay 118 = .ok (.ifCond .le 7, 3) := by decide +kernel
theorem dX7_findWay_121 : decode cX7_findWay 121 = .ok (.iconst 1, 1) := by decide +kernel
theorem dX7_findWay_122 : decode cX7_findWay 122 = .ok (.goto 4, 3) := by decide +kernel
theorem dX7_findWay_125 : decode cX7_findWay 125 = .ok (.iconst 0, 1) := by decide +kernel
theorem dX7_findWay_126 : decode cX7_findWay 126 = .ok (.istore 8, 2) := by decide +kernel
theorem dX7_findWay_128 : decode cX7_findWay 128 = .ok (.iload 8, 2) := by decide +kernel
theorem dX7_findWay_130 : decode cX7_findWay 130 = .ok (.ifCond .eq 47, 3) := by decide +kernel
theorem dX7_findWay_133 : decode cX7_findWay 133 = .ok (.iload_n 3, 1) := by decide +kernel
theorem dX7_findWay_134 : decode cX7_findWay 134 = .ok (.iload 7, 2) := by decide +kernel
theorem dX7_findWay_136 : decode cX7_findWay 136 = .ok (.invokestatic 59, 3) := by decide +kernel
theorem dX7_findWay_139 : decode cX7_findWay 139 = .ok (.ifCond .ne 38, 3) := by decide +kernel
theorem dX7_findWay_142 : decode cX7_findWay 142 = .ok (.iload 4, 2) := by decide +kernel
theorem dX7_findWay_144 : decode cX7_findWay 144 = .ok (.bipush 12, 2) := by decide +kernel
theorem dX7_findWay_146 : decode cX7_findWay 146 = .ok (.if_icmp .ge 31, 3) := by decide +kernel
theorem dX7_findWay_149 : decode cX7_findWay 149 = .ok (.iload_n 3, 1) := by decide +kernel
theorem dX7_findWay_150 : decode cX7_findWay 150 = .ok (.iconst 1, 1) := by decide +kernel
theorem dX7_findWay_151 : decode cX7_findWay 151 = .ok (.iload 7, 2) := by decide +kernel
theorem dX7_findWay_153 : decode cX7_findWay 153 = .ok (.ishl, 1) := by decide +kernel
theorem dX7_findWay_154 : decode cX7_findWay 154 = .ok (.ior, 1) := by decide +kernel
theorem dX7_findWay_155 : decode cX7_findWay 155 = .ok (.istore_n 3, 1) := by decide +kernel
theorem dX7_findWay_156 : decode cX7_findWay 156 = .ok (.aload_n 0, 1) := by decide +kernel
theorem dX7_findWay_157 : decode cX7_findWay 157 = .ok (.getfield 15, 3) := by decide +kernel
theorem dX7_findWay_160 : decode cX7_findWay 160 = .ok (.iload 7, 2) := by decide +kernel
theorem dX7_findWay_162 : decode cX7_findWay 162 = .ok (.iload 6, 2) := by decide +kernel
theorem dX7_findWay_164 : decode cX7_findWay 164 = .ok (.iastore, 1) := by decide +kernel
theorem dX7_findWay_165 : decode cX7_findWay 165 = .ok (.aload_n 0, 1) := by decide +kernel
theorem dX7_findWay_166 : decode cX7_findWay 166 = .ok (.getfield 18, 3) := by decide +kernel
theorem dX7_findWay_169 : decode cX7_findWay 169 = .ok (.iload 4, 2) := by decide +kernel
theorem dX7_findWay_171 : decode cX7_findWay 171 = .ok (.iload 7, 2) := by decide +kernel
theorem dX7_findWay_173 : decode cX7_findWay 173 = .ok (.iastore, 1) := by decide +kernel
theorem dX7_findWay_174 : decode cX7_findWay 174 = .ok (.iinc 4 1, 3) := by decide +kernel
theorem dX7_findWay_177 : decode cX7_findWay 177 = .ok (.iinc 7 1, 3) := by decide +kernel
theorem dX7_findWay_180 : decode cX7_findWay 180 = .ok (.goto (-94), 3) := by decide +kernel
theorem dX7_findWay_183 : decode cX7_findWay 183 = .ok (.iinc 5 1, 3) := by decide +kernel
theorem dX7_findWay_186 : decode cX7_findWay 186 = .ok (.goto (-126), 3) := by decide +kernel
theorem dX7_findWay_189 : decode cX7_findWay 189 = .ok (.iload_n 3, 1) := by decide +kernel
theorem dX7_findWay_190 : decode cX7_findWay 190 = .ok (.iload_n 2, 1) := by decide +kernel
theorem dX7_findWay_191 : decode cX7_findWay 191 = .ok (.invokestatic 59, 3) := by decide +kernel
theorem dX7_findWay_194 : decode cX7_findWay 194 = .ok (.ireturn, 1) := by decide +kernel
theorem dX7_firstAsked_0 : decode cX7_firstAsked 0 = .ok (.iload_n 1, 1) := by decide +kernel
theorem dX7_firstAsked_1 : decode cX7_firstAsked 1 = .ok (.invokestatic 84, 3) := by decide +kernel
theorem dX7_firstAsked_4 : decode cX7_firstAsked 4 = .ok (.iconst 2, 1) := by decide +kernel
theorem dX7_firstAsked_5 : decode cX7_firstAsked 5 = .ok (.if_icmp .ge 5, 3) := by decide +kernel
theorem dX7_firstAsked_8 : decode cX7_firstAsked 8 = .ok (.iconst (-1), 1) := by decide +kernel
theorem dX7_firstAsked_9 : decode cX7_firstAsked 9 = .ok (.ireturn, 1) := by decide +kernel
theorem dX7_firstAsked_10 : decode cX7_firstAsked 10 = .ok (.iconst (-1), 1) := by decide +kernel
theorem dX7_firstAsked_11 : decode cX7_firstAsked 11 = .ok (.istore_n 2, 1) := by decide +kernel
theorem dX7_firstAsked_12 : decode cX7_firstAsked 12 = .ok (.bipush 13, 2) := by decide +kernel
theorem dX7_firstAsked_14 : decode cX7_firstAsked 14 = .ok (.istore_n 3, 1) := by decide +kernel
theorem dX7_firstAsked_15 : decode cX7_firstAsked 15 = .ok (.iconst 1, 1) := by decide +kernel
theorem dX7_firstAsked_16 : decode cX7_firstAsked 16 = .ok (.istore 4, 2) := by decide +kernel
theorem dX7_firstAsked_18 : decode cX7_firstAsked 18 = .ok (.iload 4, 2) := by decide +kernel
theorem dX7_firstAsked_20 : decode cX7_firstAsked 20 = .ok (.bipush 9, 2) := by decide +kernel
theorem dX7_firstAsked_22 : decode cX7_firstAsked 22 = .ok (.if_icmp .gt 100, 3) := by decide +kernel
theorem dX7_firstAsked_25 : decode cX7_firstAsked 25 = .ok (.iconst 0, 1) := by decide +kernel
theorem dX7_firstAsked_26 : decode cX7_firstAsked 26 = .ok (.istore 5, 2) := by decide +kernel
theorem dX7_firstAsked_28 : decode cX7_firstAsked 28 = .ok (.iconst 0, 1) := by decide +kernel
theorem dX7_firstAsked_29 : decode cX7_firstAsked 29 = .ok (.istore 6, 2) := by decide +kernel
theorem dX7_firstAsked_31 : decode cX7_firstAsked 31 = .ok (.iload 6, 2) := by decide +kernel
theorem dX7_firstAsked_33 : decode cX7_firstAsked 33 = .ok (.bipush 12, 2) := by decide +kernel
theorem dX7_firstAsked_35 : decode cX7_firstAsked 35 = .ok (.if_icmp .ge 55, 3) := by decide +kernel
theorem dX7_firstAsked_38 : decode cX7_firstAsked 38 = .ok (.iload 6, 2) := by decide +kernel
theorem dX7_firstAsked_40 : decode cX7_firstAsked 40 = .ok (.aload_n 0, 1) := by decide +kernel
theorem dX7_firstAsked_41 : decode cX7_firstAsked 41 = .ok (.getfield 36, 3) := by decide +kernel
theorem dX7_firstAsked_44 : decode cX7_firstAsked 44 = .ok (.getfield 48, 3) := by decide +kernel
theorem dX7_firstAsked_47 : decode cX7_firstAsked 47 = .ok (.if_icmp .ge 43, 3) := by decide +kernel
theorem dX7_firstAsked_50 : decode cX7_firstAsked 50 = .ok (.iload 5, 2) := by decide +kernel
theorem dX7_firstAsked_52 : decode cX7_firstAsked 52 = .ok (.iload_n 1, 1) := by decide +kernel
theorem dX7_firstAsked_53 : decode cX7_firstAsked 53 = .ok (.iload 6, 2) := by decide +kernel
theorem dX7_firstAsked_55 : decode cX7_firstAsked 55 = .ok (.invokestatic 59, 3) := by decide +kernel
theorem dX7_firstAsked_58 : decode cX7_firstAsked 58 = .ok (.ifCond .eq 22, 3) := by decide +kernel
theorem dX7_firstAsked_61 : decode cX7_firstAsked 61 = .ok (.aload_n 0, 1) := by decide +kernel
theorem dX7_firstAsked_62 : decode cX7_firstAsked 62 = .ok (.getfield 36, 3) := by decide +kernel
theorem dX7_firstAsked_65 : decode cX7_firstAsked 65 = .ok (.getfield 81, 3) := by decide +kernel
theorem dX7_firstAsked_68 : decode cX7_firstAsked 68 = .ok (.iload 6, 2) := by decide +kernel
theorem dX7_firstAsked_70 : decode cX7_firstAsked 70 = .ok (.iaload, 1) := by decide +kernel
theorem dX7_firstAsked_71 : decode cX7_firstAsked 71 = .ok (.iload 4, 2) := by decide +kernel
theorem dX7_firstAsked_73 : decode cX7_firstAsked 73 = .ok (.if_icmp .gt 7, 3) := by decide +kernel
theorem dX7_firstAsked_76 : decode cX7_firstAsked 76 = .ok (.iconst 1, 1) := by decide +kernel
theorem dX7_firstAsked_77 : decode cX7_firstAsked 77 = .ok (.goto 4, 3) := by decide +kernel
theorem dX7_firstAsked_80 : decode cX7_firstAsked 80 = .ok (.iconst 0, 1) := by decide +kernel
theorem dX7_firstAsked_81 : decode cX7_firstAsked 81 = .ok (.iadd, 1) := by decide +kernel
theorem dX7_firstAsked_82 : decode cX7_firstAsked 82 = .ok (.istore 5, 2) := by decide +kernel
theorem dX7_firstAsked_84 : decode cX7_firstAsked 84 = .ok (.iinc 6 1, 3) := by decide +kernel
theorem dX7_firstAsked_87 : decode cX7_firstAsked 87 = .ok (.goto (-56), 3) := by decide +kernel
theorem dX7_firstAsked_90 : decode cX7_firstAsked 90 = .ok (.iload 5, 2) := by decide +kernel
theorem dX7_firstAsked_92 : decode cX7_firstAsked 92 = .ok (.iload_n 1, 1) := by decide +kernel
theorem dX7_firstAsked_93 : decode cX7_firstAsked 93 = .ok (.invokestatic 84, 3) := by decide +kernel
theorem dX7_firstAsked_96 : decode cX7_firstAsked 96 = .ok (.iload 5, 2) := by decide +kernel
theorem dX7_firstAsked_98 : decode cX7_firstAsked 98 = .ok (.isub, 1) := by decide +kernel
theorem dX7_firstAsked_99 : decode cX7_firstAsked 99 = .ok (.invokestatic 135, 3) := by decide +kernel
theorem dX7_firstAsked_102 : decode cX7_firstAsked 102 = .ok (.istore 6, 2) := by decide +kernel
theorem dX7_firstAsked_104 : decode cX7_firstAsked 104 = .ok (.iload 6, 2) := by decide +kernel
theorem dX7_firstAsked_106 : decode cX7_firstAsked 106 = .ok (.iload_n 3, 1) := by decide +kernel
theorem dX7_firstAsked_107 : decode cX7_firstAsked 107 = .ok (.if_icmp .ge 9, 3) := by decide +kernel
theorem dX7_firstAsked_110 : decode cX7_firstAsked 110 = .ok (.iload 4, 2) := by decide +kernel
theorem dX7_firstAsked_112 : decode cX7_firstAsked 112 = .ok (.istore_n 2, 1) := by decide +kernel
theorem dX7_firstAsked_113 : decode cX7_firstAsked 113 = .ok (.iload 6, 2) := by decide +kernel
theorem dX7_firstAsked_115 : decode cX7_firstAsked 115 = .ok (.istore_n 3, 1) := by decide +kernel
theorem dX7_firstAsked_116 : decode cX7_firstAsked 116 = .ok (.iinc 4 1, 3) := by decide +kernel
theorem dX7_firstAsked_119 : decode cX7_firstAsked 119 = .ok (.goto (-101), 3) := by decide +kernel
theorem dX7_firstAsked_122 : decode cX7_firstAsked 122 = .ok (.iload_n 2, 1) := by decide +kernel
theorem dX7_firstAsked_123 : decode cX7_firstAsked 123 = .ok (.ireturn, 1) := by decide +kernel
theorem dX7_forgotten_0 : decode cX7_forgotten 0 = .ok (.aload_n 0, 1) := by decide +kernel
theorem dX7_forgotten_1 : decode cX7_forgotten 1 = .ok (.getfield 36, 3) := by decide +kernel
theorem dX7_forgotten_4 : decode cX7_forgotten 4 = .ok (.iload_n 1, 1) := by decide +kernel
theorem dX7_forgotten_5 : decode cX7_forgotten 5 = .ok (.invokevirtual 77, 3) := by decide +kernel
theorem dX7_forgotten_8 : decode cX7_forgotten 8 = .ok (.ifCond .ne 5, 3) := by decide +kernel
theorem dX7_forgotten_11 : decode cX7_forgotten 11 = .ok (.iconst (-1), 1) := by decide +kernel
theorem dX7_forgotten_12 : decode cX7_forgotten 12 = .ok (.ireturn, 1) := by decide +kernel
theorem dX7_forgotten_13 : decode cX7_forgotten 13 = .ok (.aload_n 0, 1) := by decide +kernel
theorem dX7_forgotten_14 : decode cX7_forgotten 14 = .ok (.getfield 44, 3) := by decide +kernel
theorem dX7_forgotten_17 : decode cX7_forgotten 17 = .ok (.iload_n 1, 1) := by decide +kernel
theorem dX7_forgotten_18 : decode cX7_forgotten 18 = .ok (.iconst 3, 1) := by decide +kernel
theorem dX7_forgotten_19 : decode cX7_forgotten 19 = .ok (.invokevirtual 147, 3) := by decide +kernel
theorem dX7_forgotten_22 : decode cX7_forgotten 22 = .ok (.istore_n 3, 1) := by decide +kernel
theorem dX7_forgotten_23 : decode cX7_forgotten 23 = .ok (.bipush 8, 2) := by decide +kernel
theorem dX7_forgotten_25 : decode cX7_forgotten 25 = .ok (.aload_n 0, 1) := by decide +kernel
theorem dX7_forgotten_26 : decode cX7_forgotten 26 = .ok (.getfield 40, 3) := by decide +kernel
theorem dX7_forgotten_29 : decode cX7_forgotten 29 = .ok (.getfield 54, 3) := by decide +kernel
theorem dX7_forgotten_32 : decode cX7_forgotten 32 = .ok (.iload_n 1, 1) := by decide +kernel
theorem dX7_forgotten_33 : decode cX7_forgotten 33 = .ok (.iaload, 1) := by decide +kernel
theorem dX7_forgotten_34 : decode cX7_forgotten 34 = .ok (.invokestatic 84, 3) := by decide +kernel
theorem dX7_forgotten_37 : decode cX7_forgotten 37 = .ok (.invokestatic 100, 3) := by decide +kernel
theorem dX7_forgotten_40 : decode cX7_forgotten 40 = .ok (.istore 4, 2) := by decide +kernel
theorem dX7_forgotten_42 : decode cX7_forgotten 42 = .ok (.aload_n 0, 1) := by decide +kernel
theorem dX7_forgotten_43 : decode cX7_forgotten 43 = .ok (.getfield 33, 3) := by decide +kernel
theorem dX7_forgotten_46 : decode cX7_forgotten 46 = .ok (.iconst 0, 1) := by decide +kernel
theorem dX7_forgotten_47 : decode cX7_forgotten 47 = .ok (.invokestatic 138, 3) := by decide +kernel
theorem dX7_forgotten_50 : decode cX7_forgotten 50 = .ok (.aload_n 0, 1) := by decide +kernel
theorem dX7_forgotten_51 : decode cX7_forgotten 51 = .ok (.getfield 33, 3) := by decide +kernel
theorem dX7_forgotten_54 : decode cX7_forgotten 54 = .ok (.iload 4, 2) := by decide +kernel
theorem dX7_forgotten_56 : decode cX7_forgotten 56 = .ok (.ldc 152, 2) := by decide +kernel
theorem dX7_forgotten_58 : decode cX7_forgotten 58 = .ok (.iastore, 1) := by decide +kernel
theorem dX7_forgotten_59 : decode cX7_forgotten 59 = .ok (.iconst 0, 1) := by decide +kernel
theorem dX7_forgotten_60 : decode cX7_forgotten 60 = .ok (.istore 5, 2) := by decide +kernel
theorem dX7_forgotten_62 : decode cX7_forgotten 62 = .ok (.iload 5, 2) := by decide +kernel
theorem dX7_forgotten_64 : decode cX7_forgotten 64 = .ok (.iload_n 2, 1) := by decide +kernel
theorem dX7_forgotten_65 : decode cX7_forgotten 65 = .ok (.if_icmp .ge 66, 3) := by decide +kernel
theorem dX7_forgotten_68 : decode cX7_forgotten 68 = .ok (.iconst 1, 1) := by decide +kernel
theorem dX7_forgotten_69 : decode cX7_forgotten 69 = .ok (.istore 6, 2) := by decide +kernel
theorem dX7_forgotten_71 : decode cX7_forgotten 71 = .ok (.iload 6, 2) := by decide +kernel
theorem dX7_forgotten_73 : decode cX7_forgotten 73 = .ok (.bipush 8, 2) := by decide +kernel
theorem dX7_forgotten_75 : decode cX7_forgotten 75 = .ok (.if_icmp .gt 50, 3) := by decide +kernel
theorem dX7_forgotten_78 : decode cX7_forgotten 78 = .ok (.aload_n 0, 1) := by decide +kernel
theorem dX7_forgotten_79 : decode cX7_forgotten 79 = .ok (.getfield 33, 3) := by decide +kernel
theorem dX7_forgotten_82 : decode cX7_forgotten 82 = .ok (.iload 6, 2) := by decide +kernel
theorem dX7_forgotten_84 : decode cX7_forgotten 84 = .ok (.iaload, 1) := by decide +kernel
theorem dX7_forgotten_85 : decode cX7_forgotten 85 = .ok (.iload_n 3, 1) := by decide +kernel
theorem dX7_forgotten_86 : decode cX7_forgotten 86 = .ok (.imul, 1) := by decide +kernel
theorem dX7_forgotten_87 : decode cX7_forgotten 87 = .ok (.sipush 1000, 3) := by decide +kernel
theorem dX7_forgotten_90 : decode cX7_forgotten 90 = .ok (.idiv, 1) := by decide +kernel
theorem dX7_forgotten_91 : decode cX7_forgotten 91 = .ok (.istore 7, 2) := by decide +kernel
theorem dX7_forgotten_93 : decode cX7_forgotten 93 = .ok (.aload_n 0, 1) := by decide +kernel
theorem dX7_forgotten_94 : decode cX7_forgotten 94 = .ok (.getfield 33, 3) := by decide +kernel
theorem dX7_forgotten_97 : decode cX7_forgotten 97 = .ok (.iload 6, 2) := by decide +kernel
theorem dX7_forgotten_99 : decode cX7_forgotten 99 = .ok (.dup2, 1) := by decide +kernel
theorem dX7_forgotten_100 : decode cX7_forgotten 100 = .ok (.iaload, 1) := by decide +kernel
theorem dX7_forgotten_101 : decode cX7_forgotten 101 = .ok (.iload 7, 2) := by decide +kernel
theorem dX7_forgotten_103 : decode cX7_forgotten 103 = .ok (.isub, 1) := by decide +kernel
theorem dX7_forgotten_104 : decode cX7_forgotten 104 = .ok (.iastore, 1) := by decide +kernel
theorem dX7_forgotten_105 : decode cX7_forgotten 105 = .ok (.aload_n 0, 1) := by decide +kernel
theorem dX7_forgotten_106 : decode cX7_forgotten 106 = .ok (.getfield 33, 3) := by decide +kernel
theorem dX7_forgotten_109 : decode cX7_forgotten 109 = .ok (.iload 6, 2) := by decide +kernel
theorem dX7_forgotten_111 : decode cX7_forgotten 111 = .ok (.iconst 1, 1) := by decide +kernel
theorem dX7_forgotten_112 : decode cX7_forgotten 112 = .ok (.isub, 1) := by decide +kernel
theorem dX7_forgotten_113 : decode cX7_forgotten 113 = .ok (.dup2, 1) := by decide +kernel
theorem dX7_forgotten_114 : decode cX7_forgotten 114 = .ok (.iaload, 1) := by decide +kernel
theorem dX7_forgotten_115 : decode cX7_forgotten 115 = .ok (.iload 7, 2) := by decide +kernel
theorem dX7_forgotten_117 : decode cX7_forgotten 117 = .ok (.iadd, 1) := by decide +kernel
theorem dX7_forgotten_118 : decode cX7_forgotten 118 = .ok (.iastore, 1) := by decide +kernel
theorem dX7_forgotten_119 : decode cX7_forgotten 119 = .ok (.iinc 6 1, 3) := by decide +kernel
theorem dX7_forgotten_122 : decode cX7_forgotten 122 = .ok (.goto (-51), 3) := by decide +kernel
theorem dX7_forgotten_125 : decode cX7_forgotten 125 = .ok (.iinc 5 1, 3) := by decide +kernel
theorem dX7_forgotten_128 : decode cX7_forgotten 128 = .ok (.goto (-66), 3) := by decide +kernel
theorem dX7_forgotten_131 : decode cX7_forgotten 131 = .ok (.aload_n 0, 1) := by decide +kernel
theorem dX7_forgotten_132 : decode cX7_forgotten 132 = .ok (.getfield 33, 3) := by decide +kernel
theorem dX7_forgotten_135 : decode cX7_forgotten 135 = .ok (.iconst 0, 1) := by decide +kernel
theorem dX7_forgotten_136 : decode cX7_forgotten 136 = .ok (.iaload, 1) := by decide +kernel
theorem dX7_forgotten_137 : decode cX7_forgotten 137 = .ok (.ireturn, 1) := by decide +kernel
theorem dX7_gather_0 : decode cX7_gather 0 = .ok (.aload_n 0, 1) := by decide +kernel
theorem dX7_gather_1 : decode cX7_gather 1 = .ok (.iconst 0, 1) := by decide +kernel
theorem dX7_gather_2 : decode cX7_gather 2 = .ok (.putfield 114, 3) := by decide +kernel
theorem dX7_gather_5 : decode cX7_gather 5 = .ok (.aload_n 0, 1) := by decide +kernel
theorem dX7_gather_6 : decode cX7_gather 6 = .ok (.iconst 0, 1) := by decide +kernel
theorem dX7_gather_7 : decode cX7_gather 7 = .ok (.putfield 117, 3) := by decide +kernel
theorem dX7_gather_10 : decode cX7_gather 10 = .ok (.iconst 0, 1) := by decide +kernel
theorem dX7_gather_11 : decode cX7_gather 11 = .ok (.istore_n 2, 1) := by decide +kernel
theorem dX7_gather_12 : decode cX7_gather 12 = .ok (.iload_n 2, 1) := by decide +kernel
theorem dX7_gather_13 : decode cX7_gather 13 = .ok (.bipush 12, 2) := by decide +kernel
theorem dX7_gather_15 : decode cX7_gather 15 = .ok (.if_icmp .ge 132, 3) := by decide +kernel
theorem dX7_gather_18 : decode cX7_gather 18 = .ok (.iload_n 2, 1) := by decide +kernel
theorem dX7_gather_19 : decode cX7_gather 19 = .ok (.aload_n 0, 1) := by decide +kernel
theorem dX7_gather_20 : decode cX7_gather 20 = .ok (.getfield 36, 3) := by decide +kernel
theorem dX7_gather_23 : decode cX7_gather 23 = .ok (.getfield 48, 3) := by decide +kernel
theorem dX7_gather_26 : decode cX7_gather 26 = .ok (.if_icmp .ge 121, 3) := by decide +kernel
theorem dX7_gather_29 : decode cX7_gather 29 = .ok (.aload_n 0, 1) := by decide +kernel
theorem dX7_gather_30 : decode cX7_gather 30 = .ok (.getfield 36, 3) := by decide +kernel
theorem dX7_gather_33 : decode cX7_gather 33 = .ok (.getfield 120, 3) := by decide +kernel
theorem dX7_gather_36 : decode cX7_gather 36 = .ok (.iload_n 2, 1) := by decide +kernel
theorem dX7_gather_37 : decode cX7_gather 37 = .ok (.iaload, 1) := by decide +kernel
theorem dX7_gather_38 : decode cX7_gather 38 = .ok (.iload_n 1, 1) := by decide +kernel
theorem dX7_gather_39 : decode cX7_gather 39 = .ok (.if_icmp .ne 48, 3) := by decide +kernel
theorem dX7_gather_42 : decode cX7_gather 42 = .ok (.aload_n 0, 1) := by decide +kernel
theorem dX7_gather_43 : decode cX7_gather 43 = .ok (.getfield 40, 3) := by decide +kernel
theorem dX7_gather_46 : decode cX7_gather 46 = .ok (.getfield 123, 3) := by decide +kernel
theorem dX7_gather_49 : decode cX7_gather 49 = .ok (.iload_n 2, 1) := by decide +kernel
theorem dX7_gather_50 : decode cX7_gather 50 = .ok (.iaload, 1) := by decide +kernel
theorem dX7_gather_51 : decode cX7_gather 51 = .ok (.iconst 1, 1) := by decide +kernel
theorem dX7_gather_52 : decode cX7_gather 52 = .ok (.if_icmp .ne 35, 3) := by decide +kernel
theorem dX7_gather_55 : decode cX7_gather 55 = .ok (.aload_n 0, 1) := by decide +kernel
theorem dX7_gather_56 : decode cX7_gather 56 = .ok (.getfield 114, 3) := by decide +kernel
theorem dX7_gather_59 : decode cX7_gather 59 = .ok (.bipush 12, 2) := by decide +kernel
theorem dX7_gather_61 : decode cX7_gather 61 = .ok (.if_icmp .ge 26, 3) := by decide +kernel
theorem dX7_gather_64 : decode cX7_gather 64 = .ok (.aload_n 0, 1) := by decide +kernel
theorem dX7_gather_65 : decode cX7_gather 65 = .ok (.getfield 21, 3) := by decide +kernel
theorem dX7_gather_68 : decode cX7_gather 68 = .ok (.aload_n 0, 1) := by decide +kernel
theorem dX7_gather_69 : decode cX7_gather 69 = .ok (.getfield 114, 3) := by decide +kernel
theorem dX7_gather_72 : decode cX7_gather 72 = .ok (.iload_n 2, 1) := by decide +kernel
theorem dX7_gather_73 : decode cX7_gather 73 = .ok (.iastore, 1) := by decide +kernel
theorem dX7_gather_74 : decode cX7_gather 74 = .ok (.aload_n 0, 1) := by decide +kernel
theorem dX7_gather_75 : decode cX7_gather 75 = .ok (.dup, 1) := by decide +kernel
theorem dX7_gather_76 : decode cX7_gather 76 = .ok (.getfield 114, 3) := by decide +kernel
theorem dX7_gather_79 : decode cX7_gather 79 = .ok (.iconst 1, 1) := by decide +kernel
theorem dX7_gather_80 : decode cX7_gather 80 = .ok (.iadd, 1) := by decide +kernel
theorem dX7_gather_81 : decode cX7_gather 81 = .ok (.putfield 114, 3) := by decide +kernel
theorem dX7_gather_84 : decode cX7_gather 84 = .ok (.goto 57, 3) := by decide +kernel
theorem dX7_gather_87 : decode cX7_gather 87 = .ok (.aload_n 0, 1) := by decide +kernel
theorem dX7_gather_88 : decode cX7_gather 88 = .ok (.getfield 36, 3) := by decide +kernel
theorem dX7_gather_91 : decode cX7_gather 91 = .ok (.getfield 120, 3) := by decide +kernel
theorem dX7_gather_94 : decode cX7_gather 94 = .ok (.iload_n 2, 1) := by decide +kernel
theorem dX7_gather_95 : decode cX7_gather 95 = .ok (.iaload, 1) := by decide +kernel
theorem dX7_gather_96 : decode cX7_gather 96 = .ok (.iload_n 1, 1) := by decide +kernel
theorem dX7_gather_97 : decode cX7_gather 97 = .ok (.if_icmp .ne 44, 3) := by decide +kernel
theorem dX7_gather_100 : decode cX7_gather 100 = .ok (.aload_n 0, 1) := by decide +kernel
theorem dX7_gather_101 : decode cX7_gather 101 = .ok (.getfield 40, 3) := by decide +kernel
theorem dX7_gather_104 : decode cX7_gather 104 = .ok (.getfield 123, 3) := by decide +kernel
theorem dX7_gather_107 : decode cX7_gather 107 = .ok (.iload_n 2, 1) := by decide +kernel
theorem dX7_gather_108 : decode cX7_gather 108 = .ok (.iaload, 1) := by decide +kernel
theorem dX7_gather_109 : decode cX7_gather 109 = .ok (.ifCond .ne 32, 3) := by decide +kernel
theorem dX7_gather_112 : decode cX7_gather 112 = .ok (.aload_n 0, 1) := by decide +kernel
theorem dX7_gather_113 : decode cX7_gather 113 = .ok (.getfield 117, 3) := by decide +kernel
theorem dX7_gather_116 : decode cX7_gather 116 = .ok (.bipush 12, 2) := by decide +kernel
theorem dX7_gather_118 : decode cX7_gather 118 = .ok (.if_icmp .ge 23, 3) := by decide +kernel
theorem dX7_gather_121 : decode cX7_gather 121 = .ok (.aload_n 0, 1) := by decide +kernel
theorem dX7_gather_122 : decode cX7_gather 122 = .ok (.getfield 24, 3) := by decide +kernel
theorem dX7_gather_125 : decode cX7_gather 125 = .ok (.aload_n 0, 1) := by decide +kernel
theorem dX7_gather_126 : decode cX7_gather 126 = .ok (.getfield 117, 3) := by decide +kernel
theorem dX7_gather_129 : decode cX7_gather 129 = .ok (.iload_n 2, 1) := by decide +kernel
theorem dX7_gather_130 : decode cX7_gather 130 = .ok (.iastore, 1) := by decide +kernel
theorem dX7_gather_131 : decode cX7_gather 131 = .ok (.aload_n 0, 1) := by decide +kernel
theorem dX7_gather_132 : decode cX7_gather 132 = .ok (.dup, 1) := by decide +kernel
theorem dX7_gather_133 : decode cX7_gather 133 = .ok (.getfield 117, 3) := by decide +kernel
theorem dX7_gather_136 : decode cX7_gather 136 = .ok (.iconst 1, 1) := by decide +kernel
theorem dX7_gather_137 : decode cX7_gather 137 = .ok (.iadd, 1) := by decide +kernel
theorem dX7_gather_138 : decode cX7_gather 138 = .ok (.putfield 117, 3) := by decide +kernel
theorem dX7_gather_141 : decode cX7_gather 141 = .ok (.iinc 2 1, 3) := by decide +kernel
theorem dX7_gather_144 : decode cX7_gather 144 = .ok (.goto (-132), 3) := by decide +kernel
theorem dX7_gather_147 : decode cX7_gather 147 = .ok (.return_, 1) := by decide +kernel
theorem dX7_goerFor_0 : decode cX7_goerFor 0 = .ok (.iconst 0, 1) := by decide +kernel
theorem dX7_goerFor_1 : decode cX7_goerFor 1 = .ok (.istore_n 2, 1) := by decide +kernel
theorem dX7_goerFor_2 : decode cX7_goerFor 2 = .ok (.iload_n 2, 1) := by decide +kernel
theorem dX7_goerFor_3 : decode cX7_goerFor 3 = .ok (.aload_n 0, 1) := by decide +kernel
theorem dX7_goerFor_4 : decode cX7_goerFor 4 = .ok (.getfield 114, 3) := by decide +kernel
theorem dX7_goerFor_7 : decode cX7_goerFor 7 = .ok (.if_icmp .ge 32, 3) := by decide +kernel
theorem dX7_goerFor_10 : decode cX7_goerFor 10 = .ok (.iload_n 2, 1) := by decide +kernel
theorem dX7_goerFor_11 : decode cX7_goerFor 11 = .ok (.bipush 12, 2) := by decide +kernel
theorem dX7_goerFor_13 : decode cX7_goerFor 13 = .ok (.if_icmp .ge 26, 3) := by decide +kernel
theorem dX7_goerFor_16 : decode cX7_goerFor 16 = .ok (.aload_n 0, 1) := by decide +kernel
theorem dX7_goerFor_17 : decode cX7_goerFor 17 = .ok (.getfield 21, 3) := by decide +kernel
theorem dX7_goerFor_20 : decode cX7_goerFor 20 = .ok (.iload_n 2, 1) := by decide +kernel
theorem dX7_goerFor_21 : decode cX7_goerFor 21 = .ok (.iaload, 1) := by decide +kernel
theorem dX7_goerFor_22 : decode cX7_goerFor 22 = .ok (.iload_n 1, 1) := by decide +kernel
theorem dX7_goerFor_23 : decode cX7_goerFor 23 = .ok (.if_icmp .ne 10, 3) := by decide +kernel
theorem dX7_goerFor_26 : decode cX7_goerFor 26 = .ok (.aload_n 0, 1) := by decide +kernel
theorem dX7_goerFor_27 : decode cX7_goerFor 27 = .ok (.getfield 27, 3) := by decide +kernel
theorem dX7_goerFor_30 : decode cX7_goerFor 30 = .ok (.iload_n 2, 1) := by decide +kernel
theorem dX7_goerFor_31 : decode cX7_goerFor 31 = .ok (.iaload, 1) := by decide +kernel
theorem dX7_goerFor_32 : decode cX7_goerFor 32 = .ok (.ireturn, 1) := by decide +kernel
theorem dX7_goerFor_33 : decode cX7_goerFor 33 = .ok (.iinc 2 1, 3) := by decide +kernel
theorem dX7_goerFor_36 : decode cX7_goerFor 36 = .ok (.goto (-34), 3) := by decide +kernel
theorem dX7_goerFor_39 : decode cX7_goerFor 39 = .ok (.iconst (-1), 1) := by decide +kernel
theorem dX7_goerFor_40 : decode cX7_goerFor 40 = .ok (.ireturn, 1) := by decide +kernel
theorem dX7_hearers_0 : decode cX7_hearers 0 = .ok (.aload_n 0, 1) := by decide +kernel
theorem dX7_hearers_1 : decode cX7_hearers 1 = .ok (.iload_n 1, 1) := by decide +kernel
theorem dX7_hearers_2 : decode cX7_hearers 2 = .ok (.invokevirtual 63, 3) := by decide +kernel
theorem dX7_hearers_5 : decode cX7_hearers 5 = .ok (.istore_n 2, 1) := by decide +kernel
theorem dX7_hearers_6 : decode cX7_hearers 6 = .ok (.iconst 0, 1) := by decide +kernel
theorem dX7_hearers_7 : decode cX7_hearers 7 = .ok (.istore_n 3, 1) := by decide +kernel
theorem dX7_hearers_8 : decode cX7_hearers 8 = .ok (.iload_n 3, 1) := by decide +kernel
theorem dX7_hearers_9 : decode cX7_hearers 9 = .ok (.bipush 12, 2) := by decide +kernel
theorem dX7_hearers_11 : decode cX7_hearers 11 = .ok (.if_icmp .ge 63, 3) := by decide +kernel
theorem dX7_hearers_14 : decode cX7_hearers 14 = .ok (.iconst 0, 1) := by decide +kernel
theorem dX7_hearers_15 : decode cX7_hearers 15 = .ok (.istore 4, 2) := by decide +kernel
theorem dX7_hearers_17 : decode cX7_hearers 17 = .ok (.iload 4, 2) := by decide +kernel
theorem dX7_hearers_19 : decode cX7_hearers 19 = .ok (.bipush 12, 2) := by decide +kernel
theorem dX7_hearers_21 : decode cX7_hearers 21 = .ok (.if_icmp .ge 47, 3) := by decide +kernel
theorem dX7_hearers_24 : decode cX7_hearers 24 = .ok (.iload 4, 2) := by decide +kernel
theorem dX7_hearers_26 : decode cX7_hearers 26 = .ok (.aload_n 0, 1) := by decide +kernel
theorem dX7_hearers_27 : decode cX7_hearers 27 = .ok (.getfield 36, 3) := by decide +kernel
theorem dX7_hearers_30 : decode cX7_hearers 30 = .ok (.getfield 48, 3) := by decide +kernel
theorem dX7_hearers_33 : decode cX7_hearers 33 = .ok (.if_icmp .ge 35, 3) := by decide +kernel
theorem dX7_hearers_36 : decode cX7_hearers 36 = .ok (.iload_n 2, 1) := by decide +kernel
theorem dX7_hearers_37 : decode cX7_hearers 37 = .ok (.iload_n 2, 1) := by decide +kernel
theorem dX7_hearers_38 : decode cX7_hearers 38 = .ok (.iload 4, 2) := by decide +kernel
theorem dX7_hearers_40 : decode cX7_hearers 40 = .ok (.invokestatic 59, 3) := by decide +kernel
theorem dX7_hearers_43 : decode cX7_hearers 43 = .ok (.ifCond .eq 16, 3) := by decide +kernel
theorem dX7_hearers_46 : decode cX7_hearers 46 = .ok (.aload_n 0, 1) := by decide +kernel
theorem dX7_hearers_47 : decode cX7_hearers 47 = .ok (.getfield 36, 3) := by decide +kernel
theorem dX7_hearers_50 : decode cX7_hearers 50 = .ok (.getfield 67, 3) := by decide +kernel
theorem dX7_hearers_53 : decode cX7_hearers 53 = .ok (.iload 4, 2) := by decide +kernel
theorem dX7_hearers_55 : decode cX7_hearers 55 = .ok (.iaload, 1) := by decide +kernel
theorem dX7_hearers_56 : decode cX7_hearers 56 = .ok (.goto 4, 3) := by decide +kernel
theorem dX7_hearers_59 : decode cX7_hearers 59 = .ok (.iconst 0, 1) := by decide +kernel
theorem dX7_hearers_60 : decode cX7_hearers 60 = .ok (.ior, 1) := by decide +kernel
theorem dX7_hearers_61 : decode cX7_hearers 61 = .ok (.istore_n 2, 1) := by decide +kernel
theorem dX7_hearers_62 : decode cX7_hearers 62 = .ok (.iinc 4 1, 3) := by decide +kernel
theorem dX7_hearers_65 : decode cX7_hearers 65 = .ok (.goto (-48), 3) := by decide +kernel
theorem dX7_hearers_68 : decode cX7_hearers 68 = .ok (.iinc 3 1, 3) := by decide +kernel
theorem dX7_hearers_71 : decode cX7_hearers 71 = .ok (.goto (-63), 3) := by decide +kernel
theorem dX7_hearers_74 : decode cX7_hearers 74 = .ok (.iload_n 2, 1) := by decide +kernel
theorem dX7_hearers_75 : decode cX7_hearers 75 = .ok (.ireturn, 1) := by decide +kernel
theorem dX7_init_0 : decode cX7_init 0 = .ok (.aload_n 0, 1) := by decide +kernel
theorem dX7_init_1 : decode cX7_init 1 = .ok (.invokespecial 3, 3) := by decide +kernel
theorem dX7_init_4 : decode cX7_init 4 = .ok (.aload_n 0, 1) := by decide +kernel
theorem dX7_init_5 : decode cX7_init 5 = .ok (.sipush 144, 3) := by decide +kernel
theorem dX7_init_8 : decode cX7_init 8 = .ok (.newarray .int, 2) := by decide +kernel
theorem dX7_init_10 : decode cX7_init 10 = .ok (.putfield 9, 3) := by decide +kernel
theorem dX7_init_13 : decode cX7_init 13 = .ok (.aload_n 0, 1) := by decide +kernel
theorem dX7_init_14 : decode cX7_init 14 = .ok (.bipush 12, 2) := by decide +kernel
theorem dX7_init_16 : decode cX7_init 16 = .ok (.newarray .int, 2) := by decide +kernel
theorem dX7_init_18 : decode cX7_init 18 = .ok (.putfield 15, 3) := by decide +kernel
theorem dX7_init_21 : decode cX7_init 21 = .ok (.aload_n 0, 1) := by decide +kernel
theorem dX7_init_22 : decode cX7_init 22 = .ok (.bipush 12, 2) := by decide +kernel
theorem dX7_init_24 : decode cX7_init 24 = .ok (.newarray .int, 2) := by decide +kernel
theorem dX7_init_26 : decode cX7_init 26 = .ok (.putfield 18, 3) := by decide +kernel
theorem dX7_init_29 : decode cX7_init 29 = .ok (.aload_n 0, 1) := by decide +kernel
theorem dX7_init_30 : decode cX7_init 30 = .ok (.bipush 12, 2) := by decide +kernel
theorem dX7_init_32 : decode cX7_init 32 = .ok (.newarray .int, 2) := by decide +kernel
theorem dX7_init_34 : decode cX7_init 34 = .ok (.putfield 21, 3) := by decide +kernel
theorem dX7_init_37 : decode cX7_init 37 = .ok (.aload_n 0, 1) := by decide +kernel
theorem dX7_init_38 : decode cX7_init 38 = .ok (.bipush 12, 2) := by decide +kernel
theorem dX7_init_40 : decode cX7_init 40 = .ok (.newarray .int, 2) := by decide +kernel
theorem dX7_init_42 : decode cX7_init 42 = .ok (.putfield 24, 3) := by decide +kernel
theorem dX7_init_45 : decode cX7_init 45 = .ok (.aload_n 0, 1) := by decide +kernel
theorem dX7_init_46 : decode cX7_init 46 = .ok (.bipush 12, 2) := by decide +kernel
theorem dX7_init_48 : decode cX7_init 48 = .ok (.newarray .int, 2) := by decide +kernel
theorem dX7_init_50 : decode cX7_init 50 = .ok (.putfield 27, 3) := by decide +kernel
theorem dX7_init_53 : decode cX7_init 53 = .ok (.aload_n 0, 1) := by decide +kernel
theorem dX7_init_54 : decode cX7_init 54 = .ok (.sipush 4096, 3) := by decide +kernel
theorem dX7_init_57 : decode cX7_init 57 = .ok (.newarray .int, 2) := by decide +kernel
theorem dX7_init_59 : decode cX7_init 59 = .ok (.putfield 30, 3) := by decide +kernel
theorem dX7_init_62 : decode cX7_init 62 = .ok (.aload_n 0, 1) := by decide +kernel
theorem dX7_init_63 : decode cX7_init 63 = .ok (.bipush 9, 2) := by decide +kernel
theorem dX7_init_65 : decode cX7_init 65 = .ok (.newarray .int, 2) := by decide +kernel
theorem dX7_init_67 : decode cX7_init 67 = .ok (.putfield 33, 3) := by decide +kernel
theorem dX7_init_70 : decode cX7_init 70 = .ok (.aload_n 0, 1) := by decide +kernel
theorem dX7_init_71 : decode cX7_init 71 = .ok (.aload_n 1, 1) := by decide +kernel
theorem dX7_init_72 : decode cX7_init 72 = .ok (.putfield 36, 3) := by decide +kernel
theorem dX7_init_75 : decode cX7_init 75 = .ok (.aload_n 0, 1) := by decide +kernel
theorem dX7_init_76 : decode cX7_init 76 = .ok (.aload_n 2, 1) := by decide +kernel
theorem dX7_init_77 : decode cX7_init 77 = .ok (.putfield 40, 3) := by decide +kernel
theorem dX7_init_80 : decode cX7_init 80 = .ok (.aload_n 0, 1) := by decide +kernel
theorem dX7_init_81 : decode cX7_init 81 = .ok (.aload_n 3, 1) := by decide +kernel
theorem dX7_init_82 : decode cX7_init 82 = .ok (.putfield 44, 3) := by decide +kernel
theorem dX7_init_85 : decode cX7_init 85 = .ok (.return_, 1) := by decide +kernel
theorem dX7_knowers_0 : decode cX7_knowers 0 = .ok (.iconst 0, 1) := by decide +kernel
theorem dX7_knowers_1 : decode cX7_knowers 1 = .ok (.istore_n 2, 1) := by decide +kernel
theorem dX7_knowers_2 : decode cX7_knowers 2 = .ok (.iconst 0, 1) := by decide +kernel
theorem dX7_knowers_3 : decode cX7_knowers 3 = .ok (.istore_n 3, 1) := by decide +kernel
theorem dX7_knowers_4 : decode cX7_knowers 4 = .ok (.iload_n 3, 1) := by decide +kernel
theorem dX7_knowers_5 : decode cX7_knowers 5 = .ok (.bipush 12, 2) := by decide +kernel
theorem dX7_knowers_7 : decode cX7_knowers 7 = .ok (.if_icmp .ge 46, 3) := by decide +kernel
theorem dX7_knowers_10 : decode cX7_knowers 10 = .ok (.iload_n 3, 1) := by decide +kernel
theorem dX7_knowers_11 : decode cX7_knowers 11 = .ok (.aload_n 0, 1) := by decide +kernel
theorem dX7_knowers_12 : decode cX7_knowers 12 = .ok (.getfield 36, 3) := by decide +kernel
theorem dX7_knowers_15 : decode cX7_knowers 15 = .ok (.getfield 48, 3) := by decide +kernel
theorem dX7_knowers_18 : decode cX7_knowers 18 = .ok (.if_icmp .ge 35, 3) := by decide +kernel
theorem dX7_knowers_21 : decode cX7_knowers 21 = .ok (.iload_n 2, 1) := by decide +kernel
theorem dX7_knowers_22 : decode cX7_knowers 22 = .ok (.aload_n 0, 1) := by decide +kernel
theorem dX7_knowers_23 : decode cX7_knowers 23 = .ok (.getfield 40, 3) := by decide +kernel
theorem dX7_knowers_26 : decode cX7_knowers 26 = .ok (.getfield 54, 3) := by decide +kernel
theorem dX7_knowers_29 : decode cX7_knowers 29 = .ok (.iload_n 3, 1) := by decide +kernel
theorem dX7_knowers_30 : decode cX7_knowers 30 = .ok (.iaload, 1) := by decide +kernel
theorem dX7_knowers_31 : decode cX7_knowers 31 = .ok (.iload_n 1, 1) := by decide +kernel
theorem dX7_knowers_32 : decode cX7_knowers 32 = .ok (.invokestatic 59, 3) := by decide +kernel
theorem dX7_knowers_35 : decode cX7_knowers 35 = .ok (.ifCond .eq 9, 3) := by decide +kernel
theorem dX7_knowers_38 : decode cX7_knowers 38 = .ok (.iconst 1, 1) := by decide +kernel
theorem dX7_knowers_39 : decode cX7_knowers 39 = .ok (.iload_n 3, 1) := by decide +kernel
theorem dX7_knowers_40 : decode cX7_knowers 40 = .ok (.ishl, 1) := by decide +kernel
theorem dX7_knowers_41 : decode cX7_knowers 41 = .ok (.goto 4, 3) := by decide +kernel
theorem dX7_knowers_44 : decode cX7_knowers 44 = .ok (.iconst 0, 1) := by decide +kernel
theorem dX7_knowers_45 : decode cX7_knowers 45 = .ok (.ior, 1) := by decide +kernel
theorem dX7_knowers_46 : decode cX7_knowers 46 = .ok (.istore_n 2, 1) := by decide +kernel
theorem dX7_knowers_47 : decode cX7_knowers 47 = .ok (.iinc 3 1, 3) := by decide +kernel
theorem dX7_knowers_50 : decode cX7_knowers 50 = .ok (.goto (-46), 3) := by decide +kernel
theorem dX7_knowers_53 : decode cX7_knowers 53 = .ok (.iload_n 2, 1) := by decide +kernel
theorem dX7_knowers_54 : decode cX7_knowers 54 = .ok (.ireturn, 1) := by decide +kernel
theorem dX7_lastToRemember_0 : decode cX7_lastToRemember 0 = .ok (.iconst (-1), 1) := by decide +kernel
theorem dX7_lastToRemember_1 : decode cX7_lastToRemember 1 = .ok (.istore_n 1, 1) := by decide +kernel
theorem dX7_lastToRemember_2 : decode cX7_lastToRemember 2 = .ok (.iconst (-1), 1) := by decide +kernel
theorem dX7_lastToRemember_3 : decode cX7_lastToRemember 3 = .ok (.istore_n 2, 1) := by decide +kernel
theorem dX7_lastToRemember_4 : decode cX7_lastToRemember 4 = .ok (.iconst 0, 1) := by decide +kernel
theorem dX7_lastToRemember_5 : decode cX7_lastToRemember 5 = .ok (.istore_n 3, 1) := by decide +kernel
theorem dX7_lastToRemember_6 : decode cX7_lastToRemember 6 = .ok (.iload_n 3, 1) := by decide +kernel
theorem dX7_lastToRemember_7 : decode cX7_lastToRemember 7 = .ok (.bipush 12, 2) := by decide +kernel
theorem dX7_lastToRemember_9 : decode cX7_lastToRemember 9 = .ok (.if_icmp .ge 89, 3) := by decide +kernel
theorem dX7_lastToRemember_12 : decode cX7_lastToRemember 12 = .ok (.iload_n 3, 1) := by decide +kernel
theorem dX7_lastToRemember_13 : decode cX7_lastToRemember 13 = .ok (.aload_n 0, 1) := by decide +kernel
theorem dX7_lastToRemember_14 : decode cX7_lastToRemember 14 = .ok (.getfield 36, 3) := by decide +kernel
theorem dX7_lastToRemember_17 : decode cX7_lastToRemember 17 = .ok (.getfield 48, 3) := by decide +kernel
theorem dX7_lastToRemember_20 : decode cX7_lastToRemember 20 = .ok (.if_icmp .ge 78, 3) := by decide +kernel
theorem dX7_lastToRemember_23 : decode cX7_lastToRemember 23 = .ok (.aload_n 0, 1) := by decide +kernel
theorem dX7_lastToRemember_24 : decode cX7_lastToRemember 24 = .ok (.getfield 40, 3) := by decide +kernel
theorem dX7_lastToRemember_27 : decode cX7_lastToRemember 27 = .ok (.getfield 54, 3) := by decide +kernel
theorem dX7_lastToRemember_30 : decode cX7_lastToRemember 30 = .ok (.iload_n 3, 1) := by decide +kernel
theorem dX7_lastToRemember_31 : decode cX7_lastToRemember 31 = .ok (.iaload, 1) := by decide +kernel
theorem dX7_lastToRemember_32 : decode cX7_lastToRemember 32 = .ok (.invokestatic 84, 3) := by decide +kernel
theorem dX7_lastToRemember_35 : decode cX7_lastToRemember 35 = .ok (.istore 4, 2) := by decide +kernel
theorem dX7_lastToRemember_37 : decode cX7_lastToRemember 37 = .ok (.iload_n 1, 1) := by decide +kernel
theorem dX7_lastToRemember_38 : decode cX7_lastToRemember 38 = .ok (.iconst (-1), 1) := by decide +kernel
theorem dX7_lastToRemember_39 : decode cX7_lastToRemember 39 = .ok (.if_icmp .eq 28, 3) := by decide +kernel
theorem dX7_lastToRemember_42 : decode cX7_lastToRemember 42 = .ok (.aload_n 0, 1) := by decide +kernel
theorem dX7_lastToRemember_43 : decode cX7_lastToRemember 43 = .ok (.getfield 36, 3) := by decide +kernel
theorem dX7_lastToRemember_46 : decode cX7_lastToRemember 46 = .ok (.getfield 153, 3) := by decide +kernel
theorem dX7_lastToRemember_49 : decode cX7_lastToRemember 49 = .ok (.iload_n 3, 1) := by decide +kernel
theorem dX7_lastToRemember_50 : decode cX7_lastToRemember 50 = .ok (.iaload, 1) := by decide +kernel
theorem dX7_lastToRemember_51 : decode cX7_lastToRemember 51 = .ok (.aload_n 0, 1) := by decide +kernel
theorem dX7_lastToRemember_52 : decode cX7_lastToRemember 52 = .ok (.getfield 36, 3) := by decide +kernel
theorem dX7_lastToRemember_55 : decode cX7_lastToRemember 55 = .ok (.getfield 153, 3) := by decide +kernel
theorem dX7_lastToRemember_58 : decode cX7_lastToRemember 58 = .ok (.iload_n 1, 1) := by decide +kernel
theorem dX7_lastToRemember_59 : decode cX7_lastToRemember 59 = .ok (.iaload, 1) := by decide +kernel
theorem dX7_lastToRemember_60 : decode cX7_lastToRemember 60 = .ok (.if_icmp .le 7, 3) := by decide +kernel
theorem dX7_lastToRemember_63 : decode cX7_lastToRemember 63 = .ok (.iconst 1, 1) := by decide +kernel
theorem dX7_lastToRemember_64 : decode cX7_lastToRemember 64 = .ok (.goto 4, 3) := by decide +kernel
theorem dX7_lastToRemember_67 : decode cX7_lastToRemember 67 = .ok (.iconst 0, 1) := by decide +kernel
theorem dX7_lastToRemember_68 : decode cX7_lastToRemember 68 = .ok (.istore 5, 2) := by decide +kernel
theorem dX7_lastToRemember_70 : decode cX7_lastToRemember 70 = .ok (.iload 4, 2) := by decide +kernel
theorem dX7_lastToRemember_72 : decode cX7_lastToRemember 72 = .ok (.iload_n 2, 1) := by decide +kernel
theorem dX7_lastToRemember_73 : decode cX7_lastToRemember 73 = .ok (.if_icmp .gt 14, 3) := by decide +kernel
theorem dX7_lastToRemember_76 : decode cX7_lastToRemember 76 = .ok (.iload 4, 2) := by decide +kernel
theorem dX7_lastToRemember_78 : decode cX7_lastToRemember 78 = .ok (.iload_n 2, 1) := by decide +kernel
theorem dX7_lastToRemember_79 : decode cX7_lastToRemember 79 = .ok (.if_icmp .ne 13, 3) := by decide +kernel
theorem dX7_lastToRemember_82 : decode cX7_lastToRemember 82 = .ok (.iload 5, 2) := by decide +kernel
theorem dX7_lastToRemember_84 : decode cX7_lastToRemember 84 = .ok (.ifCond .eq 8, 3) := by decide +kernel
theorem dX7_lastToRemember_87 : decode cX7_lastToRemember 87 = .ok (.iload_n 3, 1) := by decide +kernel
theorem dX7_lastToRemember_88 : decode cX7_lastToRemember 88 = .ok (.istore_n 1, 1) := by decide +kernel
theorem dX7_lastToRemember_89 : decode cX7_lastToRemember 89 = .ok (.iload 4, 2) := by decide +kernel
theorem dX7_lastToRemember_91 : decode cX7_lastToRemember 91 = .ok (.istore_n 2, 1) := by decide +kernel
theorem dX7_lastToRemember_92 : decode cX7_lastToRemember 92 = .ok (.iinc 3 1, 3) := by decide +kernel
theorem dX7_lastToRemember_95 : decode cX7_lastToRemember 95 = .ok (.goto (-89), 3) := by decide +kernel
theorem dX7_lastToRemember_98 : decode cX7_lastToRemember 98 = .ok (.iload_n 1, 1) := by decide +kernel
theorem dX7_lastToRemember_99 : decode cX7_lastToRemember 99 = .ok (.ireturn, 1) := by decide +kernel
theorem dX7_standIns_0 : decode cX7_standIns 0 = .ok (.aload_n 0, 1) := by decide +kernel
theorem dX7_standIns_1 : decode cX7_standIns 1 = .ok (.iload_n 1, 1) := by decide +kernel
theorem dX7_standIns_2 : decode cX7_standIns 2 = .ok (.invokevirtual 105, 3) := by decide +kernel
theorem dX7_standIns_5 : decode cX7_standIns 5 = .ok (.aload_n 0, 1) := by decide +kernel
theorem dX7_standIns_6 : decode cX7_standIns 6 = .ok (.invokevirtual 108, 3) := by decide +kernel
theorem dX7_standIns_9 : decode cX7_standIns 9 = .ok (.aload_n 0, 1) := by decide +kernel
theorem dX7_standIns_10 : decode cX7_standIns 10 = .ok (.iload_n 2, 1) := by decide +kernel
theorem dX7_standIns_11 : decode cX7_standIns 11 = .ok (.invokevirtual 111, 3) := by decide +kernel
theorem dX7_standIns_14 : decode cX7_standIns 14 = .ok (.ireturn, 1) := by decide +kernel
theorem dX7_turned_0 : decode cX7_turned 0 = .ok (.iconst 0, 1) := by decide +kernel
theorem dX7_turned_1 : decode cX7_turned 1 = .ok (.istore_n 2, 1) := by decide +kernel
theorem dX7_turned_2 : decode cX7_turned 2 = .ok (.iconst 0, 1) := by decide +kernel
theorem dX7_turned_3 : decode cX7_turned 3 = .ok (.istore_n 3, 1) := by decide +kernel
theorem dX7_turned_4 : decode cX7_turned 4 = .ok (.iload_n 3, 1) := by decide +kernel
theorem dX7_turned_5 : decode cX7_turned 5 = .ok (.iload_n 1, 1) := by decide +kernel
theorem dX7_turned_6 : decode cX7_turned 6 = .ok (.if_icmp .ge 31, 3) := by decide +kernel
theorem dX7_turned_9 : decode cX7_turned 9 = .ok (.iload_n 2, 1) := by decide +kernel
theorem dX7_turned_10 : decode cX7_turned 10 = .ok (.iload_n 0, 1) := by decide +kernel
theorem dX7_turned_11 : decode cX7_turned 11 = .ok (.iload_n 3, 1) := by decide +kernel
theorem dX7_turned_12 : decode cX7_turned 12 = .ok (.invokestatic 59, 3) := by decide +kernel
theorem dX7_turned_15 : decode cX7_turned 15 = .ok (.ifCond .eq 13, 3) := by decide +kernel
theorem dX7_turned_18 : decode cX7_turned 18 = .ok (.iconst 1, 1) := by decide +kernel
theorem dX7_turned_19 : decode cX7_turned 19 = .ok (.iload_n 1, 1) := by decide +kernel
theorem dX7_turned_20 : decode cX7_turned 20 = .ok (.iconst 1, 1) := by decide +kernel
theorem dX7_turned_21 : decode cX7_turned 21 = .ok (.isub, 1) := by decide +kernel
theorem dX7_turned_22 : decode cX7_turned 22 = .ok (.iload_n 3, 1) := by decide +kernel
theorem dX7_turned_23 : decode cX7_turned 23 = .ok (.isub, 1) := by decide +kernel
theorem dX7_turned_24 : decode cX7_turned 24 = .ok (.ishl, 1) := by decide +kernel
theorem dX7_turned_25 : decode cX7_turned 25 = .ok (.goto 4, 3) := by decide +kernel
theorem dX7_turned_28 : decode cX7_turned 28 = .ok (.iconst 0, 1) := by decide +kernel
theorem dX7_turned_29 : decode cX7_turned 29 = .ok (.ior, 1) := by decide +kernel
theorem dX7_turned_30 : decode cX7_turned 30 = .ok (.istore_n 2, 1) := by decide +kernel
theorem dX7_turned_31 : decode cX7_turned 31 = .ok (.iinc 3 1, 3) := by decide +kernel
theorem dX7_turned_34 : decode cX7_turned 34 = .ok (.goto (-30), 3) := by decide +kernel
theorem dX7_turned_37 : decode cX7_turned 37 = .ok (.iload_n 2, 1) := by decide +kernel
theorem dX7_turned_38 : decode cX7_turned 38 = .ok (.ireturn, 1) := by decide +kernel
theorem dX7_useWay_0 : decode cX7_useWay 0 = .ok (.iload_n 1, 1) := by decide +kernel
theorem dX7_useWay_1 : decode cX7_useWay 1 = .ok (.istore_n 2, 1) := by decide +kernel
theorem dX7_useWay_2 : decode cX7_useWay 2 = .ok (.iconst 0, 1) := by decide +kernel
theorem dX7_useWay_3 : decode cX7_useWay 3 = .ok (.istore_n 3, 1) := by decide +kernel
theorem dX7_useWay_4 : decode cX7_useWay 4 = .ok (.iload_n 3, 1) := by decide +kernel
theorem dX7_useWay_5 : decode cX7_useWay 5 = .ok (.bipush 12, 2) := by decide +kernel
theorem dX7_useWay_7 : decode cX7_useWay 7 = .ok (.if_icmp .ge 75, 3) := by decide +kernel
theorem dX7_useWay_10 : decode cX7_useWay 10 = .ok (.iload_n 2, 1) := by decide +kernel
theorem dX7_useWay_11 : decode cX7_useWay 11 = .ok (.ifCond .lt 71, 3) := by decide +kernel
theorem dX7_useWay_14 : decode cX7_useWay 14 = .ok (.iload_n 2, 1) := by decide +kernel
theorem dX7_useWay_15 : decode cX7_useWay 15 = .ok (.bipush 12, 2) := by decide +kernel
theorem dX7_useWay_17 : decode cX7_useWay 17 = .ok (.if_icmp .ge 65, 3) := by decide +kernel
theorem dX7_useWay_20 : decode cX7_useWay 20 = .ok (.aload_n 0, 1) := by decide +kernel
theorem dX7_useWay_21 : decode cX7_useWay 21 = .ok (.getfield 15, 3) := by decide +kernel
theorem dX7_useWay_24 : decode cX7_useWay 24 = .ok (.iload_n 2, 1) := by decide +kernel
theorem dX7_useWay_25 : decode cX7_useWay 25 = .ok (.iaload, 1) := by decide +kernel
theorem dX7_useWay_26 : decode cX7_useWay 26 = .ok (.istore 4, 2) := by decide +kernel
theorem dX7_useWay_28 : decode cX7_useWay 28 = .ok (.iload 4, 2) := by decide +kernel
theorem dX7_useWay_30 : decode cX7_useWay 30 = .ok (.ifCond .lt 10, 3) := by decide +kernel
theorem dX7_useWay_33 : decode cX7_useWay 33 = .ok (.iload 4, 2) := by decide +kernel
theorem dX7_useWay_35 : decode cX7_useWay 35 = .ok (.bipush 12, 2) := by decide +kernel
theorem dX7_useWay_37 : decode cX7_useWay 37 = .ok (.if_icmp .lt 4, 3) := by decide +kernel
theorem dX7_useWay_40 : decode cX7_useWay 40 = .ok (.return_, 1) := by decide +kernel
theorem dX7_useWay_41 : decode cX7_useWay 41 = .ok (.aload_n 0, 1) := by decide +kernel
theorem dX7_useWay_42 : decode cX7_useWay 42 = .ok (.getfield 9, 3) := by decide +kernel
theorem dX7_useWay_45 : decode cX7_useWay 45 = .ok (.iload 4, 2) := by decide +kernel
theorem dX7_useWay_47 : decode cX7_useWay 47 = .ok (.bipush 12, 2) := by decide +kernel
theorem dX7_useWay_49 : decode cX7_useWay 49 = .ok (.imul, 1) := by decide +kernel
theorem dX7_useWay_50 : decode cX7_useWay 50 = .ok (.iload_n 2, 1) := by decide +kernel
theorem dX7_useWay_51 : decode cX7_useWay 51 = .ok (.iadd, 1) := by decide +kernel
theorem dX7_useWay_52 : decode cX7_useWay 52 = .ok (.dup2, 1) := by decide +kernel
theorem dX7_useWay_53 : decode cX7_useWay 53 = .ok (.iaload, 1) := by decide +kernel
theorem dX7_useWay_54 : decode cX7_useWay 54 = .ok (.iconst 1, 1) := by decide +kernel
theorem dX7_useWay_55 : decode cX7_useWay 55 = .ok (.isub, 1) := by decide +kernel
theorem dX7_useWay_56 : decode cX7_useWay 56 = .ok (.iastore, 1) := by decide +kernel
theorem dX7_useWay_57 : decode cX7_useWay 57 = .ok (.aload_n 0, 1) := by decide +kernel
theorem dX7_useWay_58 : decode cX7_useWay 58 = .ok (.getfield 9, 3) := by decide +kernel
theorem dX7_useWay_61 : decode cX7_useWay 61 = .ok (.iload_n 2, 1) := by decide +kernel
theorem dX7_useWay_62 : decode cX7_useWay 62 = .ok (.bipush 12, 2) := by decide +kernel
theorem dX7_useWay_64 : decode cX7_useWay 64 = .ok (.imul, 1) := by decide +kernel
theorem dX7_useWay_65 : decode cX7_useWay 65 = .ok (.iload 4, 2) := by decide +kernel
theorem dX7_useWay_67 : decode cX7_useWay 67 = .ok (.iadd, 1) := by decide +kernel
theorem dX7_useWay_68 : decode cX7_useWay 68 = .ok (.dup2, 1) := by decide +kernel
theorem dX7_useWay_69 : decode cX7_useWay 69 = .ok (.iaload, 1) := by decide +kernel
theorem dX7_useWay_70 : decode cX7_useWay 70 = .ok (.iconst 1, 1) := by decide +kernel
theorem dX7_useWay_71 : decode cX7_useWay 71 = .ok (.iadd, 1) := by decide +kernel
theorem dX7_useWay_72 : decode cX7_useWay 72 = .ok (.iastore, 1) := by decide +kernel
theorem dX7_useWay_73 : decode cX7_useWay 73 = .ok (.iload 4, 2) := by decide +kernel
theorem dX7_useWay_75 : decode cX7_useWay 75 = .ok (.istore_n 2, 1) := by decide +kernel
theorem dX7_useWay_76 : decode cX7_useWay 76 = .ok (.iinc 3 1, 3) := by decide +kernel
theorem dX7_useWay_79 : decode cX7_useWay 79 = .ok (.goto (-75), 3) := by decide +kernel
theorem dX7_useWay_82 : decode cX7_useWay 82 = .ok (.return_, 1) := by decide +kernel
theorem dX7_way_0 : decode cX7_way 0 = .ok (.iload_n 1, 1) := by decide +kernel
theorem dX7_way_1 : decode cX7_way 1 = .ok (.aload_n 0, 1) := by decide +kernel
theorem dX7_way_2 : decode cX7_way 2 = .ok (.getfield 117, 3) := by decide +kernel
theorem dX7_way_5 : decode cX7_way 5 = .ok (.ishl, 1) := by decide +kernel
theorem dX7_way_6 : decode cX7_way 6 = .ok (.iload_n 2, 1) := by decide +kernel
theorem dX7_way_7 : decode cX7_way 7 = .ok (.iadd, 1) := by decide +kernel
theorem dX7_way_8 : decode cX7_way 8 = .ok (.istore_n 3, 1) := by decide +kernel
theorem dX7_way_9 : decode cX7_way 9 = .ok (.iload_n 1, 1) := by decide +kernel
theorem dX7_way_10 : decode cX7_way 10 = .ok (.aload_n 0, 1) := by decide +kernel
theorem dX7_way_11 : decode cX7_way 11 = .ok (.getfield 114, 3) := by decide +kernel
theorem dX7_way_14 : decode cX7_way 14 = .ok (.if_icmp .ge 16, 3) := by decide +kernel
theorem dX7_way_17 : decode cX7_way 17 = .ok (.iload_n 3, 1) := by decide +kernel
theorem dX7_way_18 : decode cX7_way 18 = .ok (.ifCond .lt 12, 3) := by decide +kernel
theorem dX7_way_21 : decode cX7_way 21 = .ok (.iload_n 3, 1) := by decide +kernel
theorem dX7_way_22 : decode cX7_way 22 = .ok (.aload_n 0, 1) := by decide +kernel
theorem dX7_way_23 : decode cX7_way 23 = .ok (.getfield 30, 3) := by decide +kernel
theorem dX7_way_26 : decode cX7_way 26 = .ok (.arraylength, 1) := by decide +kernel
theorem dX7_way_27 : decode cX7_way 27 = .ok (.if_icmp .lt 7, 3) := by decide +kernel
theorem dX7_way_30 : decode cX7_way 30 = .ok (.iconst 0, 1) := by decide +kernel
theorem dX7_way_31 : decode cX7_way 31 = .ok (.goto 9, 3) := by decide +kernel
theorem dX7_way_34 : decode cX7_way 34 = .ok (.aload_n 0, 1) := by decide +kernel
theorem dX7_way_35 : decode cX7_way 35 = .ok (.getfield 30, 3) := by decide +kernel
theorem dX7_way_38 : decode cX7_way 38 = .ok (.iload_n 3, 1) := by decide +kernel
theorem dX7_way_39 : decode cX7_way 39 = .ok (.iaload, 1) := by decide +kernel
theorem dX7_way_40 : decode cX7_way 40 = .ok (.ireturn, 1) := by decide +kernel
theorem dX7_weighWays_0 : decode cX7_weighWays 0 = .ok (.aload_n 0, 1) := by decide +kernel
theorem dX7_weighWays_1 : decode cX7_weighWays 1 = .ok (.getfield 114, 3) := by decide +kernel
theorem dX7_weighWays_4 : decode cX7_weighWays 4 = .ok (.iconst 1, 1) := by decide +kernel
theorem dX7_weighWays_5 : decode cX7_weighWays 5 = .ok (.isub, 1) := by decide +kernel
theorem dX7_weighWays_6 : decode cX7_weighWays 6 = .ok (.istore_n 1, 1) := by decide +kernel
theorem dX7_weighWays_7 : decode cX7_weighWays 7 = .ok (.iload_n 1, 1) := by decide +kernel
theorem dX7_weighWays_8 : decode cX7_weighWays 8 = .ok (.ifCond .lt 139, 3) := by decide +kernel
theorem dX7_weighWays_11 : decode cX7_weighWays 11 = .ok (.iconst 0, 1) := by decide +kernel
theorem dX7_weighWays_12 : decode cX7_weighWays 12 = .ok (.istore_n 2, 1) := by decide +kernel
theorem dX7_weighWays_13 : decode cX7_weighWays 13 = .ok (.iload_n 2, 1) := by decide +kernel
theorem dX7_weighWays_14 : decode cX7_weighWays 14 = .ok (.iconst 1, 1) := by decide +kernel
theorem dX7_weighWays_15 : decode cX7_weighWays 15 = .ok (.aload_n 0, 1) := by decide +kernel
theorem dX7_weighWays_16 : decode cX7_weighWays 16 = .ok (.getfield 117, 3) := by decide +kernel
theorem dX7_weighWays_19 : decode cX7_weighWays 19 = .ok (.ishl, 1) := by decide +kernel
theorem dX7_weighWays_20 : decode cX7_weighWays 20 = .ok (.if_icmp .ge 121, 3) := by decide +kernel
theorem dX7_weighWays_23 : decode cX7_weighWays 23 = .ok (.aload_n 0, 1) := by decide +kernel
theorem dX7_weighWays_24 : decode cX7_weighWays 24 = .ok (.iload_n 1, 1) := by decide +kernel
theorem dX7_weighWays_25 : decode cX7_weighWays 25 = .ok (.iconst 1, 1) := by decide +kernel
theorem dX7_weighWays_26 : decode cX7_weighWays 26 = .ok (.iadd, 1) := by decide +kernel
theorem dX7_weighWays_27 : decode cX7_weighWays 27 = .ok (.iload_n 2, 1) := by decide +kernel
theorem dX7_weighWays_28 : decode cX7_weighWays 28 = .ok (.invokevirtual 129, 3) := by decide +kernel
theorem dX7_weighWays_31 : decode cX7_weighWays 31 = .ok (.istore_n 3, 1) := by decide +kernel
theorem dX7_weighWays_32 : decode cX7_weighWays 32 = .ok (.iconst 0, 1) := by decide +kernel
theorem dX7_weighWays_33 : decode cX7_weighWays 33 = .ok (.istore 4, 2) := by decide +kernel
theorem dX7_weighWays_35 : decode cX7_weighWays 35 = .ok (.iload 4, 2) := by decide +kernel
theorem dX7_weighWays_37 : decode cX7_weighWays 37 = .ok (.aload_n 0, 1) := by decide +kernel
theorem dX7_weighWays_38 : decode cX7_weighWays 38 = .ok (.getfield 117, 3) := by decide +kernel
theorem dX7_weighWays_41 : decode cX7_weighWays 41 = .ok (.if_icmp .ge 61, 3) := by decide +kernel
theorem dX7_weighWays_44 : decode cX7_weighWays 44 = .ok (.iload_n 2, 1) := by decide +kernel
theorem dX7_weighWays_45 : decode cX7_weighWays 45 = .ok (.iload 4, 2) := by decide +kernel
theorem dX7_weighWays_47 : decode cX7_weighWays 47 = .ok (.invokestatic 59, 3) := by decide +kernel
theorem dX7_weighWays_50 : decode cX7_weighWays 50 = .ok (.ifCond .eq 7, 3) := by decide +kernel
theorem dX7_weighWays_53 : decode cX7_weighWays 53 = .ok (.iconst 0, 1) := by decide +kernel
theorem dX7_weighWays_54 : decode cX7_weighWays 54 = .ok (.goto 10, 3) := by decide +kernel
theorem dX7_weighWays_57 : decode cX7_weighWays 57 = .ok (.aload_n 0, 1) := by decide +kernel
theorem dX7_weighWays_58 : decode cX7_weighWays 58 = .ok (.iload_n 1, 1) := by decide +kernel
theorem dX7_weighWays_59 : decode cX7_weighWays 59 = .ok (.iload 4, 2) := by decide +kernel
theorem dX7_weighWays_61 : decode cX7_weighWays 61 = .ok (.invokevirtual 132, 3) := by decide +kernel
theorem dX7_weighWays_64 : decode cX7_weighWays 64 = .ok (.istore 5, 2) := by decide +kernel
theorem dX7_weighWays_66 : decode cX7_weighWays 66 = .ok (.iload 5, 2) := by decide +kernel
theorem dX7_weighWays_68 : decode cX7_weighWays 68 = .ok (.ifCond .ne 7, 3) := by decide +kernel
theorem dX7_weighWays_71 : decode cX7_weighWays 71 = .ok (.iload_n 3, 1) := by decide +kernel
theorem dX7_weighWays_72 : decode cX7_weighWays 72 = .ok (.goto 23, 3) := by decide +kernel
theorem dX7_weighWays_75 : decode cX7_weighWays 75 = .ok (.iload_n 3, 1) := by decide +kernel
theorem dX7_weighWays_76 : decode cX7_weighWays 76 = .ok (.iload 5, 2) := by decide +kernel
theorem dX7_weighWays_78 : decode cX7_weighWays 78 = .ok (.aload_n 0, 1) := by decide +kernel
theorem dX7_weighWays_79 : decode cX7_weighWays 79 = .ok (.iload_n 1, 1) := by decide +kernel
theorem dX7_weighWays_80 : decode cX7_weighWays 80 = .ok (.iconst 1, 1) := by decide +kernel
theorem dX7_weighWays_81 : decode cX7_weighWays 81 = .ok (.iadd, 1) := by decide +kernel
theorem dX7_weighWays_82 : decode cX7_weighWays 82 = .ok (.iload_n 2, 1) := by decide +kernel
theorem dX7_weighWays_83 : decode cX7_weighWays 83 = .ok (.iconst 1, 1) := by decide +kernel
theorem dX7_weighWays_84 : decode cX7_weighWays 84 = .ok (.iload 4, 2) := by decide +kernel
theorem dX7_weighWays_86 : decode cX7_weighWays 86 = .ok (.ishl, 1) := by decide +kernel
theorem dX7_weighWays_87 : decode cX7_weighWays 87 = .ok (.ior, 1) := by decide +kernel
theorem dX7_weighWays_88 : decode cX7_weighWays 88 = .ok (.invokevirtual 129, 3) := by decide +kernel
theorem dX7_weighWays_91 : decode cX7_weighWays 91 = .ok (.iadd, 1) := by decide +kernel
theorem dX7_weighWays_92 : decode cX7_weighWays 92 = .ok (.invokestatic 135, 3) := by decide +kernel
theorem dX7_weighWays_95 : decode cX7_weighWays 95 = .ok (.istore_n 3, 1) := by decide +kernel
theorem dX7_weighWays_96 : decode cX7_weighWays 96 = .ok (.iinc 4 1, 3) := by decide +kernel
theorem dX7_weighWays_99 : decode cX7_weighWays 99 = .ok (.goto (-64), 3) := by decide +kernel
theorem dX7_weighWays_102 : decode cX7_weighWays 102 = .ok (.iload_n 1, 1) := by decide +kernel
theorem dX7_weighWays_103 : decode cX7_weighWays 103 = .ok (.aload_n 0, 1) := by decide +kernel
theorem dX7_weighWays_104 : decode cX7_weighWays 104 = .ok (.getfield 117, 3) := by decide +kernel
theorem dX7_weighWays_107 : decode cX7_weighWays 107 = .ok (.ishl, 1) := by decide +kernel
theorem dX7_weighWays_108 : decode cX7_weighWays 108 = .ok (.iload_n 2, 1) := by decide +kernel
theorem dX7_weighWays_109 : decode cX7_weighWays 109 = .ok (.iadd, 1) := by decide +kernel
theorem dX7_weighWays_110 : decode cX7_weighWays 110 = .ok (.istore 4, 2) := by decide +kernel
theorem dX7_weighWays_112 : decode cX7_weighWays 112 = .ok (.iload 4, 2) := by decide +kernel
theorem dX7_weighWays_114 : decode cX7_weighWays 114 = .ok (.ifCond .lt 21, 3) := by decide +kernel
theorem dX7_weighWays_117 : decode cX7_weighWays 117 = .ok (.iload 4, 2) := by decide +kernel
theorem dX7_weighWays_119 : decode cX7_weighWays 119 = .ok (.aload_n 0, 1) := by decide +kernel
theorem dX7_weighWays_120 : decode cX7_weighWays 120 = .ok (.getfield 30, 3) := by decide +kernel
theorem dX7_weighWays_123 : decode cX7_weighWays 123 = .ok (.arraylength, 1) := by decide +kernel
theorem dX7_weighWays_124 : decode cX7_weighWays 124 = .ok (.if_icmp .ge 11, 3) := by decide +kernel
theorem dX7_weighWays_127 : decode cX7_weighWays 127 = .ok (.aload_n 0, 1) := by decide +kernel
theorem dX7_weighWays_128 : decode cX7_weighWays 128 = .ok (.getfield 30, 3) := by decide +kernel
theorem dX7_weighWays_131 : decode cX7_weighWays 131 = .ok (.iload 4, 2) := by decide +kernel
theorem dX7_weighWays_133 : decode cX7_weighWays 133 = .ok (.iload_n 3, 1) := by decide +kernel
theorem dX7_weighWays_134 : decode cX7_weighWays 134 = .ok (.iastore, 1) := by decide +kernel
theorem dX7_weighWays_135 : decode cX7_weighWays 135 = .ok (.iinc 2 1, 3) := by decide +kernel
theorem dX7_weighWays_138 : decode cX7_weighWays 138 = .ok (.goto (-125), 3) := by decide +kernel
theorem dX7_weighWays_141 : decode cX7_weighWays 141 = .ok (.iinc 1 (-1), 3) := by decide +kernel
theorem dX7_weighWays_144 : decode cX7_weighWays 144 = .ok (.goto (-137), 3) := by decide +kernel
theorem dX7_weighWays_147 : decode cX7_weighWays 147 = .ok (.return_, 1) := by decide +kernel
theorem dX7_worth_0 : decode cX7_worth 0 = .ok (.iload_n 1, 1) := by decide +kernel
theorem dX7_worth_1 : decode cX7_worth 1 = .ok (.ifCond .lt 35, 3) := by decide +kernel
theorem dX7_worth_4 : decode cX7_worth 4 = .ok (.iload_n 1, 1) := by decide +kernel
theorem dX7_worth_5 : decode cX7_worth 5 = .ok (.aload_n 0, 1) := by decide +kernel
theorem dX7_worth_6 : decode cX7_worth 6 = .ok (.getfield 114, 3) := by decide +kernel
theorem dX7_worth_9 : decode cX7_worth 9 = .ok (.if_icmp .ge 27, 3) := by decide +kernel
theorem dX7_worth_12 : decode cX7_worth 12 = .ok (.iload_n 1, 1) := by decide +kernel
theorem dX7_worth_13 : decode cX7_worth 13 = .ok (.bipush 12, 2) := by decide +kernel
theorem dX7_worth_15 : decode cX7_worth 15 = .ok (.if_icmp .ge 21, 3) := by decide +kernel
theorem dX7_worth_18 : decode cX7_worth 18 = .ok (.iload_n 2, 1) := by decide +kernel
theorem dX7_worth_19 : decode cX7_worth 19 = .ok (.ifCond .lt 17, 3) := by decide +kernel
theorem dX7_worth_22 : decode cX7_worth 22 = .ok (.iload_n 2, 1) := by decide +kernel
theorem dX7_worth_23 : decode cX7_worth 23 = .ok (.aload_n 0, 1) := by decide +kernel
theorem dX7_worth_24 : decode cX7_worth 24 = .ok (.getfield 117, 3) := by decide +kernel
theorem dX7_worth_27 : decode cX7_worth 27 = .ok (.if_icmp .ge 9, 3) := by decide +kernel
theorem dX7_worth_30 : decode cX7_worth 30 = .ok (.iload_n 2, 1) := by decide +kernel
theorem dX7_worth_31 : decode cX7_worth 31 = .ok (.bipush 12, 2) := by decide +kernel
theorem dX7_worth_33 : decode cX7_worth 33 = .ok (.if_icmp .lt 5, 3) := by decide +kernel
theorem dX7_worth_36 : decode cX7_worth 36 = .ok (.iconst 0, 1) := by decide +kernel
theorem dX7_worth_37 : decode cX7_worth 37 = .ok (.ireturn, 1) := by decide +kernel
theorem dX7_worth_38 : decode cX7_worth 38 = .ok (.aload_n 0, 1) := by decide +kernel
theorem dX7_worth_39 : decode cX7_worth 39 = .ok (.getfield 36, 3) := by decide +kernel
theorem dX7_worth_42 : decode cX7_worth 42 = .ok (.aload_n 0, 1) := by decide +kernel
theorem dX7_worth_43 : decode cX7_worth 43 = .ok (.getfield 24, 3) := by decide +kernel
theorem dX7_worth_46 : decode cX7_worth 46 = .ok (.iload_n 2, 1) := by decide +kernel
theorem dX7_worth_47 : decode cX7_worth 47 = .ok (.iaload, 1) := by decide +kernel
theorem dX7_worth_48 : decode cX7_worth 48 = .ok (.invokevirtual 126, 3) := by decide +kernel
theorem dX7_worth_51 : decode cX7_worth 51 = .ok (.aload_n 0, 1) := by decide +kernel
theorem dX7_worth_52 : decode cX7_worth 52 = .ok (.getfield 36, 3) := by decide +kernel
theorem dX7_worth_55 : decode cX7_worth 55 = .ok (.aload_n 0, 1) := by decide +kernel
theorem dX7_worth_56 : decode cX7_worth 56 = .ok (.getfield 21, 3) := by decide +kernel
theorem dX7_worth_59 : decode cX7_worth 59 = .ok (.iload_n 1, 1) := by decide +kernel
theorem dX7_worth_60 : decode cX7_worth 60 = .ok (.iaload, 1) := by decide +kernel
theorem dX7_worth_61 : decode cX7_worth 61 = .ok (.invokevirtual 126, 3) := by decide +kernel
theorem dX7_worth_64 : decode cX7_worth 64 = .ok (.isub, 1) := by decide +kernel
theorem dX7_worth_65 : decode cX7_worth 65 = .ok (.istore_n 3, 1) := by decide +kernel
theorem dX7_worth_66 : decode cX7_worth 66 = .ok (.iload_n 3, 1) := by decide +kernel
theorem dX7_worth_67 : decode cX7_worth 67 = .ok (.ifCond .le 11, 3) := by decide +kernel
theorem dX7_worth_70 : decode cX7_worth 70 = .ok (.sipush 10000, 3) := by decide +kernel
theorem dX7_worth_73 : decode cX7_worth 73 = .ok (.iload_n 3, 1) := by decide +kernel
theorem dX7_worth_74 : decode cX7_worth 74 = .ok (.isub, 1) := by decide +kernel
theorem dX7_worth_75 : decode cX7_worth 75 = .ok (.goto 4, 3) := by decide +kernel
theorem dX7_worth_78 : decode cX7_worth 78 = .ok (.iconst 0, 1) := by decide +kernel
theorem dX7_worth_79 : decode cX7_worth 79 = .ok (.ireturn, 1) := by decide +kernel
theorem dX8_become_0 : decode cX8_become 0 = .ok (.aload_n 1, 1) := by decide +kernel
theorem dX8_become_1 : decode cX8_become 1 = .ok (.getfield 11, 3) := by decide +kernel
theorem dX8_become_4 : decode cX8_become 4 = .ok (.aload_n 0, 1) := by decide +kernel
theorem dX8_become_5 : decode cX8_become 5 = .ok (.getfield 11, 3) := by decide +kernel
theorem dX8_become_8 : decode cX8_become 8 = .ok (.invokestatic 21, 3) := by decide +kernel
theorem dX8_become_11 : decode cX8_become 11 = .ok (.aload_n 1, 1) := by decide +kernel
theorem dX8_become_12 : decode cX8_become 12 = .ok (.getfield 15, 3) := by decide +kernel
theorem dX8_become_15 : decode cX8_become 15 = .ok (.aload_n 0, 1) := by decide +kernel
theorem dX8_become_16 : decode cX8_become 16 = .ok (.getfield 15, 3) := by decide +kernel
theorem dX8_become_19 : decode cX8_become 19 = .ok (.invokestatic 21, 3) := by decide +kernel
theorem dX8_become_22 : decode cX8_become 22 = .ok (.aload_n 1, 1) := by decide +kernel
theorem dX8_become_23 : decode cX8_become 23 = .ok (.getfield 18, 3) := by decide +kernel
theorem dX8_become_26 : decode cX8_become 26 = .ok (.aload_n 0, 1) := by decide +kernel
theorem dX8_become_27 : decode cX8_become 27 = .ok (.getfield 18, 3) := by decide +kernel
theorem dX8_become_30 : decode cX8_become 30 = .ok (.invokestatic 21, 3) := by decide +kernel
theorem dX8_become_33 : decode cX8_become 33 = .ok (.aload_n 0, 1) := by decide +kernel
theorem dX8_become_34 : decode cX8_become 34 = .ok (.aload_n 1, 1) := by decide +kernel
theorem dX8_become_35 : decode cX8_become 35 = .ok (.getfield 25, 3) := by decide +kernel
theorem dX8_become_38 : decode cX8_become 38 = .ok (.putfield 25, 3) := by decide +kernel
theorem dX8_become_41 : decode cX8_become 41 = .ok (.return_, 1) := by decide +kernel
theorem dX8_couldBeOf_0 : decode cX8_couldBeOf 0 = .ok (.iconst 0, 1) := by decide +kernel
theorem dX8_couldBeOf_1 : decode cX8_couldBeOf 1 = .ok (.istore_n 2, 1) := by decide +kernel
theorem dX8_couldBeOf_2 : decode cX8_couldBeOf 2 = .ok (.iload_n 2, 1) := by decide +kernel
theorem dX8_couldBeOf_3 : decode cX8_couldBeOf 3 = .ok (.aload_n 0, 1) := by decide +kernel
theorem dX8_couldBeOf_4 : decode cX8_couldBeOf 4 = .ok (.getfield 25, 3) := by decide +kernel
theorem dX8_couldBeOf_7 : decode cX8_couldBeOf 7 = .ok (.if_icmp .ge 53, 3) := by decide +kernel
theorem dX8_couldBeOf_10 : decode cX8_couldBeOf 10 = .ok (.iload_n 2, 1) := by decide +kernel
theorem dX8_couldBeOf_11 : decode cX8_couldBeOf 11 = .ok (.bipush 10, 2) := by decide +kernel
theorem dX8_couldBeOf_13 : decode cX8_couldBeOf 13 = .ok (.if_icmp .ge 47, 3) := by decide +kernel
theorem dX8_couldBeOf_16 : decode cX8_couldBeOf 16 = .ok (.aload_n 0, 1) := by decide +kernel
theorem dX8_couldBeOf_17 : decode cX8_couldBeOf 17 = .ok (.getfield 15, 3) := by decide +kernel
theorem dX8_couldBeOf_20 : decode cX8_couldBeOf 20 = .ok (.iload_n 2, 1) := by decide +kernel
theorem dX8_couldBeOf_21 : decode cX8_couldBeOf 21 = .ok (.iaload, 1) := by decide +kernel
theorem dX8_couldBeOf_22 : decode cX8_couldBeOf 22 = .ok (.iload_n 1, 1) := by decide +kernel
theorem dX8_couldBeOf_23 : decode cX8_couldBeOf 23 = .ok (.aload_n 0, 1) := by decide +kernel
theorem dX8_couldBeOf_24 : decode cX8_couldBeOf 24 = .ok (.getfield 11, 3) := by decide +kernel
theorem dX8_couldBeOf_27 : decode cX8_couldBeOf 27 = .ok (.iload_n 2, 1) := by decide +kernel
theorem dX8_couldBeOf_28 : decode cX8_couldBeOf 28 = .ok (.iaload, 1) := by decide +kernel
theorem dX8_couldBeOf_29 : decode cX8_couldBeOf 29 = .ok (.imul, 1) := by decide +kernel
theorem dX8_couldBeOf_30 : decode cX8_couldBeOf 30 = .ok (.if_icmp .gt 22, 3) := by decide +kernel
theorem dX8_couldBeOf_33 : decode cX8_couldBeOf 33 = .ok (.aload_n 0, 1) := by decide +kernel
theorem dX8_couldBeOf_34 : decode cX8_couldBeOf 34 = .ok (.getfield 18, 3) := by decide +kernel
theorem dX8_couldBeOf_37 : decode cX8_couldBeOf 37 = .ok (.iload_n 2, 1) := by decide +kernel
theorem dX8_couldBeOf_38 : decode cX8_couldBeOf 38 = .ok (.iaload, 1) := by decide +kernel
theorem dX8_couldBeOf_39 : decode cX8_couldBeOf 39 = .ok (.ifCond .eq 15, 3) := by decide +kernel
theorem dX8_couldBeOf_42 : decode cX8_couldBeOf 42 = .ok (.aload_n 0, 1) := by decide +kernel
theorem dX8_couldBeOf_43 : decode cX8_couldBeOf 43 = .ok (.getfield 18, 3) := by decide +kernel
theorem dX8_couldBeOf_46 : decode cX8_couldBeOf 46 = .ok (.iload_n 2, 1) := by decide +kernel
theorem dX8_couldBeOf_47 : decode cX8_couldBeOf 47 = .ok (.iaload, 1) := by decide +kernel
theorem dX8_couldBeOf_48 : decode cX8_couldBeOf 48 = .ok (.iload_n 1, 1) := by decide +kernel
theorem dX8_couldBeOf_49 : decode cX8_couldBeOf 49 = .ok (.if_icmp .eq 5, 3) := by decide +kernel
theorem dX8_couldBeOf_52 : decode cX8_couldBeOf 52 = .ok (.iconst 0, 1) := by decide +kernel
theorem dX8_couldBeOf_53 : decode cX8_couldBeOf 53 = .ok (.ireturn, 1) := by decide +kernel
theorem dX8_couldBeOf_54 : decode cX8_couldBeOf 54 = .ok (.iinc 2 1, 3) := by decide +kernel
theorem dX8_couldBeOf_57 : decode cX8_couldBeOf 57 = .ok (.goto (-55), 3) := by decide +kernel
theorem dX8_couldBeOf_60 : decode cX8_couldBeOf 60 = .ok (.iconst 1, 1) := by decide +kernel
theorem dX8_couldBeOf_61 : decode cX8_couldBeOf 61 = .ok (.ireturn, 1) := by decide +kernel
theorem dX8_find_0 : decode cX8_find 0 = .ok (.iload_n 1, 1) := by decide +kernel
theorem dX8_find_1 : decode cX8_find 1 = .ok (.iconst (-1), 1) := by decide +kernel
theorem dX8_find_2 : decode cX8_find 2 = .ok (.if_icmp .ne 10, 3) := by decide +kernel
theorem dX8_find_5 : decode cX8_find 5 = .ok (.aload_n 0, 1) := by decide +kernel
theorem dX8_find_6 : decode cX8_find 6 = .ok (.iconst 0, 1) := by decide +kernel
theorem dX8_find_7 : decode cX8_find 7 = .ok (.putfield 25, 3) := by decide +kernel
theorem dX8_find_10 : decode cX8_find 10 = .ok (.iconst 0, 1) := by decide +kernel
theorem dX8_find_11 : decode cX8_find 11 = .ok (.ireturn, 1) := by decide +kernel
theorem dX8_find_12 : decode cX8_find 12 = .ok (.iload_n 1, 1) := by decide +kernel
theorem dX8_find_13 : decode cX8_find 13 = .ok (.ifCond .lt 33, 3) := by decide +kernel
theorem dX8_find_16 : decode cX8_find 16 = .ok (.iload_n 1, 1) := by decide +kernel
theorem dX8_find_17 : decode cX8_find 17 = .ok (.bipush 30, 2) := by decide +kernel
theorem dX8_find_19 : decode cX8_find 19 = .ok (.if_icmp .gt 27, 3) := by decide +kernel
theorem dX8_find_22 : decode cX8_find 22 = .ok (.iload_n 2, 1) := by decide +kernel
theorem dX8_find_23 : decode cX8_find 23 = .ok (.ifCond .lt 23, 3) := by decide +kernel
theorem dX8_find_26 : decode cX8_find 26 = .ok (.iload_n 2, 1) := by decide +kernel
theorem dX8_find_27 : decode cX8_find 27 = .ok (.bipush 16, 2) := by decide +kernel
theorem dX8_find_29 : decode cX8_find 29 = .ok (.if_icmp .ge 17, 3) := by decide +kernel
theorem dX8_find_32 : decode cX8_find 32 = .ok (.iload_n 3, 1) := by decide +kernel
theorem dX8_find_33 : decode cX8_find 33 = .ok (.ifCond .lt 13, 3) := by decide +kernel
theorem dX8_find_36 : decode cX8_find 36 = .ok (.iload_n 3, 1) := by decide +kernel
theorem dX8_find_37 : decode cX8_find 37 = .ok (.bipush 9, 2) := by decide +kernel
theorem dX8_find_39 : decode cX8_find 39 = .ok (.if_icmp .gt 7, 3) := by decide +kernel
theorem dX8_find_42 : decode cX8_find 42 = .ok (.iconst 1, 1) := by decide +kernel
theorem dX8_find_43 : decode cX8_find 43 = .ok (.goto 4, 3) := by decide +kernel
theorem dX8_find_46 : decode cX8_find 46 = .ok (.iconst 0, 1) := by decide +kernel
theorem dX8_find_47 : decode cX8_find 47 = .ok (.istore 4, 2) := by decide +kernel
theorem dX8_find_49 : decode cX8_find 49 = .ok (.iload 4, 2) := by decide +kernel
theorem dX8_find_51 : decode cX8_find 51 = .ok (.ifCond .eq 19, 3) := by decide +kernel
theorem dX8_find_54 : decode cX8_find 54 = .ok (.aload_n 0, 1) := by decide +kernel
theorem dX8_find_55 : decode cX8_find 55 = .ok (.getfield 25, 3) := by decide +kernel
theorem dX8_find_58 : decode cX8_find 58 = .ok (.ifCond .lt 12, 3) := by decide +kernel
theorem dX8_find_61 : decode cX8_find 61 = .ok (.aload_n 0, 1) := by decide +kernel
theorem dX8_find_62 : decode cX8_find 62 = .ok (.getfield 25, 3) := by decide +kernel
theorem dX8_find_65 : decode cX8_find 65 = .ok (.bipush 10, 2) := by decide +kernel
theorem dX8_find_67 : decode cX8_find 67 = .ok (.if_icmp .lt 5, 3) := by decide +kernel
theorem dX8_find_70 : decode cX8_find 70 = .ok (.iconst (-1), 1) := by decide +kernel
theorem dX8_find_71 : decode cX8_find 71 = .ok (.ireturn, 1) := by decide +kernel
theorem dX8_find_72 : decode cX8_find 72 = .ok (.aload_n 0, 1) := by decide +kernel
theorem dX8_find_73 : decode cX8_find 73 = .ok (.getfield 11, 3) := by decide +kernel
theorem dX8_find_76 : decode cX8_find 76 = .ok (.aload_n 0, 1) := by decide +kernel
theorem dX8_find_77 : decode cX8_find 77 = .ok (.getfield 25, 3) := by decide +kernel
theorem dX8_find_80 : decode cX8_find 80 = .ok (.iload_n 1, 1) := by decide +kernel
theorem dX8_find_81 : decode cX8_find 81 = .ok (.iastore, 1) := by decide +kernel
theorem dX8_find_82 : decode cX8_find 82 = .ok (.aload_n 0, 1) := by decide +kernel
theorem dX8_find_83 : decode cX8_find 83 = .ok (.getfield 15, 3) := by decide +kernel
theorem dX8_find_86 : decode cX8_find 86 = .ok (.aload_n 0, 1) := by decide +kernel
theorem dX8_find_87 : decode cX8_find 87 = .ok (.getfield 25, 3) := by decide +kernel
theorem dX8_find_90 : decode cX8_find 90 = .ok (.iload_n 2, 1) := by decide +kernel
theorem dX8_find_91 : decode cX8_find 91 = .ok (.iastore, 1) := by decide +kernel
theorem dX8_find_92 : decode cX8_find 92 = .ok (.aload_n 0, 1) := by decide +kernel
theorem dX8_find_93 : decode cX8_find 93 = .ok (.getfield 18, 3) := by decide +kernel
theorem dX8_find_96 : decode cX8_find 96 = .ok (.aload_n 0, 1) := by decide +kernel
theorem dX8_find_97 : decode cX8_find 97 = .ok (.getfield 25, 3) := by decide +kernel
theorem dX8_find_100 : decode cX8_find 100 = .ok (.iload_n 3, 1) := by decide +kernel
theorem dX8_find_101 : decode cX8_find 101 = .ok (.iastore, 1) := by decide +kernel
theorem dX8_find_102 : decode cX8_find 102 = .ok (.aload_n 0, 1) := by decide +kernel
theorem dX8_find_103 : decode cX8_find 103 = .ok (.dup, 1) := by decide +kernel
theorem dX8_find_104 : decode cX8_find 104 = .ok (.getfield 25, 3) := by decide +kernel
theorem dX8_find_107 : decode cX8_find 107 = .ok (.iconst 1, 1) := by decide +kernel
theorem dX8_find_108 : decode cX8_find 108 = .ok (.iadd, 1) := by decide +kernel
theorem dX8_find_109 : decode cX8_find 109 = .ok (.putfield 25, 3) := by decide +kernel
theorem dX8_find_112 : decode cX8_find 112 = .ok (.aload_n 0, 1) := by decide +kernel
theorem dX8_find_113 : decode cX8_find 113 = .ok (.getfield 25, 3) := by decide +kernel
theorem dX8_find_116 : decode cX8_find 116 = .ok (.ireturn, 1) := by decide +kernel
theorem dX8_init_0 : decode cX8_init 0 = .ok (.aload_n 0, 1) := by decide +kernel
theorem dX8_init_1 : decode cX8_init 1 = .ok (.invokespecial 3, 3) := by decide +kernel
theorem dX8_init_4 : decode cX8_init 4 = .ok (.aload_n 0, 1) := by decide +kernel
theorem dX8_init_5 : decode cX8_init 5 = .ok (.bipush 10, 2) := by decide +kernel
theorem dX8_init_7 : decode cX8_init 7 = .ok (.newarray .int, 2) := by decide +kernel
theorem dX8_init_9 : decode cX8_init 9 = .ok (.putfield 11, 3) := by decide +kernel
theorem dX8_init_12 : decode cX8_init 12 = .ok (.aload_n 0, 1) := by decide +kernel
theorem dX8_init_13 : decode cX8_init 13 = .ok (.bipush 10, 2) := by decide +kernel
theorem dX8_init_15 : decode cX8_init 15 = .ok (.newarray .int, 2) := by decide +kernel
theorem dX8_init_17 : decode cX8_init 17 = .ok (.putfield 15, 3) := by decide +kernel
theorem dX8_init_20 : decode cX8_init 20 = .ok (.aload_n 0, 1) := by decide +kernel
theorem dX8_init_21 : decode cX8_init 21 = .ok (.bipush 10, 2) := by decide +kernel
theorem dX8_init_23 : decode cX8_init 23 = .ok (.newarray .int, 2) := by decide +kernel
theorem dX8_init_25 : decode cX8_init 25 = .ok (.putfield 18, 3) := by decide +kernel
theorem dX8_init_28 : decode cX8_init 28 = .ok (.return_, 1) := by decide +kernel
theorem dX9_ageOf_0 : decode cX9_ageOf 0 = .ok (.aload_n 0, 1) := by decide +kernel
theorem dX9_ageOf_1 : decode cX9_ageOf 1 = .ok (.iload_n 1, 1) := by decide +kernel
theorem dX9_ageOf_2 : decode cX9_ageOf 2 = .ok (.invokevirtual 87, 3) := by decide +kernel
theorem dX9_ageOf_5 : decode cX9_ageOf 5 = .ok (.ifCond .eq 12, 3) := by decide +kernel
theorem dX9_ageOf_8 : decode cX9_ageOf 8 = .ok (.aload_n 0, 1) := by decide +kernel
theorem dX9_ageOf_9 : decode cX9_ageOf 9 = .ok (.getfield 15, 3) := by decide +kernel
theorem dX9_ageOf_12 : decode cX9_ageOf 12 = .ok (.iload_n 1, 1) := by decide +kernel
theorem dX9_ageOf_13 : decode cX9_ageOf 13 = .ok (.iaload, 1) := by decide +kernel
theorem dX9_ageOf_14 : decode cX9_ageOf 14 = .ok (.goto 4, 3) := by decide +kernel
theorem dX9_ageOf_17 : decode cX9_ageOf 17 = .ok (.iconst (-1), 1) := by decide +kernel
theorem dX9_ageOf_18 : decode cX9_ageOf 18 = .ok (.ireturn, 1) := by decide +kernel
theorem dX9_become_0 : decode cX9_become 0 = .ok (.aload_n 0, 1) := by decide +kernel
theorem dX9_become_1 : decode cX9_become 1 = .ok (.aload_n 1, 1) := by decide +kernel
theorem dX9_become_2 : decode cX9_become 2 = .ok (.getfield 58, 3) := by decide +kernel
theorem dX9_become_5 : decode cX9_become 5 = .ok (.putfield 58, 3) := by decide +kernel
theorem dX9_become_8 : decode cX9_become 8 = .ok (.aload_n 1, 1) := by decide +kernel
theorem dX9_become_9 : decode cX9_become 9 = .ok (.getfield 9, 3) := by decide +kernel
theorem dX9_become_12 : decode cX9_become 12 = .ok (.aload_n 0, 1) := by decide +kernel
theorem dX9_become_13 : decode cX9_become 13 = .ok (.getfield 9, 3) := by decide +kernel
theorem dX9_become_16 : decode cX9_become 16 = .ok (.invokestatic 61, 3) := by decide +kernel
theorem dX9_become_19 : decode cX9_become 19 = .ok (.aload_n 1, 1) := by decide +kernel
theorem dX9_become_20 : decode cX9_become 20 = .ok (.getfield 15, 3) := by decide +kernel
theorem dX9_become_23 : decode cX9_become 23 = .ok (.aload_n 0, 1) := by decide +kernel
theorem dX9_become_24 : decode cX9_become 24 = .ok (.getfield 15, 3) := by decide +kernel
theorem dX9_become_27 : decode cX9_become 27 = .ok (.invokestatic 61, 3) := by decide +kernel
theorem dX9_become_30 : decode cX9_become 30 = .ok (.aload_n 1, 1) := by decide +kernel
theorem dX9_become_31 : decode cX9_become 31 = .ok (.getfield 18, 3) := by decide +kernel
theorem dX9_become_34 : decode cX9_become 34 = .ok (.aload_n 0, 1) := by decide +kernel
theorem dX9_become_35 : decode cX9_become 35 = .ok (.getfield 18, 3) := by decide +kernel
theorem dX9_become_38 : decode cX9_become 38 = .ok (.invokestatic 61, 3) := by decide +kernel
theorem dX9_become_41 : decode cX9_become 41 = .ok (.aload_n 1, 1) := by decide +kernel
theorem dX9_become_42 : decode cX9_become 42 = .ok (.getfield 21, 3) := by decide +kernel
theorem dX9_become_45 : decode cX9_become 45 = .ok (.aload_n 0, 1) := by decide +kernel
theorem dX9_become_46 : decode cX9_become 46 = .ok (.getfield 21, 3) := by decide +kernel
theorem dX9_become_49 : decode cX9_become 49 = .ok (.invokestatic 61, 3) := by decide +kernel
theorem dX9_become_52 : decode cX9_become 52 = .ok (.aload_n 1, 1) := by decide +kernel
theorem dX9_become_53 : decode cX9_become 53 = .ok (.getfield 24, 3) := by decide +kernel
theorem dX9_become_56 : decode cX9_become 56 = .ok (.aload_n 0, 1) := by decide +kernel
theorem dX9_become_57 : decode cX9_become 57 = .ok (.getfield 24, 3) := by decide +kernel
theorem dX9_become_60 : decode cX9_become 60 = .ok (.invokestatic 61, 3) := by decide +kernel
theorem dX9_become_63 : decode cX9_become 63 = .ok (.aload_n 1, 1) := by decide +kernel
theorem dX9_become_64 : decode cX9_become 64 = .ok (.getfield 27, 3) := by decide +kernel
theorem dX9_become_67 : decode cX9_become 67 = .ok (.aload_n 0, 1) := by decide +kernel
theorem dX9_become_68 : decode cX9_become 68 = .ok (.getfield 27, 3) := by decide +kernel
theorem dX9_become_71 : decode cX9_become 71 = .ok (.invokestatic 61, 3) := by decide +kernel
theorem dX9_become_74 : decode cX9_become 74 = .ok (.aload_n 0, 1) := by decide +kernel
theorem dX9_become_75 : decode cX9_become 75 = .ok (.aload_n 1, 1) := by decide +kernel
theorem dX9_become_76 : decode cX9_become 76 = .ok (.getfield 30, 3) := by decide +kernel
theorem dX9_become_79 : decode cX9_become 79 = .ok (.putfield 30, 3) := by decide +kernel
theorem dX9_become_82 : decode cX9_become 82 = .ok (.aload_n 0, 1) := by decide +kernel
theorem dX9_become_83 : decode cX9_become 83 = .ok (.aload_n 1, 1) := by decide +kernel
theorem dX9_become_84 : decode cX9_become 84 = .ok (.getfield 65, 3) := by decide +kernel
theorem dX9_become_87 : decode cX9_become 87 = .ok (.putfield 65, 3) := by decide +kernel
theorem dX9_become_90 : decode cX9_become 90 = .ok (.aload_n 0, 1) := by decide +kernel
theorem dX9_become_91 : decode cX9_become 91 = .ok (.aload_n 1, 1) := by decide +kernel
theorem dX9_become_92 : decode cX9_become 92 = .ok (.getfield 34, 3) := by decide +kernel
theorem dX9_become_95 : decode cX9_become 95 = .ok (.putfield 34, 3) := by decide +kernel
theorem dX9_become_98 : decode cX9_become 98 = .ok (.aload_n 0, 1) := by decide +kernel
theorem dX9_become_99 : decode cX9_become 99 = .ok (.aload_n 1, 1) := by decide +kernel
theorem dX9_become_100 : decode cX9_become 100 = .ok (.getfield 68, 3) := by decide +kernel
theorem dX9_become_103 : decode cX9_become 103 = .ok (.putfield 68, 3) := by decide +kernel
theorem dX9_become_106 : decode cX9_become 106 = .ok (.aload_n 0, 1) := by decide +kernel
theorem dX9_become_107 : decode cX9_become 107 = .ok (.aload_n 1, 1) := by decide +kernel
theorem dX9_become_108 : decode cX9_become 108 = .ok (.getfield 71, 3) := by decide +kernel
theorem dX9_become_111 : decode cX9_become 111 = .ok (.putfield 71, 3) := by decide +kernel
theorem dX9_become_114 : decode cX9_become 114 = .ok (.aload_n 0, 1) := by decide +kernel
theorem dX9_become_115 : decode cX9_become 115 = .ok (.aload_n 1, 1) := by decide +kernel
theorem dX9_become_116 : decode cX9_become 116 = .ok (.getfield 74, 3) := by decide +kernel
theorem dX9_become_119 : decode cX9_become 119 = .ok (.putfield 74, 3) := by decide +kernel
theorem dX9_become_122 : decode cX9_become 122 = .ok (.aload_n 0, 1) := by decide +kernel
theorem dX9_become_123 : decode cX9_become 123 = .ok (.getfield 40, 3) := by decide +kernel
theorem dX9_become_126 : decode cX9_become 126 = .ok (.aload_n 1, 1) := by decide +kernel
theorem dX9_become_127 : decode cX9_become 127 = .ok (.getfield 40, 3) := by decide +kernel
theorem dX9_become_130 : decode cX9_become 130 = .ok (.invokevirtual 77, 3) := by decide +kernel
theorem dX9_become_133 : decode cX9_become 133 = .ok (.aload_n 0, 1) := by decide +kernel
theorem dX9_become_134 : decode cX9_become 134 = .ok (.getfield 47, 3) := by decide +kernel
theorem dX9_become_137 : decode cX9_become 137 = .ok (.aload_n 1, 1) := by decide +kernel
theorem dX9_become_138 : decode cX9_become 138 = .ok (.getfield 47, 3) := by decide +kernel
theorem dX9_become_141 : decode cX9_become 141 = .ok (.invokevirtual 81, 3) := by decide +kernel
theorem dX9_become_144 : decode cX9_become 144 = .ok (.aload_n 0, 1) := by decide +kernel
theorem dX9_become_145 : decode cX9_become 145 = .ok (.getfield 54, 3) := by decide +kernel
theorem dX9_become_148 : decode cX9_become 148 = .ok (.aload_n 1, 1) := by decide +kernel
theorem dX9_become_149 : decode cX9_become 149 = .ok (.getfield 54, 3) := by decide +kernel
theorem dX9_become_152 : decode cX9_become 152 = .ok (.invokevirtual 84, 3) := by decide +kernel
theorem dX9_become_155 : decode cX9_become 155 = .ok (.return_, 1) := by decide +kernel
theorem dX9_couldHaveLeft_0 : decode cX9_couldHaveLeft 0 = .ok (.iconst 0, 1) := by decide +kernel
theorem dX9_couldHaveLeft_1 : decode cX9_couldHaveLeft 1 = .ok (.istore_n 1, 1) := by decide +kernel
theorem dX9_couldHaveLeft_2 : decode cX9_couldHaveLeft 2 = .ok (.iconst 0, 1) := by decide +kernel
theorem dX9_couldHaveLeft_3 : decode cX9_couldHaveLeft 3 = .ok (.istore_n 2, 1) := by decide +kernel
theorem dX9_couldHaveLeft_4 : decode cX9_couldHaveLeft 4 = .ok (.iload_n 2, 1) := by decide +kernel
theorem dX9_couldHaveLeft_5 : decode cX9_couldHaveLeft 5 = .ok (.bipush 12, 2) := by decide +kernel
theorem dX9_couldHaveLeft_7 : decode cX9_couldHaveLeft 7 = .ok (.if_icmp .ge 43, 3) := by decide +kernel
theorem dX9_couldHaveLeft_10 : decode cX9_couldHaveLeft 10 = .ok (.iload_n 2, 1) := by decide +kernel
theorem dX9_couldHaveLeft_11 : decode cX9_couldHaveLeft 11 = .ok (.aload_n 0, 1) := by decide +kernel
theorem dX9_couldHaveLeft_12 : decode cX9_couldHaveLeft 12 = .ok (.getfield 58, 3) := by decide +kernel
theorem dX9_couldHaveLeft_15 : decode cX9_couldHaveLeft 15 = .ok (.if_icmp .ge 35, 3) := by decide +kernel
theorem dX9_couldHaveLeft_18 : decode cX9_couldHaveLeft 18 = .ok (.iload_n 1, 1) := by decide +kernel
theorem dX9_couldHaveLeft_19 : decode cX9_couldHaveLeft 19 = .ok (.aload_n 0, 1) := by decide +kernel
theorem dX9_couldHaveLeft_20 : decode cX9_couldHaveLeft 20 = .ok (.getfield 54, 3) := by decide +kernel
theorem dX9_couldHaveLeft_23 : decode cX9_couldHaveLeft 23 = .ok (.aload_n 0, 1) := by decide +kernel
theorem dX9_couldHaveLeft_24 : decode cX9_couldHaveLeft 24 = .ok (.getfield 18, 3) := by decide +kernel
theorem dX9_couldHaveLeft_27 : decode cX9_couldHaveLeft 27 = .ok (.iload_n 2, 1) := by decide +kernel
theorem dX9_couldHaveLeft_28 : decode cX9_couldHaveLeft 28 = .ok (.iaload, 1) := by decide +kernel
theorem dX9_couldHaveLeft_29 : decode cX9_couldHaveLeft 29 = .ok (.invokevirtual 108, 3) := by decide +kernel
theorem dX9_couldHaveLeft_32 : decode cX9_couldHaveLeft 32 = .ok (.ifCond .eq 9, 3) := by decide +kernel
theorem dX9_couldHaveLeft_35 : decode cX9_couldHaveLeft 35 = .ok (.iconst 1, 1) := by decide +kernel
theorem dX9_couldHaveLeft_36 : decode cX9_couldHaveLeft 36 = .ok (.iload_n 2, 1) := by decide +kernel
theorem dX9_couldHaveLeft_37 : decode cX9_couldHaveLeft 37 = .ok (.ishl, 1) := by decide +kernel
theorem dX9_couldHaveLeft_38 : decode cX9_couldHaveLeft 38 = .ok (.goto 4, 3) := by decide +kernel
theorem dX9_couldHaveLeft_41 : decode cX9_couldHaveLeft 41 = .ok (.iconst 0, 1) := by decide +kernel
theorem dX9_couldHaveLeft_42 : decode cX9_couldHaveLeft 42 = .ok (.ior, 1) := by decide +kernel
theorem dX9_couldHaveLeft_43 : decode cX9_couldHaveLeft 43 = .ok (.istore_n 1, 1) := by decide +kernel
theorem dX9_couldHaveLeft_44 : decode cX9_couldHaveLeft 44 = .ok (.iinc 2 1, 3) := by decide +kernel
theorem dX9_couldHaveLeft_47 : decode cX9_couldHaveLeft 47 = .ok (.goto (-43), 3) := by decide +kernel
theorem dX9_couldHaveLeft_50 : decode cX9_couldHaveLeft 50 = .ok (.iload_n 1, 1) := by decide +kernel
theorem dX9_couldHaveLeft_51 : decode cX9_couldHaveLeft 51 = .ok (.ireturn, 1) := by decide +kernel
theorem dX9_hasMan_0 : decode cX9_hasMan 0 = .ok (.iload_n 1, 1) := by decide +kernel
theorem dX9_hasMan_1 : decode cX9_hasMan 1 = .ok (.ifCond .lt 21, 3) := by decide +kernel
theorem dX9_hasMan_4 : decode cX9_hasMan 4 = .ok (.iload_n 1, 1) := by decide +kernel
theorem dX9_hasMan_5 : decode cX9_hasMan 5 = .ok (.aload_n 0, 1) := by decide +kernel
theorem dX9_hasMan_6 : decode cX9_hasMan 6 = .ok (.getfield 58, 3) := by decide +kernel
theorem dX9_hasMan_9 : decode cX9_hasMan 9 = .ok (.if_icmp .ge 13, 3) := by decide +kernel
theorem dX9_hasMan_12 : decode cX9_hasMan 12 = .ok (.iload_n 1, 1) := by decide +kernel
theorem dX9_hasMan_13 : decode cX9_hasMan 13 = .ok (.bipush 12, 2) := by decide +kernel
theorem dX9_hasMan_15 : decode cX9_hasMan 15 = .ok (.if_icmp .ge 7, 3) := by decide +kernel
theorem dX9_hasMan_18 : decode cX9_hasMan 18 = .ok (.iconst 1, 1) := by decide +kernel
theorem dX9_hasMan_19 : decode cX9_hasMan 19 = .ok (.goto 4, 3) := by decide +kernel
theorem dX9_hasMan_22 : decode cX9_hasMan 22 = .ok (.iconst 0, 1) := by decide +kernel
theorem dX9_hasMan_23 : decode cX9_hasMan 23 = .ok (.ireturn, 1) := by decide +kernel
theorem dX9_init_0 : decode cX9_init 0 = .ok (.aload_n 0, 1) := by decide +kernel
theorem dX9_init_1 : decode cX9_init 1 = .ok (.invokespecial 3, 3) := by decide +kernel
theorem dX9_init_4 : decode cX9_init 4 = .ok (.aload_n 0, 1) := by decide +kernel
theorem dX9_init_5 : decode cX9_init 5 = .ok (.bipush 12, 2) := by decide +kernel
theorem dX9_init_7 : decode cX9_init 7 = .ok (.newarray .int, 2) := by decide +kernel
theorem dX9_init_9 : decode cX9_init 9 = .ok (.putfield 9, 3) := by decide +kernel
theorem dX9_init_12 : decode cX9_init 12 = .ok (.aload_n 0, 1) := by decide +kernel
theorem dX9_init_13 : decode cX9_init 13 = .ok (.bipush 12, 2) := by decide +kernel
theorem dX9_init_15 : decode cX9_init 15 = .ok (.newarray .int, 2) := by decide +kernel
theorem dX9_init_17 : decode cX9_init 17 = .ok (.putfield 15, 3) := by decide +kernel
theorem dX9_init_20 : decode cX9_init 20 = .ok (.aload_n 0, 1) := by decide +kernel
theorem dX9_init_21 : decode cX9_init 21 = .ok (.bipush 12, 2) := by decide +kernel
theorem dX9_init_23 : decode cX9_init 23 = .ok (.newarray .int, 2) := by decide +kernel
theorem dX9_init_25 : decode cX9_init 25 = .ok (.putfield 18, 3) := by decide +kernel
theorem dX9_init_28 : decode cX9_init 28 = .ok (.aload_n 0, 1) := by decide +kernel
theorem dX9_init_29 : decode cX9_init 29 = .ok (.bipush 12, 2) := by decide +kernel
theorem dX9_init_31 : decode cX9_init 31 = .ok (.newarray .int, 2) := by decide +kernel
theorem dX9_init_33 : decode cX9_init 33 = .ok (.putfield 21, 3) := by decide +kernel
theorem dX9_init_36 : decode cX9_init 36 = .ok (.aload_n 0, 1) := by decide +kernel
theorem dX9_init_37 : decode cX9_init 37 = .ok (.iconst 2, 1) := by decide +kernel
theorem dX9_init_38 : decode cX9_init 38 = .ok (.newarray .int, 2) := by decide +kernel
theorem dX9_init_40 : decode cX9_init 40 = .ok (.dup, 1) := by decide +kernel
theorem dX9_init_41 : decode cX9_init 41 = .ok (.iconst 0, 1) := by decide +kernel
theorem dX9_init_42 : decode cX9_init 42 = .ok (.iconst 2, 1) := by decide +kernel
theorem dX9_init_43 : decode cX9_init 43 = .ok (.iastore, 1) := by decide +kernel
theorem dX9_init_44 : decode cX9_init 44 = .ok (.dup, 1) := by decide +kernel
theorem dX9_init_45 : decode cX9_init 45 = .ok (.iconst 1, 1) := by decide +kernel
theorem dX9_init_46 : decode cX9_init 46 = .ok (.iconst 2, 1) := by decide +kernel
theorem dX9_init_47 : decode cX9_init 47 = .ok (.iastore, 1) := by decide +kernel
theorem dX9_init_48 : decode cX9_init 48 = .ok (.putfield 24, 3) := by decide +kernel
theorem dX9_init_51 : decode cX9_init 51 = .ok (.aload_n 0, 1) := by decide +kernel
theorem dX9_init_52 : decode cX9_init 52 = .ok (.bipush 8, 2) := by decide +kernel
theorem dX9_init_54 : decode cX9_init 54 = .ok (.newarray .int, 2) := by decide +kernel
theorem dX9_init_56 : decode cX9_init 56 = .ok (.dup, 1) := by decide +kernel
theorem dX9_init_57 : decode cX9_init 57 = .ok (.iconst 0, 1) := by decide +kernel
theorem dX9_init_58 : decode cX9_init 58 = .ok (.iconst 1, 1) := by decide +kernel
theorem dX9_init_59 : decode cX9_init 59 = .ok (.iastore, 1) := by decide +kernel
theorem dX9_init_60 : decode cX9_init 60 = .ok (.dup, 1) := by decide +kernel
theorem dX9_init_61 : decode cX9_init 61 = .ok (.iconst 1, 1) := by decide +kernel
theorem dX9_init_62 : decode cX9_init 62 = .ok (.iconst 1, 1) := by decide +kernel
theorem dX9_init_63 : decode cX9_init 63 = .ok (.iastore, 1) := by decide +kernel
theorem dX9_init_64 : decode cX9_init 64 = .ok (.dup, 1) := by decide +kernel
theorem dX9_init_65 : decode cX9_init 65 = .ok (.iconst 2, 1) := by decide +kernel
theorem dX9_init_66 : decode cX9_init 66 = .ok (.iconst 1, 1) := by decide +kernel
theorem dX9_init_67 : decode cX9_init 67 = .ok (.iastore, 1) := by decide +kernel
theorem dX9_init_68 : decode cX9_init 68 = .ok (.dup, 1) := by decide +kernel
theorem dX9_init_69 : decode cX9_init 69 = .ok (.iconst 3, 1) := by decide +kernel
theorem dX9_init_70 : decode cX9_init 70 = .ok (.iconst 1, 1) := by decide +kernel
theorem dX9_init_71 : decode cX9_init 71 = .ok (.iastore, 1) := by decide +kernel
theorem dX9_init_72 : decode cX9_init 72 = .ok (.dup, 1) := by decide +kernel
theorem dX9_init_73 : decode cX9_init 73 = .ok (.iconst 4, 1) := by decide +kernel
theorem dX9_init_74 : decode cX9_init 74 = .ok (.iconst 1, 1) := by decide +kernel
theorem dX9_init_75 : decode cX9_init 75 = .ok (.iastore, 1) := by decide +kernel
theorem dX9_init_76 : decode cX9_init 76 = .ok (.dup, 1) := by decide +kernel
theorem dX9_init_77 : decode cX9_init 77 = .ok (.iconst 5, 1) := by decide +kernel
theorem dX9_init_78 : decode cX9_init 78 = .ok (.iconst 1, 1) := by decide +kernel
theorem dX9_init_79 : decode cX9_init 79 = .ok (.iastore, 1) := by decide +kernel
theorem dX9_init_80 : decode cX9_init 80 = .ok (.dup, 1) := by decide +kernel
theorem dX9_init_81 : decode cX9_init 81 = .ok (.bipush 6, 2) := by decide +kernel
theorem dX9_init_83 : decode cX9_init 83 = .ok (.iconst 1, 1) := by decide +kernel
theorem dX9_init_84 : decode cX9_init 84 = .ok (.iastore, 1) := by decide +kernel
theorem dX9_init_85 : decode cX9_init 85 = .ok (.dup, 1) := by decide +kernel
theorem dX9_init_86 : decode cX9_init 86 = .ok (.bipush 7, 2) := by decide +kernel
theorem dX9_init_88 : decode cX9_init 88 = .ok (.iconst 1, 1) := by decide +kernel
theorem dX9_init_89 : decode cX9_init 89 = .ok (.iastore, 1) := by decide +kernel
theorem dX9_init_90 : decode cX9_init 90 = .ok (.putfield 27, 3) := by decide +kernel
theorem dX9_init_93 : decode cX9_init 93 = .ok (.aload_n 0, 1) := by decide +kernel
theorem dX9_init_94 : decode cX9_init 94 = .ok (.iconst 1, 1) := by decide +kernel
theorem dX9_init_95 : decode cX9_init 95 = .ok (.putfield 30, 3) := by decide +kernel
theorem dX9_init_98 : decode cX9_init 98 = .ok (.aload_n 0, 1) := by decide +kernel
theorem dX9_init_99 : decode cX9_init 99 = .ok (.iconst 3, 1) := by decide +kernel
theorem dX9_init_100 : decode cX9_init 100 = .ok (.putfield 34, 3) := by decide +kernel
theorem dX9_init_103 : decode cX9_init 103 = .ok (.aload_n 0, 1) := by decide +kernel
theorem dX9_init_104 : decode cX9_init 104 = .ok (.new 37, 3) := by decide +kernel
theorem dX9_init_107 : decode cX9_init 107 = .ok (.dup, 1) := by decide +kernel
theorem dX9_init_108 : decode cX9_init 108 = .ok (.invokespecial 39, 3) := by decide +kernel
theorem dX9_init_111 : decode cX9_init 111 = .ok (.putfield 40, 3) := by decide +kernel
theorem dX9_init_114 : decode cX9_init 114 = .ok (.aload_n 0, 1) := by decide +kernel
theorem dX9_init_115 : decode cX9_init 115 = .ok (.new 44, 3) := by decide +kernel
theorem dX9_init_118 : decode cX9_init 118 = .ok (.dup, 1) := by decide +kernel
theorem dX9_init_119 : decode cX9_init 119 = .ok (.invokespecial 46, 3) := by decide +kernel
theorem dX9_init_122 : decode cX9_init 122 = .ok (.putfield 47, 3) := by decide +kernel
theorem dX9_init_125 : decode cX9_init 125 = .ok (.aload_n 0, 1) := by decide +kernel
theorem dX9_init_126 : decode cX9_init 126 = .ok (.new 51, 3) := by decide +kernel
theorem dX9_init_129 : decode cX9_init 129 = .ok (.dup, 1) := by decide +kernel
theorem dX9_init_130 : decode cX9_init 130 = .ok (.invokespecial 53, 3) := by decide +kernel
theorem dX9_init_133 : decode cX9_init 133 = .ok (.putfield 54, 3) := by decide +kernel
theorem dX9_init_136 : decode cX9_init 136 = .ok (.return_, 1) := by decide +kernel
theorem dX9_isHill_0 : decode cX9_isHill 0 = .ok (.iload_n 1, 1) := by decide +kernel
theorem dX9_isHill_1 : decode cX9_isHill 1 = .ok (.ifCond .lt 24, 3) := by decide +kernel
theorem dX9_isHill_4 : decode cX9_isHill 4 = .ok (.iload_n 1, 1) := by decide +kernel
theorem dX9_isHill_5 : decode cX9_isHill 5 = .ok (.bipush 16, 2) := by decide +kernel
theorem dX9_isHill_7 : decode cX9_isHill 7 = .ok (.if_icmp .ge 18, 3) := by decide +kernel
theorem dX9_isHill_10 : decode cX9_isHill 10 = .ok (.aload_n 0, 1) := by decide +kernel
theorem dX9_isHill_11 : decode cX9_isHill 11 = .ok (.getfield 68, 3) := by decide +kernel
theorem dX9_isHill_14 : decode cX9_isHill 14 = .ok (.iload_n 1, 1) := by decide +kernel
theorem dX9_isHill_15 : decode cX9_isHill 15 = .ok (.invokestatic 105, 3) := by decide +kernel
theorem dX9_isHill_18 : decode cX9_isHill 18 = .ok (.ifCond .eq 7, 3) := by decide +kernel
theorem dX9_isHill_21 : decode cX9_isHill 21 = .ok (.iconst 1, 1) := by decide +kernel
theorem dX9_isHill_22 : decode cX9_isHill 22 = .ok (.goto 4, 3) := by decide +kernel
theorem dX9_isHill_25 : decode cX9_isHill 25 = .ok (.iconst 0, 1) := by decide +kernel
theorem dX9_isHill_26 : decode cX9_isHill 26 = .ok (.ireturn, 1) := by decide +kernel
theorem dX9_mostOf_0 : decode cX9_mostOf 0 = .ok (.iload_n 0, 1) := by decide +kernel
theorem dX9_mostOf_1 : decode cX9_mostOf 1 = .ok (.tableswitch 39 1 4 #[31, 39, 34, 37], 31) := by decide +kernel
theorem dX9_mostOf_32 : decode cX9_mostOf 32 = .ok (.bipush 9, 2) := by decide +kernel
theorem dX9_mostOf_34 : decode cX9_mostOf 34 = .ok (.ireturn, 1) := by decide +kernel
theorem dX9_mostOf_35 : decode cX9_mostOf 35 = .ok (.bipush 9, 2) := by decide +kernel
theorem dX9_mostOf_37 : decode cX9_mostOf 37 = .ok (.ireturn, 1) := by decide +kernel
theorem dX9_mostOf_38 : decode cX9_mostOf 38 = .ok (.iconst 1, 1) := by decide +kernel
theorem dX9_mostOf_39 : decode cX9_mostOf 39 = .ok (.ireturn, 1) := by decide +kernel
theorem dX9_mostOf_40 : decode cX9_mostOf 40 = .ok (.bipush 99, 2) := by decide +kernel
theorem dX9_mostOf_42 : decode cX9_mostOf 42 = .ok (.ireturn, 1) := by decide +kernel
theorem dX9_put_0 : decode cX9_put 0 = .ok (.iload_n 3, 1) := by decide +kernel
theorem dX9_put_1 : decode cX9_put 1 = .ok (.ifCond .lt 11, 3) := by decide +kernel
theorem dX9_put_4 : decode cX9_put 4 = .ok (.iload_n 3, 1) := by decide +kernel
theorem dX9_put_5 : decode cX9_put 5 = .ok (.iload_n 1, 1) := by decide +kernel
theorem dX9_put_6 : decode cX9_put 6 = .ok (.invokestatic 91, 3) := by decide +kernel
theorem dX9_put_9 : decode cX9_put 9 = .ok (.if_icmp .le 5, 3) := by decide +kernel
theorem dX9_put_12 : decode cX9_put 12 = .ok (.iconst 0, 1) := by decide +kernel
theorem dX9_put_13 : decode cX9_put 13 = .ok (.ireturn, 1) := by decide +kernel
theorem dX9_put_14 : decode cX9_put 14 = .ok (.iload_n 1, 1) := by decide +kernel
theorem dX9_put_15 : decode cX9_put 15 = .ok (.tableswitch 68 0 4 #[33, 40, 47, 54, 61], 33) := by decide +kernel
theorem dX9_put_48 : decode cX9_put 48 = .ok (.aload_n 0, 1) := by decide +kernel
theorem dX9_put_49 : decode cX9_put 49 = .ok (.iload_n 3, 1) := by decide +kernel
theorem dX9_put_50 : decode cX9_put 50 = .ok (.putfield 30, 3) := by decide +kernel
theorem dX9_put_53 : decode cX9_put 53 = .ok (.iconst 1, 1) := by decide +kernel
theorem dX9_put_54 : decode cX9_put 54 = .ok (.ireturn, 1) := by decide +kernel
theorem dX9_put_55 : decode cX9_put 55 = .ok (.aload_n 0, 1) := by decide +kernel
theorem dX9_put_56 : decode cX9_put 56 = .ok (.iload_n 3, 1) := by decide +kernel
theorem dX9_put_57 : decode cX9_put 57 = .ok (.putfield 65, 3) := by decide +kernel
theorem dX9_put_60 : decode cX9_put 60 = .ok (.iconst 1, 1) := by decide +kernel
theorem dX9_put_61 : decode cX9_put 61 = .ok (.ireturn, 1) := by decide +kernel
theorem dX9_put_62 : decode cX9_put 62 = .ok (.aload_n 0, 1) := by decide +kernel
theorem dX9_put_63 : decode cX9_put 63 = .ok (.iload_n 3, 1) := by decide +kernel
theorem dX9_put_64 : decode cX9_put 64 = .ok (.putfield 34, 3) := by decide +kernel
theorem dX9_put_67 : decode cX9_put 67 = .ok (.iconst 1, 1) := by decide +kernel
theorem dX9_put_68 : decode cX9_put 68 = .ok (.ireturn, 1) := by decide +kernel
theorem dX9_put_69 : decode cX9_put 69 = .ok (.aload_n 0, 1) := by decide +kernel
theorem dX9_put_70 : decode cX9_put 70 = .ok (.iload_n 2, 1) := by decide +kernel
theorem dX9_put_71 : decode cX9_put 71 = .ok (.iload_n 3, 1) := by decide +kernel
theorem dX9_put_72 : decode cX9_put 72 = .ok (.invokevirtual 95, 3) := by decide +kernel
theorem dX9_put_75 : decode cX9_put 75 = .ok (.ireturn, 1) := by decide +kernel
theorem dX9_put_76 : decode cX9_put 76 = .ok (.aload_n 0, 1) := by decide +kernel
theorem dX9_put_77 : decode cX9_put 77 = .ok (.iload_n 2, 1) := by decide +kernel
theorem dX9_put_78 : decode cX9_put 78 = .ok (.iload_n 3, 1) := by decide +kernel
theorem dX9_put_79 : decode cX9_put 79 = .ok (.invokevirtual 99, 3) := by decide +kernel
theorem dX9_put_82 : decode cX9_put 82 = .ok (.ireturn, 1) := by decide +kernel
theorem dX9_put_83 : decode cX9_put 83 = .ok (.iconst 0, 1) := by decide +kernel
theorem dX9_put_84 : decode cX9_put 84 = .ok (.ireturn, 1) := by decide +kernel
theorem dX9_putHill_0 : decode cX9_putHill 0 = .ok (.iload_n 1, 1) := by decide +kernel
theorem dX9_putHill_1 : decode cX9_putHill 1 = .ok (.ifCond .lt 9, 3) := by decide +kernel
theorem dX9_putHill_4 : decode cX9_putHill 4 = .ok (.iload_n 1, 1) := by decide +kernel
theorem dX9_putHill_5 : decode cX9_putHill 5 = .ok (.bipush 16, 2) := by decide +kernel
theorem dX9_putHill_7 : decode cX9_putHill 7 = .ok (.if_icmp .lt 5, 3) := by decide +kernel
theorem dX9_putHill_10 : decode cX9_putHill 10 = .ok (.iconst 0, 1) := by decide +kernel
theorem dX9_putHill_11 : decode cX9_putHill 11 = .ok (.ireturn, 1) := by decide +kernel
theorem dX9_putHill_12 : decode cX9_putHill 12 = .ok (.aload_n 0, 1) := by decide +kernel
theorem dX9_putHill_13 : decode cX9_putHill 13 = .ok (.iload_n 2, 1) := by decide +kernel
theorem dX9_putHill_14 : decode cX9_putHill 14 = .ok (.iconst 1, 1) := by decide +kernel
theorem dX9_putHill_15 : decode cX9_putHill 15 = .ok (.if_icmp .ne 14, 3) := by decide +kernel
theorem dX9_putHill_18 : decode cX9_putHill 18 = .ok (.aload_n 0, 1) := by decide +kernel
theorem dX9_putHill_19 : decode cX9_putHill 19 = .ok (.getfield 68, 3) := by decide +kernel
theorem dX9_putHill_22 : decode cX9_putHill 22 = .ok (.iconst 1, 1) := by decide +kernel
theorem dX9_putHill_23 : decode cX9_putHill 23 = .ok (.iload_n 1, 1) := by decide +kernel
theorem dX9_putHill_24 : decode cX9_putHill 24 = .ok (.ishl, 1) := by decide +kernel
theorem dX9_putHill_25 : decode cX9_putHill 25 = .ok (.ior, 1) := by decide +kernel
theorem dX9_putHill_26 : decode cX9_putHill 26 = .ok (.goto 13, 3) := by decide +kernel
theorem dX9_putHill_29 : decode cX9_putHill 29 = .ok (.aload_n 0, 1) := by decide +kernel
theorem dX9_putHill_30 : decode cX9_putHill 30 = .ok (.getfield 68, 3) := by decide +kernel
theorem dX9_putHill_33 : decode cX9_putHill 33 = .ok (.iconst 1, 1) := by decide +kernel
theorem dX9_putHill_34 : decode cX9_putHill 34 = .ok (.iload_n 1, 1) := by decide +kernel
theorem dX9_putHill_35 : decode cX9_putHill 35 = .ok (.ishl, 1) := by decide +kernel
theorem dX9_putHill_36 : decode cX9_putHill 36 = .ok (.iconst (-1), 1) := by decide +kernel
theorem dX9_putHill_37 : decode cX9_putHill 37 = .ok (.ixor, 1) := by decide +kernel
theorem dX9_putHill_38 : decode cX9_putHill 38 = .ok (.iand, 1) := by decide +kernel
theorem dX9_putHill_39 : decode cX9_putHill 39 = .ok (.putfield 68, 3) := by decide +kernel
theorem dX9_putHill_42 : decode cX9_putHill 42 = .ok (.iconst 1, 1) := by decide +kernel
theorem dX9_putHill_43 : decode cX9_putHill 43 = .ok (.ireturn, 1) := by decide +kernel
theorem dX9_putWant_0 : decode cX9_putWant 0 = .ok (.iload_n 1, 1) := by decide +kernel
theorem dX9_putWant_1 : decode cX9_putWant 1 = .ok (.invokestatic 102, 3) := by decide +kernel
theorem dX9_putWant_4 : decode cX9_putWant 4 = .ok (.ifCond .ne 5, 3) := by decide +kernel
theorem dX9_putWant_7 : decode cX9_putWant 7 = .ok (.iconst 0, 1) := by decide +kernel
theorem dX9_putWant_8 : decode cX9_putWant 8 = .ok (.ireturn, 1) := by decide +kernel
theorem dX9_putWant_9 : decode cX9_putWant 9 = .ok (.aload_n 0, 1) := by decide +kernel
theorem dX9_putWant_10 : decode cX9_putWant 10 = .ok (.getfield 24, 3) := by decide +kernel
theorem dX9_putWant_13 : decode cX9_putWant 13 = .ok (.iload_n 1, 1) := by decide +kernel
theorem dX9_putWant_14 : decode cX9_putWant 14 = .ok (.iload_n 2, 1) := by decide +kernel
theorem dX9_putWant_15 : decode cX9_putWant 15 = .ok (.iastore, 1) := by decide +kernel
theorem dX9_putWant_16 : decode cX9_putWant 16 = .ok (.iconst 1, 1) := by decide +kernel
theorem dX9_putWant_17 : decode cX9_putWant 17 = .ok (.ireturn, 1) := by decide +kernel
theorem dX9_weightOf_0 : decode cX9_weightOf 0 = .ok (.iconst 0, 1) := by decide +kernel
theorem dX9_weightOf_1 : decode cX9_weightOf 1 = .ok (.istore_n 2, 1) := by decide +kernel
theorem dX9_weightOf_2 : decode cX9_weightOf 2 = .ok (.iconst 0, 1) := by decide +kernel
theorem dX9_weightOf_3 : decode cX9_weightOf 3 = .ok (.istore_n 3, 1) := by decide +kernel
theorem dX9_weightOf_4 : decode cX9_weightOf 4 = .ok (.iload_n 3, 1) := by decide +kernel
theorem dX9_weightOf_5 : decode cX9_weightOf 5 = .ok (.bipush 8, 2) := by decide +kernel
theorem dX9_weightOf_7 : decode cX9_weightOf 7 = .ok (.if_icmp .ge 30, 3) := by decide +kernel
theorem dX9_weightOf_10 : decode cX9_weightOf 10 = .ok (.iload_n 2, 1) := by decide +kernel
theorem dX9_weightOf_11 : decode cX9_weightOf 11 = .ok (.iload_n 1, 1) := by decide +kernel
theorem dX9_weightOf_12 : decode cX9_weightOf 12 = .ok (.iload_n 3, 1) := by decide +kernel
theorem dX9_weightOf_13 : decode cX9_weightOf 13 = .ok (.invokestatic 105, 3) := by decide +kernel
theorem dX9_weightOf_16 : decode cX9_weightOf 16 = .ok (.ifCond .eq 12, 3) := by decide +kernel
theorem dX9_weightOf_19 : decode cX9_weightOf 19 = .ok (.aload_n 0, 1) := by decide +kernel
theorem dX9_weightOf_20 : decode cX9_weightOf 20 = .ok (.getfield 27, 3) := by decide +kernel
theorem dX9_weightOf_23 : decode cX9_weightOf 23 = .ok (.iload_n 3, 1) := by decide +kernel
theorem dX9_weightOf_24 : decode cX9_weightOf 24 = .ok (.iaload, 1) := by decide +kernel
theorem dX9_weightOf_25 : decode cX9_weightOf 25 = .ok (.goto 4, 3) := by decide +kernel
theorem dX9_weightOf_28 : decode cX9_weightOf 28 = .ok (.iconst 0, 1) := by decide +kernel
theorem dX9_weightOf_29 : decode cX9_weightOf 29 = .ok (.iadd, 1) := by decide +kernel
theorem dX9_weightOf_30 : decode cX9_weightOf 30 = .ok (.istore_n 2, 1) := by decide +kernel
theorem dX9_weightOf_31 : decode cX9_weightOf 31 = .ok (.iinc 3 1, 3) := by decide +kernel
theorem dX9_weightOf_34 : decode cX9_weightOf 34 = .ok (.goto (-30), 3) := by decide +kernel
theorem dX9_weightOf_37 : decode cX9_weightOf 37 = .ok (.iload_n 2, 1) := by decide +kernel
theorem dX9_weightOf_38 : decode cX9_weightOf 38 = .ok (.ireturn, 1) := by decide +kernel
theorem dL_law_0 : decode cL_law 0 = .ok (.new 7, 3) := by decide +kernel
theorem dL_law_3 : decode cL_law 3 = .ok (.dup, 1) := by decide +kernel
theorem dL_law_4 : decode cL_law 4 = .ok (.invokespecial 9, 3) := by decide +kernel
theorem dL_law_7 : decode cL_law 7 = .ok (.astore_n 1, 1) := by decide +kernel
theorem dL_law_8 : decode cL_law 8 = .ok (.new 10, 3) := by decide +kernel
theorem dL_law_11 : decode cL_law 11 = .ok (.dup, 1) := by decide +kernel
theorem dL_law_12 : decode cL_law 12 = .ok (.invokespecial 12, 3) := by decide +kernel
theorem dL_law_15 : decode cL_law 15 = .ok (.astore_n 2, 1) := by decide +kernel
theorem dL_law_16 : decode cL_law 16 = .ok (.iconst 0, 1) := by decide +kernel
theorem dL_law_17 : decode cL_law 17 = .ok (.istore_n 3, 1) := by decide +kernel
theorem dL_law_18 : decode cL_law 18 = .ok (.iload_n 3, 1) := by decide +kernel
theorem dL_law_19 : decode cL_law 19 = .ok (.aload_n 0, 1) := by decide +kernel
theorem dL_law_20 : decode cL_law 20 = .ok (.arraylength, 1) := by decide +kernel
theorem dL_law_21 : decode cL_law 21 = .ok (.bipush 6, 2) := by decide +kernel
theorem dL_law_23 : decode cL_law 23 = .ok (.isub, 1) := by decide +kernel
theorem dL_law_24 : decode cL_law 24 = .ok (.if_icmp .gt 1046, 3) := by decide +kernel
theorem dL_law_27 : decode cL_law 27 = .ok (.aload_n 0, 1) := by decide +kernel
theorem dL_law_28 : decode cL_law 28 = .ok (.iload_n 3, 1) := by decide +kernel
theorem dL_law_29 : decode cL_law 29 = .ok (.iaload, 1) := by decide +kernel
theorem dL_law_30 : decode cL_law 30 = .ok (.bipush 31, 2) := by decide +kernel
theorem dL_law_32 : decode cL_law 32 = .ok (.iand, 1) := by decide +kernel
theorem dL_law_33 : decode cL_law 33 = .ok (.tableswitch 1031 0 29 #[135, 158, 201, 244, 277, 320, 343, 406, 429, 452, 475, 508, 531, 564, 597, 620, 653, 676, 699, 732, 785, 818, 861, 874, 887, 920, 933, 956, 969, 1008], 135) := by decide +kernel
theorem dL_law_168 : decode cL_law 168 = .ok (.aload_n 1, 1) := by decide +kernel
theorem dL_law_169 : decode cL_law 169 = .ok (.aload_n 0, 1) := by decide +kernel
theorem dL_law_170 : decode cL_law 170 = .ok (.iload_n 3, 1) := by decide +kernel
theorem dL_law_171 : decode cL_law 171 = .ok (.iconst 1, 1) := by decide +kernel
theorem dL_law_172 : decode cL_law 172 = .ok (.iadd, 1) := by decide +kernel
theorem dL_law_173 : decode cL_law 173 = .ok (.iaload, 1) := by decide +kernel
theorem dL_law_174 : decode cL_law 174 = .ok (.invokevirtual 13, 3) := by decide +kernel
theorem dL_law_177 : decode cL_law 177 = .ok (.aload_n 2, 1) := by decide +kernel
theorem dL_law_178 : decode cL_law 178 = .ok (.aload_n 0, 1) := by decide +kernel
theorem dL_law_179 : decode cL_law 179 = .ok (.iload_n 3, 1) := by decide +kernel
theorem dL_law_180 : decode cL_law 180 = .ok (.iconst 1, 1) := by decide +kernel
theorem dL_law_181 : decode cL_law 181 = .ok (.iadd, 1) := by decide +kernel
theorem dL_law_182 : decode cL_law 182 = .ok (.iaload, 1) := by decide +kernel
theorem dL_law_183 : decode cL_law 183 = .ok (.invokevirtual 17, 3) := by decide +kernel
theorem dL_law_186 : decode cL_law 186 = .ok (.if_icmp .eq 878, 3) := by decide +kernel
theorem dL_law_189 : decode cL_law 189 = .ok (.iconst 0, 1) := by decide +kernel
theorem dL_law_190 : decode cL_law 190 = .ok (.ireturn, 1) := by decide +kernel
theorem dL_law_191 : decode cL_law 191 = .ok (.aload_n 1, 1) := by decide +kernel
theorem dL_law_192 : decode cL_law 192 = .ok (.aload_n 0, 1) := by decide +kernel
theorem dL_law_193 : decode cL_law 193 = .ok (.iload_n 3, 1) := by decide +kernel
theorem dL_law_194 : decode cL_law 194 = .ok (.iconst 1, 1) := by decide +kernel
theorem dL_law_195 : decode cL_law 195 = .ok (.iadd, 1) := by decide +kernel
theorem dL_law_196 : decode cL_law 196 = .ok (.iaload, 1) := by decide +kernel
theorem dL_law_197 : decode cL_law 197 = .ok (.aload_n 0, 1) := by decide +kernel
theorem dL_law_198 : decode cL_law 198 = .ok (.iload_n 3, 1) := by decide +kernel
theorem dL_law_199 : decode cL_law 199 = .ok (.iconst 2, 1) := by decide +kernel
theorem dL_law_200 : decode cL_law 200 = .ok (.iadd, 1) := by decide +kernel
theorem dL_law_201 : decode cL_law 201 = .ok (.iaload, 1) := by decide +kernel
theorem dL_law_202 : decode cL_law 202 = .ok (.aload_n 0, 1) := by decide +kernel
theorem dL_law_203 : decode cL_law 203 = .ok (.iload_n 3, 1) := by decide +kernel
theorem dL_law_204 : decode cL_law 204 = .ok (.iconst 3, 1) := by decide +kernel
theorem dL_law_205 : decode cL_law 205 = .ok (.iadd, 1) := by decide +kernel
theorem dL_law_206 : decode cL_law 206 = .ok (.iaload, 1) := by decide +kernel
theorem dL_law_207 : decode cL_law 207 = .ok (.invokevirtual 18, 3) := by decide +kernel
theorem dL_law_210 : decode cL_law 210 = .ok (.aload_n 2, 1) := by decide +kernel
theorem dL_law_211 : decode cL_law 211 = .ok (.aload_n 0, 1) := by decide +kernel
theorem dL_law_212 : decode cL_law 212 = .ok (.iload_n 3, 1) := by decide +kernel
theorem dL_law_213 : decode cL_law 213 = .ok (.iconst 1, 1) := by decide +kernel
theorem dL_law_214 : decode cL_law 214 = .ok (.iadd, 1) := by decide +kernel
theorem dL_law_215 : decode cL_law 215 = .ok (.iaload, 1) := by decide +kernel
theorem dL_law_216 : decode cL_law 216 = .ok (.aload_n 0, 1) := by decide +kernel
theorem dL_law_217 : decode cL_law 217 = .ok (.iload_n 3, 1) := by decide +kernel
theorem dL_law_218 : decode cL_law 218 = .ok (.iconst 2, 1) := by decide +kernel
theorem dL_law_219 : decode cL_law 219 = .ok (.iadd, 1) := by decide +kernel
theorem dL_law_220 : decode cL_law 220 = .ok (.iaload, 1) := by decide +kernel
theorem dL_law_221 : decode cL_law 221 = .ok (.aload_n 0, 1) := by decide +kernel
theorem dL_law_222 : decode cL_law 222 = .ok (.iload_n 3, 1) := by decide +kernel
theorem dL_law_223 : decode cL_law 223 = .ok (.iconst 3, 1) := by decide +kernel
theorem dL_law_224 : decode cL_law 224 = .ok (.iadd, 1) := by decide +kernel
theorem dL_law_225 : decode cL_law 225 = .ok (.iaload, 1) := by decide +kernel
theorem dL_law_226 : decode cL_law 226 = .ok (.invokevirtual 22, 3) := by decide +kernel
theorem dL_law_229 : decode cL_law 229 = .ok (.if_icmp .eq 835, 3) := by decide +kernel
theorem dL_law_232 : decode cL_law 232 = .ok (.iconst 0, 1) := by decide +kernel
theorem dL_law_233 : decode cL_law 233 = .ok (.ireturn, 1) := by decide +kernel
theorem dL_law_234 : decode cL_law 234 = .ok (.aload_n 1, 1) := by decide +kernel
theorem dL_law_235 : decode cL_law 235 = .ok (.aload_n 0, 1) := by decide +kernel
theorem dL_law_236 : decode cL_law 236 = .ok (.iload_n 3, 1) := by decide +kernel
theorem dL_law_237 : decode cL_law 237 = .ok (.iconst 1, 1) := by decide +kernel
theorem dL_law_238 : decode cL_law 238 = .ok (.iadd, 1) := by decide +kernel
theorem dL_law_239 : decode cL_law 239 = .ok (.iaload, 1) := by decide +kernel
theorem dL_law_240 : decode cL_law 240 = .ok (.aload_n 0, 1) := by decide +kernel
theorem dL_law_241 : decode cL_law 241 = .ok (.iload_n 3, 1) := by decide +kernel
theorem dL_law_242 : decode cL_law 242 = .ok (.iconst 2, 1) := by decide +kernel
theorem dL_law_243 : decode cL_law 243 = .ok (.iadd, 1) := by decide +kernel
theorem dL_law_244 : decode cL_law 244 = .ok (.iaload, 1) := by decide +kernel
theorem dL_law_245 : decode cL_law 245 = .ok (.aload_n 0, 1) := by decide +kernel
theorem dL_law_246 : decode cL_law 246 = .ok (.iload_n 3, 1) := by decide +kernel
theorem dL_law_247 : decode cL_law 247 = .ok (.iconst 3, 1) := by decide +kernel
theorem dL_law_248 : decode cL_law 248 = .ok (.iadd, 1) := by decide +kernel
theorem dL_law_249 : decode cL_law 249 = .ok (.iaload, 1) := by decide +kernel
theorem dL_law_250 : decode cL_law 250 = .ok (.invokevirtual 23, 3) := by decide +kernel
theorem dL_law_253 : decode cL_law 253 = .ok (.aload_n 2, 1) := by decide +kernel
theorem dL_law_254 : decode cL_law 254 = .ok (.aload_n 0, 1) := by decide +kernel
theorem dL_law_255 : decode cL_law 255 = .ok (.iload_n 3, 1) := by decide +kernel
theorem dL_law_256 : decode cL_law 256 = .ok (.iconst 1, 1) := by decide +kernel
theorem dL_law_257 : decode cL_law 257 = .ok (.iadd, 1) := by decide +kernel
theorem dL_law_258 : decode cL_law 258 = .ok (.iaload, 1) := by decide +kernel
theorem dL_law_259 : decode cL_law 259 = .ok (.aload_n 0, 1) := by decide +kernel
theorem dL_law_260 : decode cL_law 260 = .ok (.iload_n 3, 1) := by decide +kernel
theorem dL_law_261 : decode cL_law 261 = .ok (.iconst 2, 1) := by decide +kernel
theorem dL_law_262 : decode cL_law 262 = .ok (.iadd, 1) := by decide +kernel
theorem dL_law_263 : decode cL_law 263 = .ok (.iaload, 1) := by decide +kernel
theorem dL_law_264 : decode cL_law 264 = .ok (.aload_n 0, 1) := by decide +kernel
theorem dL_law_265 : decode cL_law 265 = .ok (.iload_n 3, 1) := by decide +kernel
theorem dL_law_266 : decode cL_law 266 = .ok (.iconst 3, 1) := by decide +kernel
theorem dL_law_267 : decode cL_law 267 = .ok (.iadd, 1) := by decide +kernel
theorem dL_law_268 : decode cL_law 268 = .ok (.iaload, 1) := by decide +kernel
theorem dL_law_269 : decode cL_law 269 = .ok (.invokevirtual 27, 3) := by decide +kernel
theorem dL_law_272 : decode cL_law 272 = .ok (.if_icmp .eq 792, 3) := by decide +kernel
theorem dL_law_275 : decode cL_law 275 = .ok (.iconst 0, 1) := by decide +kernel
theorem dL_law_276 : decode cL_law 276 = .ok (.ireturn, 1) := by decide +kernel
theorem dL_law_277 : decode cL_law 277 = .ok (.aload_n 1, 1) := by decide +kernel
theorem dL_law_278 : decode cL_law 278 = .ok (.aload_n 0, 1) := by decide +kernel
theorem dL_law_279 : decode cL_law 279 = .ok (.iload_n 3, 1) := by decide +kernel
theorem dL_law_280 : decode cL_law 280 = .ok (.iconst 1, 1) := by decide +kernel
theorem dL_law_281 : decode cL_law 281 = .ok (.iadd, 1) := by decide +kernel
theorem dL_law_282 : decode cL_law 282 = .ok (.iaload, 1) := by decide +kernel
theorem dL_law_283 : decode cL_law 283 = .ok (.aload_n 0, 1) := by decide +kernel
theorem dL_law_284 : decode cL_law 284 = .ok (.iload_n 3, 1) := by decide +kernel
theorem dL_law_285 : decode cL_law 285 = .ok (.iconst 2, 1) := by decide +kernel
theorem dL_law_286 : decode cL_law 286 = .ok (.iadd, 1) := by decide +kernel
theorem dL_law_287 : decode cL_law 287 = .ok (.iaload, 1) := by decide +kernel
theorem dL_law_288 : decode cL_law 288 = .ok (.invokevirtual 28, 3) := by decide +kernel
theorem dL_law_291 : decode cL_law 291 = .ok (.aload_n 2, 1) := by decide +kernel
theorem dL_law_292 : decode cL_law 292 = .ok (.aload_n 0, 1) := by decide +kernel
theorem dL_law_293 : decode cL_law 293 = .ok (.iload_n 3, 1) := by decide +kernel
theorem dL_law_294 : decode cL_law 294 = .ok (.iconst 1, 1) := by decide +kernel
theorem dL_law_295 : decode cL_law 295 = .ok (.iadd, 1) := by decide +kernel
theorem dL_law_296 : decode cL_law 296 = .ok (.iaload, 1) := by decide +kernel
theorem dL_law_297 : decode cL_law 297 = .ok (.aload_n 0, 1) := by decide +kernel
theorem dL_law_298 : decode cL_law 298 = .ok (.iload_n 3, 1) := by decide +kernel
theorem dL_law_299 : decode cL_law 299 = .ok (.iconst 2, 1) := by decide +kernel
theorem dL_law_300 : decode cL_law 300 = .ok (.iadd, 1) := by decide +kernel
theorem dL_law_301 : decode cL_law 301 = .ok (.iaload, 1) := by decide +kernel
theorem dL_law_302 : decode cL_law 302 = .ok (.invokevirtual 32, 3) := by decide +kernel
theorem dL_law_305 : decode cL_law 305 = .ok (.if_icmp .eq 759, 3) := by decide +kernel
theorem dL_law_308 : decode cL_law 308 = .ok (.iconst 0, 1) := by decide +kernel
theorem dL_law_309 : decode cL_law 309 = .ok (.ireturn, 1) := by decide +kernel
theorem dL_law_310 : decode cL_law 310 = .ok (.aload_n 1, 1) := by decide +kernel
theorem dL_law_311 : decode cL_law 311 = .ok (.aload_n 0, 1) := by decide +kernel
theorem dL_law_312 : decode cL_law 312 = .ok (.iload_n 3, 1) := by decide +kernel
theorem dL_law_313 : decode cL_law 313 = .ok (.iconst 1, 1) := by decide +kernel
theorem dL_law_314 : decode cL_law 314 = .ok (.iadd, 1) := by decide +kernel
theorem dL_law_315 : decode cL_law 315 = .ok (.iaload, 1) := by decide +kernel
theorem dL_law_316 : decode cL_law 316 = .ok (.aload_n 0, 1) := by decide +kernel
theorem dL_law_317 : decode cL_law 317 = .ok (.iload_n 3, 1) := by decide +kernel
theorem dL_law_318 : decode cL_law 318 = .ok (.iconst 2, 1) := by decide +kernel
theorem dL_law_319 : decode cL_law 319 = .ok (.iadd, 1) := by decide +kernel
theorem dL_law_320 : decode cL_law 320 = .ok (.iaload, 1) := by decide +kernel
theorem dL_law_321 : decode cL_law 321 = .ok (.aload_n 0, 1) := by decide +kernel
theorem dL_law_322 : decode cL_law 322 = .ok (.iload_n 3, 1) := by decide +kernel
theorem dL_law_323 : decode cL_law 323 = .ok (.iconst 3, 1) := by decide +kernel
theorem dL_law_324 : decode cL_law 324 = .ok (.iadd, 1) := by decide +kernel
theorem dL_law_325 : decode cL_law 325 = .ok (.iaload, 1) := by decide +kernel
theorem dL_law_326 : decode cL_law 326 = .ok (.invokevirtual 33, 3) := by decide +kernel
theorem dL_law_329 : decode cL_law 329 = .ok (.aload_n 2, 1) := by decide +kernel
theorem dL_law_330 : decode cL_law 330 = .ok (.aload_n 0, 1) := by decide +kernel
theorem dL_law_331 : decode cL_law 331 = .ok (.iload_n 3, 1) := by decide +kernel
theorem dL_law_332 : decode cL_law 332 = .ok (.iconst 1, 1) := by decide +kernel
theorem dL_law_333 : decode cL_law 333 = .ok (.iadd, 1) := by decide +kernel
theorem dL_law_334 : decode cL_law 334 = .ok (.iaload, 1) := by decide +kernel
theorem dL_law_335 : decode cL_law 335 = .ok (.aload_n 0, 1) := by decide +kernel
theorem dL_law_336 : decode cL_law 336 = .ok (.iload_n 3, 1) := by decide +kernel
theorem dL_law_337 : decode cL_law 337 = .ok (.iconst 2, 1) := by decide +kernel
theorem dL_law_338 : decode cL_law 338 = .ok (.iadd, 1) := by decide +kernel
theorem dL_law_339 : decode cL_law 339 = .ok (.iaload, 1) := by decide +kernel
theorem dL_law_340 : decode cL_law 340 = .ok (.aload_n 0, 1) := by decide +kernel
theorem dL_law_341 : decode cL_law 341 = .ok (.iload_n 3, 1) := by decide +kernel
theorem dL_law_342 : decode cL_law 342 = .ok (.iconst 3, 1) := by decide +kernel
theorem dL_law_343 : decode cL_law 343 = .ok (.iadd, 1) := by decide +kernel
theorem dL_law_344 : decode cL_law 344 = .ok (.iaload, 1) := by decide +kernel
theorem dL_law_345 : decode cL_law 345 = .ok (.invokevirtual 36, 3) := by decide +kernel
theorem dL_law_348 : decode cL_law 348 = .ok (.if_icmp .eq 716, 3) := by decide +kernel
theorem dL_law_351 : decode cL_law 351 = .ok (.iconst 0, 1) := by decide +kernel
theorem dL_law_352 : decode cL_law 352 = .ok (.ireturn, 1) := by decide +kernel
theorem dL_law_353 : decode cL_law 353 = .ok (.aload_n 1, 1) := by decide +kernel
theorem dL_law_354 : decode cL_law 354 = .ok (.aload_n 0, 1) := by decide +kernel
theorem dL_law_355 : decode cL_law 355 = .ok (.iload_n 3, 1) := by decide +kernel
theorem dL_law_356 : decode cL_law 356 = .ok (.iconst 1, 1) := by decide +kernel
theorem dL_law_357 : decode cL_law 357 = .ok (.iadd, 1) := by decide +kernel
theorem dL_law_358 : decode cL_law 358 = .ok (.iaload, 1) := by decide +kernel
theorem dL_law_359 : decode cL_law 359 = .ok (.invokevirtual 37, 3) := by decide +kernel
theorem dL_law_362 : decode cL_law 362 = .ok (.aload_n 2, 1) := by decide +kernel
theorem dL_law_363 : decode cL_law 363 = .ok (.aload_n 0, 1) := by decide +kernel
theorem dL_law_364 : decode cL_law 364 = .ok (.iload_n 3, 1) := by decide +kernel
theorem dL_law_365 : decode cL_law 365 = .ok (.iconst 1, 1) := by decide +kernel
theorem dL_law_366 : decode cL_law 366 = .ok (.iadd, 1) := by decide +kernel
theorem dL_law_367 : decode cL_law 367 = .ok (.iaload, 1) := by decide +kernel
theorem dL_law_368 : decode cL_law 368 = .ok (.invokevirtual 40, 3) := by decide +kernel
theorem dL_law_371 : decode cL_law 371 = .ok (.if_icmp .eq 693, 3) := by decide +kernel
theorem dL_law_374 : decode cL_law 374 = .ok (.iconst 0, 1) := by decide +kernel
theorem dL_law_375 : decode cL_law 375 = .ok (.ireturn, 1) := by decide +kernel
theorem dL_law_376 : decode cL_law 376 = .ok (.aload_n 1, 1) := by decide +kernel
theorem dL_law_377 : decode cL_law 377 = .ok (.aload_n 0, 1) := by decide +kernel
theorem dL_law_378 : decode cL_law 378 = .ok (.iload_n 3, 1) := by decide +kernel
theorem dL_law_379 : decode cL_law 379 = .ok (.iconst 1, 1) := by decide +kernel
theorem dL_law_380 : decode cL_law 380 = .ok (.iadd, 1) := by decide +kernel
theorem dL_law_381 : decode cL_law 381 = .ok (.iaload, 1) := by decide +kernel
theorem dL_law_382 : decode cL_law 382 = .ok (.aload_n 0, 1) := by decide +kernel
theorem dL_law_383 : decode cL_law 383 = .ok (.iload_n 3, 1) := by decide +kernel
theorem dL_law_384 : decode cL_law 384 = .ok (.iconst 2, 1) := by decide +kernel
theorem dL_law_385 : decode cL_law 385 = .ok (.iadd, 1) := by decide +kernel
theorem dL_law_386 : decode cL_law 386 = .ok (.iaload, 1) := by decide +kernel
theorem dL_law_387 : decode cL_law 387 = .ok (.aload_n 0, 1) := by decide +kernel
theorem dL_law_388 : decode cL_law 388 = .ok (.iload_n 3, 1) := by decide +kernel
theorem dL_law_389 : decode cL_law 389 = .ok (.iconst 3, 1) := by decide +kernel
theorem dL_law_390 : decode cL_law 390 = .ok (.iadd, 1) := by decide +kernel
theorem dL_law_391 : decode cL_law 391 = .ok (.iaload, 1) := by decide +kernel
theorem dL_law_392 : decode cL_law 392 = .ok (.aload_n 0, 1) := by decide +kernel
theorem dL_law_393 : decode cL_law 393 = .ok (.iload_n 3, 1) := by decide +kernel
theorem dL_law_394 : decode cL_law 394 = .ok (.iconst 4, 1) := by decide +kernel
theorem dL_law_395 : decode cL_law 395 = .ok (.iadd, 1) := by decide +kernel
theorem dL_law_396 : decode cL_law 396 = .ok (.iaload, 1) := by decide +kernel
theorem dL_law_397 : decode cL_law 397 = .ok (.aload_n 0, 1) := by decide +kernel
theorem dL_law_398 : decode cL_law 398 = .ok (.iload_n 3, 1) := by decide +kernel
theorem dL_law_399 : decode cL_law 399 = .ok (.iconst 5, 1) := by decide +kernel
theorem dL_law_400 : decode cL_law 400 = .ok (.iadd, 1) := by decide +kernel
theorem dL_law_401 : decode cL_law 401 = .ok (.iaload, 1) := by decide +kernel
theorem dL_law_402 : decode cL_law 402 = .ok (.invokevirtual 41, 3) := by decide +kernel
theorem dL_law_405 : decode cL_law 405 = .ok (.aload_n 2, 1) := by decide +kernel
theorem dL_law_406 : decode cL_law 406 = .ok (.aload_n 0, 1) := by decide +kernel
theorem dL_law_407 : decode cL_law 407 = .ok (.iload_n 3, 1) := by decide +kernel
theorem dL_law_408 : decode cL_law 408 = .ok (.iconst 1, 1) := by decide +kernel
theorem dL_law_409 : decode cL_law 409 = .ok (.iadd, 1) := by decide +kernel
theorem dL_law_410 : decode cL_law 410 = .ok (.iaload, 1) := by decide +kernel
theorem dL_law_411 : decode cL_law 411 = .ok (.aload_n 0, 1) := by decide +kernel
theorem dL_law_412 : decode cL_law 412 = .ok (.iload_n 3, 1) := by decide +kernel
theorem dL_law_413 : decode cL_law 413 = .ok (.iconst 2, 1) := by decide +kernel
theorem dL_law_414 : decode cL_law 414 = .ok (.iadd, 1) := by decide +kernel
theorem dL_law_415 : decode cL_law 415 = .ok (.iaload, 1) := by decide +kernel
theorem dL_law_416 : decode cL_law 416 = .ok (.aload_n 0, 1) := by decide +kernel
theorem dL_law_417 : decode cL_law 417 = .ok (.iload_n 3, 1) := by decide +kernel
theorem dL_law_418 : decode cL_law 418 = .ok (.iconst 3, 1) := by decide +kernel
theorem dL_law_419 : decode cL_law 419 = .ok (.iadd, 1) := by decide +kernel
theorem dL_law_420 : decode cL_law 420 = .ok (.iaload, 1) := by decide +kernel
theorem dL_law_421 : decode cL_law 421 = .ok (.aload_n 0, 1) := by decide +kernel
theorem dL_law_422 : decode cL_law 422 = .ok (.iload_n 3, 1) := by decide +kernel
theorem dL_law_423 : decode cL_law 423 = .ok (.iconst 4, 1) := by decide +kernel
theorem dL_law_424 : decode cL_law 424 = .ok (.iadd, 1) := by decide +kernel
theorem dL_law_425 : decode cL_law 425 = .ok (.iaload, 1) := by decide +kernel
theorem dL_law_426 : decode cL_law 426 = .ok (.aload_n 0, 1) := by decide +kernel
theorem dL_law_427 : decode cL_law 427 = .ok (.iload_n 3, 1) := by decide +kernel
theorem dL_law_428 : decode cL_law 428 = .ok (.iconst 5, 1) := by decide +kernel
theorem dL_law_429 : decode cL_law 429 = .ok (.iadd, 1) := by decide +kernel
theorem dL_law_430 : decode cL_law 430 = .ok (.iaload, 1) := by decide +kernel
theorem dL_law_431 : decode cL_law 431 = .ok (.invokevirtual 45, 3) := by decide +kernel
theorem dL_law_434 : decode cL_law 434 = .ok (.if_icmp .eq 630, 3) := by decide +kernel
theorem dL_law_437 : decode cL_law 437 = .ok (.iconst 0, 1) := by decide +kernel
theorem dL_law_438 : decode cL_law 438 = .ok (.ireturn, 1) := by decide +kernel
theorem dL_law_439 : decode cL_law 439 = .ok (.aload_n 1, 1) := by decide +kernel
theorem dL_law_440 : decode cL_law 440 = .ok (.aload_n 0, 1) := by decide +kernel
theorem dL_law_441 : decode cL_law 441 = .ok (.iload_n 3, 1) := by decide +kernel
theorem dL_law_442 : decode cL_law 442 = .ok (.iconst 1, 1) := by decide +kernel
theorem dL_law_443 : decode cL_law 443 = .ok (.iadd, 1) := by decide +kernel
theorem dL_law_444 : decode cL_law 444 = .ok (.iaload, 1) := by decide +kernel
theorem dL_law_445 : decode cL_law 445 = .ok (.invokevirtual 46, 3) := by decide +kernel
theorem dL_law_448 : decode cL_law 448 = .ok (.aload_n 2, 1) := by decide +kernel
theorem dL_law_449 : decode cL_law 449 = .ok (.aload_n 0, 1) := by decide +kernel
theorem dL_law_450 : decode cL_law 450 = .ok (.iload_n 3, 1) := by decide +kernel
theorem dL_law_451 : decode cL_law 451 = .ok (.iconst 1, 1) := by decide +kernel
theorem dL_law_452 : decode cL_law 452 = .ok (.iadd, 1) := by decide +kernel
theorem dL_law_453 : decode cL_law 453 = .ok (.iaload, 1) := by decide +kernel
theorem dL_law_454 : decode cL_law 454 = .ok (.invokevirtual 50, 3) := by decide +kernel
theorem dL_law_457 : decode cL_law 457 = .ok (.if_icmp .eq 607, 3) := by decide +kernel
theorem dL_law_460 : decode cL_law 460 = .ok (.iconst 0, 1) := by decide +kernel
theorem dL_law_461 : decode cL_law 461 = .ok (.ireturn, 1) := by decide +kernel
theorem dL_law_462 : decode cL_law 462 = .ok (.aload_n 1, 1) := by decide +kernel
theorem dL_law_463 : decode cL_law 463 = .ok (.aload_n 0, 1) := by decide +kernel
theorem dL_law_464 : decode cL_law 464 = .ok (.iload_n 3, 1) := by decide +kernel
theorem dL_law_465 : decode cL_law 465 = .ok (.iconst 1, 1) := by decide +kernel
theorem dL_law_466 : decode cL_law 466 = .ok (.iadd, 1) := by decide +kernel
theorem dL_law_467 : decode cL_law 467 = .ok (.iaload, 1) := by decide +kernel
theorem dL_law_468 : decode cL_law 468 = .ok (.invokevirtual 51, 3) := by decide +kernel
theorem dL_law_471 : decode cL_law 471 = .ok (.aload_n 2, 1) := by decide +kernel
theorem dL_law_472 : decode cL_law 472 = .ok (.aload_n 0, 1) := by decide +kernel
theorem dL_law_473 : decode cL_law 473 = .ok (.iload_n 3, 1) := by decide +kernel
theorem dL_law_474 : decode cL_law 474 = .ok (.iconst 1, 1) := by decide +kernel
theorem dL_law_475 : decode cL_law 475 = .ok (.iadd, 1) := by decide +kernel
theorem dL_law_476 : decode cL_law 476 = .ok (.iaload, 1) := by decide +kernel
theorem dL_law_477 : decode cL_law 477 = .ok (.invokevirtual 54, 3) := by decide +kernel
theorem dL_law_480 : decode cL_law 480 = .ok (.if_icmp .eq 584, 3) := by decide +kernel
theorem dL_law_483 : decode cL_law 483 = .ok (.iconst 0, 1) := by decide +kernel
theorem dL_law_484 : decode cL_law 484 = .ok (.ireturn, 1) := by decide +kernel
theorem dL_law_485 : decode cL_law 485 = .ok (.aload_n 1, 1) := by decide +kernel
theorem dL_law_486 : decode cL_law 486 = .ok (.aload_n 0, 1) := by decide +kernel
theorem dL_law_487 : decode cL_law 487 = .ok (.iload_n 3, 1) := by decide +kernel
theorem dL_law_488 : decode cL_law 488 = .ok (.iconst 1, 1) := by decide +kernel
theorem dL_law_489 : decode cL_law 489 = .ok (.iadd, 1) := by decide +kernel
theorem dL_law_490 : decode cL_law 490 = .ok (.iaload, 1) := by decide +kernel
theorem dL_law_491 : decode cL_law 491 = .ok (.invokevirtual 55, 3) := by decide +kernel
theorem dL_law_494 : decode cL_law 494 = .ok (.aload_n 2, 1) := by decide +kernel
theorem dL_law_495 : decode cL_law 495 = .ok (.aload_n 0, 1) := by decide +kernel
theorem dL_law_496 : decode cL_law 496 = .ok (.iload_n 3, 1) := by decide +kernel
theorem dL_law_497 : decode cL_law 497 = .ok (.iconst 1, 1) := by decide +kernel
theorem dL_law_498 : decode cL_law 498 = .ok (.iadd, 1) := by decide +kernel
theorem dL_law_499 : decode cL_law 499 = .ok (.iaload, 1) := by decide +kernel
theorem dL_law_500 : decode cL_law 500 = .ok (.invokevirtual 58, 3) := by decide +kernel
theorem dL_law_503 : decode cL_law 503 = .ok (.if_icmp .eq 561, 3) := by decide +kernel
theorem dL_law_506 : decode cL_law 506 = .ok (.iconst 0, 1) := by decide +kernel
theorem dL_law_507 : decode cL_law 507 = .ok (.ireturn, 1) := by decide +kernel
theorem dL_law_508 : decode cL_law 508 = .ok (.aload_n 1, 1) := by decide +kernel
theorem dL_law_509 : decode cL_law 509 = .ok (.aload_n 0, 1) := by decide +kernel
theorem dL_law_510 : decode cL_law 510 = .ok (.iload_n 3, 1) := by decide +kernel
theorem dL_law_511 : decode cL_law 511 = .ok (.iconst 1, 1) := by decide +kernel
theorem dL_law_512 : decode cL_law 512 = .ok (.iadd, 1) := by decide +kernel
theorem dL_law_513 : decode cL_law 513 = .ok (.iaload, 1) := by decide +kernel
theorem dL_law_514 : decode cL_law 514 = .ok (.aload_n 0, 1) := by decide +kernel
theorem dL_law_515 : decode cL_law 515 = .ok (.iload_n 3, 1) := by decide +kernel
theorem dL_law_516 : decode cL_law 516 = .ok (.iconst 2, 1) := by decide +kernel
theorem dL_law_517 : decode cL_law 517 = .ok (.iadd, 1) := by decide +kernel
theorem dL_law_518 : decode cL_law 518 = .ok (.iaload, 1) := by decide +kernel
theorem dL_law_519 : decode cL_law 519 = .ok (.invokevirtual 59, 3) := by decide +kernel
theorem dL_law_522 : decode cL_law 522 = .ok (.aload_n 2, 1) := by decide +kernel
theorem dL_law_523 : decode cL_law 523 = .ok (.aload_n 0, 1) := by decide +kernel
theorem dL_law_524 : decode cL_law 524 = .ok (.iload_n 3, 1) := by decide +kernel
theorem dL_law_525 : decode cL_law 525 = .ok (.iconst 1, 1) := by decide +kernel
theorem dL_law_526 : decode cL_law 526 = .ok (.iadd, 1) := by decide +kernel
theorem dL_law_527 : decode cL_law 527 = .ok (.iaload, 1) := by decide +kernel
theorem dL_law_528 : decode cL_law 528 = .ok (.aload_n 0, 1) := by decide +kernel
theorem dL_law_529 : decode cL_law 529 = .ok (.iload_n 3, 1) := by decide +kernel
theorem dL_law_530 : decode cL_law 530 = .ok (.iconst 2, 1) := by decide +kernel
theorem dL_law_531 : decode cL_law 531 = .ok (.iadd, 1) := by decide +kernel
theorem dL_law_532 : decode cL_law 532 = .ok (.iaload, 1) := by decide +kernel
theorem dL_law_533 : decode cL_law 533 = .ok (.invokevirtual 63, 3) := by decide +kernel
theorem dL_law_536 : decode cL_law 536 = .ok (.if_icmp .eq 528, 3) := by decide +kernel
theorem dL_law_539 : decode cL_law 539 = .ok (.iconst 0, 1) := by decide +kernel
theorem dL_law_540 : decode cL_law 540 = .ok (.ireturn, 1) := by decide +kernel
theorem dL_law_541 : decode cL_law 541 = .ok (.aload_n 1, 1) := by decide +kernel
theorem dL_law_542 : decode cL_law 542 = .ok (.aload_n 0, 1) := by decide +kernel
theorem dL_law_543 : decode cL_law 543 = .ok (.iload_n 3, 1) := by decide +kernel
theorem dL_law_544 : decode cL_law 544 = .ok (.iconst 1, 1) := by decide +kernel
theorem dL_law_545 : decode cL_law 545 = .ok (.iadd, 1) := by decide +kernel
theorem dL_law_546 : decode cL_law 546 = .ok (.iaload, 1) := by decide +kernel
theorem dL_law_547 : decode cL_law 547 = .ok (.invokevirtual 64, 3) := by decide +kernel
theorem dL_law_550 : decode cL_law 550 = .ok (.aload_n 2, 1) := by decide +kernel
theorem dL_law_551 : decode cL_law 551 = .ok (.aload_n 0, 1) := by decide +kernel
theorem dL_law_552 : decode cL_law 552 = .ok (.iload_n 3, 1) := by decide +kernel
theorem dL_law_553 : decode cL_law 553 = .ok (.iconst 1, 1) := by decide +kernel
theorem dL_law_554 : decode cL_law 554 = .ok (.iadd, 1) := by decide +kernel
theorem dL_law_555 : decode cL_law 555 = .ok (.iaload, 1) := by decide +kernel
theorem dL_law_556 : decode cL_law 556 = .ok (.invokevirtual 67, 3) := by decide +kernel
theorem dL_law_559 : decode cL_law 559 = .ok (.if_icmp .eq 505, 3) := by decide +kernel
theorem dL_law_562 : decode cL_law 562 = .ok (.iconst 0, 1) := by decide +kernel
theorem dL_law_563 : decode cL_law 563 = .ok (.ireturn, 1) := by decide +kernel
theorem dL_law_564 : decode cL_law 564 = .ok (.aload_n 1, 1) := by decide +kernel
theorem dL_law_565 : decode cL_law 565 = .ok (.aload_n 0, 1) := by decide +kernel
theorem dL_law_566 : decode cL_law 566 = .ok (.iload_n 3, 1) := by decide +kernel
theorem dL_law_567 : decode cL_law 567 = .ok (.iconst 1, 1) := by decide +kernel
theorem dL_law_568 : decode cL_law 568 = .ok (.iadd, 1) := by decide +kernel
theorem dL_law_569 : decode cL_law 569 = .ok (.iaload, 1) := by decide +kernel
theorem dL_law_570 : decode cL_law 570 = .ok (.aload_n 0, 1) := by decide +kernel
theorem dL_law_571 : decode cL_law 571 = .ok (.iload_n 3, 1) := by decide +kernel
theorem dL_law_572 : decode cL_law 572 = .ok (.iconst 2, 1) := by decide +kernel
theorem dL_law_573 : decode cL_law 573 = .ok (.iadd, 1) := by decide +kernel
theorem dL_law_574 : decode cL_law 574 = .ok (.iaload, 1) := by decide +kernel
theorem dL_law_575 : decode cL_law 575 = .ok (.invokevirtual 68, 3) := by decide +kernel
theorem dL_law_578 : decode cL_law 578 = .ok (.aload_n 2, 1) := by decide +kernel
theorem dL_law_579 : decode cL_law 579 = .ok (.aload_n 0, 1) := by decide +kernel
theorem dL_law_580 : decode cL_law 580 = .ok (.iload_n 3, 1) := by decide +kernel
theorem dL_law_581 : decode cL_law 581 = .ok (.iconst 1, 1) := by decide +kernel
theorem dL_law_582 : decode cL_law 582 = .ok (.iadd, 1) := by decide +kernel
theorem dL_law_583 : decode cL_law 583 = .ok (.iaload, 1) := by decide +kernel
theorem dL_law_584 : decode cL_law 584 = .ok (.aload_n 0, 1) := by decide +kernel
theorem dL_law_585 : decode cL_law 585 = .ok (.iload_n 3, 1) := by decide +kernel
theorem dL_law_586 : decode cL_law 586 = .ok (.iconst 2, 1) := by decide +kernel
theorem dL_law_587 : decode cL_law 587 = .ok (.iadd, 1) := by decide +kernel
theorem dL_law_588 : decode cL_law 588 = .ok (.iaload, 1) := by decide +kernel
theorem dL_law_589 : decode cL_law 589 = .ok (.invokevirtual 71, 3) := by decide +kernel
theorem dL_law_592 : decode cL_law 592 = .ok (.if_icmp .eq 472, 3) := by decide +kernel
theorem dL_law_595 : decode cL_law 595 = .ok (.iconst 0, 1) := by decide +kernel
theorem dL_law_596 : decode cL_law 596 = .ok (.ireturn, 1) := by decide +kernel
theorem dL_law_597 : decode cL_law 597 = .ok (.aload_n 1, 1) := by decide +kernel
theorem dL_law_598 : decode cL_law 598 = .ok (.aload_n 0, 1) := by decide +kernel
theorem dL_law_599 : decode cL_law 599 = .ok (.iload_n 3, 1) := by decide +kernel
theorem dL_law_600 : decode cL_law 600 = .ok (.iconst 1, 1) := by decide +kernel
theorem dL_law_601 : decode cL_law 601 = .ok (.iadd, 1) := by decide +kernel
theorem dL_law_602 : decode cL_law 602 = .ok (.iaload, 1) := by decide +kernel
theorem dL_law_603 : decode cL_law 603 = .ok (.aload_n 0, 1) := by decide +kernel
theorem dL_law_604 : decode cL_law 604 = .ok (.iload_n 3, 1) := by decide +kernel
theorem dL_law_605 : decode cL_law 605 = .ok (.iconst 2, 1) := by decide +kernel
theorem dL_law_606 : decode cL_law 606 = .ok (.iadd, 1) := by decide +kernel
theorem dL_law_607 : decode cL_law 607 = .ok (.iaload, 1) := by decide +kernel
theorem dL_law_608 : decode cL_law 608 = .ok (.invokevirtual 72, 3) := by decide +kernel
theorem dL_law_611 : decode cL_law 611 = .ok (.aload_n 2, 1) := by decide +kernel
theorem dL_law_612 : decode cL_law 612 = .ok (.aload_n 0, 1) := by decide +kernel
theorem dL_law_613 : decode cL_law 613 = .ok (.iload_n 3, 1) := by decide +kernel
theorem dL_law_614 : decode cL_law 614 = .ok (.iconst 1, 1) := by decide +kernel
theorem dL_law_615 : decode cL_law 615 = .ok (.iadd, 1) := by decide +kernel
theorem dL_law_616 : decode cL_law 616 = .ok (.iaload, 1) := by decide +kernel
theorem dL_law_617 : decode cL_law 617 = .ok (.aload_n 0, 1) := by decide +kernel
theorem dL_law_618 : decode cL_law 618 = .ok (.iload_n 3, 1) := by decide +kernel
theorem dL_law_619 : decode cL_law 619 = .ok (.iconst 2, 1) := by decide +kernel
theorem dL_law_620 : decode cL_law 620 = .ok (.iadd, 1) := by decide +kernel
theorem dL_law_621 : decode cL_law 621 = .ok (.iaload, 1) := by decide +kernel
theorem dL_law_622 : decode cL_law 622 = .ok (.invokevirtual 75, 3) := by decide +kernel
theorem dL_law_625 : decode cL_law 625 = .ok (.if_icmp .eq 439, 3) := by decide +kernel
theorem dL_law_628 : decode cL_law 628 = .ok (.iconst 0, 1) := by decide +kernel
theorem dL_law_629 : decode cL_law 629 = .ok (.ireturn, 1) := by decide +kernel
theorem dL_law_630 : decode cL_law 630 = .ok (.aload_n 1, 1) := by decide +kernel
theorem dL_law_631 : decode cL_law 631 = .ok (.aload_n 0, 1) := by decide +kernel
theorem dL_law_632 : decode cL_law 632 = .ok (.iload_n 3, 1) := by decide +kernel
theorem dL_law_633 : decode cL_law 633 = .ok (.iconst 1, 1) := by decide +kernel
theorem dL_law_634 : decode cL_law 634 = .ok (.iadd, 1) := by decide +kernel
theorem dL_law_635 : decode cL_law 635 = .ok (.iaload, 1) := by decide +kernel
theorem dL_law_636 : decode cL_law 636 = .ok (.invokevirtual 76, 3) := by decide +kernel
theorem dL_law_639 : decode cL_law 639 = .ok (.aload_n 2, 1) := by decide +kernel
theorem dL_law_640 : decode cL_law 640 = .ok (.aload_n 0, 1) := by decide +kernel
theorem dL_law_641 : decode cL_law 641 = .ok (.iload_n 3, 1) := by decide +kernel
theorem dL_law_642 : decode cL_law 642 = .ok (.iconst 1, 1) := by decide +kernel
theorem dL_law_643 : decode cL_law 643 = .ok (.iadd, 1) := by decide +kernel
theorem dL_law_644 : decode cL_law 644 = .ok (.iaload, 1) := by decide +kernel
theorem dL_law_645 : decode cL_law 645 = .ok (.invokevirtual 79, 3) := by decide +kernel
theorem dL_law_648 : decode cL_law 648 = .ok (.if_icmp .eq 416, 3) := by decide +kernel
theorem dL_law_651 : decode cL_law 651 = .ok (.iconst 0, 1) := by decide +kernel
theorem dL_law_652 : decode cL_law 652 = .ok (.ireturn, 1) := by decide +kernel
theorem dL_law_653 : decode cL_law 653 = .ok (.aload_n 1, 1) := by decide +kernel
theorem dL_law_654 : decode cL_law 654 = .ok (.aload_n 0, 1) := by decide +kernel
theorem dL_law_655 : decode cL_law 655 = .ok (.iload_n 3, 1) := by decide +kernel
theorem dL_law_656 : decode cL_law 656 = .ok (.iconst 1, 1) := by decide +kernel
theorem dL_law_657 : decode cL_law 657 = .ok (.iadd, 1) := by decide +kernel
theorem dL_law_658 : decode cL_law 658 = .ok (.iaload, 1) := by decide +kernel
theorem dL_law_659 : decode cL_law 659 = .ok (.aload_n 0, 1) := by decide +kernel
theorem dL_law_660 : decode cL_law 660 = .ok (.iload_n 3, 1) := by decide +kernel
theorem dL_law_661 : decode cL_law 661 = .ok (.iconst 2, 1) := by decide +kernel
theorem dL_law_662 : decode cL_law 662 = .ok (.iadd, 1) := by decide +kernel
theorem dL_law_663 : decode cL_law 663 = .ok (.iaload, 1) := by decide +kernel
theorem dL_law_664 : decode cL_law 664 = .ok (.invokevirtual 80, 3) := by decide +kernel
theorem dL_law_667 : decode cL_law 667 = .ok (.aload_n 2, 1) := by decide +kernel
theorem dL_law_668 : decode cL_law 668 = .ok (.aload_n 0, 1) := by decide +kernel
theorem dL_law_669 : decode cL_law 669 = .ok (.iload_n 3, 1) := by decide +kernel
theorem dL_law_670 : decode cL_law 670 = .ok (.iconst 1, 1) := by decide +kernel
theorem dL_law_671 : decode cL_law 671 = .ok (.iadd, 1) := by decide +kernel
theorem dL_law_672 : decode cL_law 672 = .ok (.iaload, 1) := by decide +kernel
theorem dL_law_673 : decode cL_law 673 = .ok (.aload_n 0, 1) := by decide +kernel
theorem dL_law_674 : decode cL_law 674 = .ok (.iload_n 3, 1) := by decide +kernel
theorem dL_law_675 : decode cL_law 675 = .ok (.iconst 2, 1) := by decide +kernel
theorem dL_law_676 : decode cL_law 676 = .ok (.iadd, 1) := by decide +kernel
theorem dL_law_677 : decode cL_law 677 = .ok (.iaload, 1) := by decide +kernel
theorem dL_law_678 : decode cL_law 678 = .ok (.invokevirtual 83, 3) := by decide +kernel
theorem dL_law_681 : decode cL_law 681 = .ok (.if_icmp .eq 383, 3) := by decide +kernel
theorem dL_law_684 : decode cL_law 684 = .ok (.iconst 0, 1) := by decide +kernel
theorem dL_law_685 : decode cL_law 685 = .ok (.ireturn, 1) := by decide +kernel
theorem dL_law_686 : decode cL_law 686 = .ok (.aload_n 1, 1) := by decide +kernel
theorem dL_law_687 : decode cL_law 687 = .ok (.aload_n 0, 1) := by decide +kernel
theorem dL_law_688 : decode cL_law 688 = .ok (.iload_n 3, 1) := by decide +kernel
theorem dL_law_689 : decode cL_law 689 = .ok (.iconst 1, 1) := by decide +kernel
theorem dL_law_690 : decode cL_law 690 = .ok (.iadd, 1) := by decide +kernel
theorem dL_law_691 : decode cL_law 691 = .ok (.iaload, 1) := by decide +kernel
theorem dL_law_692 : decode cL_law 692 = .ok (.invokevirtual 84, 3) := by decide +kernel
theorem dL_law_695 : decode cL_law 695 = .ok (.aload_n 2, 1) := by decide +kernel
theorem dL_law_696 : decode cL_law 696 = .ok (.aload_n 0, 1) := by decide +kernel
theorem dL_law_697 : decode cL_law 697 = .ok (.iload_n 3, 1) := by decide +kernel
theorem dL_law_698 : decode cL_law 698 = .ok (.iconst 1, 1) := by decide +kernel
theorem dL_law_699 : decode cL_law 699 = .ok (.iadd, 1) := by decide +kernel
theorem dL_law_700 : decode cL_law 700 = .ok (.iaload, 1) := by decide +kernel
theorem dL_law_701 : decode cL_law 701 = .ok (.invokevirtual 87, 3) := by decide +kernel
theorem dL_law_704 : decode cL_law 704 = .ok (.if_icmp .eq 360, 3) := by decide +kernel
theorem dL_law_707 : decode cL_law 707 = .ok (.iconst 0, 1) := by decide +kernel
theorem dL_law_708 : decode cL_law 708 = .ok (.ireturn, 1) := by decide +kernel
theorem dL_law_709 : decode cL_law 709 = .ok (.aload_n 1, 1) := by decide +kernel
theorem dL_law_710 : decode cL_law 710 = .ok (.aload_n 0, 1) := by decide +kernel
theorem dL_law_711 : decode cL_law 711 = .ok (.iload_n 3, 1) := by decide +kernel
theorem dL_law_712 : decode cL_law 712 = .ok (.iconst 1, 1) := by decide +kernel
theorem dL_law_713 : decode cL_law 713 = .ok (.iadd, 1) := by decide +kernel
theorem dL_law_714 : decode cL_law 714 = .ok (.iaload, 1) := by decide +kernel
theorem dL_law_715 : decode cL_law 715 = .ok (.invokevirtual 88, 3) := by decide +kernel
theorem dL_law_718 : decode cL_law 718 = .ok (.aload_n 2, 1) := by decide +kernel
theorem dL_law_719 : decode cL_law 719 = .ok (.aload_n 0, 1) := by decide +kernel
theorem dL_law_720 : decode cL_law 720 = .ok (.iload_n 3, 1) := by decide +kernel
theorem dL_law_721 : decode cL_law 721 = .ok (.iconst 1, 1) := by decide +kernel
theorem dL_law_722 : decode cL_law 722 = .ok (.iadd, 1) := by decide +kernel
theorem dL_law_723 : decode cL_law 723 = .ok (.iaload, 1) := by decide +kernel
theorem dL_law_724 : decode cL_law 724 = .ok (.invokevirtual 91, 3) := by decide +kernel
theorem dL_law_727 : decode cL_law 727 = .ok (.if_icmp .eq 337, 3) := by decide +kernel
theorem dL_law_730 : decode cL_law 730 = .ok (.iconst 0, 1) := by decide +kernel
theorem dL_law_731 : decode cL_law 731 = .ok (.ireturn, 1) := by decide +kernel
theorem dL_law_732 : decode cL_law 732 = .ok (.aload_n 1, 1) := by decide +kernel
theorem dL_law_733 : decode cL_law 733 = .ok (.aload_n 0, 1) := by decide +kernel
theorem dL_law_734 : decode cL_law 734 = .ok (.iload_n 3, 1) := by decide +kernel
theorem dL_law_735 : decode cL_law 735 = .ok (.iconst 1, 1) := by decide +kernel
theorem dL_law_736 : decode cL_law 736 = .ok (.iadd, 1) := by decide +kernel
theorem dL_law_737 : decode cL_law 737 = .ok (.iaload, 1) := by decide +kernel
theorem dL_law_738 : decode cL_law 738 = .ok (.aload_n 0, 1) := by decide +kernel
theorem dL_law_739 : decode cL_law 739 = .ok (.iload_n 3, 1) := by decide +kernel
theorem dL_law_740 : decode cL_law 740 = .ok (.iconst 2, 1) := by decide +kernel
theorem dL_law_741 : decode cL_law 741 = .ok (.iadd, 1) := by decide +kernel
theorem dL_law_742 : decode cL_law 742 = .ok (.iaload, 1) := by decide +kernel
theorem dL_law_743 : decode cL_law 743 = .ok (.invokevirtual 92, 3) := by decide +kernel
theorem dL_law_746 : decode cL_law 746 = .ok (.aload_n 2, 1) := by decide +kernel
theorem dL_law_747 : decode cL_law 747 = .ok (.aload_n 0, 1) := by decide +kernel
theorem dL_law_748 : decode cL_law 748 = .ok (.iload_n 3, 1) := by decide +kernel
theorem dL_law_749 : decode cL_law 749 = .ok (.iconst 1, 1) := by decide +kernel
theorem dL_law_750 : decode cL_law 750 = .ok (.iadd, 1) := by decide +kernel
theorem dL_law_751 : decode cL_law 751 = .ok (.iaload, 1) := by decide +kernel
theorem dL_law_752 : decode cL_law 752 = .ok (.aload_n 0, 1) := by decide +kernel
theorem dL_law_753 : decode cL_law 753 = .ok (.iload_n 3, 1) := by decide +kernel
theorem dL_law_754 : decode cL_law 754 = .ok (.iconst 2, 1) := by decide +kernel
theorem dL_law_755 : decode cL_law 755 = .ok (.iadd, 1) := by decide +kernel
theorem dL_law_756 : decode cL_law 756 = .ok (.iaload, 1) := by decide +kernel
theorem dL_law_757 : decode cL_law 757 = .ok (.invokevirtual 95, 3) := by decide +kernel
theorem dL_law_760 : decode cL_law 760 = .ok (.if_icmp .eq 304, 3) := by decide +kernel
theorem dL_law_763 : decode cL_law 763 = .ok (.iconst 0, 1) := by decide +kernel
theorem dL_law_764 : decode cL_law 764 = .ok (.ireturn, 1) := by decide +kernel
theorem dL_law_765 : decode cL_law 765 = .ok (.aload_n 1, 1) := by decide +kernel
theorem dL_law_766 : decode cL_law 766 = .ok (.aload_n 0, 1) := by decide +kernel
theorem dL_law_767 : decode cL_law 767 = .ok (.iload_n 3, 1) := by decide +kernel
theorem dL_law_768 : decode cL_law 768 = .ok (.iconst 1, 1) := by decide +kernel
theorem dL_law_769 : decode cL_law 769 = .ok (.iadd, 1) := by decide +kernel
theorem dL_law_770 : decode cL_law 770 = .ok (.iaload, 1) := by decide +kernel
theorem dL_law_771 : decode cL_law 771 = .ok (.aload_n 0, 1) := by decide +kernel
theorem dL_law_772 : decode cL_law 772 = .ok (.iload_n 3, 1) := by decide +kernel
theorem dL_law_773 : decode cL_law 773 = .ok (.iconst 2, 1) := by decide +kernel
theorem dL_law_774 : decode cL_law 774 = .ok (.iadd, 1) := by decide +kernel
