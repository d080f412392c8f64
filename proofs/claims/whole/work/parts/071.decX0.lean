theorem dX0_init_0 : decode cX0_init 0 = .ok (.aload_n 0, 1) := by decide +kernel
theorem dX0_init_1 : decode cX0_init 1 = .ok (.invokespecial 3, 3) := by decide +kernel
theorem dX0_init_4 : decode cX0_init 4 = .ok (.aload_n 0, 1) := by decide +kernel
theorem dX0_init_5 : decode cX0_init 5 = .ok (.bipush 60, 2) := by decide +kernel
theorem dX0_init_7 : decode cX0_init 7 = .ok (.newarray .int, 2) := by decide +kernel
theorem dX0_init_9 : decode cX0_init 9 = .ok (.putfield 9, 3) := by decide +kernel
theorem dX0_init_12 : decode cX0_init 12 = .ok (.aload_n 0, 1) := by decide +kernel
theorem dX0_init_13 : decode cX0_init 13 = .ok (.bipush 60, 2) := by decide +kernel
theorem dX0_init_15 : decode cX0_init 15 = .ok (.newarray .int, 2) := by decide +kernel
theorem dX0_init_17 : decode cX0_init 17 = .ok (.putfield 15, 3) := by decide +kernel
theorem dX0_init_20 : decode cX0_init 20 = .ok (.return_, 1) := by decide +kernel
theorem dX0_put_0 : decode cX0_put 0 = .ok (.aload_n 0, 1) := by decide +kernel
theorem dX0_put_1 : decode cX0_put 1 = .ok (.iload_n 1, 1) := by decide +kernel
theorem dX0_put_2 : decode cX0_put 2 = .ok (.invokevirtual 18, 3) := by decide +kernel
theorem dX0_put_5 : decode cX0_put 5 = .ok (.istore_n 3, 1) := by decide +kernel
theorem dX0_put_6 : decode cX0_put 6 = .ok (.iload_n 3, 1) := by decide +kernel
theorem dX0_put_7 : decode cX0_put 7 = .ok (.iconst (-1), 1) := by decide +kernel
theorem dX0_put_8 : decode cX0_put 8 = .ok (.if_icmp .ne 27, 3) := by decide +kernel
theorem dX0_put_11 : decode cX0_put 11 = .ok (.aload_n 0, 1) := by decide +kernel
theorem dX0_put_12 : decode cX0_put 12 = .ok (.getfield 22, 3) := by decide +kernel
theorem dX0_put_15 : decode cX0_put 15 = .ok (.bipush 60, 2) := by decide +kernel
theorem dX0_put_17 : decode cX0_put 17 = .ok (.if_icmp .ge 18, 3) := by decide +kernel
theorem dX0_put_20 : decode cX0_put 20 = .ok (.aload_n 0, 1) := by decide +kernel
theorem dX0_put_21 : decode cX0_put 21 = .ok (.getfield 22, 3) := by decide +kernel
theorem dX0_put_24 : decode cX0_put 24 = .ok (.istore_n 3, 1) := by decide +kernel
theorem dX0_put_25 : decode cX0_put 25 = .ok (.aload_n 0, 1) := by decide +kernel
theorem dX0_put_26 : decode cX0_put 26 = .ok (.dup, 1) := by decide +kernel
theorem dX0_put_27 : decode cX0_put 27 = .ok (.getfield 22, 3) := by decide +kernel
theorem dX0_put_30 : decode cX0_put 30 = .ok (.iconst 1, 1) := by decide +kernel
theorem dX0_put_31 : decode cX0_put 31 = .ok (.iadd, 1) := by decide +kernel
theorem dX0_put_32 : decode cX0_put 32 = .ok (.putfield 22, 3) := by decide +kernel
theorem dX0_put_35 : decode cX0_put 35 = .ok (.iload_n 3, 1) := by decide +kernel
theorem dX0_put_36 : decode cX0_put 36 = .ok (.iconst (-1), 1) := by decide +kernel
theorem dX0_put_37 : decode cX0_put 37 = .ok (.if_icmp .eq 17, 3) := by decide +kernel
theorem dX0_put_40 : decode cX0_put 40 = .ok (.aload_n 0, 1) := by decide +kernel
theorem dX0_put_41 : decode cX0_put 41 = .ok (.getfield 9, 3) := by decide +kernel
theorem dX0_put_44 : decode cX0_put 44 = .ok (.iload_n 3, 1) := by decide +kernel
theorem dX0_put_45 : decode cX0_put 45 = .ok (.iload_n 1, 1) := by decide +kernel
theorem dX0_put_46 : decode cX0_put 46 = .ok (.iastore, 1) := by decide +kernel
theorem dX0_put_47 : decode cX0_put 47 = .ok (.aload_n 0, 1) := by decide +kernel
theorem dX0_put_48 : decode cX0_put 48 = .ok (.getfield 15, 3) := by decide +kernel
theorem dX0_put_51 : decode cX0_put 51 = .ok (.iload_n 3, 1) := by decide +kernel
theorem dX0_put_52 : decode cX0_put 52 = .ok (.iload_n 2, 1) := by decide +kernel
theorem dX0_put_53 : decode cX0_put 53 = .ok (.iastore, 1) := by decide +kernel
theorem dX0_put_54 : decode cX0_put 54 = .ok (.return_, 1) := by decide +kernel
theorem dX0_amountOf_0 : decode cX0_amountOf 0 = .ok (.aload_n 0, 1) := by decide +kernel
theorem dX0_amountOf_1 : decode cX0_amountOf 1 = .ok (.iload_n 1, 1) := by decide +kernel
theorem dX0_amountOf_2 : decode cX0_amountOf 2 = .ok (.invokevirtual 18, 3) := by decide +kernel
theorem dX0_amountOf_5 : decode cX0_amountOf 5 = .ok (.istore_n 2, 1) := by decide +kernel
theorem dX0_amountOf_6 : decode cX0_amountOf 6 = .ok (.iload_n 2, 1) := by decide +kernel
theorem dX0_amountOf_7 : decode cX0_amountOf 7 = .ok (.iconst (-1), 1) := by decide +kernel
theorem dX0_amountOf_8 : decode cX0_amountOf 8 = .ok (.if_icmp .ne 7, 3) := by decide +kernel
theorem dX0_amountOf_11 : decode cX0_amountOf 11 = .ok (.iconst 0, 1) := by decide +kernel
theorem dX0_amountOf_12 : decode cX0_amountOf 12 = .ok (.goto 9, 3) := by decide +kernel
theorem dX0_amountOf_15 : decode cX0_amountOf 15 = .ok (.aload_n 0, 1) := by decide +kernel
theorem dX0_amountOf_16 : decode cX0_amountOf 16 = .ok (.getfield 15, 3) := by decide +kernel
theorem dX0_amountOf_19 : decode cX0_amountOf 19 = .ok (.iload_n 2, 1) := by decide +kernel
theorem dX0_amountOf_20 : decode cX0_amountOf 20 = .ok (.iaload, 1) := by decide +kernel
theorem dX0_amountOf_21 : decode cX0_amountOf 21 = .ok (.ireturn, 1) := by decide +kernel
theorem dX0_placeOf_0 : decode cX0_placeOf 0 = .ok (.iconst 0, 1) := by decide +kernel
theorem dX0_placeOf_1 : decode cX0_placeOf 1 = .ok (.istore_n 2, 1) := by decide +kernel
theorem dX0_placeOf_2 : decode cX0_placeOf 2 = .ok (.iload_n 2, 1) := by decide +kernel
theorem dX0_placeOf_3 : decode cX0_placeOf 3 = .ok (.aload_n 0, 1) := by decide +kernel
theorem dX0_placeOf_4 : decode cX0_placeOf 4 = .ok (.getfield 22, 3) := by decide +kernel
theorem dX0_placeOf_7 : decode cX0_placeOf 7 = .ok (.if_icmp .ge 21, 3) := by decide +kernel
theorem dX0_placeOf_10 : decode cX0_placeOf 10 = .ok (.aload_n 0, 1) := by decide +kernel
theorem dX0_placeOf_11 : decode cX0_placeOf 11 = .ok (.getfield 9, 3) := by decide +kernel
theorem dX0_placeOf_14 : decode cX0_placeOf 14 = .ok (.iload_n 2, 1) := by decide +kernel
theorem dX0_placeOf_15 : decode cX0_placeOf 15 = .ok (.iaload, 1) := by decide +kernel
theorem dX0_placeOf_16 : decode cX0_placeOf 16 = .ok (.iload_n 1, 1) := by decide +kernel
theorem dX0_placeOf_17 : decode cX0_placeOf 17 = .ok (.if_icmp .ne 5, 3) := by decide +kernel
theorem dX0_placeOf_20 : decode cX0_placeOf 20 = .ok (.iload_n 2, 1) := by decide +kernel
theorem dX0_placeOf_21 : decode cX0_placeOf 21 = .ok (.ireturn, 1) := by decide +kernel
theorem dX0_placeOf_22 : decode cX0_placeOf 22 = .ok (.iinc 2 1, 3) := by decide +kernel
theorem dX0_placeOf_25 : decode cX0_placeOf 25 = .ok (.goto (-23), 3) := by decide +kernel
theorem dX0_placeOf_28 : decode cX0_placeOf 28 = .ok (.iconst (-1), 1) := by decide +kernel
theorem dX0_placeOf_29 : decode cX0_placeOf 29 = .ok (.ireturn, 1) := by decide +kernel
theorem dX1_init_0 : decode cX1_init 0 = .ok (.aload_n 0, 1) := by decide +kernel
theorem dX1_init_1 : decode cX1_init 1 = .ok (.invokespecial 3, 3) := by decide +kernel
theorem dX1_init_4 : decode cX1_init 4 = .ok (.aload_n 0, 1) := by decide +kernel
theorem dX1_init_5 : decode cX1_init 5 = .ok (.bipush 30, 2) := by decide +kernel
theorem dX1_init_7 : decode cX1_init 7 = .ok (.newarray .long, 2) := by decide +kernel
theorem dX1_init_9 : decode cX1_init 9 = .ok (.putfield 9, 3) := by decide +kernel
theorem dX1_init_12 : decode cX1_init 12 = .ok (.aload_n 0, 1) := by decide +kernel
theorem dX1_init_13 : decode cX1_init 13 = .ok (.bipush 30, 2) := by decide +kernel
theorem dX1_init_15 : decode cX1_init 15 = .ok (.newarray .long, 2) := by decide +kernel
theorem dX1_init_17 : decode cX1_init 17 = .ok (.putfield 15, 3) := by decide +kernel
theorem dX1_init_20 : decode cX1_init 20 = .ok (.return_, 1) := by decide +kernel
theorem dX1_compute_0 : decode cX1_compute 0 = .ok (.iconst 0, 1) := by decide +kernel
theorem dX1_compute_1 : decode cX1_compute 1 = .ok (.istore_n 2, 1) := by decide +kernel
theorem dX1_compute_2 : decode cX1_compute 2 = .ok (.iload_n 2, 1) := by decide +kernel
theorem dX1_compute_3 : decode cX1_compute 3 = .ok (.bipush 30, 2) := by decide +kernel
theorem dX1_compute_5 : decode cX1_compute 5 = .ok (.if_icmp .ge 16, 3) := by decide +kernel
theorem dX1_compute_8 : decode cX1_compute 8 = .ok (.aload_n 0, 1) := by decide +kernel
theorem dX1_compute_9 : decode cX1_compute 9 = .ok (.getfield 9, 3) := by decide +kernel
theorem dX1_compute_12 : decode cX1_compute 12 = .ok (.iload_n 2, 1) := by decide +kernel
theorem dX1_compute_13 : decode cX1_compute 13 = .ok (.lconst 0, 1) := by decide +kernel
theorem dX1_compute_14 : decode cX1_compute 14 = .ok (.lastore, 1) := by decide +kernel
theorem dX1_compute_15 : decode cX1_compute 15 = .ok (.iinc 2 1, 3) := by decide +kernel
theorem dX1_compute_18 : decode cX1_compute 18 = .ok (.goto (-16), 3) := by decide +kernel
theorem dX1_compute_21 : decode cX1_compute 21 = .ok (.aload_n 0, 1) := by decide +kernel
theorem dX1_compute_22 : decode cX1_compute 22 = .ok (.iconst 0, 1) := by decide +kernel
theorem dX1_compute_23 : decode cX1_compute 23 = .ok (.putfield 18, 3) := by decide +kernel
theorem dX1_compute_26 : decode cX1_compute 26 = .ok (.aload_n 1, 1) := by decide +kernel
theorem dX1_compute_27 : decode cX1_compute 27 = .ok (.invokevirtual 22, 3) := by decide +kernel
theorem dX1_compute_30 : decode cX1_compute 30 = .ok (.ifCond .eq 4, 3) := by decide +kernel
theorem dX1_compute_33 : decode cX1_compute 33 = .ok (.return_, 1) := by decide +kernel
theorem dX1_compute_34 : decode cX1_compute 34 = .ok (.aload_n 1, 1) := by decide +kernel
theorem dX1_compute_35 : decode cX1_compute 35 = .ok (.getfield 28, 3) := by decide +kernel
theorem dX1_compute_38 : decode cX1_compute 38 = .ok (.tableswitch 81 1 5 #[34, 42, 50, 58, 73], 34) := by decide +kernel
theorem dX1_compute_72 : decode cX1_compute 72 = .ok (.aload_n 0, 1) := by decide +kernel
theorem dX1_compute_73 : decode cX1_compute 73 = .ok (.aload_n 1, 1) := by decide +kernel
theorem dX1_compute_74 : decode cX1_compute 74 = .ok (.invokevirtual 31, 3) := by decide +kernel
theorem dX1_compute_77 : decode cX1_compute 77 = .ok (.goto 42, 3) := by decide +kernel
theorem dX1_compute_80 : decode cX1_compute 80 = .ok (.aload_n 0, 1) := by decide +kernel
theorem dX1_compute_81 : decode cX1_compute 81 = .ok (.aload_n 1, 1) := by decide +kernel
theorem dX1_compute_82 : decode cX1_compute 82 = .ok (.invokevirtual 35, 3) := by decide +kernel
theorem dX1_compute_85 : decode cX1_compute 85 = .ok (.goto 34, 3) := by decide +kernel
theorem dX1_compute_88 : decode cX1_compute 88 = .ok (.aload_n 0, 1) := by decide +kernel
theorem dX1_compute_89 : decode cX1_compute 89 = .ok (.aload_n 1, 1) := by decide +kernel
theorem dX1_compute_90 : decode cX1_compute 90 = .ok (.invokevirtual 38, 3) := by decide +kernel
theorem dX1_compute_93 : decode cX1_compute 93 = .ok (.goto 26, 3) := by decide +kernel
theorem dX1_compute_96 : decode cX1_compute 96 = .ok (.aload_n 0, 1) := by decide +kernel
theorem dX1_compute_97 : decode cX1_compute 97 = .ok (.aload_n 1, 1) := by decide +kernel
theorem dX1_compute_98 : decode cX1_compute 98 = .ok (.getfield 41, 3) := by decide +kernel
theorem dX1_compute_101 : decode cX1_compute 101 = .ok (.iconst 1, 1) := by decide +kernel
theorem dX1_compute_102 : decode cX1_compute 102 = .ok (.iadd, 1) := by decide +kernel
theorem dX1_compute_103 : decode cX1_compute 103 = .ok (.iconst 2, 1) := by decide +kernel
theorem dX1_compute_104 : decode cX1_compute 104 = .ok (.idiv, 1) := by decide +kernel
theorem dX1_compute_105 : decode cX1_compute 105 = .ok (.putfield 18, 3) := by decide +kernel
theorem dX1_compute_108 : decode cX1_compute 108 = .ok (.goto 11, 3) := by decide +kernel
theorem dX1_compute_111 : decode cX1_compute 111 = .ok (.aload_n 0, 1) := by decide +kernel
theorem dX1_compute_112 : decode cX1_compute 112 = .ok (.aload_n 1, 1) := by decide +kernel
theorem dX1_compute_113 : decode cX1_compute 113 = .ok (.invokevirtual 44, 3) := by decide +kernel
theorem dX1_compute_116 : decode cX1_compute 116 = .ok (.goto 3, 3) := by decide +kernel
theorem dX1_compute_119 : decode cX1_compute 119 = .ok (.return_, 1) := by decide +kernel
theorem dX1_cutBoards_0 : decode cX1_cutBoards 0 = .ok (.iconst 0, 1) := by decide +kernel
theorem dX1_cutBoards_1 : decode cX1_cutBoards 1 = .ok (.istore_n 2, 1) := by decide +kernel
theorem dX1_cutBoards_2 : decode cX1_cutBoards 2 = .ok (.iload_n 2, 1) := by decide +kernel
theorem dX1_cutBoards_3 : decode cX1_cutBoards 3 = .ok (.aload_n 1, 1) := by decide +kernel
theorem dX1_cutBoards_4 : decode cX1_cutBoards 4 = .ok (.getfield 41, 3) := by decide +kernel
theorem dX1_cutBoards_7 : decode cX1_cutBoards 7 = .ok (.if_icmp .ge 18, 3) := by decide +kernel
theorem dX1_cutBoards_10 : decode cX1_cutBoards 10 = .ok (.aload_n 0, 1) := by decide +kernel
theorem dX1_cutBoards_11 : decode cX1_cutBoards 11 = .ok (.getfield 9, 3) := by decide +kernel
theorem dX1_cutBoards_14 : decode cX1_cutBoards 14 = .ok (.iload_n 2, 1) := by decide +kernel
theorem dX1_cutBoards_15 : decode cX1_cutBoards 15 = .ok (.ldc2_w 47, 3) := by decide +kernel
theorem dX1_cutBoards_18 : decode cX1_cutBoards 18 = .ok (.lastore, 1) := by decide +kernel
theorem dX1_cutBoards_19 : decode cX1_cutBoards 19 = .ok (.iinc 2 1, 3) := by decide +kernel
theorem dX1_cutBoards_22 : decode cX1_cutBoards 22 = .ok (.goto (-20), 3) := by decide +kernel
theorem dX1_cutBoards_25 : decode cX1_cutBoards 25 = .ok (.iconst 0, 1) := by decide +kernel
theorem dX1_cutBoards_26 : decode cX1_cutBoards 26 = .ok (.istore_n 2, 1) := by decide +kernel
theorem dX1_cutBoards_27 : decode cX1_cutBoards 27 = .ok (.iload_n 2, 1) := by decide +kernel
theorem dX1_cutBoards_28 : decode cX1_cutBoards 28 = .ok (.aload_n 1, 1) := by decide +kernel
theorem dX1_cutBoards_29 : decode cX1_cutBoards 29 = .ok (.getfield 41, 3) := by decide +kernel
theorem dX1_cutBoards_32 : decode cX1_cutBoards 32 = .ok (.if_icmp .ge 40, 3) := by decide +kernel
theorem dX1_cutBoards_35 : decode cX1_cutBoards 35 = .ok (.aload_n 0, 1) := by decide +kernel
theorem dX1_cutBoards_36 : decode cX1_cutBoards 36 = .ok (.aload_n 1, 1) := by decide +kernel
theorem dX1_cutBoards_37 : decode cX1_cutBoards 37 = .ok (.invokevirtual 49, 3) := by decide +kernel
theorem dX1_cutBoards_40 : decode cX1_cutBoards 40 = .ok (.istore_n 3, 1) := by decide +kernel
theorem dX1_cutBoards_41 : decode cX1_cutBoards 41 = .ok (.iload_n 3, 1) := by decide +kernel
theorem dX1_cutBoards_42 : decode cX1_cutBoards 42 = .ok (.iconst (-1), 1) := by decide +kernel
theorem dX1_cutBoards_43 : decode cX1_cutBoards 43 = .ok (.if_icmp .ne 4, 3) := by decide +kernel
theorem dX1_cutBoards_46 : decode cX1_cutBoards 46 = .ok (.return_, 1) := by decide +kernel
theorem dX1_cutBoards_47 : decode cX1_cutBoards 47 = .ok (.aload_n 0, 1) := by decide +kernel
theorem dX1_cutBoards_48 : decode cX1_cutBoards 48 = .ok (.getfield 9, 3) := by decide +kernel
theorem dX1_cutBoards_51 : decode cX1_cutBoards 51 = .ok (.iload_n 3, 1) := by decide +kernel
theorem dX1_cutBoards_52 : decode cX1_cutBoards 52 = .ok (.aload_n 0, 1) := by decide +kernel
theorem dX1_cutBoards_53 : decode cX1_cutBoards 53 = .ok (.aload_n 1, 1) := by decide +kernel
theorem dX1_cutBoards_54 : decode cX1_cutBoards 54 = .ok (.getfield 53, 3) := by decide +kernel
theorem dX1_cutBoards_57 : decode cX1_cutBoards 57 = .ok (.iload_n 3, 1) := by decide +kernel
theorem dX1_cutBoards_58 : decode cX1_cutBoards 58 = .ok (.iaload, 1) := by decide +kernel
theorem dX1_cutBoards_59 : decode cX1_cutBoards 59 = .ok (.i2l, 1) := by decide +kernel
theorem dX1_cutBoards_60 : decode cX1_cutBoards 60 = .ok (.aload_n 1, 1) := by decide +kernel
theorem dX1_cutBoards_61 : decode cX1_cutBoards 61 = .ok (.invokevirtual 57, 3) := by decide +kernel
theorem dX1_cutBoards_64 : decode cX1_cutBoards 64 = .ok (.i2l, 1) := by decide +kernel
theorem dX1_cutBoards_65 : decode cX1_cutBoards 65 = .ok (.lastore, 1) := by decide +kernel
theorem dX1_cutBoards_66 : decode cX1_cutBoards 66 = .ok (.iinc 2 1, 3) := by decide +kernel
theorem dX1_cutBoards_69 : decode cX1_cutBoards 69 = .ok (.goto (-42), 3) := by decide +kernel
theorem dX1_cutBoards_72 : decode cX1_cutBoards 72 = .ok (.return_, 1) := by decide +kernel
theorem dX1_greatestUncut_0 : decode cX1_greatestUncut 0 = .ok (.iconst (-1), 1) := by decide +kernel
theorem dX1_greatestUncut_1 : decode cX1_greatestUncut 1 = .ok (.istore_n 2, 1) := by decide +kernel
theorem dX1_greatestUncut_2 : decode cX1_greatestUncut 2 = .ok (.iconst 0, 1) := by decide +kernel
theorem dX1_greatestUncut_3 : decode cX1_greatestUncut 3 = .ok (.istore_n 3, 1) := by decide +kernel
theorem dX1_greatestUncut_4 : decode cX1_greatestUncut 4 = .ok (.iload_n 3, 1) := by decide +kernel
theorem dX1_greatestUncut_5 : decode cX1_greatestUncut 5 = .ok (.aload_n 1, 1) := by decide +kernel
theorem dX1_greatestUncut_6 : decode cX1_greatestUncut 6 = .ok (.getfield 41, 3) := by decide +kernel
theorem dX1_greatestUncut_9 : decode cX1_greatestUncut 9 = .ok (.if_icmp .ge 44, 3) := by decide +kernel
theorem dX1_greatestUncut_12 : decode cX1_greatestUncut 12 = .ok (.aload_n 0, 1) := by decide +kernel
theorem dX1_greatestUncut_13 : decode cX1_greatestUncut 13 = .ok (.getfield 9, 3) := by decide +kernel
theorem dX1_greatestUncut_16 : decode cX1_greatestUncut 16 = .ok (.iload_n 3, 1) := by decide +kernel
theorem dX1_greatestUncut_17 : decode cX1_greatestUncut 17 = .ok (.laload, 1) := by decide +kernel
theorem dX1_greatestUncut_18 : decode cX1_greatestUncut 18 = .ok (.ldc2_w 47, 3) := by decide +kernel
theorem dX1_greatestUncut_21 : decode cX1_greatestUncut 21 = .ok (.lcmp, 1) := by decide +kernel
theorem dX1_greatestUncut_22 : decode cX1_greatestUncut 22 = .ok (.ifCond .ne 25, 3) := by decide +kernel
theorem dX1_greatestUncut_25 : decode cX1_greatestUncut 25 = .ok (.iload_n 2, 1) := by decide +kernel
theorem dX1_greatestUncut_26 : decode cX1_greatestUncut 26 = .ok (.iconst (-1), 1) := by decide +kernel
theorem dX1_greatestUncut_27 : decode cX1_greatestUncut 27 = .ok (.if_icmp .eq 18, 3) := by decide +kernel
theorem dX1_greatestUncut_30 : decode cX1_greatestUncut 30 = .ok (.aload_n 1, 1) := by decide +kernel
theorem dX1_greatestUncut_31 : decode cX1_greatestUncut 31 = .ok (.getfield 53, 3) := by decide +kernel
theorem dX1_greatestUncut_34 : decode cX1_greatestUncut 34 = .ok (.iload_n 3, 1) := by decide +kernel
theorem dX1_greatestUncut_35 : decode cX1_greatestUncut 35 = .ok (.iaload, 1) := by decide +kernel
theorem dX1_greatestUncut_36 : decode cX1_greatestUncut 36 = .ok (.aload_n 1, 1) := by decide +kernel
theorem dX1_greatestUncut_37 : decode cX1_greatestUncut 37 = .ok (.getfield 53, 3) := by decide +kernel
theorem dX1_greatestUncut_40 : decode cX1_greatestUncut 40 = .ok (.iload_n 2, 1) := by decide +kernel
theorem dX1_greatestUncut_41 : decode cX1_greatestUncut 41 = .ok (.iaload, 1) := by decide +kernel
theorem dX1_greatestUncut_42 : decode cX1_greatestUncut 42 = .ok (.if_icmp .le 5, 3) := by decide +kernel
theorem dX1_greatestUncut_45 : decode cX1_greatestUncut 45 = .ok (.iload_n 3, 1) := by decide +kernel
theorem dX1_greatestUncut_46 : decode cX1_greatestUncut 46 = .ok (.istore_n 2, 1) := by decide +kernel
theorem dX1_greatestUncut_47 : decode cX1_greatestUncut 47 = .ok (.iinc 3 1, 3) := by decide +kernel
theorem dX1_greatestUncut_50 : decode cX1_greatestUncut 50 = .ok (.goto (-46), 3) := by decide +kernel
theorem dX1_greatestUncut_53 : decode cX1_greatestUncut 53 = .ok (.iload_n 2, 1) := by decide +kernel
theorem dX1_greatestUncut_54 : decode cX1_greatestUncut 54 = .ok (.ireturn, 1) := by decide +kernel
theorem dX1_boardFor_0 : decode cX1_boardFor 0 = .ok (.iconst 0, 1) := by decide +kernel
theorem dX1_boardFor_1 : decode cX1_boardFor 1 = .ok (.istore 4, 2) := by decide +kernel
theorem dX1_boardFor_3 : decode cX1_boardFor 3 = .ok (.iload 4, 2) := by decide +kernel
theorem dX1_boardFor_5 : decode cX1_boardFor 5 = .ok (.aload_n 0, 1) := by decide +kernel
theorem dX1_boardFor_6 : decode cX1_boardFor 6 = .ok (.getfield 18, 3) := by decide +kernel
theorem dX1_boardFor_9 : decode cX1_boardFor 9 = .ok (.if_icmp .ge 56, 3) := by decide +kernel
theorem dX1_boardFor_12 : decode cX1_boardFor 12 = .ok (.iload 4, 2) := by decide +kernel
theorem dX1_boardFor_14 : decode cX1_boardFor 14 = .ok (.bipush 30, 2) := by decide +kernel
theorem dX1_boardFor_16 : decode cX1_boardFor 16 = .ok (.if_icmp .ge 49, 3) := by decide +kernel
theorem dX1_boardFor_19 : decode cX1_boardFor 19 = .ok (.aload_n 0, 1) := by decide +kernel
theorem dX1_boardFor_20 : decode cX1_boardFor 20 = .ok (.getfield 15, 3) := by decide +kernel
theorem dX1_boardFor_23 : decode cX1_boardFor 23 = .ok (.iload 4, 2) := by decide +kernel
theorem dX1_boardFor_25 : decode cX1_boardFor 25 = .ok (.laload, 1) := by decide +kernel
theorem dX1_boardFor_26 : decode cX1_boardFor 26 = .ok (.aload_n 3, 1) := by decide +kernel
theorem dX1_boardFor_27 : decode cX1_boardFor 27 = .ok (.getfield 61, 3) := by decide +kernel
theorem dX1_boardFor_30 : decode cX1_boardFor 30 = .ok (.i2l, 1) := by decide +kernel
theorem dX1_boardFor_31 : decode cX1_boardFor 31 = .ok (.ladd, 1) := by decide +kernel
theorem dX1_boardFor_32 : decode cX1_boardFor 32 = .ok (.lload_n 1, 1) := by decide +kernel
theorem dX1_boardFor_33 : decode cX1_boardFor 33 = .ok (.ladd, 1) := by decide +kernel
theorem dX1_boardFor_34 : decode cX1_boardFor 34 = .ok (.lstore 5, 2) := by decide +kernel
theorem dX1_boardFor_36 : decode cX1_boardFor 36 = .ok (.lload 5, 2) := by decide +kernel
theorem dX1_boardFor_38 : decode cX1_boardFor 38 = .ok (.aload_n 3, 1) := by decide +kernel
theorem dX1_boardFor_39 : decode cX1_boardFor 39 = .ok (.getfield 64, 3) := by decide +kernel
theorem dX1_boardFor_42 : decode cX1_boardFor 42 = .ok (.i2l, 1) := by decide +kernel
theorem dX1_boardFor_43 : decode cX1_boardFor 43 = .ok (.lcmp, 1) := by decide +kernel
theorem dX1_boardFor_44 : decode cX1_boardFor 44 = .ok (.ifCond .gt 15, 3) := by decide +kernel
theorem dX1_boardFor_47 : decode cX1_boardFor 47 = .ok (.aload_n 0, 1) := by decide +kernel
theorem dX1_boardFor_48 : decode cX1_boardFor 48 = .ok (.getfield 15, 3) := by decide +kernel
theorem dX1_boardFor_51 : decode cX1_boardFor 51 = .ok (.iload 4, 2) := by decide +kernel
theorem dX1_boardFor_53 : decode cX1_boardFor 53 = .ok (.lload 5, 2) := by decide +kernel
theorem dX1_boardFor_55 : decode cX1_boardFor 55 = .ok (.lastore, 1) := by decide +kernel
theorem dX1_boardFor_56 : decode cX1_boardFor 56 = .ok (.iload 4, 2) := by decide +kernel
theorem dX1_boardFor_58 : decode cX1_boardFor 58 = .ok (.ireturn, 1) := by decide +kernel
theorem dX1_boardFor_59 : decode cX1_boardFor 59 = .ok (.iinc 4 1, 3) := by decide +kernel
theorem dX1_boardFor_62 : decode cX1_boardFor 62 = .ok (.goto (-59), 3) := by decide +kernel
theorem dX1_boardFor_65 : decode cX1_boardFor 65 = .ok (.aload_n 0, 1) := by decide +kernel
theorem dX1_boardFor_66 : decode cX1_boardFor 66 = .ok (.getfield 18, 3) := by decide +kernel
theorem dX1_boardFor_69 : decode cX1_boardFor 69 = .ok (.bipush 30, 2) := by decide +kernel
theorem dX1_boardFor_71 : decode cX1_boardFor 71 = .ok (.if_icmp .lt 5, 3) := by decide +kernel
theorem dX1_boardFor_74 : decode cX1_boardFor 74 = .ok (.iconst (-1), 1) := by decide +kernel
theorem dX1_boardFor_75 : decode cX1_boardFor 75 = .ok (.ireturn, 1) := by decide +kernel
theorem dX1_boardFor_76 : decode cX1_boardFor 76 = .ok (.aload_n 0, 1) := by decide +kernel
theorem dX1_boardFor_77 : decode cX1_boardFor 77 = .ok (.getfield 15, 3) := by decide +kernel
theorem dX1_boardFor_80 : decode cX1_boardFor 80 = .ok (.aload_n 0, 1) := by decide +kernel
theorem dX1_boardFor_81 : decode cX1_boardFor 81 = .ok (.getfield 18, 3) := by decide +kernel
theorem dX1_boardFor_84 : decode cX1_boardFor 84 = .ok (.lload_n 1, 1) := by decide +kernel
theorem dX1_boardFor_85 : decode cX1_boardFor 85 = .ok (.lastore, 1) := by decide +kernel
theorem dX1_boardFor_86 : decode cX1_boardFor 86 = .ok (.aload_n 0, 1) := by decide +kernel
theorem dX1_boardFor_87 : decode cX1_boardFor 87 = .ok (.dup, 1) := by decide +kernel
theorem dX1_boardFor_88 : decode cX1_boardFor 88 = .ok (.getfield 18, 3) := by decide +kernel
theorem dX1_boardFor_91 : decode cX1_boardFor 91 = .ok (.iconst 1, 1) := by decide +kernel
theorem dX1_boardFor_92 : decode cX1_boardFor 92 = .ok (.iadd, 1) := by decide +kernel
theorem dX1_boardFor_93 : decode cX1_boardFor 93 = .ok (.putfield 18, 3) := by decide +kernel
theorem dX1_boardFor_96 : decode cX1_boardFor 96 = .ok (.aload_n 0, 1) := by decide +kernel
theorem dX1_boardFor_97 : decode cX1_boardFor 97 = .ok (.getfield 18, 3) := by decide +kernel
theorem dX1_boardFor_100 : decode cX1_boardFor 100 = .ok (.iconst 1, 1) := by decide +kernel
theorem dX1_boardFor_101 : decode cX1_boardFor 101 = .ok (.isub, 1) := by decide +kernel
theorem dX1_boardFor_102 : decode cX1_boardFor 102 = .ok (.ireturn, 1) := by decide +kernel
theorem dX1_mixParts_0 : decode cX1_mixParts 0 = .ok (.aload_n 0, 1) := by decide +kernel
theorem dX1_mixParts_1 : decode cX1_mixParts 1 = .ok (.aload_n 1, 1) := by decide +kernel
theorem dX1_mixParts_2 : decode cX1_mixParts 2 = .ok (.invokevirtual 67, 3) := by decide +kernel
theorem dX1_mixParts_5 : decode cX1_mixParts 5 = .ok (.lstore_n 2, 1) := by decide +kernel
theorem dX1_mixParts_6 : decode cX1_mixParts 6 = .ok (.iconst 0, 1) := by decide +kernel
theorem dX1_mixParts_7 : decode cX1_mixParts 7 = .ok (.istore 4, 2) := by decide +kernel
theorem dX1_mixParts_9 : decode cX1_mixParts 9 = .ok (.iload 4, 2) := by decide +kernel
theorem dX1_mixParts_11 : decode cX1_mixParts 11 = .ok (.i2l, 1) := by decide +kernel
theorem dX1_mixParts_12 : decode cX1_mixParts 12 = .ok (.lload_n 2, 1) := by decide +kernel
theorem dX1_mixParts_13 : decode cX1_mixParts 13 = .ok (.lcmp, 1) := by decide +kernel
theorem dX1_mixParts_14 : decode cX1_mixParts 14 = .ok (.ifCond .ge 49, 3) := by decide +kernel
theorem dX1_mixParts_17 : decode cX1_mixParts 17 = .ok (.iload 4, 2) := by decide +kernel
theorem dX1_mixParts_19 : decode cX1_mixParts 19 = .ok (.aload_n 1, 1) := by decide +kernel
theorem dX1_mixParts_20 : decode cX1_mixParts 20 = .ok (.getfield 41, 3) := by decide +kernel
theorem dX1_mixParts_23 : decode cX1_mixParts 23 = .ok (.if_icmp .ge 40, 3) := by decide +kernel
theorem dX1_mixParts_26 : decode cX1_mixParts 26 = .ok (.aload_n 0, 1) := by decide +kernel
theorem dX1_mixParts_27 : decode cX1_mixParts 27 = .ok (.aload_n 1, 1) := by decide +kernel
theorem dX1_mixParts_28 : decode cX1_mixParts 28 = .ok (.getfield 41, 3) := by decide +kernel
theorem dX1_mixParts_31 : decode cX1_mixParts 31 = .ok (.invokevirtual 71, 3) := by decide +kernel
theorem dX1_mixParts_34 : decode cX1_mixParts 34 = .ok (.istore 5, 2) := by decide +kernel
theorem dX1_mixParts_36 : decode cX1_mixParts 36 = .ok (.aload_n 0, 1) := by decide +kernel
theorem dX1_mixParts_37 : decode cX1_mixParts 37 = .ok (.getfield 9, 3) := by decide +kernel
theorem dX1_mixParts_40 : decode cX1_mixParts 40 = .ok (.iload 5, 2) := by decide +kernel
theorem dX1_mixParts_42 : decode cX1_mixParts 42 = .ok (.dup2, 1) := by decide +kernel
theorem dX1_mixParts_43 : decode cX1_mixParts 43 = .ok (.laload, 1) := by decide +kernel
theorem dX1_mixParts_44 : decode cX1_mixParts 44 = .ok (.lconst 1, 1) := by decide +kernel
theorem dX1_mixParts_45 : decode cX1_mixParts 45 = .ok (.ladd, 1) := by decide +kernel
theorem dX1_mixParts_46 : decode cX1_mixParts 46 = .ok (.lastore, 1) := by decide +kernel
theorem dX1_mixParts_47 : decode cX1_mixParts 47 = .ok (.aload_n 0, 1) := by decide +kernel
theorem dX1_mixParts_48 : decode cX1_mixParts 48 = .ok (.getfield 15, 3) := by decide +kernel
theorem dX1_mixParts_51 : decode cX1_mixParts 51 = .ok (.iload 5, 2) := by decide +kernel
theorem dX1_mixParts_53 : decode cX1_mixParts 53 = .ok (.ldc2_w 47, 3) := by decide +kernel
theorem dX1_mixParts_56 : decode cX1_mixParts 56 = .ok (.lastore, 1) := by decide +kernel
theorem dX1_mixParts_57 : decode cX1_mixParts 57 = .ok (.iinc 4 1, 3) := by decide +kernel
theorem dX1_mixParts_60 : decode cX1_mixParts 60 = .ok (.goto (-51), 3) := by decide +kernel
theorem dX1_mixParts_63 : decode cX1_mixParts 63 = .ok (.iconst 0, 1) := by decide +kernel
theorem dX1_mixParts_64 : decode cX1_mixParts 64 = .ok (.istore 4, 2) := by decide +kernel
theorem dX1_mixParts_66 : decode cX1_mixParts 66 = .ok (.iload 4, 2) := by decide +kernel
theorem dX1_mixParts_68 : decode cX1_mixParts 68 = .ok (.aload_n 1, 1) := by decide +kernel
theorem dX1_mixParts_69 : decode cX1_mixParts 69 = .ok (.getfield 41, 3) := by decide +kernel
theorem dX1_mixParts_72 : decode cX1_mixParts 72 = .ok (.if_icmp .ge 31, 3) := by decide +kernel
theorem dX1_mixParts_75 : decode cX1_mixParts 75 = .ok (.aload_n 0, 1) := by decide +kernel
theorem dX1_mixParts_76 : decode cX1_mixParts 76 = .ok (.getfield 9, 3) := by decide +kernel
theorem dX1_mixParts_79 : decode cX1_mixParts 79 = .ok (.iload 4, 2) := by decide +kernel
theorem dX1_mixParts_81 : decode cX1_mixParts 81 = .ok (.laload, 1) := by decide +kernel
theorem dX1_mixParts_82 : decode cX1_mixParts 82 = .ok (.lconst 0, 1) := by decide +kernel
theorem dX1_mixParts_83 : decode cX1_mixParts 83 = .ok (.lcmp, 1) := by decide +kernel
theorem dX1_mixParts_84 : decode cX1_mixParts 84 = .ok (.ifCond .le 13, 3) := by decide +kernel
theorem dX1_mixParts_87 : decode cX1_mixParts 87 = .ok (.aload_n 0, 1) := by decide +kernel
theorem dX1_mixParts_88 : decode cX1_mixParts 88 = .ok (.dup, 1) := by decide +kernel
theorem dX1_mixParts_89 : decode cX1_mixParts 89 = .ok (.getfield 18, 3) := by decide +kernel
theorem dX1_mixParts_92 : decode cX1_mixParts 92 = .ok (.iconst 1, 1) := by decide +kernel
theorem dX1_mixParts_93 : decode cX1_mixParts 93 = .ok (.iadd, 1) := by decide +kernel
theorem dX1_mixParts_94 : decode cX1_mixParts 94 = .ok (.putfield 18, 3) := by decide +kernel
theorem dX1_mixParts_97 : decode cX1_mixParts 97 = .ok (.iinc 4 1, 3) := by decide +kernel
theorem dX1_mixParts_100 : decode cX1_mixParts 100 = .ok (.goto (-34), 3) := by decide +kernel
theorem dX1_mixParts_103 : decode cX1_mixParts 103 = .ok (.return_, 1) := by decide +kernel
theorem dX1_greatestRest_0 : decode cX1_greatestRest 0 = .ok (.iconst 0, 1) := by decide +kernel
theorem dX1_greatestRest_1 : decode cX1_greatestRest 1 = .ok (.istore_n 2, 1) := by decide +kernel
theorem dX1_greatestRest_2 : decode cX1_greatestRest 2 = .ok (.iconst 1, 1) := by decide +kernel
theorem dX1_greatestRest_3 : decode cX1_greatestRest 3 = .ok (.istore_n 3, 1) := by decide +kernel
theorem dX1_greatestRest_4 : decode cX1_greatestRest 4 = .ok (.iload_n 3, 1) := by decide +kernel
theorem dX1_greatestRest_5 : decode cX1_greatestRest 5 = .ok (.iload_n 1, 1) := by decide +kernel
theorem dX1_greatestRest_6 : decode cX1_greatestRest 6 = .ok (.if_icmp .ge 27, 3) := by decide +kernel
theorem dX1_greatestRest_9 : decode cX1_greatestRest 9 = .ok (.aload_n 0, 1) := by decide +kernel
theorem dX1_greatestRest_10 : decode cX1_greatestRest 10 = .ok (.getfield 15, 3) := by decide +kernel
theorem dX1_greatestRest_13 : decode cX1_greatestRest 13 = .ok (.iload_n 3, 1) := by decide +kernel
theorem dX1_greatestRest_14 : decode cX1_greatestRest 14 = .ok (.laload, 1) := by decide +kernel
theorem dX1_greatestRest_15 : decode cX1_greatestRest 15 = .ok (.aload_n 0, 1) := by decide +kernel
theorem dX1_greatestRest_16 : decode cX1_greatestRest 16 = .ok (.getfield 15, 3) := by decide +kernel
theorem dX1_greatestRest_19 : decode cX1_greatestRest 19 = .ok (.iload_n 2, 1) := by decide +kernel
theorem dX1_greatestRest_20 : decode cX1_greatestRest 20 = .ok (.laload, 1) := by decide +kernel
theorem dX1_greatestRest_21 : decode cX1_greatestRest 21 = .ok (.lcmp, 1) := by decide +kernel
theorem dX1_greatestRest_22 : decode cX1_greatestRest 22 = .ok (.ifCond .le 5, 3) := by decide +kernel
theorem dX1_greatestRest_25 : decode cX1_greatestRest 25 = .ok (.iload_n 3, 1) := by decide +kernel
theorem dX1_greatestRest_26 : decode cX1_greatestRest 26 = .ok (.istore_n 2, 1) := by decide +kernel
theorem dX1_greatestRest_27 : decode cX1_greatestRest 27 = .ok (.iinc 3 1, 3) := by decide +kernel
theorem dX1_greatestRest_30 : decode cX1_greatestRest 30 = .ok (.goto (-26), 3) := by decide +kernel
theorem dX1_greatestRest_33 : decode cX1_greatestRest 33 = .ok (.iload_n 2, 1) := by decide +kernel
theorem dX1_greatestRest_34 : decode cX1_greatestRest 34 = .ok (.ireturn, 1) := by decide +kernel
theorem dX1_loadPoints_0 : decode cX1_loadPoints 0 = .ok (.aload_n 0, 1) := by decide +kernel
theorem dX1_loadPoints_1 : decode cX1_loadPoints 1 = .ok (.aload_n 1, 1) := by decide +kernel
theorem dX1_loadPoints_2 : decode cX1_loadPoints 2 = .ok (.invokevirtual 67, 3) := by decide +kernel
theorem dX1_loadPoints_5 : decode cX1_loadPoints 5 = .ok (.lstore_n 2, 1) := by decide +kernel
theorem dX1_loadPoints_6 : decode cX1_loadPoints 6 = .ok (.iconst 0, 1) := by decide +kernel
theorem dX1_loadPoints_7 : decode cX1_loadPoints 7 = .ok (.istore 4, 2) := by decide +kernel
theorem dX1_loadPoints_9 : decode cX1_loadPoints 9 = .ok (.iload 4, 2) := by decide +kernel
theorem dX1_loadPoints_11 : decode cX1_loadPoints 11 = .ok (.i2l, 1) := by decide +kernel
theorem dX1_loadPoints_12 : decode cX1_loadPoints 12 = .ok (.lload_n 2, 1) := by decide +kernel
theorem dX1_loadPoints_13 : decode cX1_loadPoints 13 = .ok (.lcmp, 1) := by decide +kernel
theorem dX1_loadPoints_14 : decode cX1_loadPoints 14 = .ok (.ifCond .ge 29, 3) := by decide +kernel
theorem dX1_loadPoints_17 : decode cX1_loadPoints 17 = .ok (.iload 4, 2) := by decide +kernel
theorem dX1_loadPoints_19 : decode cX1_loadPoints 19 = .ok (.aload_n 1, 1) := by decide +kernel
theorem dX1_loadPoints_20 : decode cX1_loadPoints 20 = .ok (.getfield 41, 3) := by decide +kernel
theorem dX1_loadPoints_23 : decode cX1_loadPoints 23 = .ok (.if_icmp .ge 20, 3) := by decide +kernel
theorem dX1_loadPoints_26 : decode cX1_loadPoints 26 = .ok (.aload_n 0, 1) := by decide +kernel
theorem dX1_loadPoints_27 : decode cX1_loadPoints 27 = .ok (.getfield 9, 3) := by decide +kernel
theorem dX1_loadPoints_30 : decode cX1_loadPoints 30 = .ok (.iload 4, 2) := by decide +kernel
theorem dX1_loadPoints_32 : decode cX1_loadPoints 32 = .ok (.dup2, 1) := by decide +kernel
theorem dX1_loadPoints_33 : decode cX1_loadPoints 33 = .ok (.laload, 1) := by decide +kernel
theorem dX1_loadPoints_34 : decode cX1_loadPoints 34 = .ok (.lconst 1, 1) := by decide +kernel
theorem dX1_loadPoints_35 : decode cX1_loadPoints 35 = .ok (.ladd, 1) := by decide +kernel
theorem dX1_loadPoints_36 : decode cX1_loadPoints 36 = .ok (.lastore, 1) := by decide +kernel
theorem dX1_loadPoints_37 : decode cX1_loadPoints 37 = .ok (.iinc 4 1, 3) := by decide +kernel
theorem dX1_loadPoints_40 : decode cX1_loadPoints 40 = .ok (.goto (-31), 3) := by decide +kernel
theorem dX1_loadPoints_43 : decode cX1_loadPoints 43 = .ok (.aload_n 1, 1) := by decide +kernel
theorem dX1_loadPoints_44 : decode cX1_loadPoints 44 = .ok (.getfield 61, 3) := by decide +kernel
theorem dX1_loadPoints_47 : decode cX1_loadPoints 47 = .ok (.ifCond .lt 28, 3) := by decide +kernel
theorem dX1_loadPoints_50 : decode cX1_loadPoints 50 = .ok (.aload_n 1, 1) := by decide +kernel
theorem dX1_loadPoints_51 : decode cX1_loadPoints 51 = .ok (.getfield 61, 3) := by decide +kernel
theorem dX1_loadPoints_54 : decode cX1_loadPoints 54 = .ok (.aload_n 1, 1) := by decide +kernel
theorem dX1_loadPoints_55 : decode cX1_loadPoints 55 = .ok (.getfield 41, 3) := by decide +kernel
theorem dX1_loadPoints_58 : decode cX1_loadPoints 58 = .ok (.if_icmp .ge 17, 3) := by decide +kernel
theorem dX1_loadPoints_61 : decode cX1_loadPoints 61 = .ok (.aload_n 0, 1) := by decide +kernel
theorem dX1_loadPoints_62 : decode cX1_loadPoints 62 = .ok (.aload_n 0, 1) := by decide +kernel
theorem dX1_loadPoints_63 : decode cX1_loadPoints 63 = .ok (.getfield 9, 3) := by decide +kernel
theorem dX1_loadPoints_66 : decode cX1_loadPoints 66 = .ok (.aload_n 1, 1) := by decide +kernel
theorem dX1_loadPoints_67 : decode cX1_loadPoints 67 = .ok (.getfield 61, 3) := by decide +kernel
theorem dX1_loadPoints_70 : decode cX1_loadPoints 70 = .ok (.laload, 1) := by decide +kernel
theorem dX1_loadPoints_71 : decode cX1_loadPoints 71 = .ok (.l2i, 1) := by decide +kernel
theorem dX1_loadPoints_72 : decode cX1_loadPoints 72 = .ok (.putfield 18, 3) := by decide +kernel
theorem dX1_loadPoints_75 : decode cX1_loadPoints 75 = .ok (.return_, 1) := by decide +kernel
theorem dX1_share_0 : decode cX1_share 0 = .ok (.aload_n 1, 1) := by decide +kernel
theorem dX1_share_1 : decode cX1_share 1 = .ok (.invokevirtual 75, 3) := by decide +kernel
theorem dX1_share_4 : decode cX1_share 4 = .ok (.lstore_n 2, 1) := by decide +kernel
theorem dX1_share_5 : decode cX1_share 5 = .ok (.lload_n 2, 1) := by decide +kernel
theorem dX1_share_6 : decode cX1_share 6 = .ok (.lconst 0, 1) := by decide +kernel
theorem dX1_share_7 : decode cX1_share 7 = .ok (.lcmp, 1) := by decide +kernel
theorem dX1_share_8 : decode cX1_share 8 = .ok (.ifCond .gt 5, 3) := by decide +kernel
theorem dX1_share_11 : decode cX1_share 11 = .ok (.lconst 0, 1) := by decide +kernel
theorem dX1_share_12 : decode cX1_share 12 = .ok (.lreturn, 1) := by decide +kernel
theorem dX1_share_13 : decode cX1_share 13 = .ok (.aload_n 1, 1) := by decide +kernel
theorem dX1_share_14 : decode cX1_share 14 = .ok (.getfield 64, 3) := by decide +kernel
theorem dX1_share_17 : decode cX1_share 17 = .ok (.i2l, 1) := by decide +kernel
theorem dX1_share_18 : decode cX1_share 18 = .ok (.lstore 4, 2) := by decide +kernel
theorem dX1_share_20 : decode cX1_share 20 = .ok (.iconst 0, 1) := by decide +kernel
theorem dX1_share_21 : decode cX1_share 21 = .ok (.istore 6, 2) := by decide +kernel
theorem dX1_share_23 : decode cX1_share 23 = .ok (.iload 6, 2) := by decide +kernel
theorem dX1_share_25 : decode cX1_share 25 = .ok (.aload_n 1, 1) := by decide +kernel
theorem dX1_share_26 : decode cX1_share 26 = .ok (.getfield 41, 3) := by decide +kernel
theorem dX1_share_29 : decode cX1_share 29 = .ok (.if_icmp .ge 59, 3) := by decide +kernel
theorem dX1_share_32 : decode cX1_share 32 = .ok (.aload_n 1, 1) := by decide +kernel
theorem dX1_share_33 : decode cX1_share 33 = .ok (.getfield 64, 3) := by decide +kernel
theorem dX1_share_36 : decode cX1_share 36 = .ok (.i2l, 1) := by decide +kernel
theorem dX1_share_37 : decode cX1_share 37 = .ok (.aload_n 1, 1) := by decide +kernel
theorem dX1_share_38 : decode cX1_share 38 = .ok (.getfield 53, 3) := by decide +kernel
theorem dX1_share_41 : decode cX1_share 41 = .ok (.iload 6, 2) := by decide +kernel
theorem dX1_share_43 : decode cX1_share 43 = .ok (.iaload, 1) := by decide +kernel
theorem dX1_share_44 : decode cX1_share 44 = .ok (.i2l, 1) := by decide +kernel
theorem dX1_share_45 : decode cX1_share 45 = .ok (.lmul, 1) := by decide +kernel
theorem dX1_share_46 : decode cX1_share 46 = .ok (.lstore 7, 2) := by decide +kernel
theorem dX1_share_48 : decode cX1_share 48 = .ok (.aload_n 0, 1) := by decide +kernel
theorem dX1_share_49 : decode cX1_share 49 = .ok (.getfield 9, 3) := by decide +kernel
theorem dX1_share_52 : decode cX1_share 52 = .ok (.iload 6, 2) := by decide +kernel
theorem dX1_share_54 : decode cX1_share 54 = .ok (.lload 7, 2) := by decide +kernel
theorem dX1_share_56 : decode cX1_share 56 = .ok (.lload_n 2, 1) := by decide +kernel
theorem dX1_share_57 : decode cX1_share 57 = .ok (.ldiv, 1) := by decide +kernel
theorem dX1_share_58 : decode cX1_share 58 = .ok (.lastore, 1) := by decide +kernel
theorem dX1_share_59 : decode cX1_share 59 = .ok (.aload_n 0, 1) := by decide +kernel
theorem dX1_share_60 : decode cX1_share 60 = .ok (.getfield 15, 3) := by decide +kernel
theorem dX1_share_63 : decode cX1_share 63 = .ok (.iload 6, 2) := by decide +kernel
theorem dX1_share_65 : decode cX1_share 65 = .ok (.lload 7, 2) := by decide +kernel
theorem dX1_share_67 : decode cX1_share 67 = .ok (.lload_n 2, 1) := by decide +kernel
theorem dX1_share_68 : decode cX1_share 68 = .ok (.lrem, 1) := by decide +kernel
theorem dX1_share_69 : decode cX1_share 69 = .ok (.lastore, 1) := by decide +kernel
theorem dX1_share_70 : decode cX1_share 70 = .ok (.lload 4, 2) := by decide +kernel
theorem dX1_share_72 : decode cX1_share 72 = .ok (.aload_n 0, 1) := by decide +kernel
theorem dX1_share_73 : decode cX1_share 73 = .ok (.getfield 9, 3) := by decide +kernel
theorem dX1_share_76 : decode cX1_share 76 = .ok (.iload 6, 2) := by decide +kernel
theorem dX1_share_78 : decode cX1_share 78 = .ok (.laload, 1) := by decide +kernel
theorem dX1_share_79 : decode cX1_share 79 = .ok (.lsub, 1) := by decide +kernel
theorem dX1_share_80 : decode cX1_share 80 = .ok (.lstore 4, 2) := by decide +kernel
theorem dX1_share_82 : decode cX1_share 82 = .ok (.iinc 6 1, 3) := by decide +kernel
theorem dX1_share_85 : decode cX1_share 85 = .ok (.goto (-62), 3) := by decide +kernel
theorem dX1_share_88 : decode cX1_share 88 = .ok (.lload 4, 2) := by decide +kernel
theorem dX1_share_90 : decode cX1_share 90 = .ok (.lreturn, 1) := by decide +kernel
theorem dX1_countUp_0 : decode cX1_countUp 0 = .ok (.ldc2_w 79, 3) := by decide +kernel
theorem dX1_countUp_3 : decode cX1_countUp 3 = .ok (.aload_n 1, 1) := by decide +kernel
theorem dX1_countUp_4 : decode cX1_countUp 4 = .ok (.getfield 64, 3) := by decide +kernel
theorem dX1_countUp_7 : decode cX1_countUp 7 = .ok (.i2l, 1) := by decide +kernel
theorem dX1_countUp_8 : decode cX1_countUp 8 = .ok (.ladd, 1) := by decide +kernel
theorem dX1_countUp_9 : decode cX1_countUp 9 = .ok (.lstore_n 2, 1) := by decide +kernel
theorem dX1_countUp_10 : decode cX1_countUp 10 = .ok (.lconst 0, 1) := by decide +kernel
theorem dX1_countUp_11 : decode cX1_countUp 11 = .ok (.lstore 4, 2) := by decide +kernel
theorem dX1_countUp_13 : decode cX1_countUp 13 = .ok (.iconst 0, 1) := by decide +kernel
theorem dX1_countUp_14 : decode cX1_countUp 14 = .ok (.istore 6, 2) := by decide +kernel
theorem dX1_countUp_16 : decode cX1_countUp 16 = .ok (.iload 6, 2) := by decide +kernel
theorem dX1_countUp_18 : decode cX1_countUp 18 = .ok (.aload_n 1, 1) := by decide +kernel
theorem dX1_countUp_19 : decode cX1_countUp 19 = .ok (.getfield 41, 3) := by decide +kernel
theorem dX1_countUp_22 : decode cX1_countUp 22 = .ok (.if_icmp .ge 48, 3) := by decide +kernel
theorem dX1_countUp_25 : decode cX1_countUp 25 = .ok (.aload_n 0, 1) := by decide +kernel
theorem dX1_countUp_26 : decode cX1_countUp 26 = .ok (.getfield 9, 3) := by decide +kernel
theorem dX1_countUp_29 : decode cX1_countUp 29 = .ok (.iload 6, 2) := by decide +kernel
theorem dX1_countUp_31 : decode cX1_countUp 31 = .ok (.aload_n 1, 1) := by decide +kernel
theorem dX1_countUp_32 : decode cX1_countUp 32 = .ok (.getfield 53, 3) := by decide +kernel
theorem dX1_countUp_35 : decode cX1_countUp 35 = .ok (.iload 6, 2) := by decide +kernel
theorem dX1_countUp_37 : decode cX1_countUp 37 = .ok (.iaload, 1) := by decide +kernel
theorem dX1_countUp_38 : decode cX1_countUp 38 = .ok (.i2l, 1) := by decide +kernel
theorem dX1_countUp_39 : decode cX1_countUp 39 = .ok (.lload_n 2, 1) := by decide +kernel
theorem dX1_countUp_40 : decode cX1_countUp 40 = .ok (.lmul, 1) := by decide +kernel
theorem dX1_countUp_41 : decode cX1_countUp 41 = .ok (.ldc2_w 79, 3) := by decide +kernel
theorem dX1_countUp_44 : decode cX1_countUp 44 = .ok (.ladd, 1) := by decide +kernel
theorem dX1_countUp_45 : decode cX1_countUp 45 = .ok (.lconst 1, 1) := by decide +kernel
theorem dX1_countUp_46 : decode cX1_countUp 46 = .ok (.lsub, 1) := by decide +kernel
theorem dX1_countUp_47 : decode cX1_countUp 47 = .ok (.ldc2_w 79, 3) := by decide +kernel
theorem dX1_countUp_50 : decode cX1_countUp 50 = .ok (.ldiv, 1) := by decide +kernel
theorem dX1_countUp_51 : decode cX1_countUp 51 = .ok (.lastore, 1) := by decide +kernel
theorem dX1_countUp_52 : decode cX1_countUp 52 = .ok (.lload 4, 2) := by decide +kernel
theorem dX1_countUp_54 : decode cX1_countUp 54 = .ok (.aload_n 0, 1) := by decide +kernel
theorem dX1_countUp_55 : decode cX1_countUp 55 = .ok (.getfield 9, 3) := by decide +kernel
theorem dX1_countUp_58 : decode cX1_countUp 58 = .ok (.iload 6, 2) := by decide +kernel
theorem dX1_countUp_60 : decode cX1_countUp 60 = .ok (.laload, 1) := by decide +kernel
theorem dX1_countUp_61 : decode cX1_countUp 61 = .ok (.ladd, 1) := by decide +kernel
theorem dX1_countUp_62 : decode cX1_countUp 62 = .ok (.lstore 4, 2) := by decide +kernel
theorem dX1_countUp_64 : decode cX1_countUp 64 = .ok (.iinc 6 1, 3) := by decide +kernel
theorem dX1_countUp_67 : decode cX1_countUp 67 = .ok (.goto (-51), 3) := by decide +kernel
theorem dX1_countUp_70 : decode cX1_countUp 70 = .ok (.aload_n 0, 1) := by decide +kernel
theorem dX1_countUp_71 : decode cX1_countUp 71 = .ok (.lload 4, 2) := by decide +kernel
theorem dX1_countUp_73 : decode cX1_countUp 73 = .ok (.l2i, 1) := by decide +kernel
theorem dX1_countUp_74 : decode cX1_countUp 74 = .ok (.putfield 18, 3) := by decide +kernel
theorem dX1_countUp_77 : decode cX1_countUp 77 = .ok (.return_, 1) := by decide +kernel
theorem dX2_init_0 : decode cX2_init 0 = .ok (.aload_n 0, 1) := by decide +kernel
theorem dX2_init_1 : decode cX2_init 1 = .ok (.invokespecial 1, 3) := by decide +kernel
theorem dX2_init_4 : decode cX2_init 4 = .ok (.aload_n 0, 1) := by decide +kernel
theorem dX2_init_5 : decode cX2_init 5 = .ok (.iload_n 1, 1) := by decide +kernel
theorem dX2_init_6 : decode cX2_init 6 = .ok (.putfield 7, 3) := by decide +kernel
theorem dX2_init_9 : decode cX2_init 9 = .ok (.aload_n 0, 1) := by decide +kernel
theorem dX2_init_10 : decode cX2_init 10 = .ok (.iload_n 2, 1) := by decide +kernel
theorem dX2_init_11 : decode cX2_init 11 = .ok (.putfield 13, 3) := by decide +kernel
theorem dX2_init_14 : decode cX2_init 14 = .ok (.aload_n 0, 1) := by decide +kernel
theorem dX2_init_15 : decode cX2_init 15 = .ok (.iload_n 3, 1) := by decide +kernel
theorem dX2_init_16 : decode cX2_init 16 = .ok (.putfield 16, 3) := by decide +kernel
theorem dX2_init_19 : decode cX2_init 19 = .ok (.return_, 1) := by decide +kernel
theorem dX3_init_0 : decode cX3_init 0 = .ok (.aload_n 0, 1) := by decide +kernel
theorem dX3_init_1 : decode cX3_init 1 = .ok (.invokespecial 3, 3) := by decide +kernel
theorem dX3_init_4 : decode cX3_init 4 = .ok (.aload_n 0, 1) := by decide +kernel
theorem dX3_init_5 : decode cX3_init 5 = .ok (.sipush 400, 3) := by decide +kernel
theorem dX3_init_8 : decode cX3_init 8 = .ok (.newarray .long, 2) := by decide +kernel
theorem dX3_init_10 : decode cX3_init 10 = .ok (.putfield 11, 3) := by decide +kernel
theorem dX3_init_13 : decode cX3_init 13 = .ok (.return_, 1) := by decide +kernel
theorem dX3_put_0 : decode cX3_put 0 = .ok (.aload_n 0, 1) := by decide +kernel
theorem dX3_put_1 : decode cX3_put 1 = .ok (.getfield 15, 3) := by decide +kernel
theorem dX3_put_4 : decode cX3_put 4 = .ok (.sipush 400, 3) := by decide +kernel
theorem dX3_put_7 : decode cX3_put 7 = .ok (.if_icmp .lt 4, 3) := by decide +kernel
theorem dX3_put_10 : decode cX3_put 10 = .ok (.return_, 1) := by decide +kernel
theorem dX3_put_11 : decode cX3_put 11 = .ok (.iload_n 1, 1) := by decide +kernel
theorem dX3_put_12 : decode cX3_put 12 = .ok (.i2l, 1) := by decide +kernel
theorem dX3_put_13 : decode cX3_put 13 = .ok (.iconst 3, 1) := by decide +kernel
theorem dX3_put_14 : decode cX3_put 14 = .ok (.lshl, 1) := by decide +kernel
theorem dX3_put_15 : decode cX3_put 15 = .ok (.iload_n 2, 1) := by decide +kernel
theorem dX3_put_16 : decode cX3_put 16 = .ok (.i2l, 1) := by decide +kernel
theorem dX3_put_17 : decode cX3_put 17 = .ok (.lor, 1) := by decide +kernel
theorem dX3_put_18 : decode cX3_put 18 = .ok (.bipush 8, 2) := by decide +kernel
theorem dX3_put_20 : decode cX3_put 20 = .ok (.lshl, 1) := by decide +kernel
theorem dX3_put_21 : decode cX3_put 21 = .ok (.iload_n 3, 1) := by decide +kernel
theorem dX3_put_22 : decode cX3_put 22 = .ok (.i2l, 1) := by decide +kernel
theorem dX3_put_23 : decode cX3_put 23 = .ok (.lor, 1) := by decide +kernel
theorem dX3_put_24 : decode cX3_put 24 = .ok (.lstore 4, 2) := by decide +kernel
theorem dX3_put_26 : decode cX3_put 26 = .ok (.aload_n 0, 1) := by decide +kernel
theorem dX3_put_27 : decode cX3_put 27 = .ok (.getfield 15, 3) := by decide +kernel
theorem dX3_put_30 : decode cX3_put 30 = .ok (.istore 6, 2) := by decide +kernel
theorem dX3_put_32 : decode cX3_put 32 = .ok (.iload 6, 2) := by decide +kernel
theorem dX3_put_34 : decode cX3_put 34 = .ok (.ifCond .le 40, 3) := by decide +kernel
theorem dX3_put_37 : decode cX3_put 37 = .ok (.aload_n 0, 1) := by decide +kernel
theorem dX3_put_38 : decode cX3_put 38 = .ok (.getfield 11, 3) := by decide +kernel
theorem dX3_put_41 : decode cX3_put 41 = .ok (.iload 6, 2) := by decide +kernel
theorem dX3_put_43 : decode cX3_put 43 = .ok (.iconst 1, 1) := by decide +kernel
theorem dX3_put_44 : decode cX3_put 44 = .ok (.isub, 1) := by decide +kernel
theorem dX3_put_45 : decode cX3_put 45 = .ok (.laload, 1) := by decide +kernel
theorem dX3_put_46 : decode cX3_put 46 = .ok (.lload 4, 2) := by decide +kernel
theorem dX3_put_48 : decode cX3_put 48 = .ok (.lcmp, 1) := by decide +kernel
theorem dX3_put_49 : decode cX3_put 49 = .ok (.ifCond .le 25, 3) := by decide +kernel
theorem dX3_put_52 : decode cX3_put 52 = .ok (.aload_n 0, 1) := by decide +kernel
theorem dX3_put_53 : decode cX3_put 53 = .ok (.getfield 11, 3) := by decide +kernel
theorem dX3_put_56 : decode cX3_put 56 = .ok (.iload 6, 2) := by decide +kernel
theorem dX3_put_58 : decode cX3_put 58 = .ok (.aload_n 0, 1) := by decide +kernel
theorem dX3_put_59 : decode cX3_put 59 = .ok (.getfield 11, 3) := by decide +kernel
theorem dX3_put_62 : decode cX3_put 62 = .ok (.iload 6, 2) := by decide +kernel
theorem dX3_put_64 : decode cX3_put 64 = .ok (.iconst 1, 1) := by decide +kernel
theorem dX3_put_65 : decode cX3_put 65 = .ok (.isub, 1) := by decide +kernel
theorem dX3_put_66 : decode cX3_put 66 = .ok (.laload, 1) := by decide +kernel
theorem dX3_put_67 : decode cX3_put 67 = .ok (.lastore, 1) := by decide +kernel
theorem dX3_put_68 : decode cX3_put 68 = .ok (.iinc 6 (-1), 3) := by decide +kernel
theorem dX3_put_71 : decode cX3_put 71 = .ok (.goto (-39), 3) := by decide +kernel
theorem dX3_put_74 : decode cX3_put 74 = .ok (.aload_n 0, 1) := by decide +kernel
theorem dX3_put_75 : decode cX3_put 75 = .ok (.getfield 11, 3) := by decide +kernel
theorem dX3_put_78 : decode cX3_put 78 = .ok (.iload 6, 2) := by decide +kernel
theorem dX3_put_80 : decode cX3_put 80 = .ok (.lload 4, 2) := by decide +kernel
theorem dX3_put_82 : decode cX3_put 82 = .ok (.lastore, 1) := by decide +kernel
theorem dX3_put_83 : decode cX3_put 83 = .ok (.aload_n 0, 1) := by decide +kernel
theorem dX3_put_84 : decode cX3_put 84 = .ok (.dup, 1) := by decide +kernel
theorem dX3_put_85 : decode cX3_put 85 = .ok (.getfield 15, 3) := by decide +kernel
theorem dX3_put_88 : decode cX3_put 88 = .ok (.iconst 1, 1) := by decide +kernel
theorem dX3_put_89 : decode cX3_put 89 = .ok (.iadd, 1) := by decide +kernel
theorem dX3_put_90 : decode cX3_put 90 = .ok (.putfield 15, 3) := by decide +kernel
theorem dX3_put_93 : decode cX3_put 93 = .ok (.return_, 1) := by decide +kernel
theorem dX3_minuteOf_0 : decode cX3_minuteOf 0 = .ok (.iload_n 1, 1) := by decide +kernel
theorem dX3_minuteOf_1 : decode cX3_minuteOf 1 = .ok (.ifCond .lt 11, 3) := by decide +kernel
theorem dX3_minuteOf_4 : decode cX3_minuteOf 4 = .ok (.iload_n 1, 1) := by decide +kernel
theorem dX3_minuteOf_5 : decode cX3_minuteOf 5 = .ok (.aload_n 0, 1) := by decide +kernel
theorem dX3_minuteOf_6 : decode cX3_minuteOf 6 = .ok (.getfield 15, 3) := by decide +kernel
theorem dX3_minuteOf_9 : decode cX3_minuteOf 9 = .ok (.if_icmp .lt 7, 3) := by decide +kernel
theorem dX3_minuteOf_12 : decode cX3_minuteOf 12 = .ok (.iconst (-1), 1) := by decide +kernel
theorem dX3_minuteOf_13 : decode cX3_minuteOf 13 = .ok (.goto 13, 3) := by decide +kernel
theorem dX3_minuteOf_16 : decode cX3_minuteOf 16 = .ok (.aload_n 0, 1) := by decide +kernel
theorem dX3_minuteOf_17 : decode cX3_minuteOf 17 = .ok (.getfield 11, 3) := by decide +kernel
theorem dX3_minuteOf_20 : decode cX3_minuteOf 20 = .ok (.iload_n 1, 1) := by decide +kernel
theorem dX3_minuteOf_21 : decode cX3_minuteOf 21 = .ok (.laload, 1) := by decide +kernel
theorem dX3_minuteOf_22 : decode cX3_minuteOf 22 = .ok (.bipush 11, 2) := by decide +kernel
theorem dX3_minuteOf_24 : decode cX3_minuteOf 24 = .ok (.lshr, 1) := by decide +kernel
theorem dX3_minuteOf_25 : decode cX3_minuteOf 25 = .ok (.l2i, 1) := by decide +kernel
theorem dX3_minuteOf_26 : decode cX3_minuteOf 26 = .ok (.ireturn, 1) := by decide +kernel
theorem dX3_kindOf_0 : decode cX3_kindOf 0 = .ok (.iload_n 1, 1) := by decide +kernel
theorem dX3_kindOf_1 : decode cX3_kindOf 1 = .ok (.ifCond .lt 11, 3) := by decide +kernel
theorem dX3_kindOf_4 : decode cX3_kindOf 4 = .ok (.iload_n 1, 1) := by decide +kernel
theorem dX3_kindOf_5 : decode cX3_kindOf 5 = .ok (.aload_n 0, 1) := by decide +kernel
theorem dX3_kindOf_6 : decode cX3_kindOf 6 = .ok (.getfield 15, 3) := by decide +kernel
theorem dX3_kindOf_9 : decode cX3_kindOf 9 = .ok (.if_icmp .lt 7, 3) := by decide +kernel
theorem dX3_kindOf_12 : decode cX3_kindOf 12 = .ok (.iconst (-1), 1) := by decide +kernel
theorem dX3_kindOf_13 : decode cX3_kindOf 13 = .ok (.goto 16, 3) := by decide +kernel
theorem dX3_kindOf_16 : decode cX3_kindOf 16 = .ok (.aload_n 0, 1) := by decide +kernel
theorem dX3_kindOf_17 : decode cX3_kindOf 17 = .ok (.getfield 11, 3) := by decide +kernel
theorem dX3_kindOf_20 : decode cX3_kindOf 20 = .ok (.iload_n 1, 1) := by decide +kernel
theorem dX3_kindOf_21 : decode cX3_kindOf 21 = .ok (.laload, 1) := by decide +kernel
theorem dX3_kindOf_22 : decode cX3_kindOf 22 = .ok (.bipush 8, 2) := by decide +kernel
theorem dX3_kindOf_24 : decode cX3_kindOf 24 = .ok (.lshr, 1) := by decide +kernel
theorem dX3_kindOf_25 : decode cX3_kindOf 25 = .ok (.l2i, 1) := by decide +kernel
theorem dX3_kindOf_26 : decode cX3_kindOf 26 = .ok (.bipush 7, 2) := by decide +kernel
theorem dX3_kindOf_28 : decode cX3_kindOf 28 = .ok (.iand, 1) := by decide +kernel
theorem dX3_kindOf_29 : decode cX3_kindOf 29 = .ok (.ireturn, 1) := by decide +kernel
theorem dX3_jobOf_0 : decode cX3_jobOf 0 = .ok (.iload_n 1, 1) := by decide +kernel
theorem dX3_jobOf_1 : decode cX3_jobOf 1 = .ok (.ifCond .lt 11, 3) := by decide +kernel
theorem dX3_jobOf_4 : decode cX3_jobOf 4 = .ok (.iload_n 1, 1) := by decide +kernel
theorem dX3_jobOf_5 : decode cX3_jobOf 5 = .ok (.aload_n 0, 1) := by decide +kernel
theorem dX3_jobOf_6 : decode cX3_jobOf 6 = .ok (.getfield 15, 3) := by decide +kernel
theorem dX3_jobOf_9 : decode cX3_jobOf 9 = .ok (.if_icmp .lt 7, 3) := by decide +kernel
theorem dX3_jobOf_12 : decode cX3_jobOf 12 = .ok (.iconst (-1), 1) := by decide +kernel
theorem dX3_jobOf_13 : decode cX3_jobOf 13 = .ok (.goto 14, 3) := by decide +kernel
theorem dX3_jobOf_16 : decode cX3_jobOf 16 = .ok (.aload_n 0, 1) := by decide +kernel
theorem dX3_jobOf_17 : decode cX3_jobOf 17 = .ok (.getfield 11, 3) := by decide +kernel
theorem dX3_jobOf_20 : decode cX3_jobOf 20 = .ok (.iload_n 1, 1) := by decide +kernel
theorem dX3_jobOf_21 : decode cX3_jobOf 21 = .ok (.laload, 1) := by decide +kernel
theorem dX3_jobOf_22 : decode cX3_jobOf 22 = .ok (.l2i, 1) := by decide +kernel
theorem dX3_jobOf_23 : decode cX3_jobOf 23 = .ok (.sipush 255, 3) := by decide +kernel
theorem dX3_jobOf_26 : decode cX3_jobOf 26 = .ok (.iand, 1) := by decide +kernel
theorem dX3_jobOf_27 : decode cX3_jobOf 27 = .ok (.ireturn, 1) := by decide +kernel
theorem dX4_init_0 : decode cX4_init 0 = .ok (.aload_n 0, 1) := by decide +kernel
theorem dX4_init_1 : decode cX4_init 1 = .ok (.invokespecial 1, 3) := by decide +kernel
theorem dX4_init_4 : decode cX4_init 4 = .ok (.aload_n 0, 1) := by decide +kernel
theorem dX4_init_5 : decode cX4_init 5 = .ok (.new 7, 3) := by decide +kernel
theorem dX4_init_8 : decode cX4_init 8 = .ok (.dup, 1) := by decide +kernel
theorem dX4_init_9 : decode cX4_init 9 = .ok (.invokespecial 9, 3) := by decide +kernel
theorem dX4_init_12 : decode cX4_init 12 = .ok (.putfield 10, 3) := by decide +kernel
theorem dX4_init_15 : decode cX4_init 15 = .ok (.aload_n 0, 1) := by decide +kernel
theorem dX4_init_16 : decode cX4_init 16 = .ok (.new 7, 3) := by decide +kernel
theorem dX4_init_19 : decode cX4_init 19 = .ok (.dup, 1) := by decide +kernel
theorem dX4_init_20 : decode cX4_init 20 = .ok (.invokespecial 9, 3) := by decide +kernel
theorem dX4_init_23 : decode cX4_init 23 = .ok (.putfield 16, 3) := by decide +kernel
theorem dX4_init_26 : decode cX4_init 26 = .ok (.aload_n 0, 1) := by decide +kernel
theorem dX4_init_27 : decode cX4_init 27 = .ok (.new 19, 3) := by decide +kernel
theorem dX4_init_30 : decode cX4_init 30 = .ok (.dup, 1) := by decide +kernel
theorem dX4_init_31 : decode cX4_init 31 = .ok (.invokespecial 21, 3) := by decide +kernel
theorem dX4_init_34 : decode cX4_init 34 = .ok (.putfield 22, 3) := by decide +kernel
theorem dX4_init_37 : decode cX4_init 37 = .ok (.aload_n 0, 1) := by decide +kernel
theorem dX4_init_38 : decode cX4_init 38 = .ok (.new 26, 3) := by decide +kernel
theorem dX4_init_41 : decode cX4_init 41 = .ok (.dup, 1) := by decide +kernel
theorem dX4_init_42 : decode cX4_init 42 = .ok (.invokespecial 28, 3) := by decide +kernel
theorem dX4_init_45 : decode cX4_init 45 = .ok (.putfield 29, 3) := by decide +kernel
theorem dX4_init_48 : decode cX4_init 48 = .ok (.aload_n 0, 1) := by decide +kernel
theorem dX4_init_49 : decode cX4_init 49 = .ok (.new 26, 3) := by decide +kernel
theorem dX4_init_52 : decode cX4_init 52 = .ok (.dup, 1) := by decide +kernel
theorem dX4_init_53 : decode cX4_init 53 = .ok (.invokespecial 28, 3) := by decide +kernel
theorem dX4_init_56 : decode cX4_init 56 = .ok (.putfield 33, 3) := by decide +kernel
theorem dX4_init_59 : decode cX4_init 59 = .ok (.aload_n 0, 1) := by decide +kernel
theorem dX4_init_60 : decode cX4_init 60 = .ok (.new 36, 3) := by decide +kernel
theorem dX4_init_63 : decode cX4_init 63 = .ok (.dup, 1) := by decide +kernel
theorem dX4_init_64 : decode cX4_init 64 = .ok (.invokespecial 38, 3) := by decide +kernel
theorem dX4_init_67 : decode cX4_init 67 = .ok (.putfield 39, 3) := by decide +kernel
theorem dX4_init_70 : decode cX4_init 70 = .ok (.aload_n 0, 1) := by decide +kernel
theorem dX4_init_71 : decode cX4_init 71 = .ok (.new 43, 3) := by decide +kernel
theorem dX4_init_74 : decode cX4_init 74 = .ok (.dup, 1) := by decide +kernel
theorem dX4_init_75 : decode cX4_init 75 = .ok (.invokespecial 45, 3) := by decide +kernel
theorem dX4_init_78 : decode cX4_init 78 = .ok (.putfield 46, 3) := by decide +kernel
theorem dX4_init_81 : decode cX4_init 81 = .ok (.aload_n 0, 1) := by decide +kernel
theorem dX4_init_82 : decode cX4_init 82 = .ok (.iload_n 1, 1) := by decide +kernel
theorem dX4_init_83 : decode cX4_init 83 = .ok (.putfield 50, 3) := by decide +kernel
theorem dX4_init_86 : decode cX4_init 86 = .ok (.aload_n 0, 1) := by decide +kernel
theorem dX4_init_87 : decode cX4_init 87 = .ok (.aload_n 2, 1) := by decide +kernel
theorem dX4_init_88 : decode cX4_init 88 = .ok (.putfield 54, 3) := by decide +kernel
theorem dX4_init_91 : decode cX4_init 91 = .ok (.aload_n 0, 1) := by decide +kernel
theorem dX4_init_92 : decode cX4_init 92 = .ok (.iload_n 3, 1) := by decide +kernel
theorem dX4_init_93 : decode cX4_init 93 = .ok (.putfield 58, 3) := by decide +kernel
theorem dX4_init_96 : decode cX4_init 96 = .ok (.aload_n 0, 1) := by decide +kernel
theorem dX4_init_97 : decode cX4_init 97 = .ok (.iload 4, 2) := by decide +kernel
theorem dX4_init_99 : decode cX4_init 99 = .ok (.putfield 61, 3) := by decide +kernel
theorem dX4_init_102 : decode cX4_init 102 = .ok (.return_, 1) := by decide +kernel
theorem dX4_hasPlan_0 : decode cX4_hasPlan 0 = .ok (.aload_n 0, 1) := by decide +kernel
theorem dX4_hasPlan_1 : decode cX4_hasPlan 1 = .ok (.getfield 64, 3) := by decide +kernel
theorem dX4_hasPlan_4 : decode cX4_hasPlan 4 = .ok (.ifCond .le 7, 3) := by decide +kernel
theorem dX4_hasPlan_7 : decode cX4_hasPlan 7 = .ok (.iconst 1, 1) := by decide +kernel
theorem dX4_hasPlan_8 : decode cX4_hasPlan 8 = .ok (.goto 4, 3) := by decide +kernel
theorem dX4_hasPlan_11 : decode cX4_hasPlan 11 = .ok (.iconst 0, 1) := by decide +kernel
theorem dX4_hasPlan_12 : decode cX4_hasPlan 12 = .ok (.ireturn, 1) := by decide +kernel
theorem dX4_endMinute_0 : decode cX4_endMinute 0 = .ok (.aload_n 0, 1) := by decide +kernel
theorem dX4_endMinute_1 : decode cX4_endMinute 1 = .ok (.getfield 46, 3) := by decide +kernel
theorem dX4_endMinute_4 : decode cX4_endMinute 4 = .ok (.getfield 67, 3) := by decide +kernel
theorem dX4_endMinute_7 : decode cX4_endMinute 7 = .ok (.aload_n 0, 1) := by decide +kernel
theorem dX4_endMinute_8 : decode cX4_endMinute 8 = .ok (.invokevirtual 70, 3) := by decide +kernel
theorem dX4_endMinute_11 : decode cX4_endMinute 11 = .ok (.ifCond .eq 10, 3) := by decide +kernel
theorem dX4_endMinute_14 : decode cX4_endMinute 14 = .ok (.aload_n 0, 1) := by decide +kernel
theorem dX4_endMinute_15 : decode cX4_endMinute 15 = .ok (.getfield 64, 3) := by decide +kernel
theorem dX4_endMinute_18 : decode cX4_endMinute 18 = .ok (.goto 7, 3) := by decide +kernel
theorem dX4_endMinute_21 : decode cX4_endMinute 21 = .ok (.aload_n 0, 1) := by decide +kernel
theorem dX4_endMinute_22 : decode cX4_endMinute 22 = .ok (.getfield 58, 3) := by decide +kernel
theorem dX4_endMinute_25 : decode cX4_endMinute 25 = .ok (.iadd, 1) := by decide +kernel
theorem dX4_endMinute_26 : decode cX4_endMinute 26 = .ok (.ireturn, 1) := by decide +kernel
theorem dX4_isDirectlyBehind_0 : decode cX4_isDirectlyBehind 0 = .ok (.iconst 0, 1) := by decide +kernel
theorem dX4_isDirectlyBehind_1 : decode cX4_isDirectlyBehind 1 = .ok (.istore_n 2, 1) := by decide +kernel
theorem dX4_isDirectlyBehind_2 : decode cX4_isDirectlyBehind 2 = .ok (.iload_n 2, 1) := by decide +kernel
theorem dX4_isDirectlyBehind_3 : decode cX4_isDirectlyBehind 3 = .ok (.aload_n 0, 1) := by decide +kernel
theorem dX4_isDirectlyBehind_4 : decode cX4_isDirectlyBehind 4 = .ok (.getfield 10, 3) := by decide +kernel
theorem dX4_isDirectlyBehind_7 : decode cX4_isDirectlyBehind 7 = .ok (.invokevirtual 74, 3) := by decide +kernel
theorem dX4_isDirectlyBehind_10 : decode cX4_isDirectlyBehind 10 = .ok (.if_icmp .ge 23, 3) := by decide +kernel
theorem dX4_isDirectlyBehind_13 : decode cX4_isDirectlyBehind 13 = .ok (.aload_n 0, 1) := by decide +kernel
theorem dX4_isDirectlyBehind_14 : decode cX4_isDirectlyBehind 14 = .ok (.getfield 10, 3) := by decide +kernel
theorem dX4_isDirectlyBehind_17 : decode cX4_isDirectlyBehind 17 = .ok (.iload_n 2, 1) := by decide +kernel
theorem dX4_isDirectlyBehind_18 : decode cX4_isDirectlyBehind 18 = .ok (.invokevirtual 78, 3) := by decide +kernel
theorem dX4_isDirectlyBehind_21 : decode cX4_isDirectlyBehind 21 = .ok (.aload_n 1, 1) := by decide +kernel
theorem dX4_isDirectlyBehind_22 : decode cX4_isDirectlyBehind 22 = .ok (.if_acmp .ne 5, 3) := by decide +kernel
theorem dX4_isDirectlyBehind_25 : decode cX4_isDirectlyBehind 25 = .ok (.iconst 1, 1) := by decide +kernel
theorem dX4_isDirectlyBehind_26 : decode cX4_isDirectlyBehind 26 = .ok (.ireturn, 1) := by decide +kernel
theorem dX4_isDirectlyBehind_27 : decode cX4_isDirectlyBehind 27 = .ok (.iinc 2 1, 3) := by decide +kernel
theorem dX4_isDirectlyBehind_30 : decode cX4_isDirectlyBehind 30 = .ok (.goto (-28), 3) := by decide +kernel
theorem dX4_isDirectlyBehind_33 : decode cX4_isDirectlyBehind 33 = .ok (.iconst 0, 1) := by decide +kernel
theorem dX4_isDirectlyBehind_34 : decode cX4_isDirectlyBehind 34 = .ok (.ireturn, 1) := by decide +kernel
theorem dX4_comesAheadOf_0 : decode cX4_comesAheadOf 0 = .ok (.aload_n 0, 1) := by decide +kernel
theorem dX4_comesAheadOf_1 : decode cX4_comesAheadOf 1 = .ok (.getfield 54, 3) := by decide +kernel
theorem dX4_comesAheadOf_4 : decode cX4_comesAheadOf 4 = .ok (.getfield 82, 3) := by decide +kernel
theorem dX4_comesAheadOf_7 : decode cX4_comesAheadOf 7 = .ok (.aload_n 1, 1) := by decide +kernel
theorem dX4_comesAheadOf_8 : decode cX4_comesAheadOf 8 = .ok (.getfield 54, 3) := by decide +kernel
theorem dX4_comesAheadOf_11 : decode cX4_comesAheadOf 11 = .ok (.getfield 82, 3) := by decide +kernel
theorem dX4_comesAheadOf_14 : decode cX4_comesAheadOf 14 = .ok (.if_icmp .eq 26, 3) := by decide +kernel
theorem dX4_comesAheadOf_17 : decode cX4_comesAheadOf 17 = .ok (.aload_n 0, 1) := by decide +kernel
theorem dX4_comesAheadOf_18 : decode cX4_comesAheadOf 18 = .ok (.getfield 54, 3) := by decide +kernel
theorem dX4_comesAheadOf_21 : decode cX4_comesAheadOf 21 = .ok (.getfield 82, 3) := by decide +kernel
theorem dX4_comesAheadOf_24 : decode cX4_comesAheadOf 24 = .ok (.aload_n 1, 1) := by decide +kernel
theorem dX4_comesAheadOf_25 : decode cX4_comesAheadOf 25 = .ok (.getfield 54, 3) := by decide +kernel
theorem dX4_comesAheadOf_28 : decode cX4_comesAheadOf 28 = .ok (.getfield 82, 3) := by decide +kernel
theorem dX4_comesAheadOf_31 : decode cX4_comesAheadOf 31 = .ok (.if_icmp .ge 7, 3) := by decide +kernel
theorem dX4_comesAheadOf_34 : decode cX4_comesAheadOf 34 = .ok (.iconst 1, 1) := by decide +kernel
theorem dX4_comesAheadOf_35 : decode cX4_comesAheadOf 35 = .ok (.goto 4, 3) := by decide +kernel
theorem dX4_comesAheadOf_38 : decode cX4_comesAheadOf 38 = .ok (.iconst 0, 1) := by decide +kernel
theorem dX4_comesAheadOf_39 : decode cX4_comesAheadOf 39 = .ok (.ireturn, 1) := by decide +kernel
theorem dX4_comesAheadOf_40 : decode cX4_comesAheadOf 40 = .ok (.aload_n 0, 1) := by decide +kernel
theorem dX4_comesAheadOf_41 : decode cX4_comesAheadOf 41 = .ok (.getfield 61, 3) := by decide +kernel
theorem dX4_comesAheadOf_44 : decode cX4_comesAheadOf 44 = .ok (.aload_n 1, 1) := by decide +kernel
theorem dX4_comesAheadOf_45 : decode cX4_comesAheadOf 45 = .ok (.getfield 61, 3) := by decide +kernel
theorem dX4_comesAheadOf_48 : decode cX4_comesAheadOf 48 = .ok (.if_icmp .eq 20, 3) := by decide +kernel
theorem dX4_comesAheadOf_51 : decode cX4_comesAheadOf 51 = .ok (.aload_n 0, 1) := by decide +kernel
theorem dX4_comesAheadOf_52 : decode cX4_comesAheadOf 52 = .ok (.getfield 61, 3) := by decide +kernel
theorem dX4_comesAheadOf_55 : decode cX4_comesAheadOf 55 = .ok (.aload_n 1, 1) := by decide +kernel
theorem dX4_comesAheadOf_56 : decode cX4_comesAheadOf 56 = .ok (.getfield 61, 3) := by decide +kernel
theorem dX4_comesAheadOf_59 : decode cX4_comesAheadOf 59 = .ok (.if_icmp .ge 7, 3) := by decide +kernel
theorem dX4_comesAheadOf_62 : decode cX4_comesAheadOf 62 = .ok (.iconst 1, 1) := by decide +kernel
theorem dX4_comesAheadOf_63 : decode cX4_comesAheadOf 63 = .ok (.goto 4, 3) := by decide +kernel
theorem dX4_comesAheadOf_66 : decode cX4_comesAheadOf 66 = .ok (.iconst 0, 1) := by decide +kernel
theorem dX4_comesAheadOf_67 : decode cX4_comesAheadOf 67 = .ok (.ireturn, 1) := by decide +kernel
theorem dX4_comesAheadOf_68 : decode cX4_comesAheadOf 68 = .ok (.aload_n 0, 1) := by decide +kernel
theorem dX4_comesAheadOf_69 : decode cX4_comesAheadOf 69 = .ok (.getfield 50, 3) := by decide +kernel
theorem dX4_comesAheadOf_72 : decode cX4_comesAheadOf 72 = .ok (.aload_n 1, 1) := by decide +kernel
theorem dX4_comesAheadOf_73 : decode cX4_comesAheadOf 73 = .ok (.getfield 50, 3) := by decide +kernel
theorem dX4_comesAheadOf_76 : decode cX4_comesAheadOf 76 = .ok (.if_icmp .ge 7, 3) := by decide +kernel
theorem dX4_comesAheadOf_79 : decode cX4_comesAheadOf 79 = .ok (.iconst 1, 1) := by decide +kernel
theorem dX4_comesAheadOf_80 : decode cX4_comesAheadOf 80 = .ok (.goto 4, 3) := by decide +kernel
theorem dX4_comesAheadOf_83 : decode cX4_comesAheadOf 83 = .ok (.iconst 0, 1) := by decide +kernel
theorem dX4_comesAheadOf_84 : decode cX4_comesAheadOf 84 = .ok (.ireturn, 1) := by decide +kernel
theorem dX5_init_0 : decode cX5_init 0 = .ok (.aload_n 0, 1) := by decide +kernel
theorem dX5_init_1 : decode cX5_init 1 = .ok (.invokespecial 3, 3) := by decide +kernel
theorem dX5_init_4 : decode cX5_init 4 = .ok (.aload_n 0, 1) := by decide +kernel
theorem dX5_init_5 : decode cX5_init 5 = .ok (.iconst 4, 1) := by decide +kernel
theorem dX5_init_6 : decode cX5_init 6 = .ok (.newarray .long, 2) := by decide +kernel
theorem dX5_init_8 : decode cX5_init 8 = .ok (.putfield 11, 3) := by decide +kernel
theorem dX5_init_11 : decode cX5_init 11 = .ok (.return_, 1) := by decide +kernel
theorem dX5_add_0 : decode cX5_add 0 = .ok (.iload_n 1, 1) := by decide +kernel
theorem dX5_add_1 : decode cX5_add 1 = .ok (.ifCond .lt 28, 3) := by decide +kernel
theorem dX5_add_4 : decode cX5_add 4 = .ok (.iload_n 1, 1) := by decide +kernel
theorem dX5_add_5 : decode cX5_add 5 = .ok (.sipush 200, 3) := by decide +kernel
theorem dX5_add_8 : decode cX5_add 8 = .ok (.if_icmp .ge 21, 3) := by decide +kernel
theorem dX5_add_11 : decode cX5_add 11 = .ok (.aload_n 0, 1) := by decide +kernel
theorem dX5_add_12 : decode cX5_add 12 = .ok (.getfield 11, 3) := by decide +kernel
theorem dX5_add_15 : decode cX5_add 15 = .ok (.iload_n 1, 1) := by decide +kernel
theorem dX5_add_16 : decode cX5_add 16 = .ok (.bipush 6, 2) := by decide +kernel
theorem dX5_add_18 : decode cX5_add 18 = .ok (.ishr, 1) := by decide +kernel
theorem dX5_add_19 : decode cX5_add 19 = .ok (.dup2, 1) := by decide +kernel
theorem dX5_add_20 : decode cX5_add 20 = .ok (.laload, 1) := by decide +kernel
theorem dX5_add_21 : decode cX5_add 21 = .ok (.lconst 1, 1) := by decide +kernel
theorem dX5_add_22 : decode cX5_add 22 = .ok (.iload_n 1, 1) := by decide +kernel
theorem dX5_add_23 : decode cX5_add 23 = .ok (.bipush 63, 2) := by decide +kernel
theorem dX5_add_25 : decode cX5_add 25 = .ok (.iand, 1) := by decide +kernel
theorem dX5_add_26 : decode cX5_add 26 = .ok (.lshl, 1) := by decide +kernel
theorem dX5_add_27 : decode cX5_add 27 = .ok (.lor, 1) := by decide +kernel
theorem dX5_add_28 : decode cX5_add 28 = .ok (.lastore, 1) := by decide +kernel
theorem dX5_add_29 : decode cX5_add 29 = .ok (.return_, 1) := by decide +kernel
theorem dX5_has_0 : decode cX5_has 0 = .ok (.iload_n 1, 1) := by decide +kernel
theorem dX5_has_1 : decode cX5_has 1 = .ok (.ifCond .lt 35, 3) := by decide +kernel
theorem dX5_has_4 : decode cX5_has 4 = .ok (.iload_n 1, 1) := by decide +kernel
theorem dX5_has_5 : decode cX5_has 5 = .ok (.sipush 200, 3) := by decide +kernel
theorem dX5_has_8 : decode cX5_has 8 = .ok (.if_icmp .ge 28, 3) := by decide +kernel
theorem dX5_has_11 : decode cX5_has 11 = .ok (.aload_n 0, 1) := by decide +kernel
theorem dX5_has_12 : decode cX5_has 12 = .ok (.getfield 11, 3) := by decide +kernel
theorem dX5_has_15 : decode cX5_has 15 = .ok (.iload_n 1, 1) := by decide +kernel
theorem dX5_has_16 : decode cX5_has 16 = .ok (.bipush 6, 2) := by decide +kernel
theorem dX5_has_18 : decode cX5_has 18 = .ok (.ishr, 1) := by decide +kernel
theorem dX5_has_19 : decode cX5_has 19 = .ok (.laload, 1) := by decide +kernel
theorem dX5_has_20 : decode cX5_has 20 = .ok (.lconst 1, 1) := by decide +kernel
theorem dX5_has_21 : decode cX5_has 21 = .ok (.iload_n 1, 1) := by decide +kernel
theorem dX5_has_22 : decode cX5_has 22 = .ok (.bipush 63, 2) := by decide +kernel
theorem dX5_has_24 : decode cX5_has 24 = .ok (.iand, 1) := by decide +kernel
theorem dX5_has_25 : decode cX5_has 25 = .ok (.lshl, 1) := by decide +kernel
theorem dX5_has_26 : decode cX5_has 26 = .ok (.land, 1) := by decide +kernel
theorem dX5_has_27 : decode cX5_has 27 = .ok (.lconst 0, 1) := by decide +kernel
theorem dX5_has_28 : decode cX5_has 28 = .ok (.lcmp, 1) := by decide +kernel
theorem dX5_has_29 : decode cX5_has 29 = .ok (.ifCond .eq 7, 3) := by decide +kernel
theorem dX5_has_32 : decode cX5_has 32 = .ok (.iconst 1, 1) := by decide +kernel
theorem dX5_has_33 : decode cX5_has 33 = .ok (.goto 4, 3) := by decide +kernel
theorem dX5_has_36 : decode cX5_has 36 = .ok (.iconst 0, 1) := by decide +kernel
theorem dX5_has_37 : decode cX5_has 37 = .ok (.ireturn, 1) := by decide +kernel
theorem dX5_addAll_0 : decode cX5_addAll 0 = .ok (.iconst 0, 1) := by decide +kernel
theorem dX5_addAll_1 : decode cX5_addAll 1 = .ok (.istore_n 2, 1) := by decide +kernel
theorem dX5_addAll_2 : decode cX5_addAll 2 = .ok (.iload_n 2, 1) := by decide +kernel
theorem dX5_addAll_3 : decode cX5_addAll 3 = .ok (.iconst 4, 1) := by decide +kernel
theorem dX5_addAll_4 : decode cX5_addAll 4 = .ok (.if_icmp .ge 24, 3) := by decide +kernel
theorem dX5_addAll_7 : decode cX5_addAll 7 = .ok (.aload_n 0, 1) := by decide +kernel
theorem dX5_addAll_8 : decode cX5_addAll 8 = .ok (.getfield 11, 3) := by decide +kernel
theorem dX5_addAll_11 : decode cX5_addAll 11 = .ok (.iload_n 2, 1) := by decide +kernel
theorem dX5_addAll_12 : decode cX5_addAll 12 = .ok (.dup2, 1) := by decide +kernel
theorem dX5_addAll_13 : decode cX5_addAll 13 = .ok (.laload, 1) := by decide +kernel
theorem dX5_addAll_14 : decode cX5_addAll 14 = .ok (.aload_n 1, 1) := by decide +kernel
theorem dX5_addAll_15 : decode cX5_addAll 15 = .ok (.getfield 11, 3) := by decide +kernel
theorem dX5_addAll_18 : decode cX5_addAll 18 = .ok (.iload_n 2, 1) := by decide +kernel
theorem dX5_addAll_19 : decode cX5_addAll 19 = .ok (.laload, 1) := by decide +kernel
theorem dX5_addAll_20 : decode cX5_addAll 20 = .ok (.lor, 1) := by decide +kernel
theorem dX5_addAll_21 : decode cX5_addAll 21 = .ok (.lastore, 1) := by decide +kernel
theorem dX5_addAll_22 : decode cX5_addAll 22 = .ok (.iinc 2 1, 3) := by decide +kernel
theorem dX5_addAll_25 : decode cX5_addAll 25 = .ok (.goto (-23), 3) := by decide +kernel
theorem dX5_addAll_28 : decode cX5_addAll 28 = .ok (.return_, 1) := by decide +kernel
theorem dX5_meets_0 : decode cX5_meets 0 = .ok (.iconst 0, 1) := by decide +kernel
theorem dX5_meets_1 : decode cX5_meets 1 = .ok (.istore_n 2, 1) := by decide +kernel
theorem dX5_meets_2 : decode cX5_meets 2 = .ok (.iload_n 2, 1) := by decide +kernel
theorem dX5_meets_3 : decode cX5_meets 3 = .ok (.iconst 4, 1) := by decide +kernel
theorem dX5_meets_4 : decode cX5_meets 4 = .ok (.if_icmp .ge 29, 3) := by decide +kernel
theorem dX5_meets_7 : decode cX5_meets 7 = .ok (.aload_n 0, 1) := by decide +kernel
theorem dX5_meets_8 : decode cX5_meets 8 = .ok (.getfield 11, 3) := by decide +kernel
theorem dX5_meets_11 : decode cX5_meets 11 = .ok (.iload_n 2, 1) := by decide +kernel
theorem dX5_meets_12 : decode cX5_meets 12 = .ok (.laload, 1) := by decide +kernel
theorem dX5_meets_13 : decode cX5_meets 13 = .ok (.aload_n 1, 1) := by decide +kernel
theorem dX5_meets_14 : decode cX5_meets 14 = .ok (.getfield 11, 3) := by decide +kernel
theorem dX5_meets_17 : decode cX5_meets 17 = .ok (.iload_n 2, 1) := by decide +kernel
theorem dX5_meets_18 : decode cX5_meets 18 = .ok (.laload, 1) := by decide +kernel
theorem dX5_meets_19 : decode cX5_meets 19 = .ok (.land, 1) := by decide +kernel
theorem dX5_meets_20 : decode cX5_meets 20 = .ok (.lconst 0, 1) := by decide +kernel
theorem dX5_meets_21 : decode cX5_meets 21 = .ok (.lcmp, 1) := by decide +kernel
theorem dX5_meets_22 : decode cX5_meets 22 = .ok (.ifCond .eq 5, 3) := by decide +kernel
theorem dX5_meets_25 : decode cX5_meets 25 = .ok (.iconst 1, 1) := by decide +kernel
theorem dX5_meets_26 : decode cX5_meets 26 = .ok (.ireturn, 1) := by decide +kernel
theorem dX5_meets_27 : decode cX5_meets 27 = .ok (.iinc 2 1, 3) := by decide +kernel
theorem dX5_meets_30 : decode cX5_meets 30 = .ok (.goto (-28), 3) := by decide +kernel
theorem dX5_meets_33 : decode cX5_meets 33 = .ok (.iconst 0, 1) := by decide +kernel
theorem dX5_meets_34 : decode cX5_meets 34 = .ok (.ireturn, 1) := by decide +kernel
theorem dX5_clear_0 : decode cX5_clear 0 = .ok (.iconst 0, 1) := by decide +kernel
theorem dX5_clear_1 : decode cX5_clear 1 = .ok (.istore_n 1, 1) := by decide +kernel
theorem dX5_clear_2 : decode cX5_clear 2 = .ok (.iload_n 1, 1) := by decide +kernel
theorem dX5_clear_3 : decode cX5_clear 3 = .ok (.iconst 4, 1) := by decide +kernel
theorem dX5_clear_4 : decode cX5_clear 4 = .ok (.if_icmp .ge 16, 3) := by decide +kernel
theorem dX5_clear_7 : decode cX5_clear 7 = .ok (.aload_n 0, 1) := by decide +kernel
theorem dX5_clear_8 : decode cX5_clear 8 = .ok (.getfield 11, 3) := by decide +kernel
theorem dX5_clear_11 : decode cX5_clear 11 = .ok (.iload_n 1, 1) := by decide +kernel
theorem dX5_clear_12 : decode cX5_clear 12 = .ok (.lconst 0, 1) := by decide +kernel
theorem dX5_clear_13 : decode cX5_clear 13 = .ok (.lastore, 1) := by decide +kernel
theorem dX5_clear_14 : decode cX5_clear 14 = .ok (.iinc 1 1, 3) := by decide +kernel
theorem dX5_clear_17 : decode cX5_clear 17 = .ok (.goto (-15), 3) := by decide +kernel
theorem dX5_clear_20 : decode cX5_clear 20 = .ok (.return_, 1) := by decide +kernel
theorem dX6_init_0 : decode cX6_init 0 = .ok (.aload_n 0, 1) := by decide +kernel
theorem dX6_init_1 : decode cX6_init 1 = .ok (.invokespecial 3, 3) := by decide +kernel
theorem dX6_init_4 : decode cX6_init 4 = .ok (.aload_n 0, 1) := by decide +kernel
theorem dX6_init_5 : decode cX6_init 5 = .ok (.sipush 200, 3) := by decide +kernel
theorem dX6_init_8 : decode cX6_init 8 = .ok (.anewarray 9, 3) := by decide +kernel
theorem dX6_init_11 : decode cX6_init 11 = .ok (.putfield 11, 3) := by decide +kernel
theorem dX6_init_14 : decode cX6_init 14 = .ok (.aload_n 0, 1) := by decide +kernel
theorem dX6_init_15 : decode cX6_init 15 = .ok (.sipush 200, 3) := by decide +kernel
theorem dX6_init_18 : decode cX6_init 18 = .ok (.newarray .int, 2) := by decide +kernel
theorem dX6_init_20 : decode cX6_init 20 = .ok (.putfield 17, 3) := by decide +kernel
theorem dX6_init_23 : decode cX6_init 23 = .ok (.aload_n 0, 1) := by decide +kernel
theorem dX6_init_24 : decode cX6_init 24 = .ok (.sipush 200, 3) := by decide +kernel
theorem dX6_init_27 : decode cX6_init 27 = .ok (.anewarray 9, 3) := by decide +kernel
theorem dX6_init_30 : decode cX6_init 30 = .ok (.putfield 21, 3) := by decide +kernel
theorem dX6_init_33 : decode cX6_init 33 = .ok (.aload_n 0, 1) := by decide +kernel
theorem dX6_init_34 : decode cX6_init 34 = .ok (.aload_n 1, 1) := by decide +kernel
theorem dX6_init_35 : decode cX6_init 35 = .ok (.putfield 24, 3) := by decide +kernel
theorem dX6_init_38 : decode cX6_init 38 = .ok (.return_, 1) := by decide +kernel
theorem dX6_chainLength_0 : decode cX6_chainLength 0 = .ok (.aload_n 0, 1) := by decide +kernel
theorem dX6_chainLength_1 : decode cX6_chainLength 1 = .ok (.invokevirtual 28, 3) := by decide +kernel
theorem dX6_chainLength_4 : decode cX6_chainLength 4 = .ok (.aload_n 0, 1) := by decide +kernel
theorem dX6_chainLength_5 : decode cX6_chainLength 5 = .ok (.getfield 31, 3) := by decide +kernel
theorem dX6_chainLength_8 : decode cX6_chainLength 8 = .ok (.ireturn, 1) := by decide +kernel
theorem dX6_longestTail_0 : decode cX6_longestTail 0 = .ok (.aload_n 0, 1) := by decide +kernel
theorem dX6_longestTail_1 : decode cX6_longestTail 1 = .ok (.invokevirtual 28, 3) := by decide +kernel
theorem dX6_longestTail_4 : decode cX6_longestTail 4 = .ok (.aload_n 0, 1) := by decide +kernel
theorem dX6_longestTail_5 : decode cX6_longestTail 5 = .ok (.getfield 35, 3) := by decide +kernel
theorem dX6_longestTail_8 : decode cX6_longestTail 8 = .ok (.ireturn, 1) := by decide +kernel
theorem dX6_reckon_0 : decode cX6_reckon 0 = .ok (.aload_n 0, 1) := by decide +kernel
theorem dX6_reckon_1 : decode cX6_reckon 1 = .ok (.getfield 38, 3) := by decide +kernel
theorem dX6_reckon_4 : decode cX6_reckon 4 = .ok (.ifCond .eq 4, 3) := by decide +kernel
theorem dX6_reckon_7 : decode cX6_reckon 7 = .ok (.return_, 1) := by decide +kernel
theorem dX6_reckon_8 : decode cX6_reckon 8 = .ok (.aload_n 0, 1) := by decide +kernel
theorem dX6_reckon_9 : decode cX6_reckon 9 = .ok (.invokevirtual 42, 3) := by decide +kernel
theorem dX6_reckon_12 : decode cX6_reckon 12 = .ok (.aload_n 0, 1) := by decide +kernel
theorem dX6_reckon_13 : decode cX6_reckon 13 = .ok (.invokevirtual 45, 3) := by decide +kernel
theorem dX6_reckon_16 : decode cX6_reckon 16 = .ok (.aload_n 0, 1) := by decide +kernel
theorem dX6_reckon_17 : decode cX6_reckon 17 = .ok (.invokevirtual 48, 3) := by decide +kernel
theorem dX6_reckon_20 : decode cX6_reckon 20 = .ok (.aload_n 0, 1) := by decide +kernel
theorem dX6_reckon_21 : decode cX6_reckon 21 = .ok (.invokevirtual 51, 3) := by decide +kernel
theorem dX6_reckon_24 : decode cX6_reckon 24 = .ok (.aload_n 0, 1) := by decide +kernel
theorem dX6_reckon_25 : decode cX6_reckon 25 = .ok (.iconst 1, 1) := by decide +kernel
theorem dX6_reckon_26 : decode cX6_reckon 26 = .ok (.putfield 38, 3) := by decide +kernel
theorem dX6_reckon_29 : decode cX6_reckon 29 = .ok (.return_, 1) := by decide +kernel
theorem dX6_sortJobs_0 : decode cX6_sortJobs 0 = .ok (.aload_n 0, 1) := by decide +kernel
theorem dX6_sortJobs_1 : decode cX6_sortJobs 1 = .ok (.iconst 0, 1) := by decide +kernel
theorem dX6_sortJobs_2 : decode cX6_sortJobs 2 = .ok (.putfield 54, 3) := by decide +kernel
theorem dX6_sortJobs_5 : decode cX6_sortJobs 5 = .ok (.iconst 0, 1) := by decide +kernel
theorem dX6_sortJobs_6 : decode cX6_sortJobs 6 = .ok (.istore_n 1, 1) := by decide +kernel
theorem dX6_sortJobs_7 : decode cX6_sortJobs 7 = .ok (.iload_n 1, 1) := by decide +kernel
theorem dX6_sortJobs_8 : decode cX6_sortJobs 8 = .ok (.aload_n 0, 1) := by decide +kernel
theorem dX6_sortJobs_9 : decode cX6_sortJobs 9 = .ok (.getfield 24, 3) := by decide +kernel
theorem dX6_sortJobs_12 : decode cX6_sortJobs 12 = .ok (.getfield 57, 3) := by decide +kernel
theorem dX6_sortJobs_15 : decode cX6_sortJobs 15 = .ok (.if_icmp .ge 52, 3) := by decide +kernel
theorem dX6_sortJobs_18 : decode cX6_sortJobs 18 = .ok (.aload_n 0, 1) := by decide +kernel
theorem dX6_sortJobs_19 : decode cX6_sortJobs 19 = .ok (.getfield 17, 3) := by decide +kernel
theorem dX6_sortJobs_22 : decode cX6_sortJobs 22 = .ok (.iload_n 1, 1) := by decide +kernel
theorem dX6_sortJobs_23 : decode cX6_sortJobs 23 = .ok (.aload_n 0, 1) := by decide +kernel
theorem dX6_sortJobs_24 : decode cX6_sortJobs 24 = .ok (.getfield 24, 3) := by decide +kernel
theorem dX6_sortJobs_27 : decode cX6_sortJobs 27 = .ok (.getfield 62, 3) := by decide +kernel
theorem dX6_sortJobs_30 : decode cX6_sortJobs 30 = .ok (.iload_n 1, 1) := by decide +kernel
theorem dX6_sortJobs_31 : decode cX6_sortJobs 31 = .ok (.aaload, 1) := by decide +kernel
theorem dX6_sortJobs_32 : decode cX6_sortJobs 32 = .ok (.getfield 65, 3) := by decide +kernel
theorem dX6_sortJobs_35 : decode cX6_sortJobs 35 = .ok (.invokevirtual 69, 3) := by decide +kernel
theorem dX6_sortJobs_38 : decode cX6_sortJobs 38 = .ok (.iastore, 1) := by decide +kernel
theorem dX6_sortJobs_39 : decode cX6_sortJobs 39 = .ok (.aload_n 0, 1) := by decide +kernel
theorem dX6_sortJobs_40 : decode cX6_sortJobs 40 = .ok (.getfield 17, 3) := by decide +kernel
theorem dX6_sortJobs_43 : decode cX6_sortJobs 43 = .ok (.iload_n 1, 1) := by decide +kernel
theorem dX6_sortJobs_44 : decode cX6_sortJobs 44 = .ok (.iaload, 1) := by decide +kernel
theorem dX6_sortJobs_45 : decode cX6_sortJobs 45 = .ok (.ifCond .ne 16, 3) := by decide +kernel
theorem dX6_sortJobs_48 : decode cX6_sortJobs 48 = .ok (.aload_n 0, 1) := by decide +kernel
theorem dX6_sortJobs_49 : decode cX6_sortJobs 49 = .ok (.aload_n 0, 1) := by decide +kernel
theorem dX6_sortJobs_50 : decode cX6_sortJobs 50 = .ok (.getfield 24, 3) := by decide +kernel
theorem dX6_sortJobs_53 : decode cX6_sortJobs 53 = .ok (.getfield 62, 3) := by decide +kernel
theorem dX6_sortJobs_56 : decode cX6_sortJobs 56 = .ok (.iload_n 1, 1) := by decide +kernel
theorem dX6_sortJobs_57 : decode cX6_sortJobs 57 = .ok (.aaload, 1) := by decide +kernel
theorem dX6_sortJobs_58 : decode cX6_sortJobs 58 = .ok (.invokevirtual 75, 3) := by decide +kernel
theorem dX6_sortJobs_61 : decode cX6_sortJobs 61 = .ok (.iinc 1 1, 3) := by decide +kernel
theorem dX6_sortJobs_64 : decode cX6_sortJobs 64 = .ok (.goto (-57), 3) := by decide +kernel
theorem dX6_sortJobs_67 : decode cX6_sortJobs 67 = .ok (.iconst 0, 1) := by decide +kernel
theorem dX6_sortJobs_68 : decode cX6_sortJobs 68 = .ok (.istore_n 1, 1) := by decide +kernel
theorem dX6_sortJobs_69 : decode cX6_sortJobs 69 = .ok (.iload_n 1, 1) := by decide +kernel
theorem dX6_sortJobs_70 : decode cX6_sortJobs 70 = .ok (.aload_n 0, 1) := by decide +kernel
theorem dX6_sortJobs_71 : decode cX6_sortJobs 71 = .ok (.getfield 54, 3) := by decide +kernel
theorem dX6_sortJobs_74 : decode cX6_sortJobs 74 = .ok (.if_icmp .ge 85, 3) := by decide +kernel
theorem dX6_sortJobs_77 : decode cX6_sortJobs 77 = .ok (.iload_n 1, 1) := by decide +kernel
theorem dX6_sortJobs_78 : decode cX6_sortJobs 78 = .ok (.sipush 200, 3) := by decide +kernel
theorem dX6_sortJobs_81 : decode cX6_sortJobs 81 = .ok (.if_icmp .ge 78, 3) := by decide +kernel
theorem dX6_sortJobs_84 : decode cX6_sortJobs 84 = .ok (.aload_n 0, 1) := by decide +kernel
theorem dX6_sortJobs_85 : decode cX6_sortJobs 85 = .ok (.getfield 11, 3) := by decide +kernel
theorem dX6_sortJobs_88 : decode cX6_sortJobs 88 = .ok (.iload_n 1, 1) := by decide +kernel
theorem dX6_sortJobs_89 : decode cX6_sortJobs 89 = .ok (.aaload, 1) := by decide +kernel
theorem dX6_sortJobs_90 : decode cX6_sortJobs 90 = .ok (.getfield 79, 3) := by decide +kernel
theorem dX6_sortJobs_93 : decode cX6_sortJobs 93 = .ok (.astore_n 2, 1) := by decide +kernel
theorem dX6_sortJobs_94 : decode cX6_sortJobs 94 = .ok (.iconst 0, 1) := by decide +kernel
theorem dX6_sortJobs_95 : decode cX6_sortJobs 95 = .ok (.istore_n 3, 1) := by decide +kernel
theorem dX6_sortJobs_96 : decode cX6_sortJobs 96 = .ok (.iload_n 3, 1) := by decide +kernel
theorem dX6_sortJobs_97 : decode cX6_sortJobs 97 = .ok (.aload_n 2, 1) := by decide +kernel
theorem dX6_sortJobs_98 : decode cX6_sortJobs 98 = .ok (.invokevirtual 69, 3) := by decide +kernel
theorem dX6_sortJobs_101 : decode cX6_sortJobs 101 = .ok (.if_icmp .ge 52, 3) := by decide +kernel
theorem dX6_sortJobs_104 : decode cX6_sortJobs 104 = .ok (.aload_n 2, 1) := by decide +kernel
theorem dX6_sortJobs_105 : decode cX6_sortJobs 105 = .ok (.iload_n 3, 1) := by decide +kernel
theorem dX6_sortJobs_106 : decode cX6_sortJobs 106 = .ok (.invokevirtual 82, 3) := by decide +kernel
theorem dX6_sortJobs_109 : decode cX6_sortJobs 109 = .ok (.checkcast 9, 3) := by decide +kernel
theorem dX6_sortJobs_112 : decode cX6_sortJobs 112 = .ok (.astore 4, 2) := by decide +kernel
theorem dX6_sortJobs_114 : decode cX6_sortJobs 114 = .ok (.aload_n 0, 1) := by decide +kernel
theorem dX6_sortJobs_115 : decode cX6_sortJobs 115 = .ok (.getfield 17, 3) := by decide +kernel
theorem dX6_sortJobs_118 : decode cX6_sortJobs 118 = .ok (.aload 4, 2) := by decide +kernel
theorem dX6_sortJobs_120 : decode cX6_sortJobs 120 = .ok (.getfield 86, 3) := by decide +kernel
theorem dX6_sortJobs_123 : decode cX6_sortJobs 123 = .ok (.dup2, 1) := by decide +kernel
theorem dX6_sortJobs_124 : decode cX6_sortJobs 124 = .ok (.iaload, 1) := by decide +kernel
theorem dX6_sortJobs_125 : decode cX6_sortJobs 125 = .ok (.iconst 1, 1) := by decide +kernel
theorem dX6_sortJobs_126 : decode cX6_sortJobs 126 = .ok (.isub, 1) := by decide +kernel
theorem dX6_sortJobs_127 : decode cX6_sortJobs 127 = .ok (.iastore, 1) := by decide +kernel
theorem dX6_sortJobs_128 : decode cX6_sortJobs 128 = .ok (.aload_n 0, 1) := by decide +kernel
theorem dX6_sortJobs_129 : decode cX6_sortJobs 129 = .ok (.getfield 17, 3) := by decide +kernel
theorem dX6_sortJobs_132 : decode cX6_sortJobs 132 = .ok (.aload 4, 2) := by decide +kernel
theorem dX6_sortJobs_134 : decode cX6_sortJobs 134 = .ok (.getfield 86, 3) := by decide +kernel
theorem dX6_sortJobs_137 : decode cX6_sortJobs 137 = .ok (.iaload, 1) := by decide +kernel
theorem dX6_sortJobs_138 : decode cX6_sortJobs 138 = .ok (.ifCond .ne 9, 3) := by decide +kernel
theorem dX6_sortJobs_141 : decode cX6_sortJobs 141 = .ok (.aload_n 0, 1) := by decide +kernel
theorem dX6_sortJobs_142 : decode cX6_sortJobs 142 = .ok (.aload 4, 2) := by decide +kernel
theorem dX6_sortJobs_144 : decode cX6_sortJobs 144 = .ok (.invokevirtual 75, 3) := by decide +kernel
theorem dX6_sortJobs_147 : decode cX6_sortJobs 147 = .ok (.iinc 3 1, 3) := by decide +kernel
theorem dX6_sortJobs_150 : decode cX6_sortJobs 150 = .ok (.goto (-54), 3) := by decide +kernel
theorem dX6_sortJobs_153 : decode cX6_sortJobs 153 = .ok (.iinc 1 1, 3) := by decide +kernel
theorem dX6_sortJobs_156 : decode cX6_sortJobs 156 = .ok (.goto (-87), 3) := by decide +kernel
theorem dX6_sortJobs_159 : decode cX6_sortJobs 159 = .ok (.return_, 1) := by decide +kernel
theorem dX6_putSorted_0 : decode cX6_putSorted 0 = .ok (.aload_n 0, 1) := by decide +kernel
theorem dX6_putSorted_1 : decode cX6_putSorted 1 = .ok (.getfield 54, 3) := by decide +kernel
theorem dX6_putSorted_4 : decode cX6_putSorted 4 = .ok (.sipush 200, 3) := by decide +kernel
theorem dX6_putSorted_7 : decode cX6_putSorted 7 = .ok (.if_icmp .ge 23, 3) := by decide +kernel
theorem dX6_putSorted_10 : decode cX6_putSorted 10 = .ok (.aload_n 0, 1) := by decide +kernel
theorem dX6_putSorted_11 : decode cX6_putSorted 11 = .ok (.getfield 11, 3) := by decide +kernel
theorem dX6_putSorted_14 : decode cX6_putSorted 14 = .ok (.aload_n 0, 1) := by decide +kernel
theorem dX6_putSorted_15 : decode cX6_putSorted 15 = .ok (.getfield 54, 3) := by decide +kernel
theorem dX6_putSorted_18 : decode cX6_putSorted 18 = .ok (.aload_n 1, 1) := by decide +kernel
theorem dX6_putSorted_19 : decode cX6_putSorted 19 = .ok (.aastore, 1) := by decide +kernel
theorem dX6_putSorted_20 : decode cX6_putSorted 20 = .ok (.aload_n 0, 1) := by decide +kernel
theorem dX6_putSorted_21 : decode cX6_putSorted 21 = .ok (.dup, 1) := by decide +kernel
theorem dX6_putSorted_22 : decode cX6_putSorted 22 = .ok (.getfield 54, 3) := by decide +kernel
theorem dX6_putSorted_25 : decode cX6_putSorted 25 = .ok (.iconst 1, 1) := by decide +kernel
theorem dX6_putSorted_26 : decode cX6_putSorted 26 = .ok (.iadd, 1) := by decide +kernel
theorem dX6_putSorted_27 : decode cX6_putSorted 27 = .ok (.putfield 54, 3) := by decide +kernel
theorem dX6_putSorted_30 : decode cX6_putSorted 30 = .ok (.return_, 1) := by decide +kernel
theorem dX6_reckonHeads_0 : decode cX6_reckonHeads 0 = .ok (.iconst 0, 1) := by decide +kernel
theorem dX6_reckonHeads_1 : decode cX6_reckonHeads 1 = .ok (.istore_n 1, 1) := by decide +kernel
theorem dX6_reckonHeads_2 : decode cX6_reckonHeads 2 = .ok (.iload_n 1, 1) := by decide +kernel
theorem dX6_reckonHeads_3 : decode cX6_reckonHeads 3 = .ok (.aload_n 0, 1) := by decide +kernel
theorem dX6_reckonHeads_4 : decode cX6_reckonHeads 4 = .ok (.getfield 54, 3) := by decide +kernel
theorem dX6_reckonHeads_7 : decode cX6_reckonHeads 7 = .ok (.if_icmp .ge 69, 3) := by decide +kernel
theorem dX6_reckonHeads_10 : decode cX6_reckonHeads 10 = .ok (.aload_n 0, 1) := by decide +kernel
theorem dX6_reckonHeads_11 : decode cX6_reckonHeads 11 = .ok (.getfield 11, 3) := by decide +kernel
theorem dX6_reckonHeads_14 : decode cX6_reckonHeads 14 = .ok (.iload_n 1, 1) := by decide +kernel
theorem dX6_reckonHeads_15 : decode cX6_reckonHeads 15 = .ok (.aaload, 1) := by decide +kernel
theorem dX6_reckonHeads_16 : decode cX6_reckonHeads 16 = .ok (.astore_n 2, 1) := by decide +kernel
theorem dX6_reckonHeads_17 : decode cX6_reckonHeads 17 = .ok (.iconst 0, 1) := by decide +kernel
theorem dX6_reckonHeads_18 : decode cX6_reckonHeads 18 = .ok (.istore_n 3, 1) := by decide +kernel
theorem dX6_reckonHeads_19 : decode cX6_reckonHeads 19 = .ok (.iconst 0, 1) := by decide +kernel
theorem dX6_reckonHeads_20 : decode cX6_reckonHeads 20 = .ok (.istore 4, 2) := by decide +kernel
theorem dX6_reckonHeads_22 : decode cX6_reckonHeads 22 = .ok (.iload 4, 2) := by decide +kernel
theorem dX6_reckonHeads_24 : decode cX6_reckonHeads 24 = .ok (.aload_n 2, 1) := by decide +kernel
theorem dX6_reckonHeads_25 : decode cX6_reckonHeads 25 = .ok (.getfield 65, 3) := by decide +kernel
theorem dX6_reckonHeads_28 : decode cX6_reckonHeads 28 = .ok (.invokevirtual 69, 3) := by decide +kernel
theorem dX6_reckonHeads_31 : decode cX6_reckonHeads 31 = .ok (.if_icmp .ge 29, 3) := by decide +kernel
theorem dX6_reckonHeads_34 : decode cX6_reckonHeads 34 = .ok (.iload_n 3, 1) := by decide +kernel
theorem dX6_reckonHeads_35 : decode cX6_reckonHeads 35 = .ok (.aload_n 2, 1) := by decide +kernel
theorem dX6_reckonHeads_36 : decode cX6_reckonHeads 36 = .ok (.getfield 65, 3) := by decide +kernel
theorem dX6_reckonHeads_39 : decode cX6_reckonHeads 39 = .ok (.iload 4, 2) := by decide +kernel
theorem dX6_reckonHeads_41 : decode cX6_reckonHeads 41 = .ok (.invokevirtual 82, 3) := by decide +kernel
theorem dX6_reckonHeads_44 : decode cX6_reckonHeads 44 = .ok (.checkcast 9, 3) := by decide +kernel
theorem dX6_reckonHeads_47 : decode cX6_reckonHeads 47 = .ok (.getfield 89, 3) := by decide +kernel
theorem dX6_reckonHeads_50 : decode cX6_reckonHeads 50 = .ok (.invokestatic 92, 3) := by decide +kernel
theorem dX6_reckonHeads_53 : decode cX6_reckonHeads 53 = .ok (.istore_n 3, 1) := by decide +kernel
theorem dX6_reckonHeads_54 : decode cX6_reckonHeads 54 = .ok (.iinc 4 1, 3) := by decide +kernel
theorem dX6_reckonHeads_57 : decode cX6_reckonHeads 57 = .ok (.goto (-35), 3) := by decide +kernel
theorem dX6_reckonHeads_60 : decode cX6_reckonHeads 60 = .ok (.aload_n 2, 1) := by decide +kernel
theorem dX6_reckonHeads_61 : decode cX6_reckonHeads 61 = .ok (.aload_n 2, 1) := by decide +kernel
theorem dX6_reckonHeads_62 : decode cX6_reckonHeads 62 = .ok (.getfield 98, 3) := by decide +kernel
theorem dX6_reckonHeads_65 : decode cX6_reckonHeads 65 = .ok (.iload_n 3, 1) := by decide +kernel
theorem dX6_reckonHeads_66 : decode cX6_reckonHeads 66 = .ok (.iadd, 1) := by decide +kernel
theorem dX6_reckonHeads_67 : decode cX6_reckonHeads 67 = .ok (.putfield 89, 3) := by decide +kernel
theorem dX6_reckonHeads_70 : decode cX6_reckonHeads 70 = .ok (.iinc 1 1, 3) := by decide +kernel
theorem dX6_reckonHeads_73 : decode cX6_reckonHeads 73 = .ok (.goto (-71), 3) := by decide +kernel
theorem dX6_reckonHeads_76 : decode cX6_reckonHeads 76 = .ok (.return_, 1) := by decide +kernel
theorem dX6_reckonTails_0 : decode cX6_reckonTails 0 = .ok (.aload_n 0, 1) := by decide +kernel
theorem dX6_reckonTails_1 : decode cX6_reckonTails 1 = .ok (.getfield 54, 3) := by decide +kernel
theorem dX6_reckonTails_4 : decode cX6_reckonTails 4 = .ok (.iconst 1, 1) := by decide +kernel
theorem dX6_reckonTails_5 : decode cX6_reckonTails 5 = .ok (.isub, 1) := by decide +kernel
theorem dX6_reckonTails_6 : decode cX6_reckonTails 6 = .ok (.istore_n 1, 1) := by decide +kernel
theorem dX6_reckonTails_7 : decode cX6_reckonTails 7 = .ok (.iload_n 1, 1) := by decide +kernel
theorem dX6_reckonTails_8 : decode cX6_reckonTails 8 = .ok (.ifCond .lt 69, 3) := by decide +kernel
theorem dX6_reckonTails_11 : decode cX6_reckonTails 11 = .ok (.aload_n 0, 1) := by decide +kernel
theorem dX6_reckonTails_12 : decode cX6_reckonTails 12 = .ok (.getfield 11, 3) := by decide +kernel
theorem dX6_reckonTails_15 : decode cX6_reckonTails 15 = .ok (.iload_n 1, 1) := by decide +kernel
theorem dX6_reckonTails_16 : decode cX6_reckonTails 16 = .ok (.aaload, 1) := by decide +kernel
theorem dX6_reckonTails_17 : decode cX6_reckonTails 17 = .ok (.astore_n 2, 1) := by decide +kernel
theorem dX6_reckonTails_18 : decode cX6_reckonTails 18 = .ok (.iconst 0, 1) := by decide +kernel
theorem dX6_reckonTails_19 : decode cX6_reckonTails 19 = .ok (.istore_n 3, 1) := by decide +kernel
theorem dX6_reckonTails_20 : decode cX6_reckonTails 20 = .ok (.iconst 0, 1) := by decide +kernel
theorem dX6_reckonTails_21 : decode cX6_reckonTails 21 = .ok (.istore 4, 2) := by decide +kernel
theorem dX6_reckonTails_23 : decode cX6_reckonTails 23 = .ok (.iload 4, 2) := by decide +kernel
theorem dX6_reckonTails_25 : decode cX6_reckonTails 25 = .ok (.aload_n 2, 1) := by decide +kernel
theorem dX6_reckonTails_26 : decode cX6_reckonTails 26 = .ok (.getfield 79, 3) := by decide +kernel
theorem dX6_reckonTails_29 : decode cX6_reckonTails 29 = .ok (.invokevirtual 69, 3) := by decide +kernel
theorem dX6_reckonTails_32 : decode cX6_reckonTails 32 = .ok (.if_icmp .ge 29, 3) := by decide +kernel
theorem dX6_reckonTails_35 : decode cX6_reckonTails 35 = .ok (.iload_n 3, 1) := by decide +kernel
theorem dX6_reckonTails_36 : decode cX6_reckonTails 36 = .ok (.aload_n 2, 1) := by decide +kernel
theorem dX6_reckonTails_37 : decode cX6_reckonTails 37 = .ok (.getfield 79, 3) := by decide +kernel
theorem dX6_reckonTails_40 : decode cX6_reckonTails 40 = .ok (.iload 4, 2) := by decide +kernel
theorem dX6_reckonTails_42 : decode cX6_reckonTails 42 = .ok (.invokevirtual 82, 3) := by decide +kernel
theorem dX6_reckonTails_45 : decode cX6_reckonTails 45 = .ok (.checkcast 9, 3) := by decide +kernel
theorem dX6_reckonTails_48 : decode cX6_reckonTails 48 = .ok (.getfield 101, 3) := by decide +kernel
theorem dX6_reckonTails_51 : decode cX6_reckonTails 51 = .ok (.invokestatic 92, 3) := by decide +kernel
theorem dX6_reckonTails_54 : decode cX6_reckonTails 54 = .ok (.istore_n 3, 1) := by decide +kernel
theorem dX6_reckonTails_55 : decode cX6_reckonTails 55 = .ok (.iinc 4 1, 3) := by decide +kernel
theorem dX6_reckonTails_58 : decode cX6_reckonTails 58 = .ok (.goto (-35), 3) := by decide +kernel
theorem dX6_reckonTails_61 : decode cX6_reckonTails 61 = .ok (.aload_n 2, 1) := by decide +kernel
theorem dX6_reckonTails_62 : decode cX6_reckonTails 62 = .ok (.aload_n 2, 1) := by decide +kernel
theorem dX6_reckonTails_63 : decode cX6_reckonTails 63 = .ok (.getfield 98, 3) := by decide +kernel
theorem dX6_reckonTails_66 : decode cX6_reckonTails 66 = .ok (.iload_n 3, 1) := by decide +kernel
theorem dX6_reckonTails_67 : decode cX6_reckonTails 67 = .ok (.iadd, 1) := by decide +kernel
theorem dX6_reckonTails_68 : decode cX6_reckonTails 68 = .ok (.putfield 101, 3) := by decide +kernel
theorem dX6_reckonTails_71 : decode cX6_reckonTails 71 = .ok (.iinc 1 (-1), 3) := by decide +kernel
theorem dX6_reckonTails_74 : decode cX6_reckonTails 74 = .ok (.goto (-67), 3) := by decide +kernel
theorem dX6_reckonTails_77 : decode cX6_reckonTails 77 = .ok (.return_, 1) := by decide +kernel
theorem dX6_followChain_0 : decode cX6_followChain 0 = .ok (.aconst_null, 1) := by decide +kernel
theorem dX6_followChain_1 : decode cX6_followChain 1 = .ok (.astore_n 1, 1) := by decide +kernel
theorem dX6_followChain_2 : decode cX6_followChain 2 = .ok (.iconst 0, 1) := by decide +kernel
theorem dX6_followChain_3 : decode cX6_followChain 3 = .ok (.istore_n 2, 1) := by decide +kernel
theorem dX6_followChain_4 : decode cX6_followChain 4 = .ok (.iload_n 2, 1) := by decide +kernel
theorem dX6_followChain_5 : decode cX6_followChain 5 = .ok (.aload_n 0, 1) := by decide +kernel
theorem dX6_followChain_6 : decode cX6_followChain 6 = .ok (.getfield 24, 3) := by decide +kernel
theorem dX6_followChain_9 : decode cX6_followChain 9 = .ok (.getfield 57, 3) := by decide +kernel
theorem dX6_followChain_12 : decode cX6_followChain 12 = .ok (.if_icmp .ge 23, 3) := by decide +kernel
theorem dX6_followChain_15 : decode cX6_followChain 15 = .ok (.aload_n 1, 1) := by decide +kernel
theorem dX6_followChain_16 : decode cX6_followChain 16 = .ok (.aload_n 0, 1) := by decide +kernel
theorem dX6_followChain_17 : decode cX6_followChain 17 = .ok (.getfield 24, 3) := by decide +kernel
theorem dX6_followChain_20 : decode cX6_followChain 20 = .ok (.getfield 62, 3) := by decide +kernel
theorem dX6_followChain_23 : decode cX6_followChain 23 = .ok (.iload_n 2, 1) := by decide +kernel
theorem dX6_followChain_24 : decode cX6_followChain 24 = .ok (.aaload, 1) := by decide +kernel
theorem dX6_followChain_25 : decode cX6_followChain 25 = .ok (.invokestatic 104, 3) := by decide +kernel
theorem dX6_followChain_28 : decode cX6_followChain 28 = .ok (.astore_n 1, 1) := by decide +kernel
theorem dX6_followChain_29 : decode cX6_followChain 29 = .ok (.iinc 2 1, 3) := by decide +kernel
theorem dX6_followChain_32 : decode cX6_followChain 32 = .ok (.goto (-28), 3) := by decide +kernel
theorem dX6_followChain_35 : decode cX6_followChain 35 = .ok (.aload_n 0, 1) := by decide +kernel
theorem dX6_followChain_36 : decode cX6_followChain 36 = .ok (.aload_n 1, 1) := by decide +kernel
theorem dX6_followChain_37 : decode cX6_followChain 37 = .ok (.ifnonnull 7, 3) := by decide +kernel
theorem dX6_followChain_40 : decode cX6_followChain 40 = .ok (.iconst 0, 1) := by decide +kernel
theorem dX6_followChain_41 : decode cX6_followChain 41 = .ok (.goto 7, 3) := by decide +kernel
theorem dX6_followChain_44 : decode cX6_followChain 44 = .ok (.aload_n 1, 1) := by decide +kernel
theorem dX6_followChain_45 : decode cX6_followChain 45 = .ok (.getfield 101, 3) := by decide +kernel
theorem dX6_followChain_48 : decode cX6_followChain 48 = .ok (.putfield 35, 3) := by decide +kernel
theorem dX6_followChain_51 : decode cX6_followChain 51 = .ok (.aload_n 0, 1) := by decide +kernel
theorem dX6_followChain_52 : decode cX6_followChain 52 = .ok (.iconst 0, 1) := by decide +kernel
theorem dX6_followChain_53 : decode cX6_followChain 53 = .ok (.putfield 31, 3) := by decide +kernel
theorem dX6_followChain_56 : decode cX6_followChain 56 = .ok (.aload_n 1, 1) := by decide +kernel
theorem dX6_followChain_57 : decode cX6_followChain 57 = .ok (.ifnull 41, 3) := by decide +kernel
theorem dX6_followChain_60 : decode cX6_followChain 60 = .ok (.aload_n 0, 1) := by decide +kernel
theorem dX6_followChain_61 : decode cX6_followChain 61 = .ok (.getfield 31, 3) := by decide +kernel
theorem dX6_followChain_64 : decode cX6_followChain 64 = .ok (.sipush 200, 3) := by decide +kernel
theorem dX6_followChain_67 : decode cX6_followChain 67 = .ok (.if_icmp .ge 31, 3) := by decide +kernel
theorem dX6_followChain_70 : decode cX6_followChain 70 = .ok (.aload_n 0, 1) := by decide +kernel
theorem dX6_followChain_71 : decode cX6_followChain 71 = .ok (.getfield 21, 3) := by decide +kernel
theorem dX6_followChain_74 : decode cX6_followChain 74 = .ok (.aload_n 0, 1) := by decide +kernel
theorem dX6_followChain_75 : decode cX6_followChain 75 = .ok (.getfield 31, 3) := by decide +kernel
theorem dX6_followChain_78 : decode cX6_followChain 78 = .ok (.aload_n 1, 1) := by decide +kernel
theorem dX6_followChain_79 : decode cX6_followChain 79 = .ok (.aastore, 1) := by decide +kernel
theorem dX6_followChain_80 : decode cX6_followChain 80 = .ok (.aload_n 0, 1) := by decide +kernel
theorem dX6_followChain_81 : decode cX6_followChain 81 = .ok (.dup, 1) := by decide +kernel
theorem dX6_followChain_82 : decode cX6_followChain 82 = .ok (.getfield 31, 3) := by decide +kernel
theorem dX6_followChain_85 : decode cX6_followChain 85 = .ok (.iconst 1, 1) := by decide +kernel
theorem dX6_followChain_86 : decode cX6_followChain 86 = .ok (.iadd, 1) := by decide +kernel
theorem dX6_followChain_87 : decode cX6_followChain 87 = .ok (.putfield 31, 3) := by decide +kernel
theorem dX6_followChain_90 : decode cX6_followChain 90 = .ok (.aload_n 1, 1) := by decide +kernel
theorem dX6_followChain_91 : decode cX6_followChain 91 = .ok (.invokestatic 108, 3) := by decide +kernel
theorem dX6_followChain_94 : decode cX6_followChain 94 = .ok (.astore_n 1, 1) := by decide +kernel
theorem dX6_followChain_95 : decode cX6_followChain 95 = .ok (.goto (-39), 3) := by decide +kernel
theorem dX6_followChain_98 : decode cX6_followChain 98 = .ok (.return_, 1) := by decide +kernel
theorem dX6_longestBehind_0 : decode cX6_longestBehind 0 = .ok (.aconst_null, 1) := by decide +kernel
theorem dX6_longestBehind_1 : decode cX6_longestBehind 1 = .ok (.astore_n 1, 1) := by decide +kernel
theorem dX6_longestBehind_2 : decode cX6_longestBehind 2 = .ok (.iconst 0, 1) := by decide +kernel
theorem dX6_longestBehind_3 : decode cX6_longestBehind 3 = .ok (.istore_n 2, 1) := by decide +kernel
theorem dX6_longestBehind_4 : decode cX6_longestBehind 4 = .ok (.iload_n 2, 1) := by decide +kernel
theorem dX6_longestBehind_5 : decode cX6_longestBehind 5 = .ok (.aload_n 0, 1) := by decide +kernel
theorem dX6_longestBehind_6 : decode cX6_longestBehind 6 = .ok (.getfield 79, 3) := by decide +kernel
theorem dX6_longestBehind_9 : decode cX6_longestBehind 9 = .ok (.invokevirtual 69, 3) := by decide +kernel
theorem dX6_longestBehind_12 : decode cX6_longestBehind 12 = .ok (.if_icmp .ge 25, 3) := by decide +kernel
theorem dX6_longestBehind_15 : decode cX6_longestBehind 15 = .ok (.aload_n 1, 1) := by decide +kernel
theorem dX6_longestBehind_16 : decode cX6_longestBehind 16 = .ok (.aload_n 0, 1) := by decide +kernel
theorem dX6_longestBehind_17 : decode cX6_longestBehind 17 = .ok (.getfield 79, 3) := by decide +kernel
theorem dX6_longestBehind_20 : decode cX6_longestBehind 20 = .ok (.iload_n 2, 1) := by decide +kernel
theorem dX6_longestBehind_21 : decode cX6_longestBehind 21 = .ok (.invokevirtual 82, 3) := by decide +kernel
theorem dX6_longestBehind_24 : decode cX6_longestBehind 24 = .ok (.checkcast 9, 3) := by decide +kernel
theorem dX6_longestBehind_27 : decode cX6_longestBehind 27 = .ok (.invokestatic 104, 3) := by decide +kernel
theorem dX6_longestBehind_30 : decode cX6_longestBehind 30 = .ok (.astore_n 1, 1) := by decide +kernel
theorem dX6_longestBehind_31 : decode cX6_longestBehind 31 = .ok (.iinc 2 1, 3) := by decide +kernel
theorem dX6_longestBehind_34 : decode cX6_longestBehind 34 = .ok (.goto (-30), 3) := by decide +kernel
theorem dX6_longestBehind_37 : decode cX6_longestBehind 37 = .ok (.aload_n 1, 1) := by decide +kernel
theorem dX6_longestBehind_38 : decode cX6_longestBehind 38 = .ok (.areturn, 1) := by decide +kernel
theorem dX6_longerOf_0 : decode cX6_longerOf 0 = .ok (.aload_n 0, 1) := by decide +kernel
theorem dX6_longerOf_1 : decode cX6_longerOf 1 = .ok (.ifnull 14, 3) := by decide +kernel
theorem dX6_longerOf_4 : decode cX6_longerOf 4 = .ok (.aload_n 1, 1) := by decide +kernel
theorem dX6_longerOf_5 : decode cX6_longerOf 5 = .ok (.getfield 101, 3) := by decide +kernel
theorem dX6_longerOf_8 : decode cX6_longerOf 8 = .ok (.aload_n 0, 1) := by decide +kernel
theorem dX6_longerOf_9 : decode cX6_longerOf 9 = .ok (.getfield 101, 3) := by decide +kernel
theorem dX6_longerOf_12 : decode cX6_longerOf 12 = .ok (.if_icmp .le 5, 3) := by decide +kernel
theorem dX6_longerOf_15 : decode cX6_longerOf 15 = .ok (.aload_n 1, 1) := by decide +kernel
theorem dX6_longerOf_16 : decode cX6_longerOf 16 = .ok (.areturn, 1) := by decide +kernel
theorem dX6_longerOf_17 : decode cX6_longerOf 17 = .ok (.aload_n 1, 1) := by decide +kernel
theorem dX6_longerOf_18 : decode cX6_longerOf 18 = .ok (.getfield 101, 3) := by decide +kernel
theorem dX6_longerOf_21 : decode cX6_longerOf 21 = .ok (.aload_n 0, 1) := by decide +kernel
theorem dX6_longerOf_22 : decode cX6_longerOf 22 = .ok (.getfield 101, 3) := by decide +kernel
theorem dX6_longerOf_25 : decode cX6_longerOf 25 = .ok (.if_icmp .ne 18, 3) := by decide +kernel
theorem dX6_longerOf_28 : decode cX6_longerOf 28 = .ok (.aload_n 1, 1) := by decide +kernel
theorem dX6_longerOf_29 : decode cX6_longerOf 29 = .ok (.getfield 86, 3) := by decide +kernel
theorem dX6_longerOf_32 : decode cX6_longerOf 32 = .ok (.aload_n 0, 1) := by decide +kernel
theorem dX6_longerOf_33 : decode cX6_longerOf 33 = .ok (.getfield 86, 3) := by decide +kernel
theorem dX6_longerOf_36 : decode cX6_longerOf 36 = .ok (.if_icmp .ge 7, 3) := by decide +kernel
theorem dX6_longerOf_39 : decode cX6_longerOf 39 = .ok (.aload_n 1, 1) := by decide +kernel
theorem dX6_longerOf_40 : decode cX6_longerOf 40 = .ok (.goto 4, 3) := by decide +kernel
theorem dX6_longerOf_43 : decode cX6_longerOf 43 = .ok (.aload_n 0, 1) := by decide +kernel
theorem dX6_longerOf_44 : decode cX6_longerOf 44 = .ok (.areturn, 1) := by decide +kernel
theorem dX7_init_0 : decode cX7_init 0 = .ok (.aload_n 0, 1) := by decide +kernel
theorem dX7_init_1 : decode cX7_init 1 = .ok (.invokespecial 3, 3) := by decide +kernel
theorem dX7_init_4 : decode cX7_init 4 = .ok (.aload_n 0, 1) := by decide +kernel
theorem dX7_init_5 : decode cX7_init 5 = .ok (.iconst 0, 1) := by decide +kernel
theorem dX7_init_6 : decode cX7_init 6 = .ok (.putfield 11, 3) := by decide +kernel
theorem dX7_init_9 : decode cX7_init 9 = .ok (.aload_n 0, 1) := by decide +kernel
theorem dX7_init_10 : decode cX7_init 10 = .ok (.bipush 30, 2) := by decide +kernel
theorem dX7_init_12 : decode cX7_init 12 = .ok (.newarray .int, 2) := by decide +kernel
theorem dX7_init_14 : decode cX7_init 14 = .ok (.putfield 15, 3) := by decide +kernel
theorem dX7_init_17 : decode cX7_init 17 = .ok (.return_, 1) := by decide +kernel
theorem dX7_fault_0 : decode cX7_fault 0 = .ok (.aload_n 0, 1) := by decide +kernel
theorem dX7_fault_1 : decode cX7_fault 1 = .ok (.getfield 11, 3) := by decide +kernel
theorem dX7_fault_4 : decode cX7_fault 4 = .ok (.ifCond .ne 5, 3) := by decide +kernel
theorem dX7_fault_7 : decode cX7_fault 7 = .ok (.iconst 0, 1) := by decide +kernel
theorem dX7_fault_8 : decode cX7_fault 8 = .ok (.ireturn, 1) := by decide +kernel
theorem dX7_fault_9 : decode cX7_fault 9 = .ok (.aload_n 0, 1) := by decide +kernel
theorem dX7_fault_10 : decode cX7_fault 10 = .ok (.getfield 19, 3) := by decide +kernel
theorem dX7_fault_13 : decode cX7_fault 13 = .ok (.ifCond .ne 6, 3) := by decide +kernel
theorem dX7_fault_16 : decode cX7_fault 16 = .ok (.bipush 13, 2) := by decide +kernel
theorem dX7_fault_18 : decode cX7_fault 18 = .ok (.ireturn, 1) := by decide +kernel
theorem dX7_fault_19 : decode cX7_fault 19 = .ok (.aload_n 0, 1) := by decide +kernel
theorem dX7_fault_20 : decode cX7_fault 20 = .ok (.getfield 11, 3) := by decide +kernel
theorem dX7_fault_23 : decode cX7_fault 23 = .ok (.tableswitch 67 1 5 #[33, 38, 43, 48, 53], 33) := by decide +kernel
theorem dX7_fault_56 : decode cX7_fault 56 = .ok (.aload_n 0, 1) := by decide +kernel
theorem dX7_fault_57 : decode cX7_fault 57 = .ok (.invokevirtual 22, 3) := by decide +kernel
theorem dX7_fault_60 : decode cX7_fault 60 = .ok (.ireturn, 1) := by decide +kernel
theorem dX7_fault_61 : decode cX7_fault 61 = .ok (.aload_n 0, 1) := by decide +kernel
theorem dX7_fault_62 : decode cX7_fault 62 = .ok (.invokevirtual 26, 3) := by decide +kernel
theorem dX7_fault_65 : decode cX7_fault 65 = .ok (.ireturn, 1) := by decide +kernel
theorem dX7_fault_66 : decode cX7_fault 66 = .ok (.aload_n 0, 1) := by decide +kernel
theorem dX7_fault_67 : decode cX7_fault 67 = .ok (.invokevirtual 26, 3) := by decide +kernel
theorem dX7_fault_70 : decode cX7_fault 70 = .ok (.ireturn, 1) := by decide +kernel
theorem dX7_fault_71 : decode cX7_fault 71 = .ok (.aload_n 0, 1) := by decide +kernel
theorem dX7_fault_72 : decode cX7_fault 72 = .ok (.invokevirtual 29, 3) := by decide +kernel
theorem dX7_fault_75 : decode cX7_fault 75 = .ok (.ireturn, 1) := by decide +kernel
theorem dX7_fault_76 : decode cX7_fault 76 = .ok (.aload_n 0, 1) := by decide +kernel
theorem dX7_fault_77 : decode cX7_fault 77 = .ok (.invokevirtual 32, 3) := by decide +kernel
theorem dX7_fault_80 : decode cX7_fault 80 = .ok (.ifCond .eq 8, 3) := by decide +kernel
theorem dX7_fault_83 : decode cX7_fault 83 = .ok (.bipush 21, 2) := by decide +kernel
theorem dX7_fault_85 : decode cX7_fault 85 = .ok (.goto 4, 3) := by decide +kernel
theorem dX7_fault_88 : decode cX7_fault 88 = .ok (.iconst 0, 1) := by decide +kernel
theorem dX7_fault_89 : decode cX7_fault 89 = .ok (.ireturn, 1) := by decide +kernel
theorem dX7_fault_90 : decode cX7_fault 90 = .ok (.iconst 0, 1) := by decide +kernel
theorem dX7_fault_91 : decode cX7_fault 91 = .ok (.ireturn, 1) := by decide +kernel
theorem dX7_sum_0 : decode cX7_sum 0 = .ok (.lconst 0, 1) := by decide +kernel
theorem dX7_sum_1 : decode cX7_sum 1 = .ok (.lstore_n 1, 1) := by decide +kernel
theorem dX7_sum_2 : decode cX7_sum 2 = .ok (.iconst 0, 1) := by decide +kernel
theorem dX7_sum_3 : decode cX7_sum 3 = .ok (.istore_n 3, 1) := by decide +kernel
theorem dX7_sum_4 : decode cX7_sum 4 = .ok (.iload_n 3, 1) := by decide +kernel
theorem dX7_sum_5 : decode cX7_sum 5 = .ok (.aload_n 0, 1) := by decide +kernel
theorem dX7_sum_6 : decode cX7_sum 6 = .ok (.getfield 19, 3) := by decide +kernel
theorem dX7_sum_9 : decode cX7_sum 9 = .ok (.if_icmp .ge 19, 3) := by decide +kernel
theorem dX7_sum_12 : decode cX7_sum 12 = .ok (.lload_n 1, 1) := by decide +kernel
theorem dX7_sum_13 : decode cX7_sum 13 = .ok (.aload_n 0, 1) := by decide +kernel
theorem dX7_sum_14 : decode cX7_sum 14 = .ok (.getfield 15, 3) := by decide +kernel
theorem dX7_sum_17 : decode cX7_sum 17 = .ok (.iload_n 3, 1) := by decide +kernel
theorem dX7_sum_18 : decode cX7_sum 18 = .ok (.iaload, 1) := by decide +kernel
theorem dX7_sum_19 : decode cX7_sum 19 = .ok (.i2l, 1) := by decide +kernel
theorem dX7_sum_20 : decode cX7_sum 20 = .ok (.ladd, 1) := by decide +kernel
theorem dX7_sum_21 : decode cX7_sum 21 = .ok (.lstore_n 1, 1) := by decide +kernel
theorem dX7_sum_22 : decode cX7_sum 22 = .ok (.iinc 3 1, 3) := by decide +kernel
theorem dX7_sum_25 : decode cX7_sum 25 = .ok (.goto (-21), 3) := by decide +kernel
theorem dX7_sum_28 : decode cX7_sum 28 = .ok (.lload_n 1, 1) := by decide +kernel
theorem dX7_sum_29 : decode cX7_sum 29 = .ok (.lreturn, 1) := by decide +kernel
theorem dX7_faultOfCut_0 : decode cX7_faultOfCut 0 = .ok (.aload_n 0, 1) := by decide +kernel
theorem dX7_faultOfCut_1 : decode cX7_faultOfCut 1 = .ok (.getfield 36, 3) := by decide +kernel
theorem dX7_faultOfCut_4 : decode cX7_faultOfCut 4 = .ok (.ifCond .ge 6, 3) := by decide +kernel
theorem dX7_faultOfCut_7 : decode cX7_faultOfCut 7 = .ok (.bipush 20, 2) := by decide +kernel
theorem dX7_faultOfCut_9 : decode cX7_faultOfCut 9 = .ok (.ireturn, 1) := by decide +kernel
theorem dX7_faultOfCut_10 : decode cX7_faultOfCut 10 = .ok (.iconst 0, 1) := by decide +kernel
theorem dX7_faultOfCut_11 : decode cX7_faultOfCut 11 = .ok (.istore_n 1, 1) := by decide +kernel
theorem dX7_faultOfCut_12 : decode cX7_faultOfCut 12 = .ok (.iload_n 1, 1) := by decide +kernel
theorem dX7_faultOfCut_13 : decode cX7_faultOfCut 13 = .ok (.aload_n 0, 1) := by decide +kernel
theorem dX7_faultOfCut_14 : decode cX7_faultOfCut 14 = .ok (.getfield 19, 3) := by decide +kernel
theorem dX7_faultOfCut_17 : decode cX7_faultOfCut 17 = .ok (.if_icmp .ge 35, 3) := by decide +kernel
theorem dX7_faultOfCut_20 : decode cX7_faultOfCut 20 = .ok (.aload_n 0, 1) := by decide +kernel
theorem dX7_faultOfCut_21 : decode cX7_faultOfCut 21 = .ok (.getfield 15, 3) := by decide +kernel
theorem dX7_faultOfCut_24 : decode cX7_faultOfCut 24 = .ok (.iload_n 1, 1) := by decide +kernel
theorem dX7_faultOfCut_25 : decode cX7_faultOfCut 25 = .ok (.iaload, 1) := by decide +kernel
theorem dX7_faultOfCut_26 : decode cX7_faultOfCut 26 = .ok (.iconst 1, 1) := by decide +kernel
theorem dX7_faultOfCut_27 : decode cX7_faultOfCut 27 = .ok (.if_icmp .lt 16, 3) := by decide +kernel
theorem dX7_faultOfCut_30 : decode cX7_faultOfCut 30 = .ok (.aload_n 0, 1) := by decide +kernel
theorem dX7_faultOfCut_31 : decode cX7_faultOfCut 31 = .ok (.getfield 15, 3) := by decide +kernel
theorem dX7_faultOfCut_34 : decode cX7_faultOfCut 34 = .ok (.iload_n 1, 1) := by decide +kernel
theorem dX7_faultOfCut_35 : decode cX7_faultOfCut 35 = .ok (.iaload, 1) := by decide +kernel
theorem dX7_faultOfCut_36 : decode cX7_faultOfCut 36 = .ok (.aload_n 0, 1) := by decide +kernel
theorem dX7_faultOfCut_37 : decode cX7_faultOfCut 37 = .ok (.getfield 39, 3) := by decide +kernel
theorem dX7_faultOfCut_40 : decode cX7_faultOfCut 40 = .ok (.if_icmp .le 6, 3) := by decide +kernel
theorem dX7_faultOfCut_43 : decode cX7_faultOfCut 43 = .ok (.bipush 20, 2) := by decide +kernel
theorem dX7_faultOfCut_45 : decode cX7_faultOfCut 45 = .ok (.ireturn, 1) := by decide +kernel
theorem dX7_faultOfCut_46 : decode cX7_faultOfCut 46 = .ok (.iinc 1 1, 3) := by decide +kernel
theorem dX7_faultOfCut_49 : decode cX7_faultOfCut 49 = .ok (.goto (-37), 3) := by decide +kernel
theorem dX7_faultOfCut_52 : decode cX7_faultOfCut 52 = .ok (.iconst 0, 1) := by decide +kernel
theorem dX7_faultOfCut_53 : decode cX7_faultOfCut 53 = .ok (.ireturn, 1) := by decide +kernel
theorem dX7_faultOfShares_0 : decode cX7_faultOfShares 0 = .ok (.aload_n 0, 1) := by decide +kernel
theorem dX7_faultOfShares_1 : decode cX7_faultOfShares 1 = .ok (.invokevirtual 32, 3) := by decide +kernel
theorem dX7_faultOfShares_4 : decode cX7_faultOfShares 4 = .ok (.ifCond .eq 6, 3) := by decide +kernel
theorem dX7_faultOfShares_7 : decode cX7_faultOfShares 7 = .ok (.bipush 21, 2) := by decide +kernel
theorem dX7_faultOfShares_9 : decode cX7_faultOfShares 9 = .ok (.ireturn, 1) := by decide +kernel
theorem dX7_faultOfShares_10 : decode cX7_faultOfShares 10 = .ok (.aload_n 0, 1) := by decide +kernel
theorem dX7_faultOfShares_11 : decode cX7_faultOfShares 11 = .ok (.invokevirtual 42, 3) := by decide +kernel
theorem dX7_faultOfShares_14 : decode cX7_faultOfShares 14 = .ok (.lconst 0, 1) := by decide +kernel
theorem dX7_faultOfShares_15 : decode cX7_faultOfShares 15 = .ok (.lcmp, 1) := by decide +kernel
theorem dX7_faultOfShares_16 : decode cX7_faultOfShares 16 = .ok (.ifCond .ne 6, 3) := by decide +kernel
theorem dX7_faultOfShares_19 : decode cX7_faultOfShares 19 = .ok (.bipush 11, 2) := by decide +kernel
theorem dX7_faultOfShares_21 : decode cX7_faultOfShares 21 = .ok (.ireturn, 1) := by decide +kernel
theorem dX7_faultOfShares_22 : decode cX7_faultOfShares 22 = .ok (.aload_n 0, 1) := by decide +kernel
theorem dX7_faultOfShares_23 : decode cX7_faultOfShares 23 = .ok (.getfield 11, 3) := by decide +kernel
theorem dX7_faultOfShares_26 : decode cX7_faultOfShares 26 = .ok (.iconst 3, 1) := by decide +kernel
theorem dX7_faultOfShares_27 : decode cX7_faultOfShares 27 = .ok (.if_icmp .ne 26, 3) := by decide +kernel
theorem dX7_faultOfShares_30 : decode cX7_faultOfShares 30 = .ok (.aload_n 0, 1) := by decide +kernel
theorem dX7_faultOfShares_31 : decode cX7_faultOfShares 31 = .ok (.getfield 36, 3) := by decide +kernel
theorem dX7_faultOfShares_34 : decode cX7_faultOfShares 34 = .ok (.ifCond .lt 14, 3) := by decide +kernel
theorem dX7_faultOfShares_37 : decode cX7_faultOfShares 37 = .ok (.aload_n 0, 1) := by decide +kernel
theorem dX7_faultOfShares_38 : decode cX7_faultOfShares 38 = .ok (.getfield 36, 3) := by decide +kernel
theorem dX7_faultOfShares_41 : decode cX7_faultOfShares 41 = .ok (.aload_n 0, 1) := by decide +kernel
theorem dX7_faultOfShares_42 : decode cX7_faultOfShares 42 = .ok (.getfield 19, 3) := by decide +kernel
theorem dX7_faultOfShares_45 : decode cX7_faultOfShares 45 = .ok (.if_icmp .lt 8, 3) := by decide +kernel
theorem dX7_faultOfShares_48 : decode cX7_faultOfShares 48 = .ok (.bipush 12, 2) := by decide +kernel
theorem dX7_faultOfShares_50 : decode cX7_faultOfShares 50 = .ok (.goto 4, 3) := by decide +kernel
theorem dX7_faultOfShares_53 : decode cX7_faultOfShares 53 = .ok (.iconst 0, 1) := by decide +kernel
theorem dX7_faultOfShares_54 : decode cX7_faultOfShares 54 = .ok (.ireturn, 1) := by decide +kernel
theorem dX7_faultOfPairs_0 : decode cX7_faultOfPairs 0 = .ok (.iconst 0, 1) := by decide +kernel
theorem dX7_faultOfPairs_1 : decode cX7_faultOfPairs 1 = .ok (.istore_n 1, 1) := by decide +kernel
theorem dX7_faultOfPairs_2 : decode cX7_faultOfPairs 2 = .ok (.iload_n 1, 1) := by decide +kernel
theorem dX7_faultOfPairs_3 : decode cX7_faultOfPairs 3 = .ok (.aload_n 0, 1) := by decide +kernel
theorem dX7_faultOfPairs_4 : decode cX7_faultOfPairs 4 = .ok (.getfield 19, 3) := by decide +kernel
theorem dX7_faultOfPairs_7 : decode cX7_faultOfPairs 7 = .ok (.if_icmp .ge 71, 3) := by decide +kernel
theorem dX7_faultOfPairs_10 : decode cX7_faultOfPairs 10 = .ok (.iload_n 1, 1) := by decide +kernel
theorem dX7_faultOfPairs_11 : decode cX7_faultOfPairs 11 = .ok (.iconst 1, 1) := by decide +kernel
theorem dX7_faultOfPairs_12 : decode cX7_faultOfPairs 12 = .ok (.iadd, 1) := by decide +kernel
theorem dX7_faultOfPairs_13 : decode cX7_faultOfPairs 13 = .ok (.aload_n 0, 1) := by decide +kernel
theorem dX7_faultOfPairs_14 : decode cX7_faultOfPairs 14 = .ok (.getfield 19, 3) := by decide +kernel
theorem dX7_faultOfPairs_17 : decode cX7_faultOfPairs 17 = .ok (.if_icmp .ge 15, 3) := by decide +kernel
theorem dX7_faultOfPairs_20 : decode cX7_faultOfPairs 20 = .ok (.aload_n 0, 1) := by decide +kernel
theorem dX7_faultOfPairs_21 : decode cX7_faultOfPairs 21 = .ok (.getfield 15, 3) := by decide +kernel
theorem dX7_faultOfPairs_24 : decode cX7_faultOfPairs 24 = .ok (.iload_n 1, 1) := by decide +kernel
theorem dX7_faultOfPairs_25 : decode cX7_faultOfPairs 25 = .ok (.iconst 1, 1) := by decide +kernel
theorem dX7_faultOfPairs_26 : decode cX7_faultOfPairs 26 = .ok (.iadd, 1) := by decide +kernel
theorem dX7_faultOfPairs_27 : decode cX7_faultOfPairs 27 = .ok (.iaload, 1) := by decide +kernel
theorem dX7_faultOfPairs_28 : decode cX7_faultOfPairs 28 = .ok (.i2l, 1) := by decide +kernel
theorem dX7_faultOfPairs_29 : decode cX7_faultOfPairs 29 = .ok (.goto 10, 3) := by decide +kernel
theorem dX7_faultOfPairs_32 : decode cX7_faultOfPairs 32 = .ok (.aload_n 0, 1) := by decide +kernel
theorem dX7_faultOfPairs_33 : decode cX7_faultOfPairs 33 = .ok (.getfield 15, 3) := by decide +kernel
theorem dX7_faultOfPairs_36 : decode cX7_faultOfPairs 36 = .ok (.iload_n 1, 1) := by decide +kernel
theorem dX7_faultOfPairs_37 : decode cX7_faultOfPairs 37 = .ok (.iaload, 1) := by decide +kernel
theorem dX7_faultOfPairs_38 : decode cX7_faultOfPairs 38 = .ok (.i2l, 1) := by decide +kernel
theorem dX7_faultOfPairs_39 : decode cX7_faultOfPairs 39 = .ok (.lstore_n 2, 1) := by decide +kernel
theorem dX7_faultOfPairs_40 : decode cX7_faultOfPairs 40 = .ok (.lload_n 2, 1) := by decide +kernel
theorem dX7_faultOfPairs_41 : decode cX7_faultOfPairs 41 = .ok (.aload_n 0, 1) := by decide +kernel
theorem dX7_faultOfPairs_42 : decode cX7_faultOfPairs 42 = .ok (.getfield 15, 3) := by decide +kernel
theorem dX7_faultOfPairs_45 : decode cX7_faultOfPairs 45 = .ok (.iload_n 1, 1) := by decide +kernel
theorem dX7_faultOfPairs_46 : decode cX7_faultOfPairs 46 = .ok (.iaload, 1) := by decide +kernel
theorem dX7_faultOfPairs_47 : decode cX7_faultOfPairs 47 = .ok (.i2l, 1) := by decide +kernel
theorem dX7_faultOfPairs_48 : decode cX7_faultOfPairs 48 = .ok (.lsub, 1) := by decide +kernel
theorem dX7_faultOfPairs_49 : decode cX7_faultOfPairs 49 = .ok (.lstore 4, 2) := by decide +kernel
theorem dX7_faultOfPairs_51 : decode cX7_faultOfPairs 51 = .ok (.lload 4, 2) := by decide +kernel
theorem dX7_faultOfPairs_53 : decode cX7_faultOfPairs 53 = .ok (.lconst 0, 1) := by decide +kernel
theorem dX7_faultOfPairs_54 : decode cX7_faultOfPairs 54 = .ok (.lcmp, 1) := by decide +kernel
theorem dX7_faultOfPairs_55 : decode cX7_faultOfPairs 55 = .ok (.ifCond .lt 14, 3) := by decide +kernel
theorem dX7_faultOfPairs_58 : decode cX7_faultOfPairs 58 = .ok (.lload 4, 2) := by decide +kernel
theorem dX7_faultOfPairs_60 : decode cX7_faultOfPairs 60 = .ok (.aload_n 0, 1) := by decide +kernel
theorem dX7_faultOfPairs_61 : decode cX7_faultOfPairs 61 = .ok (.getfield 39, 3) := by decide +kernel
theorem dX7_faultOfPairs_64 : decode cX7_faultOfPairs 64 = .ok (.i2l, 1) := by decide +kernel
theorem dX7_faultOfPairs_65 : decode cX7_faultOfPairs 65 = .ok (.lcmp, 1) := by decide +kernel
theorem dX7_faultOfPairs_66 : decode cX7_faultOfPairs 66 = .ok (.ifCond .le 6, 3) := by decide +kernel
theorem dX7_faultOfPairs_69 : decode cX7_faultOfPairs 69 = .ok (.bipush 22, 2) := by decide +kernel
theorem dX7_faultOfPairs_71 : decode cX7_faultOfPairs 71 = .ok (.ireturn, 1) := by decide +kernel
theorem dX7_faultOfPairs_72 : decode cX7_faultOfPairs 72 = .ok (.iinc 1 2, 3) := by decide +kernel
theorem dX7_faultOfPairs_75 : decode cX7_faultOfPairs 75 = .ok (.goto (-73), 3) := by decide +kernel
theorem dX7_faultOfPairs_78 : decode cX7_faultOfPairs 78 = .ok (.iconst 0, 1) := by decide +kernel
theorem dX7_faultOfPairs_79 : decode cX7_faultOfPairs 79 = .ok (.ireturn, 1) := by decide +kernel
theorem dX7_isBelowZero_0 : decode cX7_isBelowZero 0 = .ok (.aload_n 0, 1) := by decide +kernel
theorem dX7_isBelowZero_1 : decode cX7_isBelowZero 1 = .ok (.getfield 39, 3) := by decide +kernel
theorem dX7_isBelowZero_4 : decode cX7_isBelowZero 4 = .ok (.ifCond .ge 5, 3) := by decide +kernel
theorem dX7_isBelowZero_7 : decode cX7_isBelowZero 7 = .ok (.iconst 1, 1) := by decide +kernel
theorem dX7_isBelowZero_8 : decode cX7_isBelowZero 8 = .ok (.ireturn, 1) := by decide +kernel
theorem dX7_isBelowZero_9 : decode cX7_isBelowZero 9 = .ok (.iconst 0, 1) := by decide +kernel
theorem dX7_isBelowZero_10 : decode cX7_isBelowZero 10 = .ok (.istore_n 1, 1) := by decide +kernel
theorem dX7_isBelowZero_11 : decode cX7_isBelowZero 11 = .ok (.iload_n 1, 1) := by decide +kernel
theorem dX7_isBelowZero_12 : decode cX7_isBelowZero 12 = .ok (.aload_n 0, 1) := by decide +kernel
theorem dX7_isBelowZero_13 : decode cX7_isBelowZero 13 = .ok (.getfield 19, 3) := by decide +kernel
theorem dX7_isBelowZero_16 : decode cX7_isBelowZero 16 = .ok (.if_icmp .ge 20, 3) := by decide +kernel
theorem dX7_isBelowZero_19 : decode cX7_isBelowZero 19 = .ok (.aload_n 0, 1) := by decide +kernel
theorem dX7_isBelowZero_20 : decode cX7_isBelowZero 20 = .ok (.getfield 15, 3) := by decide +kernel
theorem dX7_isBelowZero_23 : decode cX7_isBelowZero 23 = .ok (.iload_n 1, 1) := by decide +kernel
theorem dX7_isBelowZero_24 : decode cX7_isBelowZero 24 = .ok (.iaload, 1) := by decide +kernel
theorem dX7_isBelowZero_25 : decode cX7_isBelowZero 25 = .ok (.ifCond .ge 5, 3) := by decide +kernel
theorem dX7_isBelowZero_28 : decode cX7_isBelowZero 28 = .ok (.iconst 1, 1) := by decide +kernel
theorem dX7_isBelowZero_29 : decode cX7_isBelowZero 29 = .ok (.ireturn, 1) := by decide +kernel
theorem dX7_isBelowZero_30 : decode cX7_isBelowZero 30 = .ok (.iinc 1 1, 3) := by decide +kernel
theorem dX7_isBelowZero_33 : decode cX7_isBelowZero 33 = .ok (.goto (-22), 3) := by decide +kernel
theorem dX7_isBelowZero_36 : decode cX7_isBelowZero 36 = .ok (.iconst 0, 1) := by decide +kernel
theorem dX7_isBelowZero_37 : decode cX7_isBelowZero 37 = .ok (.ireturn, 1) := by decide +kernel
theorem dX8_init_0 : decode cX8_init 0 = .ok (.aload_n 0, 1) := by decide +kernel
theorem dX8_init_1 : decode cX8_init 1 = .ok (.invokespecial 3, 3) := by decide +kernel
theorem dX8_init_4 : decode cX8_init 4 = .ok (.aload_n 0, 1) := by decide +kernel
theorem dX8_init_5 : decode cX8_init 5 = .ok (.bipush 60, 2) := by decide +kernel
theorem dX8_init_7 : decode cX8_init 7 = .ok (.newarray .long, 2) := by decide +kernel
theorem dX8_init_9 : decode cX8_init 9 = .ok (.putfield 9, 3) := by decide +kernel
theorem dX8_init_12 : decode cX8_init 12 = .ok (.aload_n 0, 1) := by decide +kernel
theorem dX8_init_13 : decode cX8_init 13 = .ok (.bipush 60, 2) := by decide +kernel
theorem dX8_init_15 : decode cX8_init 15 = .ok (.newarray .long, 2) := by decide +kernel
theorem dX8_init_17 : decode cX8_init 17 = .ok (.putfield 15, 3) := by decide +kernel
theorem dX8_init_20 : decode cX8_init 20 = .ok (.aload_n 0, 1) := by decide +kernel
theorem dX8_init_21 : decode cX8_init 21 = .ok (.bipush 40, 2) := by decide +kernel
theorem dX8_init_23 : decode cX8_init 23 = .ok (.newarray .int, 2) := by decide +kernel
theorem dX8_init_25 : decode cX8_init 25 = .ok (.putfield 18, 3) := by decide +kernel
theorem dX8_init_28 : decode cX8_init 28 = .ok (.aload_n 0, 1) := by decide +kernel
theorem dX8_init_29 : decode cX8_init 29 = .ok (.bipush 32, 2) := by decide +kernel
theorem dX8_init_31 : decode cX8_init 31 = .ok (.anewarray 22, 3) := by decide +kernel
theorem dX8_init_34 : decode cX8_init 34 = .ok (.putfield 24, 3) := by decide +kernel
theorem dX8_init_37 : decode cX8_init 37 = .ok (.aload_n 0, 1) := by decide +kernel
theorem dX8_init_38 : decode cX8_init 38 = .ok (.sipush 200, 3) := by decide +kernel
theorem dX8_init_41 : decode cX8_init 41 = .ok (.anewarray 22, 3) := by decide +kernel
theorem dX8_init_44 : decode cX8_init 44 = .ok (.putfield 28, 3) := by decide +kernel
theorem dX8_init_47 : decode cX8_init 47 = .ok (.aload_n 0, 1) := by decide +kernel
theorem dX8_init_48 : decode cX8_init 48 = .ok (.new 31, 3) := by decide +kernel
theorem dX8_init_51 : decode cX8_init 51 = .ok (.dup, 1) := by decide +kernel
theorem dX8_init_52 : decode cX8_init 52 = .ok (.invokespecial 33, 3) := by decide +kernel
theorem dX8_init_55 : decode cX8_init 55 = .ok (.putfield 34, 3) := by decide +kernel
theorem dX8_init_58 : decode cX8_init 58 = .ok (.aload_n 0, 1) := by decide +kernel
theorem dX8_init_59 : decode cX8_init 59 = .ok (.new 38, 3) := by decide +kernel
theorem dX8_init_62 : decode cX8_init 62 = .ok (.dup, 1) := by decide +kernel
theorem dX8_init_63 : decode cX8_init 63 = .ok (.invokespecial 40, 3) := by decide +kernel
theorem dX8_init_66 : decode cX8_init 66 = .ok (.putfield 41, 3) := by decide +kernel
theorem dX8_init_69 : decode cX8_init 69 = .ok (.aload_n 0, 1) := by decide +kernel
theorem dX8_init_70 : decode cX8_init 70 = .ok (.aload_n 1, 1) := by decide +kernel
theorem dX8_init_71 : decode cX8_init 71 = .ok (.putfield 45, 3) := by decide +kernel
theorem dX8_init_74 : decode cX8_init 74 = .ok (.aload_n 0, 1) := by decide +kernel
theorem dX8_init_75 : decode cX8_init 75 = .ok (.invokevirtual 49, 3) := by decide +kernel
theorem dX8_init_78 : decode cX8_init 78 = .ok (.return_, 1) := by decide +kernel
theorem dX8_empty_0 : decode cX8_empty 0 = .ok (.aload_n 0, 1) := by decide +kernel
theorem dX8_empty_1 : decode cX8_empty 1 = .ok (.getfield 52, 3) := by decide +kernel
theorem dX8_empty_4 : decode cX8_empty 4 = .ok (.istore_n 1, 1) := by decide +kernel
theorem dX8_empty_5 : decode cX8_empty 5 = .ok (.iload_n 1, 1) := by decide +kernel
theorem dX8_empty_6 : decode cX8_empty 6 = .ok (.ifCond .eq 7, 3) := by decide +kernel
theorem dX8_empty_9 : decode cX8_empty 9 = .ok (.aload_n 0, 1) := by decide +kernel
theorem dX8_empty_10 : decode cX8_empty 10 = .ok (.invokevirtual 49, 3) := by decide +kernel
theorem dX8_empty_13 : decode cX8_empty 13 = .ok (.iload_n 1, 1) := by decide +kernel
theorem dX8_empty_14 : decode cX8_empty 14 = .ok (.ireturn, 1) := by decide +kernel
theorem dX8_work_0 : decode cX8_work 0 = .ok (.aload_n 0, 1) := by decide +kernel
theorem dX8_work_1 : decode cX8_work 1 = .ok (.invokevirtual 49, 3) := by decide +kernel
theorem dX8_work_4 : decode cX8_work 4 = .ok (.aload_n 0, 1) := by decide +kernel
theorem dX8_work_5 : decode cX8_work 5 = .ok (.iconst 1, 1) := by decide +kernel
theorem dX8_work_6 : decode cX8_work 6 = .ok (.putfield 52, 3) := by decide +kernel
theorem dX8_work_9 : decode cX8_work 9 = .ok (.aload_n 0, 1) := by decide +kernel
theorem dX8_work_10 : decode cX8_work 10 = .ok (.invokevirtual 56, 3) := by decide +kernel
theorem dX8_work_13 : decode cX8_work 13 = .ok (.aload_n 0, 1) := by decide +kernel
theorem dX8_work_14 : decode cX8_work 14 = .ok (.invokevirtual 59, 3) := by decide +kernel
theorem dX8_work_17 : decode cX8_work 17 = .ok (.iconst 0, 1) := by decide +kernel
theorem dX8_work_18 : decode cX8_work 18 = .ok (.istore_n 2, 1) := by decide +kernel
theorem dX8_work_19 : decode cX8_work 19 = .ok (.iconst 0, 1) := by decide +kernel
theorem dX8_work_20 : decode cX8_work 20 = .ok (.istore_n 3, 1) := by decide +kernel
theorem dX8_work_21 : decode cX8_work 21 = .ok (.iload_n 3, 1) := by decide +kernel
theorem dX8_work_22 : decode cX8_work 22 = .ok (.sipush 202, 3) := by decide +kernel
theorem dX8_work_25 : decode cX8_work 25 = .ok (.if_icmp .ge 19, 3) := by decide +kernel
theorem dX8_work_28 : decode cX8_work 28 = .ok (.iload_n 2, 1) := by decide +kernel
theorem dX8_work_29 : decode cX8_work 29 = .ok (.ifCond .ne 15, 3) := by decide +kernel
theorem dX8_work_32 : decode cX8_work 32 = .ok (.aload_n 0, 1) := by decide +kernel
theorem dX8_work_33 : decode cX8_work 33 = .ok (.iload_n 1, 1) := by decide +kernel
theorem dX8_work_34 : decode cX8_work 34 = .ok (.invokevirtual 62, 3) := by decide +kernel
theorem dX8_work_37 : decode cX8_work 37 = .ok (.istore_n 2, 1) := by decide +kernel
theorem dX8_work_38 : decode cX8_work 38 = .ok (.iinc 3 1, 3) := by decide +kernel
theorem dX8_work_41 : decode cX8_work 41 = .ok (.goto (-20), 3) := by decide +kernel
theorem dX8_work_44 : decode cX8_work 44 = .ok (.aload_n 0, 1) := by decide +kernel
theorem dX8_work_45 : decode cX8_work 45 = .ok (.getfield 66, 3) := by decide +kernel
theorem dX8_work_48 : decode cX8_work 48 = .ok (.ireturn, 1) := by decide +kernel
theorem dX8_culpritOf_0 : decode cX8_culpritOf 0 = .ok (.aload_n 1, 1) := by decide +kernel
theorem dX8_culpritOf_1 : decode cX8_culpritOf 1 = .ok (.getfield 70, 3) := by decide +kernel
theorem dX8_culpritOf_4 : decode cX8_culpritOf 4 = .ok (.getfield 74, 3) := by decide +kernel
theorem dX8_culpritOf_7 : decode cX8_culpritOf 7 = .ok (.iconst 3, 1) := by decide +kernel
theorem dX8_culpritOf_8 : decode cX8_culpritOf 8 = .ok (.if_icmp .eq 5, 3) := by decide +kernel
theorem dX8_culpritOf_11 : decode cX8_culpritOf 11 = .ok (.iconst (-1), 1) := by decide +kernel
theorem dX8_culpritOf_12 : decode cX8_culpritOf 12 = .ok (.ireturn, 1) := by decide +kernel
theorem dX8_culpritOf_13 : decode cX8_culpritOf 13 = .ok (.iconst 0, 1) := by decide +kernel
theorem dX8_culpritOf_14 : decode cX8_culpritOf 14 = .ok (.istore_n 2, 1) := by decide +kernel
theorem dX8_culpritOf_15 : decode cX8_culpritOf 15 = .ok (.iload_n 2, 1) := by decide +kernel
theorem dX8_culpritOf_16 : decode cX8_culpritOf 16 = .ok (.aload_n 0, 1) := by decide +kernel
theorem dX8_culpritOf_17 : decode cX8_culpritOf 17 = .ok (.getfield 45, 3) := by decide +kernel
theorem dX8_culpritOf_20 : decode cX8_culpritOf 20 = .ok (.getfield 79, 3) := by decide +kernel
theorem dX8_culpritOf_23 : decode cX8_culpritOf 23 = .ok (.if_icmp .ge 41, 3) := by decide +kernel
theorem dX8_culpritOf_26 : decode cX8_culpritOf 26 = .ok (.aload_n 0, 1) := by decide +kernel
theorem dX8_culpritOf_27 : decode cX8_culpritOf 27 = .ok (.getfield 45, 3) := by decide +kernel
theorem dX8_culpritOf_30 : decode cX8_culpritOf 30 = .ok (.getfield 84, 3) := by decide +kernel
theorem dX8_culpritOf_33 : decode cX8_culpritOf 33 = .ok (.iload_n 2, 1) := by decide +kernel
theorem dX8_culpritOf_34 : decode cX8_culpritOf 34 = .ok (.aaload, 1) := by decide +kernel
theorem dX8_culpritOf_35 : decode cX8_culpritOf 35 = .ok (.getfield 70, 3) := by decide +kernel
theorem dX8_culpritOf_38 : decode cX8_culpritOf 38 = .ok (.getfield 74, 3) := by decide +kernel
theorem dX8_culpritOf_41 : decode cX8_culpritOf 41 = .ok (.iconst 2, 1) := by decide +kernel
theorem dX8_culpritOf_42 : decode cX8_culpritOf 42 = .ok (.if_icmp .ne 16, 3) := by decide +kernel
theorem dX8_culpritOf_45 : decode cX8_culpritOf 45 = .ok (.aload_n 1, 1) := by decide +kernel
theorem dX8_culpritOf_46 : decode cX8_culpritOf 46 = .ok (.getfield 87, 3) := by decide +kernel
theorem dX8_culpritOf_49 : decode cX8_culpritOf 49 = .ok (.iload_n 2, 1) := by decide +kernel
theorem dX8_culpritOf_50 : decode cX8_culpritOf 50 = .ok (.invokevirtual 90, 3) := by decide +kernel
theorem dX8_culpritOf_53 : decode cX8_culpritOf 53 = .ok (.ifCond .eq 5, 3) := by decide +kernel
theorem dX8_culpritOf_56 : decode cX8_culpritOf 56 = .ok (.iload_n 2, 1) := by decide +kernel
theorem dX8_culpritOf_57 : decode cX8_culpritOf 57 = .ok (.ireturn, 1) := by decide +kernel
theorem dX8_culpritOf_58 : decode cX8_culpritOf 58 = .ok (.iinc 2 1, 3) := by decide +kernel
theorem dX8_culpritOf_61 : decode cX8_culpritOf 61 = .ok (.goto (-46), 3) := by decide +kernel
theorem dX8_culpritOf_64 : decode cX8_culpritOf 64 = .ok (.iconst (-1), 1) := by decide +kernel
theorem dX8_culpritOf_65 : decode cX8_culpritOf 65 = .ok (.ireturn, 1) := by decide +kernel
theorem dX8_failedJob_0 : decode cX8_failedJob 0 = .ok (.iconst 0, 1) := by decide +kernel
theorem dX8_failedJob_1 : decode cX8_failedJob 1 = .ok (.istore_n 2, 1) := by decide +kernel
theorem dX8_failedJob_2 : decode cX8_failedJob 2 = .ok (.iconst 0, 1) := by decide +kernel
theorem dX8_failedJob_3 : decode cX8_failedJob 3 = .ok (.istore_n 3, 1) := by decide +kernel
theorem dX8_failedJob_4 : decode cX8_failedJob 4 = .ok (.iload_n 3, 1) := by decide +kernel
theorem dX8_failedJob_5 : decode cX8_failedJob 5 = .ok (.aload_n 0, 1) := by decide +kernel
theorem dX8_failedJob_6 : decode cX8_failedJob 6 = .ok (.getfield 45, 3) := by decide +kernel
theorem dX8_failedJob_9 : decode cX8_failedJob 9 = .ok (.getfield 79, 3) := by decide +kernel
theorem dX8_failedJob_12 : decode cX8_failedJob 12 = .ok (.if_icmp .ge 38, 3) := by decide +kernel
theorem dX8_failedJob_15 : decode cX8_failedJob 15 = .ok (.aload_n 0, 1) := by decide +kernel
theorem dX8_failedJob_16 : decode cX8_failedJob 16 = .ok (.getfield 45, 3) := by decide +kernel
theorem dX8_failedJob_19 : decode cX8_failedJob 19 = .ok (.getfield 84, 3) := by decide +kernel
theorem dX8_failedJob_22 : decode cX8_failedJob 22 = .ok (.iload_n 3, 1) := by decide +kernel
theorem dX8_failedJob_23 : decode cX8_failedJob 23 = .ok (.aaload, 1) := by decide +kernel
theorem dX8_failedJob_24 : decode cX8_failedJob 24 = .ok (.getfield 70, 3) := by decide +kernel
theorem dX8_failedJob_27 : decode cX8_failedJob 27 = .ok (.getfield 74, 3) := by decide +kernel
theorem dX8_failedJob_30 : decode cX8_failedJob 30 = .ok (.iconst 2, 1) := by decide +kernel
theorem dX8_failedJob_31 : decode cX8_failedJob 31 = .ok (.if_icmp .ne 13, 3) := by decide +kernel
theorem dX8_failedJob_34 : decode cX8_failedJob 34 = .ok (.iload_n 2, 1) := by decide +kernel
theorem dX8_failedJob_35 : decode cX8_failedJob 35 = .ok (.iload_n 1, 1) := by decide +kernel
theorem dX8_failedJob_36 : decode cX8_failedJob 36 = .ok (.if_icmp .ne 5, 3) := by decide +kernel
theorem dX8_failedJob_39 : decode cX8_failedJob 39 = .ok (.iload_n 3, 1) := by decide +kernel
theorem dX8_failedJob_40 : decode cX8_failedJob 40 = .ok (.ireturn, 1) := by decide +kernel
theorem dX8_failedJob_41 : decode cX8_failedJob 41 = .ok (.iinc 2 1, 3) := by decide +kernel
theorem dX8_failedJob_44 : decode cX8_failedJob 44 = .ok (.iinc 3 1, 3) := by decide +kernel
theorem dX8_failedJob_47 : decode cX8_failedJob 47 = .ok (.goto (-43), 3) := by decide +kernel
theorem dX8_failedJob_50 : decode cX8_failedJob 50 = .ok (.iconst (-1), 1) := by decide +kernel
theorem dX8_failedJob_51 : decode cX8_failedJob 51 = .ok (.ireturn, 1) := by decide +kernel
theorem dX8_idleMinutes_0 : decode cX8_idleMinutes 0 = .ok (.aload_n 1, 1) := by decide +kernel
theorem dX8_idleMinutes_1 : decode cX8_idleMinutes 1 = .ok (.getfield 93, 3) := by decide +kernel
theorem dX8_idleMinutes_4 : decode cX8_idleMinutes 4 = .ok (.i2l, 1) := by decide +kernel
theorem dX8_idleMinutes_5 : decode cX8_idleMinutes 5 = .ok (.aload_n 0, 1) := by decide +kernel
theorem dX8_idleMinutes_6 : decode cX8_idleMinutes 6 = .ok (.getfield 98, 3) := by decide +kernel
theorem dX8_idleMinutes_9 : decode cX8_idleMinutes 9 = .ok (.i2l, 1) := by decide +kernel
theorem dX8_idleMinutes_10 : decode cX8_idleMinutes 10 = .ok (.lmul, 1) := by decide +kernel
theorem dX8_idleMinutes_11 : decode cX8_idleMinutes 11 = .ok (.lstore_n 2, 1) := by decide +kernel
theorem dX8_idleMinutes_12 : decode cX8_idleMinutes 12 = .ok (.iconst 0, 1) := by decide +kernel
theorem dX8_idleMinutes_13 : decode cX8_idleMinutes 13 = .ok (.istore 4, 2) := by decide +kernel
theorem dX8_idleMinutes_15 : decode cX8_idleMinutes 15 = .ok (.iload 4, 2) := by decide +kernel
theorem dX8_idleMinutes_17 : decode cX8_idleMinutes 17 = .ok (.aload_n 0, 1) := by decide +kernel
theorem dX8_idleMinutes_18 : decode cX8_idleMinutes 18 = .ok (.getfield 45, 3) := by decide +kernel
theorem dX8_idleMinutes_21 : decode cX8_idleMinutes 21 = .ok (.getfield 79, 3) := by decide +kernel
theorem dX8_idleMinutes_24 : decode cX8_idleMinutes 24 = .ok (.if_icmp .ge 46, 3) := by decide +kernel
theorem dX8_idleMinutes_27 : decode cX8_idleMinutes 27 = .ok (.aload_n 0, 1) := by decide +kernel
theorem dX8_idleMinutes_28 : decode cX8_idleMinutes 28 = .ok (.getfield 45, 3) := by decide +kernel
theorem dX8_idleMinutes_31 : decode cX8_idleMinutes 31 = .ok (.getfield 84, 3) := by decide +kernel
theorem dX8_idleMinutes_34 : decode cX8_idleMinutes 34 = .ok (.iload 4, 2) := by decide +kernel
theorem dX8_idleMinutes_36 : decode cX8_idleMinutes 36 = .ok (.aaload, 1) := by decide +kernel
theorem dX8_idleMinutes_37 : decode cX8_idleMinutes 37 = .ok (.getfield 101, 3) := by decide +kernel
theorem dX8_idleMinutes_40 : decode cX8_idleMinutes 40 = .ok (.aload_n 1, 1) := by decide +kernel
theorem dX8_idleMinutes_41 : decode cX8_idleMinutes 41 = .ok (.if_acmp .ne 23, 3) := by decide +kernel
theorem dX8_idleMinutes_44 : decode cX8_idleMinutes 44 = .ok (.lload_n 2, 1) := by decide +kernel
theorem dX8_idleMinutes_45 : decode cX8_idleMinutes 45 = .ok (.aload_n 0, 1) := by decide +kernel
theorem dX8_idleMinutes_46 : decode cX8_idleMinutes 46 = .ok (.getfield 45, 3) := by decide +kernel
theorem dX8_idleMinutes_49 : decode cX8_idleMinutes 49 = .ok (.getfield 84, 3) := by decide +kernel
theorem dX8_idleMinutes_52 : decode cX8_idleMinutes 52 = .ok (.iload 4, 2) := by decide +kernel
theorem dX8_idleMinutes_54 : decode cX8_idleMinutes 54 = .ok (.aaload, 1) := by decide +kernel
theorem dX8_idleMinutes_55 : decode cX8_idleMinutes 55 = .ok (.getfield 70, 3) := by decide +kernel
theorem dX8_idleMinutes_58 : decode cX8_idleMinutes 58 = .ok (.getfield 105, 3) := by decide +kernel
theorem dX8_idleMinutes_61 : decode cX8_idleMinutes 61 = .ok (.i2l, 1) := by decide +kernel
theorem dX8_idleMinutes_62 : decode cX8_idleMinutes 62 = .ok (.lsub, 1) := by decide +kernel
theorem dX8_idleMinutes_63 : decode cX8_idleMinutes 63 = .ok (.lstore_n 2, 1) := by decide +kernel
theorem dX8_idleMinutes_64 : decode cX8_idleMinutes 64 = .ok (.iinc 4 1, 3) := by decide +kernel
theorem dX8_idleMinutes_67 : decode cX8_idleMinutes 67 = .ok (.goto (-52), 3) := by decide +kernel
theorem dX8_idleMinutes_70 : decode cX8_idleMinutes 70 = .ok (.lload_n 2, 1) := by decide +kernel
theorem dX8_idleMinutes_71 : decode cX8_idleMinutes 71 = .ok (.lreturn, 1) := by decide +kernel
theorem dX8_wipe_0 : decode cX8_wipe 0 = .ok (.iconst 0, 1) := by decide +kernel
theorem dX8_wipe_1 : decode cX8_wipe 1 = .ok (.istore_n 1, 1) := by decide +kernel
theorem dX8_wipe_2 : decode cX8_wipe 2 = .ok (.iload_n 1, 1) := by decide +kernel
theorem dX8_wipe_3 : decode cX8_wipe 3 = .ok (.aload_n 0, 1) := by decide +kernel
theorem dX8_wipe_4 : decode cX8_wipe 4 = .ok (.getfield 45, 3) := by decide +kernel
theorem dX8_wipe_7 : decode cX8_wipe 7 = .ok (.getfield 79, 3) := by decide +kernel
theorem dX8_wipe_10 : decode cX8_wipe 10 = .ok (.if_icmp .ge 24, 3) := by decide +kernel
theorem dX8_wipe_13 : decode cX8_wipe 13 = .ok (.aload_n 0, 1) := by decide +kernel
theorem dX8_wipe_14 : decode cX8_wipe 14 = .ok (.getfield 45, 3) := by decide +kernel
theorem dX8_wipe_17 : decode cX8_wipe 17 = .ok (.getfield 84, 3) := by decide +kernel
theorem dX8_wipe_20 : decode cX8_wipe 20 = .ok (.iload_n 1, 1) := by decide +kernel
theorem dX8_wipe_21 : decode cX8_wipe 21 = .ok (.aaload, 1) := by decide +kernel
theorem dX8_wipe_22 : decode cX8_wipe 22 = .ok (.getfield 70, 3) := by decide +kernel
theorem dX8_wipe_25 : decode cX8_wipe 25 = .ok (.invokevirtual 108, 3) := by decide +kernel
theorem dX8_wipe_28 : decode cX8_wipe 28 = .ok (.iinc 1 1, 3) := by decide +kernel
theorem dX8_wipe_31 : decode cX8_wipe 31 = .ok (.goto (-29), 3) := by decide +kernel
theorem dX8_wipe_34 : decode cX8_wipe 34 = .ok (.iconst 0, 1) := by decide +kernel
theorem dX8_wipe_35 : decode cX8_wipe 35 = .ok (.istore_n 1, 1) := by decide +kernel
theorem dX8_wipe_36 : decode cX8_wipe 36 = .ok (.iload_n 1, 1) := by decide +kernel
theorem dX8_wipe_37 : decode cX8_wipe 37 = .ok (.bipush 40, 2) := by decide +kernel
theorem dX8_wipe_39 : decode cX8_wipe 39 = .ok (.if_icmp .ge 16, 3) := by decide +kernel
theorem dX8_wipe_42 : decode cX8_wipe 42 = .ok (.aload_n 0, 1) := by decide +kernel
theorem dX8_wipe_43 : decode cX8_wipe 43 = .ok (.getfield 18, 3) := by decide +kernel
theorem dX8_wipe_46 : decode cX8_wipe 46 = .ok (.iload_n 1, 1) := by decide +kernel
theorem dX8_wipe_47 : decode cX8_wipe 47 = .ok (.iconst (-1), 1) := by decide +kernel
theorem dX8_wipe_48 : decode cX8_wipe 48 = .ok (.iastore, 1) := by decide +kernel
theorem dX8_wipe_49 : decode cX8_wipe 49 = .ok (.iinc 1 1, 3) := by decide +kernel
theorem dX8_wipe_52 : decode cX8_wipe 52 = .ok (.goto (-16), 3) := by decide +kernel
theorem dX8_wipe_55 : decode cX8_wipe 55 = .ok (.iconst 0, 1) := by decide +kernel
theorem dX8_wipe_56 : decode cX8_wipe 56 = .ok (.istore_n 1, 1) := by decide +kernel
theorem dX8_wipe_57 : decode cX8_wipe 57 = .ok (.iload_n 1, 1) := by decide +kernel
theorem dX8_wipe_58 : decode cX8_wipe 58 = .ok (.bipush 32, 2) := by decide +kernel
theorem dX8_wipe_60 : decode cX8_wipe 60 = .ok (.if_icmp .ge 16, 3) := by decide +kernel
theorem dX8_wipe_63 : decode cX8_wipe 63 = .ok (.aload_n 0, 1) := by decide +kernel
theorem dX8_wipe_64 : decode cX8_wipe 64 = .ok (.getfield 24, 3) := by decide +kernel
theorem dX8_wipe_67 : decode cX8_wipe 67 = .ok (.iload_n 1, 1) := by decide +kernel
theorem dX8_wipe_68 : decode cX8_wipe 68 = .ok (.aconst_null, 1) := by decide +kernel
theorem dX8_wipe_69 : decode cX8_wipe 69 = .ok (.aastore, 1) := by decide +kernel
theorem dX8_wipe_70 : decode cX8_wipe 70 = .ok (.iinc 1 1, 3) := by decide +kernel
theorem dX8_wipe_73 : decode cX8_wipe 73 = .ok (.goto (-16), 3) := by decide +kernel
theorem dX8_wipe_76 : decode cX8_wipe 76 = .ok (.aload_n 0, 1) := by decide +kernel
theorem dX8_wipe_77 : decode cX8_wipe 77 = .ok (.getfield 41, 3) := by decide +kernel
theorem dX8_wipe_80 : decode cX8_wipe 80 = .ok (.iconst 0, 1) := by decide +kernel
theorem dX8_wipe_81 : decode cX8_wipe 81 = .ok (.putfield 109, 3) := by decide +kernel
theorem dX8_wipe_84 : decode cX8_wipe 84 = .ok (.aload_n 0, 1) := by decide +kernel
theorem dX8_wipe_85 : decode cX8_wipe 85 = .ok (.iconst 0, 1) := by decide +kernel
theorem dX8_wipe_86 : decode cX8_wipe 86 = .ok (.putfield 52, 3) := by decide +kernel
theorem dX8_wipe_89 : decode cX8_wipe 89 = .ok (.aload_n 0, 1) := by decide +kernel
theorem dX8_wipe_90 : decode cX8_wipe 90 = .ok (.iconst (-1), 1) := by decide +kernel
theorem dX8_wipe_91 : decode cX8_wipe 91 = .ok (.putfield 66, 3) := by decide +kernel
theorem dX8_wipe_94 : decode cX8_wipe 94 = .ok (.aload_n 0, 1) := by decide +kernel
theorem dX8_wipe_95 : decode cX8_wipe 95 = .ok (.iconst 0, 1) := by decide +kernel
theorem dX8_wipe_96 : decode cX8_wipe 96 = .ok (.putfield 112, 3) := by decide +kernel
theorem dX8_wipe_99 : decode cX8_wipe 99 = .ok (.aload_n 0, 1) := by decide +kernel
theorem dX8_wipe_100 : decode cX8_wipe 100 = .ok (.iconst 0, 1) := by decide +kernel
theorem dX8_wipe_101 : decode cX8_wipe 101 = .ok (.putfield 115, 3) := by decide +kernel
theorem dX8_wipe_104 : decode cX8_wipe 104 = .ok (.aload_n 0, 1) := by decide +kernel
theorem dX8_wipe_105 : decode cX8_wipe 105 = .ok (.iconst 0, 1) := by decide +kernel
theorem dX8_wipe_106 : decode cX8_wipe 106 = .ok (.putfield 118, 3) := by decide +kernel
theorem dX8_wipe_109 : decode cX8_wipe 109 = .ok (.aload_n 0, 1) := by decide +kernel
theorem dX8_wipe_110 : decode cX8_wipe 110 = .ok (.iconst 0, 1) := by decide +kernel
theorem dX8_wipe_111 : decode cX8_wipe 111 = .ok (.putfield 98, 3) := by decide +kernel
theorem dX8_wipe_114 : decode cX8_wipe 114 = .ok (.aload_n 0, 1) := by decide +kernel
theorem dX8_wipe_115 : decode cX8_wipe 115 = .ok (.iconst 0, 1) := by decide +kernel
theorem dX8_wipe_116 : decode cX8_wipe 116 = .ok (.putfield 121, 3) := by decide +kernel
theorem dX8_wipe_119 : decode cX8_wipe 119 = .ok (.aload_n 0, 1) := by decide +kernel
theorem dX8_wipe_120 : decode cX8_wipe 120 = .ok (.iconst 0, 1) := by decide +kernel
theorem dX8_wipe_121 : decode cX8_wipe 121 = .ok (.putfield 124, 3) := by decide +kernel
theorem dX8_wipe_124 : decode cX8_wipe 124 = .ok (.aload_n 0, 1) := by decide +kernel
theorem dX8_wipe_125 : decode cX8_wipe 125 = .ok (.lconst 0, 1) := by decide +kernel
theorem dX8_wipe_126 : decode cX8_wipe 126 = .ok (.putfield 127, 3) := by decide +kernel
theorem dX8_wipe_129 : decode cX8_wipe 129 = .ok (.aload_n 0, 1) := by decide +kernel
theorem dX8_wipe_130 : decode cX8_wipe 130 = .ok (.invokevirtual 131, 3) := by decide +kernel
theorem dX8_wipe_133 : decode cX8_wipe 133 = .ok (.return_, 1) := by decide +kernel
theorem dX8_forgetMarks_0 : decode cX8_forgetMarks 0 = .ok (.aload_n 0, 1) := by decide +kernel
theorem dX8_forgetMarks_1 : decode cX8_forgetMarks 1 = .ok (.getfield 34, 3) := by decide +kernel
theorem dX8_forgetMarks_4 : decode cX8_forgetMarks 4 = .ok (.invokevirtual 134, 3) := by decide +kernel
theorem dX8_forgetMarks_7 : decode cX8_forgetMarks 7 = .ok (.aload_n 0, 1) := by decide +kernel
theorem dX8_forgetMarks_8 : decode cX8_forgetMarks 8 = .ok (.iconst 0, 1) := by decide +kernel
theorem dX8_forgetMarks_9 : decode cX8_forgetMarks 9 = .ok (.putfield 137, 3) := by decide +kernel
theorem dX8_forgetMarks_12 : decode cX8_forgetMarks 12 = .ok (.return_, 1) := by decide +kernel
theorem dX8_layOut_0 : decode cX8_layOut 0 = .ok (.iconst 0, 1) := by decide +kernel
theorem dX8_layOut_1 : decode cX8_layOut 1 = .ok (.istore_n 1, 1) := by decide +kernel
theorem dX8_layOut_2 : decode cX8_layOut 2 = .ok (.iload_n 1, 1) := by decide +kernel
theorem dX8_layOut_3 : decode cX8_layOut 3 = .ok (.bipush 60, 2) := by decide +kernel
theorem dX8_layOut_5 : decode cX8_layOut 5 = .ok (.if_icmp .ge 39, 3) := by decide +kernel
theorem dX8_layOut_8 : decode cX8_layOut 8 = .ok (.aload_n 0, 1) := by decide +kernel
theorem dX8_layOut_9 : decode cX8_layOut 9 = .ok (.getfield 9, 3) := by decide +kernel
theorem dX8_layOut_12 : decode cX8_layOut 12 = .ok (.iload_n 1, 1) := by decide +kernel
theorem dX8_layOut_13 : decode cX8_layOut 13 = .ok (.aload_n 0, 1) := by decide +kernel
theorem dX8_layOut_14 : decode cX8_layOut 14 = .ok (.getfield 45, 3) := by decide +kernel
theorem dX8_layOut_17 : decode cX8_layOut 17 = .ok (.getfield 140, 3) := by decide +kernel
theorem dX8_layOut_20 : decode cX8_layOut 20 = .ok (.iload_n 1, 1) := by decide +kernel
theorem dX8_layOut_21 : decode cX8_layOut 21 = .ok (.laload, 1) := by decide +kernel
theorem dX8_layOut_22 : decode cX8_layOut 22 = .ok (.lastore, 1) := by decide +kernel
theorem dX8_layOut_23 : decode cX8_layOut 23 = .ok (.aload_n 0, 1) := by decide +kernel
theorem dX8_layOut_24 : decode cX8_layOut 24 = .ok (.getfield 15, 3) := by decide +kernel
theorem dX8_layOut_27 : decode cX8_layOut 27 = .ok (.iload_n 1, 1) := by decide +kernel
theorem dX8_layOut_28 : decode cX8_layOut 28 = .ok (.aload_n 0, 1) := by decide +kernel
theorem dX8_layOut_29 : decode cX8_layOut 29 = .ok (.getfield 45, 3) := by decide +kernel
theorem dX8_layOut_32 : decode cX8_layOut 32 = .ok (.getfield 140, 3) := by decide +kernel
theorem dX8_layOut_35 : decode cX8_layOut 35 = .ok (.iload_n 1, 1) := by decide +kernel
theorem dX8_layOut_36 : decode cX8_layOut 36 = .ok (.laload, 1) := by decide +kernel
theorem dX8_layOut_37 : decode cX8_layOut 37 = .ok (.lastore, 1) := by decide +kernel
theorem dX8_layOut_38 : decode cX8_layOut 38 = .ok (.iinc 1 1, 3) := by decide +kernel
theorem dX8_layOut_41 : decode cX8_layOut 41 = .ok (.goto (-39), 3) := by decide +kernel
theorem dX8_layOut_44 : decode cX8_layOut 44 = .ok (.iconst 0, 1) := by decide +kernel
theorem dX8_layOut_45 : decode cX8_layOut 45 = .ok (.istore_n 1, 1) := by decide +kernel
theorem dX8_layOut_46 : decode cX8_layOut 46 = .ok (.iload_n 1, 1) := by decide +kernel
theorem dX8_layOut_47 : decode cX8_layOut 47 = .ok (.aload_n 0, 1) := by decide +kernel
theorem dX8_layOut_48 : decode cX8_layOut 48 = .ok (.getfield 45, 3) := by decide +kernel
theorem dX8_layOut_51 : decode cX8_layOut 51 = .ok (.getfield 143, 3) := by decide +kernel
theorem dX8_layOut_54 : decode cX8_layOut 54 = .ok (.if_icmp .ge 33, 3) := by decide +kernel
theorem dX8_layOut_57 : decode cX8_layOut 57 = .ok (.aload_n 0, 1) := by decide +kernel
theorem dX8_layOut_58 : decode cX8_layOut 58 = .ok (.getfield 45, 3) := by decide +kernel
theorem dX8_layOut_61 : decode cX8_layOut 61 = .ok (.getfield 146, 3) := by decide +kernel
theorem dX8_layOut_64 : decode cX8_layOut 64 = .ok (.iload_n 1, 1) := by decide +kernel
theorem dX8_layOut_65 : decode cX8_layOut 65 = .ok (.aaload, 1) := by decide +kernel
theorem dX8_layOut_66 : decode cX8_layOut 66 = .ok (.aload_n 0, 1) := by decide +kernel
theorem dX8_layOut_67 : decode cX8_layOut 67 = .ok (.getfield 45, 3) := by decide +kernel
theorem dX8_layOut_70 : decode cX8_layOut 70 = .ok (.getfield 146, 3) := by decide +kernel
theorem dX8_layOut_73 : decode cX8_layOut 73 = .ok (.iload_n 1, 1) := by decide +kernel
theorem dX8_layOut_74 : decode cX8_layOut 74 = .ok (.aaload, 1) := by decide +kernel
theorem dX8_layOut_75 : decode cX8_layOut 75 = .ok (.getfield 93, 3) := by decide +kernel
theorem dX8_layOut_78 : decode cX8_layOut 78 = .ok (.putfield 150, 3) := by decide +kernel
theorem dX8_layOut_81 : decode cX8_layOut 81 = .ok (.iinc 1 1, 3) := by decide +kernel
theorem dX8_layOut_84 : decode cX8_layOut 84 = .ok (.goto (-38), 3) := by decide +kernel
theorem dX8_layOut_87 : decode cX8_layOut 87 = .ok (.iconst 0, 1) := by decide +kernel
theorem dX8_layOut_88 : decode cX8_layOut 88 = .ok (.istore_n 1, 1) := by decide +kernel
theorem dX8_layOut_89 : decode cX8_layOut 89 = .ok (.iload_n 1, 1) := by decide +kernel
theorem dX8_layOut_90 : decode cX8_layOut 90 = .ok (.aload_n 0, 1) := by decide +kernel
theorem dX8_layOut_91 : decode cX8_layOut 91 = .ok (.getfield 45, 3) := by decide +kernel
theorem dX8_layOut_94 : decode cX8_layOut 94 = .ok (.getfield 79, 3) := by decide +kernel
theorem dX8_layOut_97 : decode cX8_layOut 97 = .ok (.if_icmp .ge 56, 3) := by decide +kernel
theorem dX8_layOut_100 : decode cX8_layOut 100 = .ok (.aload_n 0, 1) := by decide +kernel
theorem dX8_layOut_101 : decode cX8_layOut 101 = .ok (.getfield 45, 3) := by decide +kernel
theorem dX8_layOut_104 : decode cX8_layOut 104 = .ok (.getfield 84, 3) := by decide +kernel
theorem dX8_layOut_107 : decode cX8_layOut 107 = .ok (.iload_n 1, 1) := by decide +kernel
theorem dX8_layOut_108 : decode cX8_layOut 108 = .ok (.aaload, 1) := by decide +kernel
theorem dX8_layOut_109 : decode cX8_layOut 109 = .ok (.astore_n 2, 1) := by decide +kernel
theorem dX8_layOut_110 : decode cX8_layOut 110 = .ok (.aload_n 2, 1) := by decide +kernel
theorem dX8_layOut_111 : decode cX8_layOut 111 = .ok (.getfield 70, 3) := by decide +kernel
theorem dX8_layOut_114 : decode cX8_layOut 114 = .ok (.aload_n 2, 1) := by decide +kernel
theorem dX8_layOut_115 : decode cX8_layOut 115 = .ok (.getfield 153, 3) := by decide +kernel
theorem dX8_layOut_118 : decode cX8_layOut 118 = .ok (.invokevirtual 157, 3) := by decide +kernel
theorem dX8_layOut_121 : decode cX8_layOut 121 = .ok (.putfield 162, 3) := by decide +kernel
theorem dX8_layOut_124 : decode cX8_layOut 124 = .ok (.aload_n 2, 1) := by decide +kernel
theorem dX8_layOut_125 : decode cX8_layOut 125 = .ok (.aload_n 0, 1) := by decide +kernel
theorem dX8_layOut_126 : decode cX8_layOut 126 = .ok (.getfield 15, 3) := by decide +kernel
theorem dX8_layOut_129 : decode cX8_layOut 129 = .ok (.invokestatic 165, 3) := by decide +kernel
theorem dX8_layOut_132 : decode cX8_layOut 132 = .ok (.aload_n 0, 1) := by decide +kernel
theorem dX8_layOut_133 : decode cX8_layOut 133 = .ok (.getfield 28, 3) := by decide +kernel
theorem dX8_layOut_136 : decode cX8_layOut 136 = .ok (.iload_n 1, 1) := by decide +kernel
theorem dX8_layOut_137 : decode cX8_layOut 137 = .ok (.aload_n 0, 1) := by decide +kernel
theorem dX8_layOut_138 : decode cX8_layOut 138 = .ok (.getfield 45, 3) := by decide +kernel
theorem dX8_layOut_141 : decode cX8_layOut 141 = .ok (.getfield 169, 3) := by decide +kernel
theorem dX8_layOut_144 : decode cX8_layOut 144 = .ok (.iload_n 1, 1) := by decide +kernel
theorem dX8_layOut_145 : decode cX8_layOut 145 = .ok (.aaload, 1) := by decide +kernel
theorem dX8_layOut_146 : decode cX8_layOut 146 = .ok (.aastore, 1) := by decide +kernel
theorem dX8_layOut_147 : decode cX8_layOut 147 = .ok (.iinc 1 1, 3) := by decide +kernel
theorem dX8_layOut_150 : decode cX8_layOut 150 = .ok (.goto (-61), 3) := by decide +kernel
theorem dX8_layOut_153 : decode cX8_layOut 153 = .ok (.aload_n 0, 1) := by decide +kernel
theorem dX8_layOut_154 : decode cX8_layOut 154 = .ok (.aload_n 0, 1) := by decide +kernel
theorem dX8_layOut_155 : decode cX8_layOut 155 = .ok (.getfield 45, 3) := by decide +kernel
theorem dX8_layOut_158 : decode cX8_layOut 158 = .ok (.getfield 79, 3) := by decide +kernel
theorem dX8_layOut_161 : decode cX8_layOut 161 = .ok (.putfield 121, 3) := by decide +kernel
theorem dX8_layOut_164 : decode cX8_layOut 164 = .ok (.return_, 1) := by decide +kernel
theorem dX8_addGiven_0 : decode cX8_addGiven 0 = .ok (.aload_n 0, 1) := by decide +kernel
theorem dX8_addGiven_1 : decode cX8_addGiven 1 = .ok (.getfield 172, 3) := by decide +kernel
theorem dX8_addGiven_4 : decode cX8_addGiven 4 = .ok (.astore_n 2, 1) := by decide +kernel
theorem dX8_addGiven_5 : decode cX8_addGiven 5 = .ok (.iconst 0, 1) := by decide +kernel
theorem dX8_addGiven_6 : decode cX8_addGiven 6 = .ok (.istore_n 3, 1) := by decide +kernel
theorem dX8_addGiven_7 : decode cX8_addGiven 7 = .ok (.iload_n 3, 1) := by decide +kernel
theorem dX8_addGiven_8 : decode cX8_addGiven 8 = .ok (.aload_n 2, 1) := by decide +kernel
theorem dX8_addGiven_9 : decode cX8_addGiven 9 = .ok (.getfield 176, 3) := by decide +kernel
theorem dX8_addGiven_12 : decode cX8_addGiven 12 = .ok (.if_icmp .ge 27, 3) := by decide +kernel
theorem dX8_addGiven_15 : decode cX8_addGiven 15 = .ok (.aload_n 1, 1) := by decide +kernel
theorem dX8_addGiven_16 : decode cX8_addGiven 16 = .ok (.aload_n 2, 1) := by decide +kernel
theorem dX8_addGiven_17 : decode cX8_addGiven 17 = .ok (.getfield 179, 3) := by decide +kernel
theorem dX8_addGiven_20 : decode cX8_addGiven 20 = .ok (.iload_n 3, 1) := by decide +kernel
theorem dX8_addGiven_21 : decode cX8_addGiven 21 = .ok (.iaload, 1) := by decide +kernel
theorem dX8_addGiven_22 : decode cX8_addGiven 22 = .ok (.dup2, 1) := by decide +kernel
theorem dX8_addGiven_23 : decode cX8_addGiven 23 = .ok (.laload, 1) := by decide +kernel
theorem dX8_addGiven_24 : decode cX8_addGiven 24 = .ok (.aload_n 2, 1) := by decide +kernel
theorem dX8_addGiven_25 : decode cX8_addGiven 25 = .ok (.getfield 182, 3) := by decide +kernel
theorem dX8_addGiven_28 : decode cX8_addGiven 28 = .ok (.iload_n 3, 1) := by decide +kernel
theorem dX8_addGiven_29 : decode cX8_addGiven 29 = .ok (.iaload, 1) := by decide +kernel
theorem dX8_addGiven_30 : decode cX8_addGiven 30 = .ok (.i2l, 1) := by decide +kernel
theorem dX8_addGiven_31 : decode cX8_addGiven 31 = .ok (.ladd, 1) := by decide +kernel
theorem dX8_addGiven_32 : decode cX8_addGiven 32 = .ok (.lastore, 1) := by decide +kernel
theorem dX8_addGiven_33 : decode cX8_addGiven 33 = .ok (.iinc 3 1, 3) := by decide +kernel
theorem dX8_addGiven_36 : decode cX8_addGiven 36 = .ok (.goto (-29), 3) := by decide +kernel
theorem dX8_addGiven_39 : decode cX8_addGiven 39 = .ok (.return_, 1) := by decide +kernel
theorem dX8_turnAwayHopeless_0 : decode cX8_turnAwayHopeless 0 = .ok (.iconst 0, 1) := by decide +kernel
theorem dX8_turnAwayHopeless_1 : decode cX8_turnAwayHopeless 1 = .ok (.istore_n 1, 1) := by decide +kernel
theorem dX8_turnAwayHopeless_2 : decode cX8_turnAwayHopeless 2 = .ok (.iload_n 1, 1) := by decide +kernel
theorem dX8_turnAwayHopeless_3 : decode cX8_turnAwayHopeless 3 = .ok (.aload_n 0, 1) := by decide +kernel
theorem dX8_turnAwayHopeless_4 : decode cX8_turnAwayHopeless 4 = .ok (.getfield 45, 3) := by decide +kernel
theorem dX8_turnAwayHopeless_7 : decode cX8_turnAwayHopeless 7 = .ok (.getfield 79, 3) := by decide +kernel
theorem dX8_turnAwayHopeless_10 : decode cX8_turnAwayHopeless 10 = .ok (.if_icmp .ge 33, 3) := by decide +kernel
theorem dX8_turnAwayHopeless_13 : decode cX8_turnAwayHopeless 13 = .ok (.aload_n 0, 1) := by decide +kernel
theorem dX8_turnAwayHopeless_14 : decode cX8_turnAwayHopeless 14 = .ok (.aload_n 0, 1) := by decide +kernel
theorem dX8_turnAwayHopeless_15 : decode cX8_turnAwayHopeless 15 = .ok (.getfield 45, 3) := by decide +kernel
theorem dX8_turnAwayHopeless_18 : decode cX8_turnAwayHopeless 18 = .ok (.getfield 84, 3) := by decide +kernel
theorem dX8_turnAwayHopeless_21 : decode cX8_turnAwayHopeless 21 = .ok (.iload_n 1, 1) := by decide +kernel
theorem dX8_turnAwayHopeless_22 : decode cX8_turnAwayHopeless 22 = .ok (.aaload, 1) := by decide +kernel
theorem dX8_turnAwayHopeless_23 : decode cX8_turnAwayHopeless 23 = .ok (.invokevirtual 185, 3) := by decide +kernel
theorem dX8_turnAwayHopeless_26 : decode cX8_turnAwayHopeless 26 = .ok (.ifCond .eq 11, 3) := by decide +kernel
theorem dX8_turnAwayHopeless_29 : decode cX8_turnAwayHopeless 29 = .ok (.aload_n 0, 1) := by decide +kernel
theorem dX8_turnAwayHopeless_30 : decode cX8_turnAwayHopeless 30 = .ok (.getfield 34, 3) := by decide +kernel
theorem dX8_turnAwayHopeless_33 : decode cX8_turnAwayHopeless 33 = .ok (.iload_n 1, 1) := by decide +kernel
theorem dX8_turnAwayHopeless_34 : decode cX8_turnAwayHopeless 34 = .ok (.invokevirtual 189, 3) := by decide +kernel
theorem dX8_turnAwayHopeless_37 : decode cX8_turnAwayHopeless 37 = .ok (.iinc 1 1, 3) := by decide +kernel
theorem dX8_turnAwayHopeless_40 : decode cX8_turnAwayHopeless 40 = .ok (.goto (-38), 3) := by decide +kernel
theorem dX8_turnAwayHopeless_43 : decode cX8_turnAwayHopeless 43 = .ok (.iconst 0, 1) := by decide +kernel
theorem dX8_turnAwayHopeless_44 : decode cX8_turnAwayHopeless 44 = .ok (.istore_n 1, 1) := by decide +kernel
theorem dX8_turnAwayHopeless_45 : decode cX8_turnAwayHopeless 45 = .ok (.iload_n 1, 1) := by decide +kernel
theorem dX8_turnAwayHopeless_46 : decode cX8_turnAwayHopeless 46 = .ok (.aload_n 0, 1) := by decide +kernel
theorem dX8_turnAwayHopeless_47 : decode cX8_turnAwayHopeless 47 = .ok (.getfield 45, 3) := by decide +kernel
theorem dX8_turnAwayHopeless_50 : decode cX8_turnAwayHopeless 50 = .ok (.getfield 79, 3) := by decide +kernel
theorem dX8_turnAwayHopeless_53 : decode cX8_turnAwayHopeless 53 = .ok (.if_icmp .ge 49, 3) := by decide +kernel
theorem dX8_turnAwayHopeless_56 : decode cX8_turnAwayHopeless 56 = .ok (.aload_n 0, 1) := by decide +kernel
theorem dX8_turnAwayHopeless_57 : decode cX8_turnAwayHopeless 57 = .ok (.getfield 45, 3) := by decide +kernel
theorem dX8_turnAwayHopeless_60 : decode cX8_turnAwayHopeless 60 = .ok (.getfield 84, 3) := by decide +kernel
theorem dX8_turnAwayHopeless_63 : decode cX8_turnAwayHopeless 63 = .ok (.iload_n 1, 1) := by decide +kernel
theorem dX8_turnAwayHopeless_64 : decode cX8_turnAwayHopeless 64 = .ok (.aaload, 1) := by decide +kernel
theorem dX8_turnAwayHopeless_65 : decode cX8_turnAwayHopeless 65 = .ok (.astore_n 2, 1) := by decide +kernel
theorem dX8_turnAwayHopeless_66 : decode cX8_turnAwayHopeless 66 = .ok (.aload_n 0, 1) := by decide +kernel
theorem dX8_turnAwayHopeless_67 : decode cX8_turnAwayHopeless 67 = .ok (.getfield 34, 3) := by decide +kernel
theorem dX8_turnAwayHopeless_70 : decode cX8_turnAwayHopeless 70 = .ok (.iload_n 1, 1) := by decide +kernel
theorem dX8_turnAwayHopeless_71 : decode cX8_turnAwayHopeless 71 = .ok (.invokevirtual 90, 3) := by decide +kernel
theorem dX8_turnAwayHopeless_74 : decode cX8_turnAwayHopeless 74 = .ok (.ifCond .ne 17, 3) := by decide +kernel
theorem dX8_turnAwayHopeless_77 : decode cX8_turnAwayHopeless 77 = .ok (.aload_n 2, 1) := by decide +kernel
theorem dX8_turnAwayHopeless_78 : decode cX8_turnAwayHopeless 78 = .ok (.getfield 87, 3) := by decide +kernel
theorem dX8_turnAwayHopeless_81 : decode cX8_turnAwayHopeless 81 = .ok (.aload_n 0, 1) := by decide +kernel
theorem dX8_turnAwayHopeless_82 : decode cX8_turnAwayHopeless 82 = .ok (.getfield 34, 3) := by decide +kernel
theorem dX8_turnAwayHopeless_85 : decode cX8_turnAwayHopeless 85 = .ok (.invokevirtual 193, 3) := by decide +kernel
theorem dX8_turnAwayHopeless_88 : decode cX8_turnAwayHopeless 88 = .ok (.ifCond .eq 8, 3) := by decide +kernel
theorem dX8_turnAwayHopeless_91 : decode cX8_turnAwayHopeless 91 = .ok (.aload_n 0, 1) := by decide +kernel
theorem dX8_turnAwayHopeless_92 : decode cX8_turnAwayHopeless 92 = .ok (.aload_n 2, 1) := by decide +kernel
theorem dX8_turnAwayHopeless_93 : decode cX8_turnAwayHopeless 93 = .ok (.invokevirtual 197, 3) := by decide +kernel
theorem dX8_turnAwayHopeless_96 : decode cX8_turnAwayHopeless 96 = .ok (.iinc 1 1, 3) := by decide +kernel
theorem dX8_turnAwayHopeless_99 : decode cX8_turnAwayHopeless 99 = .ok (.goto (-54), 3) := by decide +kernel
theorem dX8_turnAwayHopeless_102 : decode cX8_turnAwayHopeless 102 = .ok (.aload_n 0, 1) := by decide +kernel
theorem dX8_turnAwayHopeless_103 : decode cX8_turnAwayHopeless 103 = .ok (.invokevirtual 131, 3) := by decide +kernel
theorem dX8_turnAwayHopeless_106 : decode cX8_turnAwayHopeless 106 = .ok (.return_, 1) := by decide +kernel
theorem dX8_isHopeless_0 : decode cX8_isHopeless 0 = .ok (.aload_n 1, 1) := by decide +kernel
theorem dX8_isHopeless_1 : decode cX8_isHopeless 1 = .ok (.getfield 101, 3) := by decide +kernel
theorem dX8_isHopeless_4 : decode cX8_isHopeless 4 = .ok (.getfield 93, 3) := by decide +kernel
theorem dX8_isHopeless_7 : decode cX8_isHopeless 7 = .ok (.ifCond .ne 5, 3) := by decide +kernel
theorem dX8_isHopeless_10 : decode cX8_isHopeless 10 = .ok (.iconst 1, 1) := by decide +kernel
theorem dX8_isHopeless_11 : decode cX8_isHopeless 11 = .ok (.ireturn, 1) := by decide +kernel
theorem dX8_isHopeless_12 : decode cX8_isHopeless 12 = .ok (.aload_n 1, 1) := by decide +kernel
theorem dX8_isHopeless_13 : decode cX8_isHopeless 13 = .ok (.getfield 201, 3) := by decide +kernel
theorem dX8_isHopeless_16 : decode cX8_isHopeless 16 = .ok (.astore_n 2, 1) := by decide +kernel
theorem dX8_isHopeless_17 : decode cX8_isHopeless 17 = .ok (.iconst 0, 1) := by decide +kernel
theorem dX8_isHopeless_18 : decode cX8_isHopeless 18 = .ok (.istore_n 3, 1) := by decide +kernel
theorem dX8_isHopeless_19 : decode cX8_isHopeless 19 = .ok (.iload_n 3, 1) := by decide +kernel
theorem dX8_isHopeless_20 : decode cX8_isHopeless 20 = .ok (.aload_n 2, 1) := by decide +kernel
theorem dX8_isHopeless_21 : decode cX8_isHopeless 21 = .ok (.getfield 176, 3) := by decide +kernel
theorem dX8_isHopeless_24 : decode cX8_isHopeless 24 = .ok (.if_icmp .ge 48, 3) := by decide +kernel
theorem dX8_isHopeless_27 : decode cX8_isHopeless 27 = .ok (.aload_n 2, 1) := by decide +kernel
theorem dX8_isHopeless_28 : decode cX8_isHopeless 28 = .ok (.getfield 179, 3) := by decide +kernel
theorem dX8_isHopeless_31 : decode cX8_isHopeless 31 = .ok (.iload_n 3, 1) := by decide +kernel
theorem dX8_isHopeless_32 : decode cX8_isHopeless 32 = .ok (.iaload, 1) := by decide +kernel
theorem dX8_isHopeless_33 : decode cX8_isHopeless 33 = .ok (.istore 4, 2) := by decide +kernel
theorem dX8_isHopeless_35 : decode cX8_isHopeless 35 = .ok (.aload_n 2, 1) := by decide +kernel
theorem dX8_isHopeless_36 : decode cX8_isHopeless 36 = .ok (.getfield 182, 3) := by decide +kernel
theorem dX8_isHopeless_39 : decode cX8_isHopeless 39 = .ok (.iload_n 3, 1) := by decide +kernel
theorem dX8_isHopeless_40 : decode cX8_isHopeless 40 = .ok (.iaload, 1) := by decide +kernel
theorem dX8_isHopeless_41 : decode cX8_isHopeless 41 = .ok (.i2l, 1) := by decide +kernel
theorem dX8_isHopeless_42 : decode cX8_isHopeless 42 = .ok (.aload_n 0, 1) := by decide +kernel
theorem dX8_isHopeless_43 : decode cX8_isHopeless 43 = .ok (.getfield 15, 3) := by decide +kernel
theorem dX8_isHopeless_46 : decode cX8_isHopeless 46 = .ok (.iload 4, 2) := by decide +kernel
theorem dX8_isHopeless_48 : decode cX8_isHopeless 48 = .ok (.laload, 1) := by decide +kernel
theorem dX8_isHopeless_49 : decode cX8_isHopeless 49 = .ok (.aload_n 1, 1) := by decide +kernel
theorem dX8_isHopeless_50 : decode cX8_isHopeless 50 = .ok (.getfield 172, 3) := by decide +kernel
theorem dX8_isHopeless_53 : decode cX8_isHopeless 53 = .ok (.iload 4, 2) := by decide +kernel
theorem dX8_isHopeless_55 : decode cX8_isHopeless 55 = .ok (.invokevirtual 204, 3) := by decide +kernel
theorem dX8_isHopeless_58 : decode cX8_isHopeless 58 = .ok (.i2l, 1) := by decide +kernel
theorem dX8_isHopeless_59 : decode cX8_isHopeless 59 = .ok (.lsub, 1) := by decide +kernel
theorem dX8_isHopeless_60 : decode cX8_isHopeless 60 = .ok (.lcmp, 1) := by decide +kernel
theorem dX8_isHopeless_61 : decode cX8_isHopeless 61 = .ok (.ifCond .le 5, 3) := by decide +kernel
theorem dX8_isHopeless_64 : decode cX8_isHopeless 64 = .ok (.iconst 1, 1) := by decide +kernel
theorem dX8_isHopeless_65 : decode cX8_isHopeless 65 = .ok (.ireturn, 1) := by decide +kernel
theorem dX8_isHopeless_66 : decode cX8_isHopeless 66 = .ok (.iinc 3 1, 3) := by decide +kernel
theorem dX8_isHopeless_69 : decode cX8_isHopeless 69 = .ok (.goto (-50), 3) := by decide +kernel
theorem dX8_isHopeless_72 : decode cX8_isHopeless 72 = .ok (.iconst 0, 1) := by decide +kernel
theorem dX8_isHopeless_73 : decode cX8_isHopeless 73 = .ok (.ireturn, 1) := by decide +kernel
theorem dX8_turnAway_0 : decode cX8_turnAway 0 = .ok (.aload_n 1, 1) := by decide +kernel
theorem dX8_turnAway_1 : decode cX8_turnAway 1 = .ok (.getfield 70, 3) := by decide +kernel
theorem dX8_turnAway_4 : decode cX8_turnAway 4 = .ok (.iconst 5, 1) := by decide +kernel
theorem dX8_turnAway_5 : decode cX8_turnAway 5 = .ok (.putfield 74, 3) := by decide +kernel
theorem dX8_turnAway_8 : decode cX8_turnAway 8 = .ok (.aload_n 0, 1) := by decide +kernel
theorem dX8_turnAway_9 : decode cX8_turnAway 9 = .ok (.getfield 41, 3) := by decide +kernel
theorem dX8_turnAway_12 : decode cX8_turnAway 12 = .ok (.aload_n 0, 1) := by decide +kernel
theorem dX8_turnAway_13 : decode cX8_turnAway 13 = .ok (.getfield 112, 3) := by decide +kernel
theorem dX8_turnAway_16 : decode cX8_turnAway 16 = .ok (.bipush 6, 2) := by decide +kernel
theorem dX8_turnAway_18 : decode cX8_turnAway 18 = .ok (.aload_n 1, 1) := by decide +kernel
theorem dX8_turnAway_19 : decode cX8_turnAway 19 = .ok (.getfield 208, 3) := by decide +kernel
theorem dX8_turnAway_22 : decode cX8_turnAway 22 = .ok (.invokevirtual 211, 3) := by decide +kernel
theorem dX8_turnAway_25 : decode cX8_turnAway 25 = .ok (.return_, 1) := by decide +kernel
theorem dX8_passMinute_0 : decode cX8_passMinute 0 = .ok (.aload_n 0, 1) := by decide +kernel
theorem dX8_passMinute_1 : decode cX8_passMinute 1 = .ok (.invokevirtual 215, 3) := by decide +kernel
theorem dX8_passMinute_4 : decode cX8_passMinute 4 = .ok (.aload_n 0, 1) := by decide +kernel
theorem dX8_passMinute_5 : decode cX8_passMinute 5 = .ok (.invokevirtual 218, 3) := by decide +kernel
theorem dX8_passMinute_8 : decode cX8_passMinute 8 = .ok (.aload_n 0, 1) := by decide +kernel
theorem dX8_passMinute_9 : decode cX8_passMinute 9 = .ok (.getfield 112, 3) := by decide +kernel
theorem dX8_passMinute_12 : decode cX8_passMinute 12 = .ok (.iload_n 1, 1) := by decide +kernel
theorem dX8_passMinute_13 : decode cX8_passMinute 13 = .ok (.if_icmp .lt 9, 3) := by decide +kernel
theorem dX8_passMinute_16 : decode cX8_passMinute 16 = .ok (.aload_n 0, 1) := by decide +kernel
theorem dX8_passMinute_17 : decode cX8_passMinute 17 = .ok (.invokevirtual 221, 3) := by decide +kernel
theorem dX8_passMinute_20 : decode cX8_passMinute 20 = .ok (.iconst 1, 1) := by decide +kernel
theorem dX8_passMinute_21 : decode cX8_passMinute 21 = .ok (.ireturn, 1) := by decide +kernel
theorem dX8_passMinute_22 : decode cX8_passMinute 22 = .ok (.aload_n 0, 1) := by decide +kernel
theorem dX8_passMinute_23 : decode cX8_passMinute 23 = .ok (.invokevirtual 224, 3) := by decide +kernel
theorem dX8_passMinute_26 : decode cX8_passMinute 26 = .ok (.aload_n 0, 1) := by decide +kernel
theorem dX8_passMinute_27 : decode cX8_passMinute 27 = .ok (.getfield 124, 3) := by decide +kernel
theorem dX8_passMinute_30 : decode cX8_passMinute 30 = .ok (.ifCond .ne 9, 3) := by decide +kernel
theorem dX8_passMinute_33 : decode cX8_passMinute 33 = .ok (.aload_n 0, 1) := by decide +kernel
theorem dX8_passMinute_34 : decode cX8_passMinute 34 = .ok (.invokevirtual 227, 3) := by decide +kernel
theorem dX8_passMinute_37 : decode cX8_passMinute 37 = .ok (.iconst 1, 1) := by decide +kernel
theorem dX8_passMinute_38 : decode cX8_passMinute 38 = .ok (.ireturn, 1) := by decide +kernel
theorem dX8_passMinute_39 : decode cX8_passMinute 39 = .ok (.aload_n 0, 1) := by decide +kernel
theorem dX8_passMinute_40 : decode cX8_passMinute 40 = .ok (.aload_n 0, 1) := by decide +kernel
theorem dX8_passMinute_41 : decode cX8_passMinute 41 = .ok (.iload_n 1, 1) := by decide +kernel
theorem dX8_passMinute_42 : decode cX8_passMinute 42 = .ok (.invokevirtual 230, 3) := by decide +kernel
theorem dX8_passMinute_45 : decode cX8_passMinute 45 = .ok (.putfield 112, 3) := by decide +kernel
theorem dX8_passMinute_48 : decode cX8_passMinute 48 = .ok (.iconst 0, 1) := by decide +kernel
theorem dX8_passMinute_49 : decode cX8_passMinute 49 = .ok (.ireturn, 1) := by decide +kernel
theorem dX8_endJobs_0 : decode cX8_endJobs 0 = .ok (.iconst 0, 1) := by decide +kernel
theorem dX8_endJobs_1 : decode cX8_endJobs 1 = .ok (.istore_n 1, 1) := by decide +kernel
theorem dX8_endJobs_2 : decode cX8_endJobs 2 = .ok (.iload_n 1, 1) := by decide +kernel
theorem dX8_endJobs_3 : decode cX8_endJobs 3 = .ok (.aload_n 0, 1) := by decide +kernel
theorem dX8_endJobs_4 : decode cX8_endJobs 4 = .ok (.getfield 45, 3) := by decide +kernel
theorem dX8_endJobs_7 : decode cX8_endJobs 7 = .ok (.getfield 233, 3) := by decide +kernel
theorem dX8_endJobs_10 : decode cX8_endJobs 10 = .ok (.if_icmp .ge 71, 3) := by decide +kernel
theorem dX8_endJobs_13 : decode cX8_endJobs 13 = .ok (.aload_n 0, 1) := by decide +kernel
theorem dX8_endJobs_14 : decode cX8_endJobs 14 = .ok (.getfield 24, 3) := by decide +kernel
theorem dX8_endJobs_17 : decode cX8_endJobs 17 = .ok (.iload_n 1, 1) := by decide +kernel
theorem dX8_endJobs_18 : decode cX8_endJobs 18 = .ok (.aaload, 1) := by decide +kernel
theorem dX8_endJobs_19 : decode cX8_endJobs 19 = .ok (.astore_n 2, 1) := by decide +kernel
theorem dX8_endJobs_20 : decode cX8_endJobs 20 = .ok (.aload_n 2, 1) := by decide +kernel
theorem dX8_endJobs_21 : decode cX8_endJobs 21 = .ok (.ifnull 54, 3) := by decide +kernel
theorem dX8_endJobs_24 : decode cX8_endJobs 24 = .ok (.aload_n 2, 1) := by decide +kernel
theorem dX8_endJobs_25 : decode cX8_endJobs 25 = .ok (.invokevirtual 236, 3) := by decide +kernel
theorem dX8_endJobs_28 : decode cX8_endJobs 28 = .ok (.aload_n 0, 1) := by decide +kernel
theorem dX8_endJobs_29 : decode cX8_endJobs 29 = .ok (.getfield 112, 3) := by decide +kernel
theorem dX8_endJobs_32 : decode cX8_endJobs 32 = .ok (.if_icmp .ne 43, 3) := by decide +kernel
theorem dX8_endJobs_35 : decode cX8_endJobs 35 = .ok (.aload_n 2, 1) := by decide +kernel
theorem dX8_endJobs_36 : decode cX8_endJobs 36 = .ok (.invokevirtual 239, 3) := by decide +kernel
theorem dX8_endJobs_39 : decode cX8_endJobs 39 = .ok (.ifCond .eq 10, 3) := by decide +kernel
theorem dX8_endJobs_42 : decode cX8_endJobs 42 = .ok (.aload_n 2, 1) := by decide +kernel
theorem dX8_endJobs_43 : decode cX8_endJobs 43 = .ok (.getfield 243, 3) := by decide +kernel
theorem dX8_endJobs_46 : decode cX8_endJobs 46 = .ok (.goto 10, 3) := by decide +kernel
theorem dX8_endJobs_49 : decode cX8_endJobs 49 = .ok (.aload_n 2, 1) := by decide +kernel
theorem dX8_endJobs_50 : decode cX8_endJobs 50 = .ok (.getfield 246, 3) := by decide +kernel
theorem dX8_endJobs_53 : decode cX8_endJobs 53 = .ok (.invokevirtual 250, 3) := by decide +kernel
theorem dX8_endJobs_56 : decode cX8_endJobs 56 = .ok (.istore_n 3, 1) := by decide +kernel
theorem dX8_endJobs_57 : decode cX8_endJobs 57 = .ok (.iload_n 3, 1) := by decide +kernel
theorem dX8_endJobs_58 : decode cX8_endJobs 58 = .ok (.ifCond .ne 11, 3) := by decide +kernel
theorem dX8_endJobs_61 : decode cX8_endJobs 61 = .ok (.aload_n 0, 1) := by decide +kernel
theorem dX8_endJobs_62 : decode cX8_endJobs 62 = .ok (.aload_n 2, 1) := by decide +kernel
theorem dX8_endJobs_63 : decode cX8_endJobs 63 = .ok (.invokevirtual 255, 3) := by decide +kernel
theorem dX8_endJobs_66 : decode cX8_endJobs 66 = .ok (.goto 9, 3) := by decide +kernel
theorem dX8_endJobs_69 : decode cX8_endJobs 69 = .ok (.aload_n 0, 1) := by decide +kernel
theorem dX8_endJobs_70 : decode cX8_endJobs 70 = .ok (.aload_n 2, 1) := by decide +kernel
theorem dX8_endJobs_71 : decode cX8_endJobs 71 = .ok (.iload_n 3, 1) := by decide +kernel
theorem dX8_endJobs_72 : decode cX8_endJobs 72 = .ok (.invokevirtual 258, 3) := by decide +kernel
theorem dX8_endJobs_75 : decode cX8_endJobs 75 = .ok (.iinc 1 1, 3) := by decide +kernel
theorem dX8_endJobs_78 : decode cX8_endJobs 78 = .ok (.goto (-76), 3) := by decide +kernel
theorem dX8_endJobs_81 : decode cX8_endJobs 81 = .ok (.return_, 1) := by decide +kernel
theorem dX8_finish_0 : decode cX8_finish 0 = .ok (.aload_n 0, 1) := by decide +kernel
theorem dX8_finish_1 : decode cX8_finish 1 = .ok (.aload_n 1, 1) := by decide +kernel
theorem dX8_finish_2 : decode cX8_finish 2 = .ok (.iconst 1, 1) := by decide +kernel
theorem dX8_finish_3 : decode cX8_finish 3 = .ok (.iconst 1, 1) := by decide +kernel
theorem dX8_finish_4 : decode cX8_finish 4 = .ok (.invokevirtual 262, 3) := by decide +kernel
theorem dX8_finish_7 : decode cX8_finish 7 = .ok (.aload_n 0, 1) := by decide +kernel
theorem dX8_finish_8 : decode cX8_finish 8 = .ok (.dup, 1) := by decide +kernel
theorem dX8_finish_9 : decode cX8_finish 9 = .ok (.getfield 118, 3) := by decide +kernel
theorem dX8_finish_12 : decode cX8_finish 12 = .ok (.iconst 1, 1) := by decide +kernel
theorem dX8_finish_13 : decode cX8_finish 13 = .ok (.iadd, 1) := by decide +kernel
theorem dX8_finish_14 : decode cX8_finish 14 = .ok (.putfield 118, 3) := by decide +kernel
theorem dX8_finish_17 : decode cX8_finish 17 = .ok (.aload_n 1, 1) := by decide +kernel
theorem dX8_finish_18 : decode cX8_finish 18 = .ok (.aload_n 0, 1) := by decide +kernel
theorem dX8_finish_19 : decode cX8_finish 19 = .ok (.getfield 9, 3) := by decide +kernel
theorem dX8_finish_22 : decode cX8_finish 22 = .ok (.invokestatic 165, 3) := by decide +kernel
theorem dX8_finish_25 : decode cX8_finish 25 = .ok (.iconst 0, 1) := by decide +kernel
theorem dX8_finish_26 : decode cX8_finish 26 = .ok (.istore_n 2, 1) := by decide +kernel
theorem dX8_finish_27 : decode cX8_finish 27 = .ok (.iload_n 2, 1) := by decide +kernel
theorem dX8_finish_28 : decode cX8_finish 28 = .ok (.aload_n 1, 1) := by decide +kernel
theorem dX8_finish_29 : decode cX8_finish 29 = .ok (.getfield 266, 3) := by decide +kernel
theorem dX8_finish_32 : decode cX8_finish 32 = .ok (.invokevirtual 157, 3) := by decide +kernel
theorem dX8_finish_35 : decode cX8_finish 35 = .ok (.if_icmp .ge 32, 3) := by decide +kernel
theorem dX8_finish_38 : decode cX8_finish 38 = .ok (.aload_n 1, 1) := by decide +kernel
theorem dX8_finish_39 : decode cX8_finish 39 = .ok (.getfield 266, 3) := by decide +kernel
theorem dX8_finish_42 : decode cX8_finish 42 = .ok (.iload_n 2, 1) := by decide +kernel
theorem dX8_finish_43 : decode cX8_finish 43 = .ok (.invokevirtual 269, 3) := by decide +kernel
theorem dX8_finish_46 : decode cX8_finish 46 = .ok (.checkcast 22, 3) := by decide +kernel
theorem dX8_finish_49 : decode cX8_finish 49 = .ok (.getfield 70, 3) := by decide +kernel
theorem dX8_finish_52 : decode cX8_finish 52 = .ok (.dup, 1) := by decide +kernel
theorem dX8_finish_53 : decode cX8_finish 53 = .ok (.getfield 162, 3) := by decide +kernel
theorem dX8_finish_56 : decode cX8_finish 56 = .ok (.iconst 1, 1) := by decide +kernel
theorem dX8_finish_57 : decode cX8_finish 57 = .ok (.isub, 1) := by decide +kernel
theorem dX8_finish_58 : decode cX8_finish 58 = .ok (.putfield 162, 3) := by decide +kernel
theorem dX8_finish_61 : decode cX8_finish 61 = .ok (.iinc 2 1, 3) := by decide +kernel
theorem dX8_finish_64 : decode cX8_finish 64 = .ok (.goto (-37), 3) := by decide +kernel
theorem dX8_finish_67 : decode cX8_finish 67 = .ok (.return_, 1) := by decide +kernel
theorem dX8_fail_0 : decode cX8_fail 0 = .ok (.aload_n 0, 1) := by decide +kernel
theorem dX8_fail_1 : decode cX8_fail 1 = .ok (.aload_n 1, 1) := by decide +kernel
theorem dX8_fail_2 : decode cX8_fail 2 = .ok (.iconst 2, 1) := by decide +kernel
theorem dX8_fail_3 : decode cX8_fail 3 = .ok (.iconst 2, 1) := by decide +kernel
theorem dX8_fail_4 : decode cX8_fail 4 = .ok (.invokevirtual 262, 3) := by decide +kernel
theorem dX8_fail_7 : decode cX8_fail 7 = .ok (.aload_n 0, 1) := by decide +kernel
theorem dX8_fail_8 : decode cX8_fail 8 = .ok (.dup, 1) := by decide +kernel
theorem dX8_fail_9 : decode cX8_fail 9 = .ok (.getfield 115, 3) := by decide +kernel
theorem dX8_fail_12 : decode cX8_fail 12 = .ok (.iconst 1, 1) := by decide +kernel
theorem dX8_fail_13 : decode cX8_fail 13 = .ok (.iadd, 1) := by decide +kernel
theorem dX8_fail_14 : decode cX8_fail 14 = .ok (.putfield 115, 3) := by decide +kernel
theorem dX8_fail_17 : decode cX8_fail 17 = .ok (.aload_n 1, 1) := by decide +kernel
theorem dX8_fail_18 : decode cX8_fail 18 = .ok (.getfield 70, 3) := by decide +kernel
theorem dX8_fail_21 : decode cX8_fail 21 = .ok (.iload_n 2, 1) := by decide +kernel
theorem dX8_fail_22 : decode cX8_fail 22 = .ok (.putfield 273, 3) := by decide +kernel
theorem dX8_fail_25 : decode cX8_fail 25 = .ok (.aload_n 0, 1) := by decide +kernel
theorem dX8_fail_26 : decode cX8_fail 26 = .ok (.aload_n 1, 1) := by decide +kernel
theorem dX8_fail_27 : decode cX8_fail 27 = .ok (.invokevirtual 276, 3) := by decide +kernel
theorem dX8_fail_30 : decode cX8_fail 30 = .ok (.aload_n 0, 1) := by decide +kernel
theorem dX8_fail_31 : decode cX8_fail 31 = .ok (.getfield 34, 3) := by decide +kernel
theorem dX8_fail_34 : decode cX8_fail 34 = .ok (.aload_n 1, 1) := by decide +kernel
theorem dX8_fail_35 : decode cX8_fail 35 = .ok (.getfield 208, 3) := by decide +kernel
theorem dX8_fail_38 : decode cX8_fail 38 = .ok (.invokevirtual 189, 3) := by decide +kernel
theorem dX8_fail_41 : decode cX8_fail 41 = .ok (.aload_n 0, 1) := by decide +kernel
theorem dX8_fail_42 : decode cX8_fail 42 = .ok (.iconst 1, 1) := by decide +kernel
theorem dX8_fail_43 : decode cX8_fail 43 = .ok (.putfield 137, 3) := by decide +kernel
theorem dX8_fail_46 : decode cX8_fail 46 = .ok (.return_, 1) := by decide +kernel
theorem dX8_leave_0 : decode cX8_leave 0 = .ok (.aload_n 1, 1) := by decide +kernel
theorem dX8_leave_1 : decode cX8_leave 1 = .ok (.getfield 70, 3) := by decide +kernel
theorem dX8_leave_4 : decode cX8_leave 4 = .ok (.astore 4, 2) := by decide +kernel
theorem dX8_leave_6 : decode cX8_leave 6 = .ok (.aload 4, 2) := by decide +kernel
theorem dX8_leave_8 : decode cX8_leave 8 = .ok (.iload_n 2, 1) := by decide +kernel
theorem dX8_leave_9 : decode cX8_leave 9 = .ok (.putfield 74, 3) := by decide +kernel
theorem dX8_leave_12 : decode cX8_leave 12 = .ok (.aload 4, 2) := by decide +kernel
theorem dX8_leave_14 : decode cX8_leave 14 = .ok (.aload_n 0, 1) := by decide +kernel
theorem dX8_leave_15 : decode cX8_leave 15 = .ok (.getfield 112, 3) := by decide +kernel
theorem dX8_leave_18 : decode cX8_leave 18 = .ok (.putfield 279, 3) := by decide +kernel
theorem dX8_leave_21 : decode cX8_leave 21 = .ok (.aload 4, 2) := by decide +kernel
theorem dX8_leave_23 : decode cX8_leave 23 = .ok (.aload_n 0, 1) := by decide +kernel
theorem dX8_leave_24 : decode cX8_leave 24 = .ok (.getfield 112, 3) := by decide +kernel
theorem dX8_leave_27 : decode cX8_leave 27 = .ok (.aload 4, 2) := by decide +kernel
theorem dX8_leave_29 : decode cX8_leave 29 = .ok (.getfield 282, 3) := by decide +kernel
theorem dX8_leave_32 : decode cX8_leave 32 = .ok (.isub, 1) := by decide +kernel
theorem dX8_leave_33 : decode cX8_leave 33 = .ok (.putfield 105, 3) := by decide +kernel
theorem dX8_leave_36 : decode cX8_leave 36 = .ok (.aload 4, 2) := by decide +kernel
theorem dX8_leave_38 : decode cX8_leave 38 = .ok (.getfield 285, 3) := by decide +kernel
theorem dX8_leave_41 : decode cX8_leave 41 = .ok (.ifCond .lt 24, 3) := by decide +kernel
theorem dX8_leave_44 : decode cX8_leave 44 = .ok (.aload 4, 2) := by decide +kernel
theorem dX8_leave_46 : decode cX8_leave 46 = .ok (.getfield 285, 3) := by decide +kernel
