theorem dX8_leave_49 : decode cX8_leave 49 = .ok (.bipush 32, 2) := by decide +kernel
theorem dX8_leave_51 : decode cX8_leave 51 = .ok (.if_icmp .ge 14, 3) := by decide +kernel
theorem dX8_leave_54 : decode cX8_leave 54 = .ok (.aload_n 0, 1) := by decide +kernel
theorem dX8_leave_55 : decode cX8_leave 55 = .ok (.getfield 24, 3) := by decide +kernel
theorem dX8_leave_58 : decode cX8_leave 58 = .ok (.aload 4, 2) := by decide +kernel
theorem dX8_leave_60 : decode cX8_leave 60 = .ok (.getfield 285, 3) := by decide +kernel
theorem dX8_leave_63 : decode cX8_leave 63 = .ok (.aconst_null, 1) := by decide +kernel
theorem dX8_leave_64 : decode cX8_leave 64 = .ok (.aastore, 1) := by decide +kernel
theorem dX8_leave_65 : decode cX8_leave 65 = .ok (.aload_n 1, 1) := by decide +kernel
theorem dX8_leave_66 : decode cX8_leave 66 = .ok (.getfield 101, 3) := by decide +kernel
theorem dX8_leave_69 : decode cX8_leave 69 = .ok (.dup, 1) := by decide +kernel
theorem dX8_leave_70 : decode cX8_leave 70 = .ok (.getfield 150, 3) := by decide +kernel
theorem dX8_leave_73 : decode cX8_leave 73 = .ok (.iconst 1, 1) := by decide +kernel
theorem dX8_leave_74 : decode cX8_leave 74 = .ok (.iadd, 1) := by decide +kernel
theorem dX8_leave_75 : decode cX8_leave 75 = .ok (.putfield 150, 3) := by decide +kernel
theorem dX8_leave_78 : decode cX8_leave 78 = .ok (.aload_n 0, 1) := by decide +kernel
theorem dX8_leave_79 : decode cX8_leave 79 = .ok (.dup, 1) := by decide +kernel
theorem dX8_leave_80 : decode cX8_leave 80 = .ok (.getfield 127, 3) := by decide +kernel
theorem dX8_leave_83 : decode cX8_leave 83 = .ok (.aload_n 1, 1) := by decide +kernel
theorem dX8_leave_84 : decode cX8_leave 84 = .ok (.getfield 288, 3) := by decide +kernel
theorem dX8_leave_87 : decode cX8_leave 87 = .ok (.ldc2_w 291, 3) := by decide +kernel
theorem dX8_leave_90 : decode cX8_leave 90 = .ok (.lxor, 1) := by decide +kernel
theorem dX8_leave_91 : decode cX8_leave 91 = .ok (.land, 1) := by decide +kernel
theorem dX8_leave_92 : decode cX8_leave 92 = .ok (.putfield 127, 3) := by decide +kernel
theorem dX8_leave_95 : decode cX8_leave 95 = .ok (.aload_n 0, 1) := by decide +kernel
theorem dX8_leave_96 : decode cX8_leave 96 = .ok (.dup, 1) := by decide +kernel
theorem dX8_leave_97 : decode cX8_leave 97 = .ok (.getfield 124, 3) := by decide +kernel
theorem dX8_leave_100 : decode cX8_leave 100 = .ok (.iconst 1, 1) := by decide +kernel
theorem dX8_leave_101 : decode cX8_leave 101 = .ok (.isub, 1) := by decide +kernel
theorem dX8_leave_102 : decode cX8_leave 102 = .ok (.putfield 124, 3) := by decide +kernel
theorem dX8_leave_105 : decode cX8_leave 105 = .ok (.aload_n 0, 1) := by decide +kernel
theorem dX8_leave_106 : decode cX8_leave 106 = .ok (.aload_n 0, 1) := by decide +kernel
theorem dX8_leave_107 : decode cX8_leave 107 = .ok (.getfield 112, 3) := by decide +kernel
theorem dX8_leave_110 : decode cX8_leave 110 = .ok (.putfield 98, 3) := by decide +kernel
theorem dX8_leave_113 : decode cX8_leave 113 = .ok (.aload_n 0, 1) := by decide +kernel
theorem dX8_leave_114 : decode cX8_leave 114 = .ok (.getfield 41, 3) := by decide +kernel
theorem dX8_leave_117 : decode cX8_leave 117 = .ok (.aload_n 0, 1) := by decide +kernel
theorem dX8_leave_118 : decode cX8_leave 118 = .ok (.getfield 112, 3) := by decide +kernel
theorem dX8_leave_121 : decode cX8_leave 121 = .ok (.iload_n 3, 1) := by decide +kernel
theorem dX8_leave_122 : decode cX8_leave 122 = .ok (.aload_n 1, 1) := by decide +kernel
theorem dX8_leave_123 : decode cX8_leave 123 = .ok (.getfield 208, 3) := by decide +kernel
theorem dX8_leave_126 : decode cX8_leave 126 = .ok (.invokevirtual 211, 3) := by decide +kernel
theorem dX8_leave_129 : decode cX8_leave 129 = .ok (.return_, 1) := by decide +kernel
theorem dX8_bringBackRest_0 : decode cX8_bringBackRest 0 = .ok (.aload_n 1, 1) := by decide +kernel
theorem dX8_bringBackRest_1 : decode cX8_bringBackRest 1 = .ok (.getfield 201, 3) := by decide +kernel
theorem dX8_bringBackRest_4 : decode cX8_bringBackRest 4 = .ok (.astore_n 2, 1) := by decide +kernel
theorem dX8_bringBackRest_5 : decode cX8_bringBackRest 5 = .ok (.aload_n 1, 1) := by decide +kernel
theorem dX8_bringBackRest_6 : decode cX8_bringBackRest 6 = .ok (.getfield 293, 3) := by decide +kernel
theorem dX8_bringBackRest_9 : decode cX8_bringBackRest 9 = .ok (.ifCond .gt 4, 3) := by decide +kernel
theorem dX8_bringBackRest_12 : decode cX8_bringBackRest 12 = .ok (.return_, 1) := by decide +kernel
theorem dX8_bringBackRest_13 : decode cX8_bringBackRest 13 = .ok (.iconst 0, 1) := by decide +kernel
theorem dX8_bringBackRest_14 : decode cX8_bringBackRest 14 = .ok (.istore_n 3, 1) := by decide +kernel
theorem dX8_bringBackRest_15 : decode cX8_bringBackRest 15 = .ok (.iload_n 3, 1) := by decide +kernel
theorem dX8_bringBackRest_16 : decode cX8_bringBackRest 16 = .ok (.aload_n 2, 1) := by decide +kernel
theorem dX8_bringBackRest_17 : decode cX8_bringBackRest 17 = .ok (.getfield 176, 3) := by decide +kernel
theorem dX8_bringBackRest_20 : decode cX8_bringBackRest 20 = .ok (.if_icmp .ge 52, 3) := by decide +kernel
theorem dX8_bringBackRest_23 : decode cX8_bringBackRest 23 = .ok (.aload_n 2, 1) := by decide +kernel
theorem dX8_bringBackRest_24 : decode cX8_bringBackRest 24 = .ok (.getfield 182, 3) := by decide +kernel
theorem dX8_bringBackRest_27 : decode cX8_bringBackRest 27 = .ok (.iload_n 3, 1) := by decide +kernel
theorem dX8_bringBackRest_28 : decode cX8_bringBackRest 28 = .ok (.iaload, 1) := by decide +kernel
theorem dX8_bringBackRest_29 : decode cX8_bringBackRest 29 = .ok (.i2l, 1) := by decide +kernel
theorem dX8_bringBackRest_30 : decode cX8_bringBackRest 30 = .ok (.lstore 4, 2) := by decide +kernel
theorem dX8_bringBackRest_32 : decode cX8_bringBackRest 32 = .ok (.aload_n 0, 1) := by decide +kernel
theorem dX8_bringBackRest_33 : decode cX8_bringBackRest 33 = .ok (.getfield 9, 3) := by decide +kernel
theorem dX8_bringBackRest_36 : decode cX8_bringBackRest 36 = .ok (.aload_n 2, 1) := by decide +kernel
theorem dX8_bringBackRest_37 : decode cX8_bringBackRest 37 = .ok (.getfield 179, 3) := by decide +kernel
theorem dX8_bringBackRest_40 : decode cX8_bringBackRest 40 = .ok (.iload_n 3, 1) := by decide +kernel
theorem dX8_bringBackRest_41 : decode cX8_bringBackRest 41 = .ok (.iaload, 1) := by decide +kernel
theorem dX8_bringBackRest_42 : decode cX8_bringBackRest 42 = .ok (.dup2, 1) := by decide +kernel
theorem dX8_bringBackRest_43 : decode cX8_bringBackRest 43 = .ok (.laload, 1) := by decide +kernel
theorem dX8_bringBackRest_44 : decode cX8_bringBackRest 44 = .ok (.lload 4, 2) := by decide +kernel
theorem dX8_bringBackRest_46 : decode cX8_bringBackRest 46 = .ok (.lload 4, 2) := by decide +kernel
theorem dX8_bringBackRest_48 : decode cX8_bringBackRest 48 = .ok (.aload_n 1, 1) := by decide +kernel
theorem dX8_bringBackRest_49 : decode cX8_bringBackRest 49 = .ok (.getfield 70, 3) := by decide +kernel
theorem dX8_bringBackRest_52 : decode cX8_bringBackRest 52 = .ok (.getfield 105, 3) := by decide +kernel
theorem dX8_bringBackRest_55 : decode cX8_bringBackRest 55 = .ok (.i2l, 1) := by decide +kernel
theorem dX8_bringBackRest_56 : decode cX8_bringBackRest 56 = .ok (.lmul, 1) := by decide +kernel
theorem dX8_bringBackRest_57 : decode cX8_bringBackRest 57 = .ok (.aload_n 1, 1) := by decide +kernel
theorem dX8_bringBackRest_58 : decode cX8_bringBackRest 58 = .ok (.getfield 293, 3) := by decide +kernel
theorem dX8_bringBackRest_61 : decode cX8_bringBackRest 61 = .ok (.i2l, 1) := by decide +kernel
theorem dX8_bringBackRest_62 : decode cX8_bringBackRest 62 = .ok (.ldiv, 1) := by decide +kernel
theorem dX8_bringBackRest_63 : decode cX8_bringBackRest 63 = .ok (.lsub, 1) := by decide +kernel
theorem dX8_bringBackRest_64 : decode cX8_bringBackRest 64 = .ok (.ladd, 1) := by decide +kernel
theorem dX8_bringBackRest_65 : decode cX8_bringBackRest 65 = .ok (.lastore, 1) := by decide +kernel
theorem dX8_bringBackRest_66 : decode cX8_bringBackRest 66 = .ok (.iinc 3 1, 3) := by decide +kernel
theorem dX8_bringBackRest_69 : decode cX8_bringBackRest 69 = .ok (.goto (-54), 3) := by decide +kernel
theorem dX8_bringBackRest_72 : decode cX8_bringBackRest 72 = .ok (.return_, 1) := by decide +kernel
theorem dX8_cancelLeaning_0 : decode cX8_cancelLeaning 0 = .ok (.aload_n 0, 1) := by decide +kernel
theorem dX8_cancelLeaning_1 : decode cX8_cancelLeaning 1 = .ok (.getfield 137, 3) := by decide +kernel
theorem dX8_cancelLeaning_4 : decode cX8_cancelLeaning 4 = .ok (.ifCond .ne 4, 3) := by decide +kernel
theorem dX8_cancelLeaning_7 : decode cX8_cancelLeaning 7 = .ok (.return_, 1) := by decide +kernel
theorem dX8_cancelLeaning_8 : decode cX8_cancelLeaning 8 = .ok (.iconst 0, 1) := by decide +kernel
theorem dX8_cancelLeaning_9 : decode cX8_cancelLeaning 9 = .ok (.istore_n 1, 1) := by decide +kernel
theorem dX8_cancelLeaning_10 : decode cX8_cancelLeaning 10 = .ok (.iload_n 1, 1) := by decide +kernel
theorem dX8_cancelLeaning_11 : decode cX8_cancelLeaning 11 = .ok (.aload_n 0, 1) := by decide +kernel
theorem dX8_cancelLeaning_12 : decode cX8_cancelLeaning 12 = .ok (.getfield 121, 3) := by decide +kernel
theorem dX8_cancelLeaning_15 : decode cX8_cancelLeaning 15 = .ok (.if_icmp .ge 64, 3) := by decide +kernel
theorem dX8_cancelLeaning_18 : decode cX8_cancelLeaning 18 = .ok (.aload_n 0, 1) := by decide +kernel
theorem dX8_cancelLeaning_19 : decode cX8_cancelLeaning 19 = .ok (.getfield 28, 3) := by decide +kernel
theorem dX8_cancelLeaning_22 : decode cX8_cancelLeaning 22 = .ok (.iload_n 1, 1) := by decide +kernel
theorem dX8_cancelLeaning_23 : decode cX8_cancelLeaning 23 = .ok (.aaload, 1) := by decide +kernel
theorem dX8_cancelLeaning_24 : decode cX8_cancelLeaning 24 = .ok (.astore_n 2, 1) := by decide +kernel
theorem dX8_cancelLeaning_25 : decode cX8_cancelLeaning 25 = .ok (.aload_n 2, 1) := by decide +kernel
theorem dX8_cancelLeaning_26 : decode cX8_cancelLeaning 26 = .ok (.getfield 70, 3) := by decide +kernel
theorem dX8_cancelLeaning_29 : decode cX8_cancelLeaning 29 = .ok (.getfield 74, 3) := by decide +kernel
theorem dX8_cancelLeaning_32 : decode cX8_cancelLeaning 32 = .ok (.ifCond .ne 41, 3) := by decide +kernel
theorem dX8_cancelLeaning_35 : decode cX8_cancelLeaning 35 = .ok (.aload_n 2, 1) := by decide +kernel
theorem dX8_cancelLeaning_36 : decode cX8_cancelLeaning 36 = .ok (.getfield 87, 3) := by decide +kernel
theorem dX8_cancelLeaning_39 : decode cX8_cancelLeaning 39 = .ok (.aload_n 0, 1) := by decide +kernel
theorem dX8_cancelLeaning_40 : decode cX8_cancelLeaning 40 = .ok (.getfield 34, 3) := by decide +kernel
theorem dX8_cancelLeaning_43 : decode cX8_cancelLeaning 43 = .ok (.invokevirtual 193, 3) := by decide +kernel
theorem dX8_cancelLeaning_46 : decode cX8_cancelLeaning 46 = .ok (.ifCond .eq 27, 3) := by decide +kernel
theorem dX8_cancelLeaning_49 : decode cX8_cancelLeaning 49 = .ok (.aload_n 2, 1) := by decide +kernel
theorem dX8_cancelLeaning_50 : decode cX8_cancelLeaning 50 = .ok (.getfield 70, 3) := by decide +kernel
theorem dX8_cancelLeaning_53 : decode cX8_cancelLeaning 53 = .ok (.iconst 3, 1) := by decide +kernel
theorem dX8_cancelLeaning_54 : decode cX8_cancelLeaning 54 = .ok (.putfield 74, 3) := by decide +kernel
theorem dX8_cancelLeaning_57 : decode cX8_cancelLeaning 57 = .ok (.aload_n 0, 1) := by decide +kernel
theorem dX8_cancelLeaning_58 : decode cX8_cancelLeaning 58 = .ok (.getfield 41, 3) := by decide +kernel
theorem dX8_cancelLeaning_61 : decode cX8_cancelLeaning 61 = .ok (.aload_n 0, 1) := by decide +kernel
theorem dX8_cancelLeaning_62 : decode cX8_cancelLeaning 62 = .ok (.getfield 112, 3) := by decide +kernel
theorem dX8_cancelLeaning_65 : decode cX8_cancelLeaning 65 = .ok (.iconst 3, 1) := by decide +kernel
theorem dX8_cancelLeaning_66 : decode cX8_cancelLeaning 66 = .ok (.aload_n 2, 1) := by decide +kernel
theorem dX8_cancelLeaning_67 : decode cX8_cancelLeaning 67 = .ok (.getfield 208, 3) := by decide +kernel
theorem dX8_cancelLeaning_70 : decode cX8_cancelLeaning 70 = .ok (.invokevirtual 211, 3) := by decide +kernel
theorem dX8_cancelLeaning_73 : decode cX8_cancelLeaning 73 = .ok (.iinc 1 1, 3) := by decide +kernel
theorem dX8_cancelLeaning_76 : decode cX8_cancelLeaning 76 = .ok (.goto (-66), 3) := by decide +kernel
theorem dX8_cancelLeaning_79 : decode cX8_cancelLeaning 79 = .ok (.aload_n 0, 1) := by decide +kernel
theorem dX8_cancelLeaning_80 : decode cX8_cancelLeaning 80 = .ok (.invokevirtual 131, 3) := by decide +kernel
theorem dX8_cancelLeaning_83 : decode cX8_cancelLeaning 83 = .ok (.return_, 1) := by decide +kernel
theorem dX8_stopAtDeadline_0 : decode cX8_stopAtDeadline 0 = .ok (.aload_n 0, 1) := by decide +kernel
theorem dX8_stopAtDeadline_1 : decode cX8_stopAtDeadline 1 = .ok (.getfield 124, 3) := by decide +kernel
theorem dX8_stopAtDeadline_4 : decode cX8_stopAtDeadline 4 = .ok (.ifCond .le 15, 3) := by decide +kernel
theorem dX8_stopAtDeadline_7 : decode cX8_stopAtDeadline 7 = .ok (.aload_n 0, 1) := by decide +kernel
theorem dX8_stopAtDeadline_8 : decode cX8_stopAtDeadline 8 = .ok (.invokevirtual 296, 3) := by decide +kernel
theorem dX8_stopAtDeadline_11 : decode cX8_stopAtDeadline 11 = .ok (.aload_n 0, 1) := by decide +kernel
theorem dX8_stopAtDeadline_12 : decode cX8_stopAtDeadline 12 = .ok (.iconst 2, 1) := by decide +kernel
theorem dX8_stopAtDeadline_13 : decode cX8_stopAtDeadline 13 = .ok (.putfield 66, 3) := by decide +kernel
theorem dX8_stopAtDeadline_16 : decode cX8_stopAtDeadline 16 = .ok (.goto 22, 3) := by decide +kernel
theorem dX8_stopAtDeadline_19 : decode cX8_stopAtDeadline 19 = .ok (.aload_n 0, 1) := by decide +kernel
theorem dX8_stopAtDeadline_20 : decode cX8_stopAtDeadline 20 = .ok (.invokevirtual 299, 3) := by decide +kernel
theorem dX8_stopAtDeadline_23 : decode cX8_stopAtDeadline 23 = .ok (.ifCond .eq 11, 3) := by decide +kernel
theorem dX8_stopAtDeadline_26 : decode cX8_stopAtDeadline 26 = .ok (.aload_n 0, 1) := by decide +kernel
theorem dX8_stopAtDeadline_27 : decode cX8_stopAtDeadline 27 = .ok (.iconst 2, 1) := by decide +kernel
theorem dX8_stopAtDeadline_28 : decode cX8_stopAtDeadline 28 = .ok (.putfield 66, 3) := by decide +kernel
theorem dX8_stopAtDeadline_31 : decode cX8_stopAtDeadline 31 = .ok (.goto 7, 3) := by decide +kernel
theorem dX8_stopAtDeadline_34 : decode cX8_stopAtDeadline 34 = .ok (.aload_n 0, 1) := by decide +kernel
theorem dX8_stopAtDeadline_35 : decode cX8_stopAtDeadline 35 = .ok (.invokevirtual 227, 3) := by decide +kernel
theorem dX8_stopAtDeadline_38 : decode cX8_stopAtDeadline 38 = .ok (.return_, 1) := by decide +kernel
theorem dX8_interruptAll_0 : decode cX8_interruptAll 0 = .ok (.iconst 0, 1) := by decide +kernel
theorem dX8_interruptAll_1 : decode cX8_interruptAll 1 = .ok (.istore_n 1, 1) := by decide +kernel
theorem dX8_interruptAll_2 : decode cX8_interruptAll 2 = .ok (.iload_n 1, 1) := by decide +kernel
theorem dX8_interruptAll_3 : decode cX8_interruptAll 3 = .ok (.aload_n 0, 1) := by decide +kernel
theorem dX8_interruptAll_4 : decode cX8_interruptAll 4 = .ok (.getfield 45, 3) := by decide +kernel
theorem dX8_interruptAll_7 : decode cX8_interruptAll 7 = .ok (.getfield 233, 3) := by decide +kernel
theorem dX8_interruptAll_10 : decode cX8_interruptAll 10 = .ok (.if_icmp .ge 92, 3) := by decide +kernel
theorem dX8_interruptAll_13 : decode cX8_interruptAll 13 = .ok (.aload_n 0, 1) := by decide +kernel
theorem dX8_interruptAll_14 : decode cX8_interruptAll 14 = .ok (.getfield 24, 3) := by decide +kernel
theorem dX8_interruptAll_17 : decode cX8_interruptAll 17 = .ok (.iload_n 1, 1) := by decide +kernel
theorem dX8_interruptAll_18 : decode cX8_interruptAll 18 = .ok (.aaload, 1) := by decide +kernel
theorem dX8_interruptAll_19 : decode cX8_interruptAll 19 = .ok (.astore_n 2, 1) := by decide +kernel
theorem dX8_interruptAll_20 : decode cX8_interruptAll 20 = .ok (.aload_n 2, 1) := by decide +kernel
theorem dX8_interruptAll_21 : decode cX8_interruptAll 21 = .ok (.ifnull 75, 3) := by decide +kernel
theorem dX8_interruptAll_24 : decode cX8_interruptAll 24 = .ok (.aload_n 0, 1) := by decide +kernel
theorem dX8_interruptAll_25 : decode cX8_interruptAll 25 = .ok (.aload_n 2, 1) := by decide +kernel
theorem dX8_interruptAll_26 : decode cX8_interruptAll 26 = .ok (.iconst 4, 1) := by decide +kernel
theorem dX8_interruptAll_27 : decode cX8_interruptAll 27 = .ok (.iconst 4, 1) := by decide +kernel
theorem dX8_interruptAll_28 : decode cX8_interruptAll 28 = .ok (.invokevirtual 262, 3) := by decide +kernel
theorem dX8_interruptAll_31 : decode cX8_interruptAll 31 = .ok (.aload_n 2, 1) := by decide +kernel
theorem dX8_interruptAll_32 : decode cX8_interruptAll 32 = .ok (.getfield 246, 3) := by decide +kernel
theorem dX8_interruptAll_35 : decode cX8_interruptAll 35 = .ok (.getfield 302, 3) := by decide +kernel
theorem dX8_interruptAll_38 : decode cX8_interruptAll 38 = .ok (.ifCond .eq 7, 3) := by decide +kernel
theorem dX8_interruptAll_41 : decode cX8_interruptAll 41 = .ok (.iconst 1, 1) := by decide +kernel
theorem dX8_interruptAll_42 : decode cX8_interruptAll 42 = .ok (.goto 4, 3) := by decide +kernel
theorem dX8_interruptAll_45 : decode cX8_interruptAll 45 = .ok (.iconst 0, 1) := by decide +kernel
theorem dX8_interruptAll_46 : decode cX8_interruptAll 46 = .ok (.istore_n 3, 1) := by decide +kernel
theorem dX8_interruptAll_47 : decode cX8_interruptAll 47 = .ok (.aload_n 2, 1) := by decide +kernel
theorem dX8_interruptAll_48 : decode cX8_interruptAll 48 = .ok (.getfield 70, 3) := by decide +kernel
theorem dX8_interruptAll_51 : decode cX8_interruptAll 51 = .ok (.getfield 105, 3) := by decide +kernel
theorem dX8_interruptAll_54 : decode cX8_interruptAll 54 = .ok (.aload_n 2, 1) := by decide +kernel
theorem dX8_interruptAll_55 : decode cX8_interruptAll 55 = .ok (.getfield 293, 3) := by decide +kernel
theorem dX8_interruptAll_58 : decode cX8_interruptAll 58 = .ok (.iconst 2, 1) := by decide +kernel
theorem dX8_interruptAll_59 : decode cX8_interruptAll 59 = .ok (.idiv, 1) := by decide +kernel
theorem dX8_interruptAll_60 : decode cX8_interruptAll 60 = .ok (.if_icmp .ge 7, 3) := by decide +kernel
theorem dX8_interruptAll_63 : decode cX8_interruptAll 63 = .ok (.iconst 1, 1) := by decide +kernel
theorem dX8_interruptAll_64 : decode cX8_interruptAll 64 = .ok (.goto 4, 3) := by decide +kernel
theorem dX8_interruptAll_67 : decode cX8_interruptAll 67 = .ok (.iconst 0, 1) := by decide +kernel
theorem dX8_interruptAll_68 : decode cX8_interruptAll 68 = .ok (.istore 4, 2) := by decide +kernel
theorem dX8_interruptAll_70 : decode cX8_interruptAll 70 = .ok (.aload_n 2, 1) := by decide +kernel
theorem dX8_interruptAll_71 : decode cX8_interruptAll 71 = .ok (.getfield 70, 3) := by decide +kernel
theorem dX8_interruptAll_74 : decode cX8_interruptAll 74 = .ok (.iload_n 3, 1) := by decide +kernel
theorem dX8_interruptAll_75 : decode cX8_interruptAll 75 = .ok (.ifCond .eq 12, 3) := by decide +kernel
theorem dX8_interruptAll_78 : decode cX8_interruptAll 78 = .ok (.iload 4, 2) := by decide +kernel
theorem dX8_interruptAll_80 : decode cX8_interruptAll 80 = .ok (.ifCond .eq 7, 3) := by decide +kernel
theorem dX8_interruptAll_83 : decode cX8_interruptAll 83 = .ok (.iconst 2, 1) := by decide +kernel
theorem dX8_interruptAll_84 : decode cX8_interruptAll 84 = .ok (.goto 4, 3) := by decide +kernel
theorem dX8_interruptAll_87 : decode cX8_interruptAll 87 = .ok (.iconst 1, 1) := by decide +kernel
theorem dX8_interruptAll_88 : decode cX8_interruptAll 88 = .ok (.putfield 303, 3) := by decide +kernel
theorem dX8_interruptAll_91 : decode cX8_interruptAll 91 = .ok (.aload_n 0, 1) := by decide +kernel
theorem dX8_interruptAll_92 : decode cX8_interruptAll 92 = .ok (.aload_n 2, 1) := by decide +kernel
theorem dX8_interruptAll_93 : decode cX8_interruptAll 93 = .ok (.invokevirtual 276, 3) := by decide +kernel
theorem dX8_interruptAll_96 : decode cX8_interruptAll 96 = .ok (.iinc 1 1, 3) := by decide +kernel
theorem dX8_interruptAll_99 : decode cX8_interruptAll 99 = .ok (.goto (-97), 3) := by decide +kernel
theorem dX8_interruptAll_102 : decode cX8_interruptAll 102 = .ok (.return_, 1) := by decide +kernel
theorem dX8_someoneWouldBegin_0 : decode cX8_someoneWouldBegin 0 = .ok (.iconst 0, 1) := by decide +kernel
theorem dX8_someoneWouldBegin_1 : decode cX8_someoneWouldBegin 1 = .ok (.istore_n 1, 1) := by decide +kernel
theorem dX8_someoneWouldBegin_2 : decode cX8_someoneWouldBegin 2 = .ok (.iload_n 1, 1) := by decide +kernel
theorem dX8_someoneWouldBegin_3 : decode cX8_someoneWouldBegin 3 = .ok (.aload_n 0, 1) := by decide +kernel
theorem dX8_someoneWouldBegin_4 : decode cX8_someoneWouldBegin 4 = .ok (.getfield 121, 3) := by decide +kernel
theorem dX8_someoneWouldBegin_7 : decode cX8_someoneWouldBegin 7 = .ok (.if_icmp .ge 24, 3) := by decide +kernel
theorem dX8_someoneWouldBegin_10 : decode cX8_someoneWouldBegin 10 = .ok (.aload_n 0, 1) := by decide +kernel
theorem dX8_someoneWouldBegin_11 : decode cX8_someoneWouldBegin 11 = .ok (.aload_n 0, 1) := by decide +kernel
theorem dX8_someoneWouldBegin_12 : decode cX8_someoneWouldBegin 12 = .ok (.getfield 28, 3) := by decide +kernel
theorem dX8_someoneWouldBegin_15 : decode cX8_someoneWouldBegin 15 = .ok (.iload_n 1, 1) := by decide +kernel
theorem dX8_someoneWouldBegin_16 : decode cX8_someoneWouldBegin 16 = .ok (.aaload, 1) := by decide +kernel
theorem dX8_someoneWouldBegin_17 : decode cX8_someoneWouldBegin 17 = .ok (.invokevirtual 306, 3) := by decide +kernel
theorem dX8_someoneWouldBegin_20 : decode cX8_someoneWouldBegin 20 = .ok (.ifCond .eq 5, 3) := by decide +kernel
theorem dX8_someoneWouldBegin_23 : decode cX8_someoneWouldBegin 23 = .ok (.iconst 1, 1) := by decide +kernel
theorem dX8_someoneWouldBegin_24 : decode cX8_someoneWouldBegin 24 = .ok (.ireturn, 1) := by decide +kernel
theorem dX8_someoneWouldBegin_25 : decode cX8_someoneWouldBegin 25 = .ok (.iinc 1 1, 3) := by decide +kernel
theorem dX8_someoneWouldBegin_28 : decode cX8_someoneWouldBegin 28 = .ok (.goto (-26), 3) := by decide +kernel
theorem dX8_someoneWouldBegin_31 : decode cX8_someoneWouldBegin 31 = .ok (.iconst 0, 1) := by decide +kernel
theorem dX8_someoneWouldBegin_32 : decode cX8_someoneWouldBegin 32 = .ok (.ireturn, 1) := by decide +kernel
theorem dX8_giveUp_0 : decode cX8_giveUp 0 = .ok (.iconst 0, 1) := by decide +kernel
theorem dX8_giveUp_1 : decode cX8_giveUp 1 = .ok (.istore_n 1, 1) := by decide +kernel
theorem dX8_giveUp_2 : decode cX8_giveUp 2 = .ok (.iload_n 1, 1) := by decide +kernel
theorem dX8_giveUp_3 : decode cX8_giveUp 3 = .ok (.aload_n 0, 1) := by decide +kernel
theorem dX8_giveUp_4 : decode cX8_giveUp 4 = .ok (.getfield 121, 3) := by decide +kernel
theorem dX8_giveUp_7 : decode cX8_giveUp 7 = .ok (.if_icmp .ge 34, 3) := by decide +kernel
theorem dX8_giveUp_10 : decode cX8_giveUp 10 = .ok (.aload_n 0, 1) := by decide +kernel
theorem dX8_giveUp_11 : decode cX8_giveUp 11 = .ok (.getfield 28, 3) := by decide +kernel
theorem dX8_giveUp_14 : decode cX8_giveUp 14 = .ok (.iload_n 1, 1) := by decide +kernel
theorem dX8_giveUp_15 : decode cX8_giveUp 15 = .ok (.aaload, 1) := by decide +kernel
theorem dX8_giveUp_16 : decode cX8_giveUp 16 = .ok (.getfield 70, 3) := by decide +kernel
theorem dX8_giveUp_19 : decode cX8_giveUp 19 = .ok (.getfield 74, 3) := by decide +kernel
theorem dX8_giveUp_22 : decode cX8_giveUp 22 = .ok (.ifCond .ne 13, 3) := by decide +kernel
theorem dX8_giveUp_25 : decode cX8_giveUp 25 = .ok (.aload_n 0, 1) := by decide +kernel
theorem dX8_giveUp_26 : decode cX8_giveUp 26 = .ok (.aload_n 0, 1) := by decide +kernel
theorem dX8_giveUp_27 : decode cX8_giveUp 27 = .ok (.getfield 28, 3) := by decide +kernel
theorem dX8_giveUp_30 : decode cX8_giveUp 30 = .ok (.iload_n 1, 1) := by decide +kernel
theorem dX8_giveUp_31 : decode cX8_giveUp 31 = .ok (.aaload, 1) := by decide +kernel
theorem dX8_giveUp_32 : decode cX8_giveUp 32 = .ok (.invokevirtual 197, 3) := by decide +kernel
theorem dX8_giveUp_35 : decode cX8_giveUp 35 = .ok (.iinc 1 1, 3) := by decide +kernel
theorem dX8_giveUp_38 : decode cX8_giveUp 38 = .ok (.goto (-36), 3) := by decide +kernel
theorem dX8_giveUp_41 : decode cX8_giveUp 41 = .ok (.aload_n 0, 1) := by decide +kernel
theorem dX8_giveUp_42 : decode cX8_giveUp 42 = .ok (.aload_n 0, 1) := by decide +kernel
theorem dX8_giveUp_43 : decode cX8_giveUp 43 = .ok (.getfield 118, 3) := by decide +kernel
theorem dX8_giveUp_46 : decode cX8_giveUp 46 = .ok (.aload_n 0, 1) := by decide +kernel
theorem dX8_giveUp_47 : decode cX8_giveUp 47 = .ok (.getfield 45, 3) := by decide +kernel
theorem dX8_giveUp_50 : decode cX8_giveUp 50 = .ok (.getfield 79, 3) := by decide +kernel
theorem dX8_giveUp_53 : decode cX8_giveUp 53 = .ok (.if_icmp .ne 7, 3) := by decide +kernel
theorem dX8_giveUp_56 : decode cX8_giveUp 56 = .ok (.iconst 0, 1) := by decide +kernel
theorem dX8_giveUp_57 : decode cX8_giveUp 57 = .ok (.goto 4, 3) := by decide +kernel
theorem dX8_giveUp_60 : decode cX8_giveUp 60 = .ok (.iconst 1, 1) := by decide +kernel
theorem dX8_giveUp_61 : decode cX8_giveUp 61 = .ok (.putfield 66, 3) := by decide +kernel
theorem dX8_giveUp_64 : decode cX8_giveUp 64 = .ok (.return_, 1) := by decide +kernel
theorem dX8_beginJobs_0 : decode cX8_beginJobs 0 = .ok (.iconst 0, 1) := by decide +kernel
theorem dX8_beginJobs_1 : decode cX8_beginJobs 1 = .ok (.istore_n 1, 1) := by decide +kernel
theorem dX8_beginJobs_2 : decode cX8_beginJobs 2 = .ok (.iconst 0, 1) := by decide +kernel
theorem dX8_beginJobs_3 : decode cX8_beginJobs 3 = .ok (.istore_n 2, 1) := by decide +kernel
theorem dX8_beginJobs_4 : decode cX8_beginJobs 4 = .ok (.iload_n 2, 1) := by decide +kernel
theorem dX8_beginJobs_5 : decode cX8_beginJobs 5 = .ok (.aload_n 0, 1) := by decide +kernel
theorem dX8_beginJobs_6 : decode cX8_beginJobs 6 = .ok (.getfield 121, 3) := by decide +kernel
theorem dX8_beginJobs_9 : decode cX8_beginJobs 9 = .ok (.if_icmp .ge 52, 3) := by decide +kernel
theorem dX8_beginJobs_12 : decode cX8_beginJobs 12 = .ok (.aload_n 0, 1) := by decide +kernel
theorem dX8_beginJobs_13 : decode cX8_beginJobs 13 = .ok (.getfield 28, 3) := by decide +kernel
theorem dX8_beginJobs_16 : decode cX8_beginJobs 16 = .ok (.iload_n 2, 1) := by decide +kernel
theorem dX8_beginJobs_17 : decode cX8_beginJobs 17 = .ok (.aaload, 1) := by decide +kernel
theorem dX8_beginJobs_18 : decode cX8_beginJobs 18 = .ok (.astore_n 3, 1) := by decide +kernel
theorem dX8_beginJobs_19 : decode cX8_beginJobs 19 = .ok (.aload_n 0, 1) := by decide +kernel
theorem dX8_beginJobs_20 : decode cX8_beginJobs 20 = .ok (.aload_n 3, 1) := by decide +kernel
theorem dX8_beginJobs_21 : decode cX8_beginJobs 21 = .ok (.invokevirtual 306, 3) := by decide +kernel
theorem dX8_beginJobs_24 : decode cX8_beginJobs 24 = .ok (.ifCond .eq 11, 3) := by decide +kernel
theorem dX8_beginJobs_27 : decode cX8_beginJobs 27 = .ok (.aload_n 0, 1) := by decide +kernel
theorem dX8_beginJobs_28 : decode cX8_beginJobs 28 = .ok (.aload_n 3, 1) := by decide +kernel
theorem dX8_beginJobs_29 : decode cX8_beginJobs 29 = .ok (.invokevirtual 309, 3) := by decide +kernel
theorem dX8_beginJobs_32 : decode cX8_beginJobs 32 = .ok (.goto 23, 3) := by decide +kernel
theorem dX8_beginJobs_35 : decode cX8_beginJobs 35 = .ok (.aload_n 3, 1) := by decide +kernel
theorem dX8_beginJobs_36 : decode cX8_beginJobs 36 = .ok (.getfield 70, 3) := by decide +kernel
theorem dX8_beginJobs_39 : decode cX8_beginJobs 39 = .ok (.getfield 74, 3) := by decide +kernel
theorem dX8_beginJobs_42 : decode cX8_beginJobs 42 = .ok (.ifCond .ne 13, 3) := by decide +kernel
theorem dX8_beginJobs_45 : decode cX8_beginJobs 45 = .ok (.aload_n 0, 1) := by decide +kernel
theorem dX8_beginJobs_46 : decode cX8_beginJobs 46 = .ok (.getfield 28, 3) := by decide +kernel
theorem dX8_beginJobs_49 : decode cX8_beginJobs 49 = .ok (.iload_n 1, 1) := by decide +kernel
theorem dX8_beginJobs_50 : decode cX8_beginJobs 50 = .ok (.aload_n 3, 1) := by decide +kernel
theorem dX8_beginJobs_51 : decode cX8_beginJobs 51 = .ok (.aastore, 1) := by decide +kernel
theorem dX8_beginJobs_52 : decode cX8_beginJobs 52 = .ok (.iinc 1 1, 3) := by decide +kernel
theorem dX8_beginJobs_55 : decode cX8_beginJobs 55 = .ok (.iinc 2 1, 3) := by decide +kernel
theorem dX8_beginJobs_58 : decode cX8_beginJobs 58 = .ok (.goto (-54), 3) := by decide +kernel
theorem dX8_beginJobs_61 : decode cX8_beginJobs 61 = .ok (.aload_n 0, 1) := by decide +kernel
theorem dX8_beginJobs_62 : decode cX8_beginJobs 62 = .ok (.iload_n 1, 1) := by decide +kernel
theorem dX8_beginJobs_63 : decode cX8_beginJobs 63 = .ok (.putfield 121, 3) := by decide +kernel
theorem dX8_beginJobs_66 : decode cX8_beginJobs 66 = .ok (.return_, 1) := by decide +kernel
theorem dX8_canBegin_0 : decode cX8_canBegin 0 = .ok (.aload_n 1, 1) := by decide +kernel
theorem dX8_canBegin_1 : decode cX8_canBegin 1 = .ok (.getfield 70, 3) := by decide +kernel
theorem dX8_canBegin_4 : decode cX8_canBegin 4 = .ok (.getfield 74, 3) := by decide +kernel
theorem dX8_canBegin_7 : decode cX8_canBegin 7 = .ok (.ifCond .ne 52, 3) := by decide +kernel
theorem dX8_canBegin_10 : decode cX8_canBegin 10 = .ok (.aload_n 1, 1) := by decide +kernel
theorem dX8_canBegin_11 : decode cX8_canBegin 11 = .ok (.getfield 101, 3) := by decide +kernel
theorem dX8_canBegin_14 : decode cX8_canBegin 14 = .ok (.getfield 150, 3) := by decide +kernel
theorem dX8_canBegin_17 : decode cX8_canBegin 17 = .ok (.ifCond .le 42, 3) := by decide +kernel
theorem dX8_canBegin_20 : decode cX8_canBegin 20 = .ok (.aload_n 1, 1) := by decide +kernel
theorem dX8_canBegin_21 : decode cX8_canBegin 21 = .ok (.getfield 70, 3) := by decide +kernel
theorem dX8_canBegin_24 : decode cX8_canBegin 24 = .ok (.getfield 162, 3) := by decide +kernel
theorem dX8_canBegin_27 : decode cX8_canBegin 27 = .ok (.ifCond .ne 32, 3) := by decide +kernel
theorem dX8_canBegin_30 : decode cX8_canBegin 30 = .ok (.aload_n 1, 1) := by decide +kernel
theorem dX8_canBegin_31 : decode cX8_canBegin 31 = .ok (.getfield 288, 3) := by decide +kernel
theorem dX8_canBegin_34 : decode cX8_canBegin 34 = .ok (.aload_n 0, 1) := by decide +kernel
theorem dX8_canBegin_35 : decode cX8_canBegin 35 = .ok (.getfield 127, 3) := by decide +kernel
theorem dX8_canBegin_38 : decode cX8_canBegin 38 = .ok (.land, 1) := by decide +kernel
theorem dX8_canBegin_39 : decode cX8_canBegin 39 = .ok (.lconst 0, 1) := by decide +kernel
theorem dX8_canBegin_40 : decode cX8_canBegin 40 = .ok (.lcmp, 1) := by decide +kernel
theorem dX8_canBegin_41 : decode cX8_canBegin 41 = .ok (.ifCond .ne 18, 3) := by decide +kernel
theorem dX8_canBegin_44 : decode cX8_canBegin 44 = .ok (.aload_n 0, 1) := by decide +kernel
theorem dX8_canBegin_45 : decode cX8_canBegin 45 = .ok (.aload_n 1, 1) := by decide +kernel
theorem dX8_canBegin_46 : decode cX8_canBegin 46 = .ok (.getfield 201, 3) := by decide +kernel
theorem dX8_canBegin_49 : decode cX8_canBegin 49 = .ok (.invokevirtual 312, 3) := by decide +kernel
theorem dX8_canBegin_52 : decode cX8_canBegin 52 = .ok (.ifCond .eq 7, 3) := by decide +kernel
theorem dX8_canBegin_55 : decode cX8_canBegin 55 = .ok (.iconst 1, 1) := by decide +kernel
theorem dX8_canBegin_56 : decode cX8_canBegin 56 = .ok (.goto 4, 3) := by decide +kernel
theorem dX8_canBegin_59 : decode cX8_canBegin 59 = .ok (.iconst 0, 1) := by decide +kernel
theorem dX8_canBegin_60 : decode cX8_canBegin 60 = .ok (.ireturn, 1) := by decide +kernel
theorem dX8_isThere_0 : decode cX8_isThere 0 = .ok (.iconst 0, 1) := by decide +kernel
theorem dX8_isThere_1 : decode cX8_isThere 1 = .ok (.istore_n 2, 1) := by decide +kernel
theorem dX8_isThere_2 : decode cX8_isThere 2 = .ok (.iload_n 2, 1) := by decide +kernel
theorem dX8_isThere_3 : decode cX8_isThere 3 = .ok (.aload_n 1, 1) := by decide +kernel
theorem dX8_isThere_4 : decode cX8_isThere 4 = .ok (.getfield 176, 3) := by decide +kernel
theorem dX8_isThere_7 : decode cX8_isThere 7 = .ok (.if_icmp .ge 33, 3) := by decide +kernel
theorem dX8_isThere_10 : decode cX8_isThere 10 = .ok (.aload_n 0, 1) := by decide +kernel
theorem dX8_isThere_11 : decode cX8_isThere 11 = .ok (.getfield 9, 3) := by decide +kernel
theorem dX8_isThere_14 : decode cX8_isThere 14 = .ok (.aload_n 1, 1) := by decide +kernel
theorem dX8_isThere_15 : decode cX8_isThere 15 = .ok (.getfield 179, 3) := by decide +kernel
theorem dX8_isThere_18 : decode cX8_isThere 18 = .ok (.iload_n 2, 1) := by decide +kernel
theorem dX8_isThere_19 : decode cX8_isThere 19 = .ok (.iaload, 1) := by decide +kernel
theorem dX8_isThere_20 : decode cX8_isThere 20 = .ok (.laload, 1) := by decide +kernel
theorem dX8_isThere_21 : decode cX8_isThere 21 = .ok (.aload_n 1, 1) := by decide +kernel
theorem dX8_isThere_22 : decode cX8_isThere 22 = .ok (.getfield 182, 3) := by decide +kernel
theorem dX8_isThere_25 : decode cX8_isThere 25 = .ok (.iload_n 2, 1) := by decide +kernel
theorem dX8_isThere_26 : decode cX8_isThere 26 = .ok (.iaload, 1) := by decide +kernel
theorem dX8_isThere_27 : decode cX8_isThere 27 = .ok (.i2l, 1) := by decide +kernel
theorem dX8_isThere_28 : decode cX8_isThere 28 = .ok (.lcmp, 1) := by decide +kernel
theorem dX8_isThere_29 : decode cX8_isThere 29 = .ok (.ifCond .ge 5, 3) := by decide +kernel
theorem dX8_isThere_32 : decode cX8_isThere 32 = .ok (.iconst 0, 1) := by decide +kernel
theorem dX8_isThere_33 : decode cX8_isThere 33 = .ok (.ireturn, 1) := by decide +kernel
theorem dX8_isThere_34 : decode cX8_isThere 34 = .ok (.iinc 2 1, 3) := by decide +kernel
theorem dX8_isThere_37 : decode cX8_isThere 37 = .ok (.goto (-35), 3) := by decide +kernel
theorem dX8_isThere_40 : decode cX8_isThere 40 = .ok (.iconst 1, 1) := by decide +kernel
theorem dX8_isThere_41 : decode cX8_isThere 41 = .ok (.ireturn, 1) := by decide +kernel
theorem dX8_begin_0 : decode cX8_begin 0 = .ok (.aload_n 0, 1) := by decide +kernel
theorem dX8_begin_1 : decode cX8_begin 1 = .ok (.aload_n 1, 1) := by decide +kernel
theorem dX8_begin_2 : decode cX8_begin 2 = .ok (.getfield 101, 3) := by decide +kernel
theorem dX8_begin_5 : decode cX8_begin 5 = .ok (.invokevirtual 316, 3) := by decide +kernel
theorem dX8_begin_8 : decode cX8_begin 8 = .ok (.istore_n 2, 1) := by decide +kernel
theorem dX8_begin_9 : decode cX8_begin 9 = .ok (.iload_n 2, 1) := by decide +kernel
theorem dX8_begin_10 : decode cX8_begin 10 = .ok (.iconst (-1), 1) := by decide +kernel
theorem dX8_begin_11 : decode cX8_begin 11 = .ok (.if_icmp .ne 4, 3) := by decide +kernel
theorem dX8_begin_14 : decode cX8_begin 14 = .ok (.return_, 1) := by decide +kernel
theorem dX8_begin_15 : decode cX8_begin 15 = .ok (.aload_n 0, 1) := by decide +kernel
theorem dX8_begin_16 : decode cX8_begin 16 = .ok (.getfield 24, 3) := by decide +kernel
theorem dX8_begin_19 : decode cX8_begin 19 = .ok (.iload_n 2, 1) := by decide +kernel
theorem dX8_begin_20 : decode cX8_begin 20 = .ok (.aload_n 1, 1) := by decide +kernel
theorem dX8_begin_21 : decode cX8_begin 21 = .ok (.aastore, 1) := by decide +kernel
theorem dX8_begin_22 : decode cX8_begin 22 = .ok (.aload_n 1, 1) := by decide +kernel
theorem dX8_begin_23 : decode cX8_begin 23 = .ok (.getfield 70, 3) := by decide +kernel
theorem dX8_begin_26 : decode cX8_begin 26 = .ok (.iload_n 2, 1) := by decide +kernel
theorem dX8_begin_27 : decode cX8_begin 27 = .ok (.putfield 285, 3) := by decide +kernel
theorem dX8_begin_30 : decode cX8_begin 30 = .ok (.aload_n 1, 1) := by decide +kernel
theorem dX8_begin_31 : decode cX8_begin 31 = .ok (.getfield 70, 3) := by decide +kernel
theorem dX8_begin_34 : decode cX8_begin 34 = .ok (.aload_n 0, 1) := by decide +kernel
theorem dX8_begin_35 : decode cX8_begin 35 = .ok (.getfield 112, 3) := by decide +kernel
theorem dX8_begin_38 : decode cX8_begin 38 = .ok (.putfield 282, 3) := by decide +kernel
theorem dX8_begin_41 : decode cX8_begin 41 = .ok (.aload_n 1, 1) := by decide +kernel
theorem dX8_begin_42 : decode cX8_begin 42 = .ok (.getfield 101, 3) := by decide +kernel
theorem dX8_begin_45 : decode cX8_begin 45 = .ok (.dup, 1) := by decide +kernel
theorem dX8_begin_46 : decode cX8_begin 46 = .ok (.getfield 150, 3) := by decide +kernel
theorem dX8_begin_49 : decode cX8_begin 49 = .ok (.iconst 1, 1) := by decide +kernel
theorem dX8_begin_50 : decode cX8_begin 50 = .ok (.isub, 1) := by decide +kernel
theorem dX8_begin_51 : decode cX8_begin 51 = .ok (.putfield 150, 3) := by decide +kernel
theorem dX8_begin_54 : decode cX8_begin 54 = .ok (.aload_n 0, 1) := by decide +kernel
theorem dX8_begin_55 : decode cX8_begin 55 = .ok (.dup, 1) := by decide +kernel
theorem dX8_begin_56 : decode cX8_begin 56 = .ok (.getfield 124, 3) := by decide +kernel
theorem dX8_begin_59 : decode cX8_begin 59 = .ok (.iconst 1, 1) := by decide +kernel
theorem dX8_begin_60 : decode cX8_begin 60 = .ok (.iadd, 1) := by decide +kernel
theorem dX8_begin_61 : decode cX8_begin 61 = .ok (.putfield 124, 3) := by decide +kernel
theorem dX8_begin_64 : decode cX8_begin 64 = .ok (.aload_n 0, 1) := by decide +kernel
theorem dX8_begin_65 : decode cX8_begin 65 = .ok (.aload_n 1, 1) := by decide +kernel
theorem dX8_begin_66 : decode cX8_begin 66 = .ok (.invokevirtual 320, 3) := by decide +kernel
theorem dX8_begin_69 : decode cX8_begin 69 = .ok (.aload_n 1, 1) := by decide +kernel
theorem dX8_begin_70 : decode cX8_begin 70 = .ok (.getfield 201, 3) := by decide +kernel
theorem dX8_begin_73 : decode cX8_begin 73 = .ok (.astore_n 3, 1) := by decide +kernel
theorem dX8_begin_74 : decode cX8_begin 74 = .ok (.iconst 0, 1) := by decide +kernel
theorem dX8_begin_75 : decode cX8_begin 75 = .ok (.istore 4, 2) := by decide +kernel
theorem dX8_begin_77 : decode cX8_begin 77 = .ok (.iload 4, 2) := by decide +kernel
theorem dX8_begin_79 : decode cX8_begin 79 = .ok (.aload_n 3, 1) := by decide +kernel
theorem dX8_begin_80 : decode cX8_begin 80 = .ok (.getfield 176, 3) := by decide +kernel
theorem dX8_begin_83 : decode cX8_begin 83 = .ok (.if_icmp .ge 32, 3) := by decide +kernel
theorem dX8_begin_86 : decode cX8_begin 86 = .ok (.aload_n 0, 1) := by decide +kernel
theorem dX8_begin_87 : decode cX8_begin 87 = .ok (.getfield 9, 3) := by decide +kernel
theorem dX8_begin_90 : decode cX8_begin 90 = .ok (.aload_n 3, 1) := by decide +kernel
theorem dX8_begin_91 : decode cX8_begin 91 = .ok (.getfield 179, 3) := by decide +kernel
theorem dX8_begin_94 : decode cX8_begin 94 = .ok (.iload 4, 2) := by decide +kernel
theorem dX8_begin_96 : decode cX8_begin 96 = .ok (.iaload, 1) := by decide +kernel
theorem dX8_begin_97 : decode cX8_begin 97 = .ok (.dup2, 1) := by decide +kernel
theorem dX8_begin_98 : decode cX8_begin 98 = .ok (.laload, 1) := by decide +kernel
theorem dX8_begin_99 : decode cX8_begin 99 = .ok (.aload_n 3, 1) := by decide +kernel
theorem dX8_begin_100 : decode cX8_begin 100 = .ok (.getfield 182, 3) := by decide +kernel
theorem dX8_begin_103 : decode cX8_begin 103 = .ok (.iload 4, 2) := by decide +kernel
theorem dX8_begin_105 : decode cX8_begin 105 = .ok (.iaload, 1) := by decide +kernel
theorem dX8_begin_106 : decode cX8_begin 106 = .ok (.i2l, 1) := by decide +kernel
theorem dX8_begin_107 : decode cX8_begin 107 = .ok (.lsub, 1) := by decide +kernel
theorem dX8_begin_108 : decode cX8_begin 108 = .ok (.lastore, 1) := by decide +kernel
theorem dX8_begin_109 : decode cX8_begin 109 = .ok (.iinc 4 1, 3) := by decide +kernel
theorem dX8_begin_112 : decode cX8_begin 112 = .ok (.goto (-35), 3) := by decide +kernel
theorem dX8_begin_115 : decode cX8_begin 115 = .ok (.aload_n 0, 1) := by decide +kernel
theorem dX8_begin_116 : decode cX8_begin 116 = .ok (.getfield 41, 3) := by decide +kernel
theorem dX8_begin_119 : decode cX8_begin 119 = .ok (.aload_n 0, 1) := by decide +kernel
theorem dX8_begin_120 : decode cX8_begin 120 = .ok (.getfield 112, 3) := by decide +kernel
theorem dX8_begin_123 : decode cX8_begin 123 = .ok (.iconst 5, 1) := by decide +kernel
theorem dX8_begin_124 : decode cX8_begin 124 = .ok (.aload_n 1, 1) := by decide +kernel
theorem dX8_begin_125 : decode cX8_begin 125 = .ok (.getfield 208, 3) := by decide +kernel
theorem dX8_begin_128 : decode cX8_begin 128 = .ok (.invokevirtual 211, 3) := by decide +kernel
theorem dX8_begin_131 : decode cX8_begin 131 = .ok (.return_, 1) := by decide +kernel
theorem dX8_leastFreeWorker_0 : decode cX8_leastFreeWorker 0 = .ok (.aload_n 1, 1) := by decide +kernel
theorem dX8_leastFreeWorker_1 : decode cX8_leastFreeWorker 1 = .ok (.getfield 323, 3) := by decide +kernel
theorem dX8_leastFreeWorker_4 : decode cX8_leastFreeWorker 4 = .ok (.aload_n 1, 1) := by decide +kernel
theorem dX8_leastFreeWorker_5 : decode cX8_leastFreeWorker 5 = .ok (.getfield 93, 3) := by decide +kernel
theorem dX8_leastFreeWorker_8 : decode cX8_leastFreeWorker 8 = .ok (.iadd, 1) := by decide +kernel
theorem dX8_leastFreeWorker_9 : decode cX8_leastFreeWorker 9 = .ok (.istore_n 2, 1) := by decide +kernel
theorem dX8_leastFreeWorker_10 : decode cX8_leastFreeWorker 10 = .ok (.aload_n 1, 1) := by decide +kernel
theorem dX8_leastFreeWorker_11 : decode cX8_leastFreeWorker 11 = .ok (.getfield 323, 3) := by decide +kernel
theorem dX8_leastFreeWorker_14 : decode cX8_leastFreeWorker 14 = .ok (.istore_n 3, 1) := by decide +kernel
theorem dX8_leastFreeWorker_15 : decode cX8_leastFreeWorker 15 = .ok (.iload_n 3, 1) := by decide +kernel
theorem dX8_leastFreeWorker_16 : decode cX8_leastFreeWorker 16 = .ok (.iload_n 2, 1) := by decide +kernel
theorem dX8_leastFreeWorker_17 : decode cX8_leastFreeWorker 17 = .ok (.if_icmp .ge 26, 3) := by decide +kernel
theorem dX8_leastFreeWorker_20 : decode cX8_leastFreeWorker 20 = .ok (.iload_n 3, 1) := by decide +kernel
theorem dX8_leastFreeWorker_21 : decode cX8_leastFreeWorker 21 = .ok (.bipush 32, 2) := by decide +kernel
theorem dX8_leastFreeWorker_23 : decode cX8_leastFreeWorker 23 = .ok (.if_icmp .ge 20, 3) := by decide +kernel
theorem dX8_leastFreeWorker_26 : decode cX8_leastFreeWorker 26 = .ok (.aload_n 0, 1) := by decide +kernel
theorem dX8_leastFreeWorker_27 : decode cX8_leastFreeWorker 27 = .ok (.getfield 24, 3) := by decide +kernel
theorem dX8_leastFreeWorker_30 : decode cX8_leastFreeWorker 30 = .ok (.iload_n 3, 1) := by decide +kernel
theorem dX8_leastFreeWorker_31 : decode cX8_leastFreeWorker 31 = .ok (.aaload, 1) := by decide +kernel
theorem dX8_leastFreeWorker_32 : decode cX8_leastFreeWorker 32 = .ok (.ifnonnull 5, 3) := by decide +kernel
theorem dX8_leastFreeWorker_35 : decode cX8_leastFreeWorker 35 = .ok (.iload_n 3, 1) := by decide +kernel
theorem dX8_leastFreeWorker_36 : decode cX8_leastFreeWorker 36 = .ok (.ireturn, 1) := by decide +kernel
theorem dX8_leastFreeWorker_37 : decode cX8_leastFreeWorker 37 = .ok (.iinc 3 1, 3) := by decide +kernel
theorem dX8_leastFreeWorker_40 : decode cX8_leastFreeWorker 40 = .ok (.goto (-25), 3) := by decide +kernel
theorem dX8_leastFreeWorker_43 : decode cX8_leastFreeWorker 43 = .ok (.iconst (-1), 1) := by decide +kernel
theorem dX8_leastFreeWorker_44 : decode cX8_leastFreeWorker 44 = .ok (.ireturn, 1) := by decide +kernel
theorem dX8_takeMachines_0 : decode cX8_takeMachines 0 = .ok (.aload_n 0, 1) := by decide +kernel
theorem dX8_takeMachines_1 : decode cX8_takeMachines 1 = .ok (.dup, 1) := by decide +kernel
theorem dX8_takeMachines_2 : decode cX8_takeMachines 2 = .ok (.getfield 127, 3) := by decide +kernel
theorem dX8_takeMachines_5 : decode cX8_takeMachines 5 = .ok (.aload_n 1, 1) := by decide +kernel
theorem dX8_takeMachines_6 : decode cX8_takeMachines 6 = .ok (.getfield 288, 3) := by decide +kernel
theorem dX8_takeMachines_9 : decode cX8_takeMachines 9 = .ok (.lor, 1) := by decide +kernel
theorem dX8_takeMachines_10 : decode cX8_takeMachines 10 = .ok (.putfield 127, 3) := by decide +kernel
theorem dX8_takeMachines_13 : decode cX8_takeMachines 13 = .ok (.iconst 0, 1) := by decide +kernel
theorem dX8_takeMachines_14 : decode cX8_takeMachines 14 = .ok (.istore_n 2, 1) := by decide +kernel
theorem dX8_takeMachines_15 : decode cX8_takeMachines 15 = .ok (.iload_n 2, 1) := by decide +kernel
theorem dX8_takeMachines_16 : decode cX8_takeMachines 16 = .ok (.aload_n 0, 1) := by decide +kernel
theorem dX8_takeMachines_17 : decode cX8_takeMachines 17 = .ok (.getfield 45, 3) := by decide +kernel
theorem dX8_takeMachines_20 : decode cX8_takeMachines 20 = .ok (.getfield 326, 3) := by decide +kernel
theorem dX8_takeMachines_23 : decode cX8_takeMachines 23 = .ok (.if_icmp .ge 41, 3) := by decide +kernel
theorem dX8_takeMachines_26 : decode cX8_takeMachines 26 = .ok (.aload_n 1, 1) := by decide +kernel
theorem dX8_takeMachines_27 : decode cX8_takeMachines 27 = .ok (.getfield 288, 3) := by decide +kernel
theorem dX8_takeMachines_30 : decode cX8_takeMachines 30 = .ok (.lconst 0, 1) := by decide +kernel
theorem dX8_takeMachines_31 : decode cX8_takeMachines 31 = .ok (.lcmp, 1) := by decide +kernel
theorem dX8_takeMachines_32 : decode cX8_takeMachines 32 = .ok (.ifCond .eq 32, 3) := by decide +kernel
theorem dX8_takeMachines_35 : decode cX8_takeMachines 35 = .ok (.aload_n 1, 1) := by decide +kernel
theorem dX8_takeMachines_36 : decode cX8_takeMachines 36 = .ok (.getfield 288, 3) := by decide +kernel
theorem dX8_takeMachines_39 : decode cX8_takeMachines 39 = .ok (.iload_n 2, 1) := by decide +kernel
theorem dX8_takeMachines_40 : decode cX8_takeMachines 40 = .ok (.lshr, 1) := by decide +kernel
theorem dX8_takeMachines_41 : decode cX8_takeMachines 41 = .ok (.lconst 1, 1) := by decide +kernel
theorem dX8_takeMachines_42 : decode cX8_takeMachines 42 = .ok (.land, 1) := by decide +kernel
theorem dX8_takeMachines_43 : decode cX8_takeMachines 43 = .ok (.lconst 0, 1) := by decide +kernel
theorem dX8_takeMachines_44 : decode cX8_takeMachines 44 = .ok (.lcmp, 1) := by decide +kernel
theorem dX8_takeMachines_45 : decode cX8_takeMachines 45 = .ok (.ifCond .eq 13, 3) := by decide +kernel
theorem dX8_takeMachines_48 : decode cX8_takeMachines 48 = .ok (.aload_n 0, 1) := by decide +kernel
theorem dX8_takeMachines_49 : decode cX8_takeMachines 49 = .ok (.getfield 18, 3) := by decide +kernel
theorem dX8_takeMachines_52 : decode cX8_takeMachines 52 = .ok (.iload_n 2, 1) := by decide +kernel
theorem dX8_takeMachines_53 : decode cX8_takeMachines 53 = .ok (.aload_n 1, 1) := by decide +kernel
theorem dX8_takeMachines_54 : decode cX8_takeMachines 54 = .ok (.getfield 208, 3) := by decide +kernel
theorem dX8_takeMachines_57 : decode cX8_takeMachines 57 = .ok (.iastore, 1) := by decide +kernel
theorem dX8_takeMachines_58 : decode cX8_takeMachines 58 = .ok (.iinc 2 1, 3) := by decide +kernel
theorem dX8_takeMachines_61 : decode cX8_takeMachines 61 = .ok (.goto (-46), 3) := by decide +kernel
theorem dX8_takeMachines_64 : decode cX8_takeMachines 64 = .ok (.return_, 1) := by decide +kernel
theorem dX8_nextMinute_0 : decode cX8_nextMinute 0 = .ok (.iload_n 1, 1) := by decide +kernel
theorem dX8_nextMinute_1 : decode cX8_nextMinute 1 = .ok (.istore_n 2, 1) := by decide +kernel
theorem dX8_nextMinute_2 : decode cX8_nextMinute 2 = .ok (.iconst 0, 1) := by decide +kernel
theorem dX8_nextMinute_3 : decode cX8_nextMinute 3 = .ok (.istore_n 3, 1) := by decide +kernel
theorem dX8_nextMinute_4 : decode cX8_nextMinute 4 = .ok (.iload_n 3, 1) := by decide +kernel
theorem dX8_nextMinute_5 : decode cX8_nextMinute 5 = .ok (.aload_n 0, 1) := by decide +kernel
theorem dX8_nextMinute_6 : decode cX8_nextMinute 6 = .ok (.getfield 45, 3) := by decide +kernel
theorem dX8_nextMinute_9 : decode cX8_nextMinute 9 = .ok (.getfield 233, 3) := by decide +kernel
theorem dX8_nextMinute_12 : decode cX8_nextMinute 12 = .ok (.if_icmp .ge 32, 3) := by decide +kernel
theorem dX8_nextMinute_15 : decode cX8_nextMinute 15 = .ok (.aload_n 0, 1) := by decide +kernel
theorem dX8_nextMinute_16 : decode cX8_nextMinute 16 = .ok (.getfield 24, 3) := by decide +kernel
theorem dX8_nextMinute_19 : decode cX8_nextMinute 19 = .ok (.iload_n 3, 1) := by decide +kernel
theorem dX8_nextMinute_20 : decode cX8_nextMinute 20 = .ok (.aaload, 1) := by decide +kernel
theorem dX8_nextMinute_21 : decode cX8_nextMinute 21 = .ok (.astore 4, 2) := by decide +kernel
theorem dX8_nextMinute_23 : decode cX8_nextMinute 23 = .ok (.aload 4, 2) := by decide +kernel
theorem dX8_nextMinute_25 : decode cX8_nextMinute 25 = .ok (.ifnull 13, 3) := by decide +kernel
theorem dX8_nextMinute_28 : decode cX8_nextMinute 28 = .ok (.iload_n 2, 1) := by decide +kernel
theorem dX8_nextMinute_29 : decode cX8_nextMinute 29 = .ok (.aload 4, 2) := by decide +kernel
theorem dX8_nextMinute_31 : decode cX8_nextMinute 31 = .ok (.invokevirtual 236, 3) := by decide +kernel
theorem dX8_nextMinute_34 : decode cX8_nextMinute 34 = .ok (.invokestatic 329, 3) := by decide +kernel
theorem dX8_nextMinute_37 : decode cX8_nextMinute 37 = .ok (.istore_n 2, 1) := by decide +kernel
theorem dX8_nextMinute_38 : decode cX8_nextMinute 38 = .ok (.iinc 3 1, 3) := by decide +kernel
theorem dX8_nextMinute_41 : decode cX8_nextMinute 41 = .ok (.goto (-37), 3) := by decide +kernel
theorem dX8_nextMinute_44 : decode cX8_nextMinute 44 = .ok (.iload_n 2, 1) := by decide +kernel
theorem dX8_nextMinute_45 : decode cX8_nextMinute 45 = .ok (.ireturn, 1) := by decide +kernel
theorem dX9_init_0 : decode cX9_init 0 = .ok (.aload_n 0, 1) := by decide +kernel
theorem dX9_init_1 : decode cX9_init 1 = .ok (.invokespecial 3, 3) := by decide +kernel
theorem dX9_init_4 : decode cX9_init 4 = .ok (.aload_n 0, 1) := by decide +kernel
theorem dX9_init_5 : decode cX9_init 5 = .ok (.bipush 8, 2) := by decide +kernel
theorem dX9_init_7 : decode cX9_init 7 = .ok (.anewarray 9, 3) := by decide +kernel
theorem dX9_init_10 : decode cX9_init 10 = .ok (.putfield 11, 3) := by decide +kernel
theorem dX9_init_13 : decode cX9_init 13 = .ok (.aload_n 0, 1) := by decide +kernel
theorem dX9_init_14 : decode cX9_init 14 = .ok (.bipush 60, 2) := by decide +kernel
theorem dX9_init_16 : decode cX9_init 16 = .ok (.newarray .long, 2) := by decide +kernel
theorem dX9_init_18 : decode cX9_init 18 = .ok (.putfield 17, 3) := by decide +kernel
theorem dX9_init_21 : decode cX9_init 21 = .ok (.aload_n 0, 1) := by decide +kernel
theorem dX9_init_22 : decode cX9_init 22 = .ok (.sipush 200, 3) := by decide +kernel
theorem dX9_init_25 : decode cX9_init 25 = .ok (.anewarray 21, 3) := by decide +kernel
theorem dX9_init_28 : decode cX9_init 28 = .ok (.putfield 23, 3) := by decide +kernel
theorem dX9_init_31 : decode cX9_init 31 = .ok (.aload_n 0, 1) := by decide +kernel
theorem dX9_init_32 : decode cX9_init 32 = .ok (.sipush 200, 3) := by decide +kernel
theorem dX9_init_35 : decode cX9_init 35 = .ok (.anewarray 21, 3) := by decide +kernel
theorem dX9_init_38 : decode cX9_init 38 = .ok (.putfield 27, 3) := by decide +kernel
theorem dX9_init_41 : decode cX9_init 41 = .ok (.return_, 1) := by decide +kernel
theorem dX9_hasCraft_0 : decode cX9_hasCraft 0 = .ok (.iload_n 1, 1) := by decide +kernel
theorem dX9_hasCraft_1 : decode cX9_hasCraft 1 = .ok (.ifCond .lt 15, 3) := by decide +kernel
theorem dX9_hasCraft_4 : decode cX9_hasCraft 4 = .ok (.iload_n 1, 1) := by decide +kernel
theorem dX9_hasCraft_5 : decode cX9_hasCraft 5 = .ok (.aload_n 0, 1) := by decide +kernel
theorem dX9_hasCraft_6 : decode cX9_hasCraft 6 = .ok (.getfield 30, 3) := by decide +kernel
theorem dX9_hasCraft_9 : decode cX9_hasCraft 9 = .ok (.if_icmp .ge 7, 3) := by decide +kernel
theorem dX9_hasCraft_12 : decode cX9_hasCraft 12 = .ok (.iconst 1, 1) := by decide +kernel
theorem dX9_hasCraft_13 : decode cX9_hasCraft 13 = .ok (.goto 4, 3) := by decide +kernel
theorem dX9_hasCraft_16 : decode cX9_hasCraft 16 = .ok (.iconst 0, 1) := by decide +kernel
theorem dX9_hasCraft_17 : decode cX9_hasCraft 17 = .ok (.ireturn, 1) := by decide +kernel
theorem dX9_hasMachine_0 : decode cX9_hasMachine 0 = .ok (.iload_n 1, 1) := by decide +kernel
theorem dX9_hasMachine_1 : decode cX9_hasMachine 1 = .ok (.ifCond .lt 15, 3) := by decide +kernel
theorem dX9_hasMachine_4 : decode cX9_hasMachine 4 = .ok (.iload_n 1, 1) := by decide +kernel
theorem dX9_hasMachine_5 : decode cX9_hasMachine 5 = .ok (.aload_n 0, 1) := by decide +kernel
theorem dX9_hasMachine_6 : decode cX9_hasMachine 6 = .ok (.getfield 34, 3) := by decide +kernel
theorem dX9_hasMachine_9 : decode cX9_hasMachine 9 = .ok (.if_icmp .ge 7, 3) := by decide +kernel
theorem dX9_hasMachine_12 : decode cX9_hasMachine 12 = .ok (.iconst 1, 1) := by decide +kernel
theorem dX9_hasMachine_13 : decode cX9_hasMachine 13 = .ok (.goto 4, 3) := by decide +kernel
theorem dX9_hasMachine_16 : decode cX9_hasMachine 16 = .ok (.iconst 0, 1) := by decide +kernel
theorem dX9_hasMachine_17 : decode cX9_hasMachine 17 = .ok (.ireturn, 1) := by decide +kernel
theorem dX9_hasStock_0 : decode cX9_hasStock 0 = .ok (.iload_n 1, 1) := by decide +kernel
theorem dX9_hasStock_1 : decode cX9_hasStock 1 = .ok (.ifCond .lt 13, 3) := by decide +kernel
theorem dX9_hasStock_4 : decode cX9_hasStock 4 = .ok (.iload_n 1, 1) := by decide +kernel
theorem dX9_hasStock_5 : decode cX9_hasStock 5 = .ok (.bipush 60, 2) := by decide +kernel
theorem dX9_hasStock_7 : decode cX9_hasStock 7 = .ok (.if_icmp .ge 7, 3) := by decide +kernel
theorem dX9_hasStock_10 : decode cX9_hasStock 10 = .ok (.iconst 1, 1) := by decide +kernel
theorem dX9_hasStock_11 : decode cX9_hasStock 11 = .ok (.goto 4, 3) := by decide +kernel
theorem dX9_hasStock_14 : decode cX9_hasStock 14 = .ok (.iconst 0, 1) := by decide +kernel
theorem dX9_hasStock_15 : decode cX9_hasStock 15 = .ok (.ireturn, 1) := by decide +kernel
theorem dX9_hasJob_0 : decode cX9_hasJob 0 = .ok (.iload_n 1, 1) := by decide +kernel
theorem dX9_hasJob_1 : decode cX9_hasJob 1 = .ok (.ifCond .lt 15, 3) := by decide +kernel
theorem dX9_hasJob_4 : decode cX9_hasJob 4 = .ok (.iload_n 1, 1) := by decide +kernel
theorem dX9_hasJob_5 : decode cX9_hasJob 5 = .ok (.aload_n 0, 1) := by decide +kernel
theorem dX9_hasJob_6 : decode cX9_hasJob 6 = .ok (.getfield 37, 3) := by decide +kernel
theorem dX9_hasJob_9 : decode cX9_hasJob 9 = .ok (.if_icmp .ge 7, 3) := by decide +kernel
theorem dX9_hasJob_12 : decode cX9_hasJob 12 = .ok (.iconst 1, 1) := by decide +kernel
theorem dX9_hasJob_13 : decode cX9_hasJob 13 = .ok (.goto 4, 3) := by decide +kernel
theorem dX9_hasJob_16 : decode cX9_hasJob 16 = .ok (.iconst 0, 1) := by decide +kernel
theorem dX9_hasJob_17 : decode cX9_hasJob 17 = .ok (.ireturn, 1) := by decide +kernel
theorem dX9_addCraft_0 : decode cX9_addCraft 0 = .ok (.aload_n 0, 1) := by decide +kernel
theorem dX9_addCraft_1 : decode cX9_addCraft 1 = .ok (.getfield 30, 3) := by decide +kernel
theorem dX9_addCraft_4 : decode cX9_addCraft 4 = .ok (.bipush 8, 2) := by decide +kernel
theorem dX9_addCraft_6 : decode cX9_addCraft 6 = .ok (.if_icmp .lt 6, 3) := by decide +kernel
theorem dX9_addCraft_9 : decode cX9_addCraft 9 = .ok (.bipush (-8), 2) := by decide +kernel
theorem dX9_addCraft_11 : decode cX9_addCraft 11 = .ok (.ireturn, 1) := by decide +kernel
theorem dX9_addCraft_12 : decode cX9_addCraft 12 = .ok (.aload_n 0, 1) := by decide +kernel
theorem dX9_addCraft_13 : decode cX9_addCraft 13 = .ok (.getfield 11, 3) := by decide +kernel
theorem dX9_addCraft_16 : decode cX9_addCraft 16 = .ok (.aload_n 0, 1) := by decide +kernel
theorem dX9_addCraft_17 : decode cX9_addCraft 17 = .ok (.getfield 30, 3) := by decide +kernel
theorem dX9_addCraft_20 : decode cX9_addCraft 20 = .ok (.new 9, 3) := by decide +kernel
theorem dX9_addCraft_23 : decode cX9_addCraft 23 = .ok (.dup, 1) := by decide +kernel
theorem dX9_addCraft_24 : decode cX9_addCraft 24 = .ok (.aload_n 0, 1) := by decide +kernel
theorem dX9_addCraft_25 : decode cX9_addCraft 25 = .ok (.getfield 30, 3) := by decide +kernel
theorem dX9_addCraft_28 : decode cX9_addCraft 28 = .ok (.aload_n 0, 1) := by decide +kernel
theorem dX9_addCraft_29 : decode cX9_addCraft 29 = .ok (.getfield 40, 3) := by decide +kernel
theorem dX9_addCraft_32 : decode cX9_addCraft 32 = .ok (.iload_n 1, 1) := by decide +kernel
theorem dX9_addCraft_33 : decode cX9_addCraft 33 = .ok (.invokespecial 43, 3) := by decide +kernel
theorem dX9_addCraft_36 : decode cX9_addCraft 36 = .ok (.aastore, 1) := by decide +kernel
theorem dX9_addCraft_37 : decode cX9_addCraft 37 = .ok (.aload_n 0, 1) := by decide +kernel
theorem dX9_addCraft_38 : decode cX9_addCraft 38 = .ok (.dup, 1) := by decide +kernel
theorem dX9_addCraft_39 : decode cX9_addCraft 39 = .ok (.getfield 40, 3) := by decide +kernel
theorem dX9_addCraft_42 : decode cX9_addCraft 42 = .ok (.iload_n 1, 1) := by decide +kernel
theorem dX9_addCraft_43 : decode cX9_addCraft 43 = .ok (.iadd, 1) := by decide +kernel
theorem dX9_addCraft_44 : decode cX9_addCraft 44 = .ok (.putfield 40, 3) := by decide +kernel
theorem dX9_addCraft_47 : decode cX9_addCraft 47 = .ok (.aload_n 0, 1) := by decide +kernel
theorem dX9_addCraft_48 : decode cX9_addCraft 48 = .ok (.dup, 1) := by decide +kernel
theorem dX9_addCraft_49 : decode cX9_addCraft 49 = .ok (.getfield 30, 3) := by decide +kernel
theorem dX9_addCraft_52 : decode cX9_addCraft 52 = .ok (.iconst 1, 1) := by decide +kernel
theorem dX9_addCraft_53 : decode cX9_addCraft 53 = .ok (.iadd, 1) := by decide +kernel
theorem dX9_addCraft_54 : decode cX9_addCraft 54 = .ok (.putfield 30, 3) := by decide +kernel
theorem dX9_addCraft_57 : decode cX9_addCraft 57 = .ok (.aload_n 0, 1) := by decide +kernel
theorem dX9_addCraft_58 : decode cX9_addCraft 58 = .ok (.getfield 30, 3) := by decide +kernel
theorem dX9_addCraft_61 : decode cX9_addCraft 61 = .ok (.iconst 1, 1) := by decide +kernel
theorem dX9_addCraft_62 : decode cX9_addCraft 62 = .ok (.isub, 1) := by decide +kernel
theorem dX9_addCraft_63 : decode cX9_addCraft 63 = .ok (.ireturn, 1) := by decide +kernel
theorem dX9_addMachine_0 : decode cX9_addMachine 0 = .ok (.aload_n 0, 1) := by decide +kernel
theorem dX9_addMachine_1 : decode cX9_addMachine 1 = .ok (.dup, 1) := by decide +kernel
theorem dX9_addMachine_2 : decode cX9_addMachine 2 = .ok (.getfield 34, 3) := by decide +kernel
theorem dX9_addMachine_5 : decode cX9_addMachine 5 = .ok (.iconst 1, 1) := by decide +kernel
theorem dX9_addMachine_6 : decode cX9_addMachine 6 = .ok (.iadd, 1) := by decide +kernel
theorem dX9_addMachine_7 : decode cX9_addMachine 7 = .ok (.putfield 34, 3) := by decide +kernel
theorem dX9_addMachine_10 : decode cX9_addMachine 10 = .ok (.aload_n 0, 1) := by decide +kernel
theorem dX9_addMachine_11 : decode cX9_addMachine 11 = .ok (.getfield 34, 3) := by decide +kernel
theorem dX9_addMachine_14 : decode cX9_addMachine 14 = .ok (.iconst 1, 1) := by decide +kernel
theorem dX9_addMachine_15 : decode cX9_addMachine 15 = .ok (.isub, 1) := by decide +kernel
theorem dX9_addMachine_16 : decode cX9_addMachine 16 = .ok (.ireturn, 1) := by decide +kernel
theorem dX9_addJob_0 : decode cX9_addJob 0 = .ok (.aload_n 0, 1) := by decide +kernel
theorem dX9_addJob_1 : decode cX9_addJob 1 = .ok (.getfield 37, 3) := by decide +kernel
theorem dX9_addJob_4 : decode cX9_addJob 4 = .ok (.sipush 200, 3) := by decide +kernel
theorem dX9_addJob_7 : decode cX9_addJob 7 = .ok (.if_icmp .lt 6, 3) := by decide +kernel
theorem dX9_addJob_10 : decode cX9_addJob 10 = .ok (.bipush (-8), 2) := by decide +kernel
theorem dX9_addJob_12 : decode cX9_addJob 12 = .ok (.ireturn, 1) := by decide +kernel
theorem dX9_addJob_13 : decode cX9_addJob 13 = .ok (.new 21, 3) := by decide +kernel
theorem dX9_addJob_16 : decode cX9_addJob 16 = .ok (.dup, 1) := by decide +kernel
theorem dX9_addJob_17 : decode cX9_addJob 17 = .ok (.aload_n 0, 1) := by decide +kernel
theorem dX9_addJob_18 : decode cX9_addJob 18 = .ok (.getfield 37, 3) := by decide +kernel
theorem dX9_addJob_21 : decode cX9_addJob 21 = .ok (.aload_n 1, 1) := by decide +kernel
theorem dX9_addJob_22 : decode cX9_addJob 22 = .ok (.iload_n 2, 1) := by decide +kernel
theorem dX9_addJob_23 : decode cX9_addJob 23 = .ok (.iload_n 3, 1) := by decide +kernel
theorem dX9_addJob_24 : decode cX9_addJob 24 = .ok (.invokespecial 46, 3) := by decide +kernel
theorem dX9_addJob_27 : decode cX9_addJob 27 = .ok (.astore 4, 2) := by decide +kernel
theorem dX9_addJob_29 : decode cX9_addJob 29 = .ok (.aload_n 0, 1) := by decide +kernel
theorem dX9_addJob_30 : decode cX9_addJob 30 = .ok (.getfield 23, 3) := by decide +kernel
theorem dX9_addJob_33 : decode cX9_addJob 33 = .ok (.aload_n 0, 1) := by decide +kernel
theorem dX9_addJob_34 : decode cX9_addJob 34 = .ok (.getfield 37, 3) := by decide +kernel
theorem dX9_addJob_37 : decode cX9_addJob 37 = .ok (.aload 4, 2) := by decide +kernel
theorem dX9_addJob_39 : decode cX9_addJob 39 = .ok (.aastore, 1) := by decide +kernel
theorem dX9_addJob_40 : decode cX9_addJob 40 = .ok (.aload_n 0, 1) := by decide +kernel
theorem dX9_addJob_41 : decode cX9_addJob 41 = .ok (.getfield 37, 3) := by decide +kernel
theorem dX9_addJob_44 : decode cX9_addJob 44 = .ok (.istore 5, 2) := by decide +kernel
theorem dX9_addJob_46 : decode cX9_addJob 46 = .ok (.iload 5, 2) := by decide +kernel
theorem dX9_addJob_48 : decode cX9_addJob 48 = .ok (.ifCond .le 42, 3) := by decide +kernel
theorem dX9_addJob_51 : decode cX9_addJob 51 = .ok (.aload 4, 2) := by decide +kernel
theorem dX9_addJob_53 : decode cX9_addJob 53 = .ok (.aload_n 0, 1) := by decide +kernel
theorem dX9_addJob_54 : decode cX9_addJob 54 = .ok (.getfield 27, 3) := by decide +kernel
theorem dX9_addJob_57 : decode cX9_addJob 57 = .ok (.iload 5, 2) := by decide +kernel
theorem dX9_addJob_59 : decode cX9_addJob 59 = .ok (.iconst 1, 1) := by decide +kernel
theorem dX9_addJob_60 : decode cX9_addJob 60 = .ok (.isub, 1) := by decide +kernel
theorem dX9_addJob_61 : decode cX9_addJob 61 = .ok (.aaload, 1) := by decide +kernel
theorem dX9_addJob_62 : decode cX9_addJob 62 = .ok (.invokevirtual 49, 3) := by decide +kernel
theorem dX9_addJob_65 : decode cX9_addJob 65 = .ok (.ifCond .eq 25, 3) := by decide +kernel
theorem dX9_addJob_68 : decode cX9_addJob 68 = .ok (.aload_n 0, 1) := by decide +kernel
theorem dX9_addJob_69 : decode cX9_addJob 69 = .ok (.getfield 27, 3) := by decide +kernel
theorem dX9_addJob_72 : decode cX9_addJob 72 = .ok (.iload 5, 2) := by decide +kernel
theorem dX9_addJob_74 : decode cX9_addJob 74 = .ok (.aload_n 0, 1) := by decide +kernel
theorem dX9_addJob_75 : decode cX9_addJob 75 = .ok (.getfield 27, 3) := by decide +kernel
theorem dX9_addJob_78 : decode cX9_addJob 78 = .ok (.iload 5, 2) := by decide +kernel
theorem dX9_addJob_80 : decode cX9_addJob 80 = .ok (.iconst 1, 1) := by decide +kernel
theorem dX9_addJob_81 : decode cX9_addJob 81 = .ok (.isub, 1) := by decide +kernel
theorem dX9_addJob_82 : decode cX9_addJob 82 = .ok (.aaload, 1) := by decide +kernel
theorem dX9_addJob_83 : decode cX9_addJob 83 = .ok (.aastore, 1) := by decide +kernel
theorem dX9_addJob_84 : decode cX9_addJob 84 = .ok (.iinc 5 (-1), 3) := by decide +kernel
theorem dX9_addJob_87 : decode cX9_addJob 87 = .ok (.goto (-41), 3) := by decide +kernel
theorem dX9_addJob_90 : decode cX9_addJob 90 = .ok (.aload_n 0, 1) := by decide +kernel
theorem dX9_addJob_91 : decode cX9_addJob 91 = .ok (.getfield 27, 3) := by decide +kernel
theorem dX9_addJob_94 : decode cX9_addJob 94 = .ok (.iload 5, 2) := by decide +kernel
theorem dX9_addJob_96 : decode cX9_addJob 96 = .ok (.aload 4, 2) := by decide +kernel
theorem dX9_addJob_98 : decode cX9_addJob 98 = .ok (.aastore, 1) := by decide +kernel
theorem dX9_addJob_99 : decode cX9_addJob 99 = .ok (.aload_n 0, 1) := by decide +kernel
theorem dX9_addJob_100 : decode cX9_addJob 100 = .ok (.dup, 1) := by decide +kernel
theorem dX9_addJob_101 : decode cX9_addJob 101 = .ok (.getfield 37, 3) := by decide +kernel
theorem dX9_addJob_104 : decode cX9_addJob 104 = .ok (.iconst 1, 1) := by decide +kernel
theorem dX9_addJob_105 : decode cX9_addJob 105 = .ok (.iadd, 1) := by decide +kernel
theorem dX9_addJob_106 : decode cX9_addJob 106 = .ok (.putfield 37, 3) := by decide +kernel
theorem dX9_addJob_109 : decode cX9_addJob 109 = .ok (.aload 4, 2) := by decide +kernel
theorem dX9_addJob_111 : decode cX9_addJob 111 = .ok (.getfield 53, 3) := by decide +kernel
theorem dX9_addJob_114 : decode cX9_addJob 114 = .ok (.ireturn, 1) := by decide +kernel
theorem dX9_join_0 : decode cX9_join 0 = .ok (.aload_n 1, 1) := by decide +kernel
theorem dX9_join_1 : decode cX9_join 1 = .ok (.getfield 56, 3) := by decide +kernel
theorem dX9_join_4 : decode cX9_join 4 = .ok (.aload_n 2, 1) := by decide +kernel
theorem dX9_join_5 : decode cX9_join 5 = .ok (.invokevirtual 60, 3) := by decide +kernel
theorem dX9_join_8 : decode cX9_join 8 = .ok (.pop, 1) := by decide +kernel
theorem dX9_join_9 : decode cX9_join 9 = .ok (.aload_n 2, 1) := by decide +kernel
theorem dX9_join_10 : decode cX9_join 10 = .ok (.getfield 66, 3) := by decide +kernel
theorem dX9_join_13 : decode cX9_join 13 = .ok (.aload_n 1, 1) := by decide +kernel
theorem dX9_join_14 : decode cX9_join 14 = .ok (.invokevirtual 60, 3) := by decide +kernel
theorem dX9_join_17 : decode cX9_join 17 = .ok (.pop, 1) := by decide +kernel
theorem dX9_join_18 : decode cX9_join 18 = .ok (.iconst 0, 1) := by decide +kernel
theorem dX9_join_19 : decode cX9_join 19 = .ok (.istore_n 3, 1) := by decide +kernel
theorem dX9_join_20 : decode cX9_join 20 = .ok (.iload_n 3, 1) := by decide +kernel
theorem dX9_join_21 : decode cX9_join 21 = .ok (.aload_n 0, 1) := by decide +kernel
theorem dX9_join_22 : decode cX9_join 22 = .ok (.getfield 37, 3) := by decide +kernel
theorem dX9_join_25 : decode cX9_join 25 = .ok (.if_icmp .ge 62, 3) := by decide +kernel
theorem dX9_join_28 : decode cX9_join 28 = .ok (.aload_n 0, 1) := by decide +kernel
theorem dX9_join_29 : decode cX9_join 29 = .ok (.getfield 23, 3) := by decide +kernel
theorem dX9_join_32 : decode cX9_join 32 = .ok (.iload_n 3, 1) := by decide +kernel
theorem dX9_join_33 : decode cX9_join 33 = .ok (.aaload, 1) := by decide +kernel
theorem dX9_join_34 : decode cX9_join 34 = .ok (.astore 4, 2) := by decide +kernel
theorem dX9_join_36 : decode cX9_join 36 = .ok (.aload 4, 2) := by decide +kernel
theorem dX9_join_38 : decode cX9_join 38 = .ok (.aload_n 1, 1) := by decide +kernel
theorem dX9_join_39 : decode cX9_join 39 = .ok (.if_acmp .eq 18, 3) := by decide +kernel
theorem dX9_join_42 : decode cX9_join 42 = .ok (.aload 4, 2) := by decide +kernel
theorem dX9_join_44 : decode cX9_join 44 = .ok (.getfield 69, 3) := by decide +kernel
theorem dX9_join_47 : decode cX9_join 47 = .ok (.aload_n 1, 1) := by decide +kernel
theorem dX9_join_48 : decode cX9_join 48 = .ok (.getfield 53, 3) := by decide +kernel
theorem dX9_join_51 : decode cX9_join 51 = .ok (.invokevirtual 73, 3) := by decide +kernel
theorem dX9_join_54 : decode cX9_join 54 = .ok (.ifCond .eq 27, 3) := by decide +kernel
theorem dX9_join_57 : decode cX9_join 57 = .ok (.aload 4, 2) := by decide +kernel
theorem dX9_join_59 : decode cX9_join 59 = .ok (.getfield 69, 3) := by decide +kernel
theorem dX9_join_62 : decode cX9_join 62 = .ok (.aload_n 2, 1) := by decide +kernel
theorem dX9_join_63 : decode cX9_join 63 = .ok (.getfield 53, 3) := by decide +kernel
theorem dX9_join_66 : decode cX9_join 66 = .ok (.invokevirtual 79, 3) := by decide +kernel
theorem dX9_join_69 : decode cX9_join 69 = .ok (.aload 4, 2) := by decide +kernel
theorem dX9_join_71 : decode cX9_join 71 = .ok (.getfield 69, 3) := by decide +kernel
theorem dX9_join_74 : decode cX9_join 74 = .ok (.aload_n 2, 1) := by decide +kernel
theorem dX9_join_75 : decode cX9_join 75 = .ok (.getfield 69, 3) := by decide +kernel
theorem dX9_join_78 : decode cX9_join 78 = .ok (.invokevirtual 82, 3) := by decide +kernel
theorem dX9_join_81 : decode cX9_join 81 = .ok (.iinc 3 1, 3) := by decide +kernel
theorem dX9_join_84 : decode cX9_join 84 = .ok (.goto (-64), 3) := by decide +kernel
theorem dX9_join_87 : decode cX9_join 87 = .ok (.return_, 1) := by decide +kernel
theorem dX10_init_0 : decode cX10_init 0 = .ok (.aload_n 0, 1) := by decide +kernel
theorem dX10_init_1 : decode cX10_init 1 = .ok (.invokespecial 3, 3) := by decide +kernel
theorem dX10_init_4 : decode cX10_init 4 = .ok (.aload_n 0, 1) := by decide +kernel
theorem dX10_init_5 : decode cX10_init 5 = .ok (.invokevirtual 9, 3) := by decide +kernel
theorem dX10_init_8 : decode cX10_init 8 = .ok (.return_, 1) := by decide +kernel
theorem dX10_wipe_0 : decode cX10_wipe 0 = .ok (.aload_n 0, 1) := by decide +kernel
theorem dX10_wipe_1 : decode cX10_wipe 1 = .ok (.iconst 0, 1) := by decide +kernel
theorem dX10_wipe_2 : decode cX10_wipe 2 = .ok (.putfield 14, 3) := by decide +kernel
theorem dX10_wipe_5 : decode cX10_wipe 5 = .ok (.aload_n 0, 1) := by decide +kernel
theorem dX10_wipe_6 : decode cX10_wipe 6 = .ok (.iconst (-1), 1) := by decide +kernel
theorem dX10_wipe_7 : decode cX10_wipe 7 = .ok (.putfield 18, 3) := by decide +kernel
theorem dX10_wipe_10 : decode cX10_wipe 10 = .ok (.aload_n 0, 1) := by decide +kernel
theorem dX10_wipe_11 : decode cX10_wipe 11 = .ok (.iconst (-1), 1) := by decide +kernel
theorem dX10_wipe_12 : decode cX10_wipe 12 = .ok (.putfield 21, 3) := by decide +kernel
theorem dX10_wipe_15 : decode cX10_wipe 15 = .ok (.aload_n 0, 1) := by decide +kernel
theorem dX10_wipe_16 : decode cX10_wipe 16 = .ok (.iconst (-1), 1) := by decide +kernel
theorem dX10_wipe_17 : decode cX10_wipe 17 = .ok (.putfield 24, 3) := by decide +kernel
theorem dX10_wipe_20 : decode cX10_wipe 20 = .ok (.aload_n 0, 1) := by decide +kernel
theorem dX10_wipe_21 : decode cX10_wipe 21 = .ok (.iconst 0, 1) := by decide +kernel
theorem dX10_wipe_22 : decode cX10_wipe 22 = .ok (.putfield 27, 3) := by decide +kernel
theorem dX10_wipe_25 : decode cX10_wipe 25 = .ok (.aload_n 0, 1) := by decide +kernel
theorem dX10_wipe_26 : decode cX10_wipe 26 = .ok (.iconst 0, 1) := by decide +kernel
theorem dX10_wipe_27 : decode cX10_wipe 27 = .ok (.putfield 30, 3) := by decide +kernel
theorem dX10_wipe_30 : decode cX10_wipe 30 = .ok (.aload_n 0, 1) := by decide +kernel
theorem dX10_wipe_31 : decode cX10_wipe 31 = .ok (.iconst 0, 1) := by decide +kernel
theorem dX10_wipe_32 : decode cX10_wipe 32 = .ok (.putfield 33, 3) := by decide +kernel
theorem dX10_wipe_35 : decode cX10_wipe 35 = .ok (.aload_n 0, 1) := by decide +kernel
theorem dX10_wipe_36 : decode cX10_wipe 36 = .ok (.iconst 0, 1) := by decide +kernel
theorem dX10_wipe_37 : decode cX10_wipe 37 = .ok (.putfield 36, 3) := by decide +kernel
theorem dX10_wipe_40 : decode cX10_wipe 40 = .ok (.return_, 1) := by decide +kernel
theorem dX11_init_0 : decode cX11_init 0 = .ok (.aload_n 0, 1) := by decide +kernel
theorem dX11_init_1 : decode cX11_init 1 = .ok (.invokespecial 1, 3) := by decide +kernel
theorem dX11_init_4 : decode cX11_init 4 = .ok (.aload_n 0, 1) := by decide +kernel
theorem dX11_init_5 : decode cX11_init 5 = .ok (.new 7, 3) := by decide +kernel
theorem dX11_init_8 : decode cX11_init 8 = .ok (.dup, 1) := by decide +kernel
theorem dX11_init_9 : decode cX11_init 9 = .ok (.invokespecial 9, 3) := by decide +kernel
theorem dX11_init_12 : decode cX11_init 12 = .ok (.putfield 10, 3) := by decide +kernel
theorem dX11_init_15 : decode cX11_init 15 = .ok (.aload_n 0, 1) := by decide +kernel
theorem dX11_init_16 : decode cX11_init 16 = .ok (.new 16, 3) := by decide +kernel
theorem dX11_init_19 : decode cX11_init 19 = .ok (.dup, 1) := by decide +kernel
theorem dX11_init_20 : decode cX11_init 20 = .ok (.aload_n 0, 1) := by decide +kernel
theorem dX11_init_21 : decode cX11_init 21 = .ok (.getfield 10, 3) := by decide +kernel
theorem dX11_init_24 : decode cX11_init 24 = .ok (.invokespecial 18, 3) := by decide +kernel
theorem dX11_init_27 : decode cX11_init 27 = .ok (.putfield 21, 3) := by decide +kernel
theorem dX11_init_30 : decode cX11_init 30 = .ok (.aload_n 0, 1) := by decide +kernel
theorem dX11_init_31 : decode cX11_init 31 = .ok (.new 25, 3) := by decide +kernel
theorem dX11_init_34 : decode cX11_init 34 = .ok (.dup, 1) := by decide +kernel
theorem dX11_init_35 : decode cX11_init 35 = .ok (.invokespecial 27, 3) := by decide +kernel
theorem dX11_init_38 : decode cX11_init 38 = .ok (.putfield 28, 3) := by decide +kernel
theorem dX11_init_41 : decode cX11_init 41 = .ok (.aload_n 0, 1) := by decide +kernel
theorem dX11_init_42 : decode cX11_init 42 = .ok (.new 32, 3) := by decide +kernel
theorem dX11_init_45 : decode cX11_init 45 = .ok (.dup, 1) := by decide +kernel
theorem dX11_init_46 : decode cX11_init 46 = .ok (.aload_n 0, 1) := by decide +kernel
theorem dX11_init_47 : decode cX11_init 47 = .ok (.getfield 10, 3) := by decide +kernel
theorem dX11_init_50 : decode cX11_init 50 = .ok (.invokespecial 34, 3) := by decide +kernel
theorem dX11_init_53 : decode cX11_init 53 = .ok (.putfield 35, 3) := by decide +kernel
theorem dX11_init_56 : decode cX11_init 56 = .ok (.return_, 1) := by decide +kernel
theorem dX11_craft_0 : decode cX11_craft 0 = .ok (.iload_n 1, 1) := by decide +kernel
theorem dX11_craft_1 : decode cX11_craft 1 = .ok (.ifCond .lt 9, 3) := by decide +kernel
theorem dX11_craft_4 : decode cX11_craft 4 = .ok (.iload_n 1, 1) := by decide +kernel
theorem dX11_craft_5 : decode cX11_craft 5 = .ok (.bipush 32, 2) := by decide +kernel
theorem dX11_craft_7 : decode cX11_craft 7 = .ok (.if_icmp .le 6, 3) := by decide +kernel
theorem dX11_craft_10 : decode cX11_craft 10 = .ok (.bipush (-2), 2) := by decide +kernel
theorem dX11_craft_12 : decode cX11_craft 12 = .ok (.ireturn, 1) := by decide +kernel
theorem dX11_craft_13 : decode cX11_craft 13 = .ok (.aload_n 0, 1) := by decide +kernel
theorem dX11_craft_14 : decode cX11_craft 14 = .ok (.getfield 10, 3) := by decide +kernel
theorem dX11_craft_17 : decode cX11_craft 17 = .ok (.getfield 39, 3) := by decide +kernel
theorem dX11_craft_20 : decode cX11_craft 20 = .ok (.bipush 8, 2) := by decide +kernel
theorem dX11_craft_22 : decode cX11_craft 22 = .ok (.if_icmp .ge 17, 3) := by decide +kernel
theorem dX11_craft_25 : decode cX11_craft 25 = .ok (.aload_n 0, 1) := by decide +kernel
theorem dX11_craft_26 : decode cX11_craft 26 = .ok (.getfield 10, 3) := by decide +kernel
theorem dX11_craft_29 : decode cX11_craft 29 = .ok (.getfield 43, 3) := by decide +kernel
theorem dX11_craft_32 : decode cX11_craft 32 = .ok (.iload_n 1, 1) := by decide +kernel
theorem dX11_craft_33 : decode cX11_craft 33 = .ok (.iadd, 1) := by decide +kernel
theorem dX11_craft_34 : decode cX11_craft 34 = .ok (.bipush 32, 2) := by decide +kernel
theorem dX11_craft_36 : decode cX11_craft 36 = .ok (.if_icmp .le 6, 3) := by decide +kernel
theorem dX11_craft_39 : decode cX11_craft 39 = .ok (.bipush (-8), 2) := by decide +kernel
theorem dX11_craft_41 : decode cX11_craft 41 = .ok (.ireturn, 1) := by decide +kernel
theorem dX11_craft_42 : decode cX11_craft 42 = .ok (.aload_n 0, 1) := by decide +kernel
theorem dX11_craft_43 : decode cX11_craft 43 = .ok (.getfield 35, 3) := by decide +kernel
theorem dX11_craft_46 : decode cX11_craft 46 = .ok (.invokevirtual 46, 3) := by decide +kernel
theorem dX11_craft_49 : decode cX11_craft 49 = .ok (.pop, 1) := by decide +kernel
theorem dX11_craft_50 : decode cX11_craft 50 = .ok (.aload_n 0, 1) := by decide +kernel
theorem dX11_craft_51 : decode cX11_craft 51 = .ok (.getfield 10, 3) := by decide +kernel
theorem dX11_craft_54 : decode cX11_craft 54 = .ok (.iload_n 1, 1) := by decide +kernel
theorem dX11_craft_55 : decode cX11_craft 55 = .ok (.invokevirtual 50, 3) := by decide +kernel
theorem dX11_craft_58 : decode cX11_craft 58 = .ok (.ireturn, 1) := by decide +kernel
theorem dX11_machine_0 : decode cX11_machine 0 = .ok (.aload_n 0, 1) := by decide +kernel
theorem dX11_machine_1 : decode cX11_machine 1 = .ok (.getfield 10, 3) := by decide +kernel
theorem dX11_machine_4 : decode cX11_machine 4 = .ok (.getfield 54, 3) := by decide +kernel
theorem dX11_machine_7 : decode cX11_machine 7 = .ok (.bipush 40, 2) := by decide +kernel
theorem dX11_machine_9 : decode cX11_machine 9 = .ok (.if_icmp .lt 6, 3) := by decide +kernel
theorem dX11_machine_12 : decode cX11_machine 12 = .ok (.bipush (-8), 2) := by decide +kernel
theorem dX11_machine_14 : decode cX11_machine 14 = .ok (.ireturn, 1) := by decide +kernel
theorem dX11_machine_15 : decode cX11_machine 15 = .ok (.aload_n 0, 1) := by decide +kernel
theorem dX11_machine_16 : decode cX11_machine 16 = .ok (.getfield 35, 3) := by decide +kernel
theorem dX11_machine_19 : decode cX11_machine 19 = .ok (.invokevirtual 46, 3) := by decide +kernel
theorem dX11_machine_22 : decode cX11_machine 22 = .ok (.pop, 1) := by decide +kernel
theorem dX11_machine_23 : decode cX11_machine 23 = .ok (.aload_n 0, 1) := by decide +kernel
theorem dX11_machine_24 : decode cX11_machine 24 = .ok (.getfield 10, 3) := by decide +kernel
theorem dX11_machine_27 : decode cX11_machine 27 = .ok (.invokevirtual 57, 3) := by decide +kernel
theorem dX11_machine_30 : decode cX11_machine 30 = .ok (.ireturn, 1) := by decide +kernel
theorem dX11_stock_0 : decode cX11_stock 0 = .ok (.aload_n 0, 1) := by decide +kernel
theorem dX11_stock_1 : decode cX11_stock 1 = .ok (.getfield 10, 3) := by decide +kernel
theorem dX11_stock_4 : decode cX11_stock 4 = .ok (.iload_n 1, 1) := by decide +kernel
theorem dX11_stock_5 : decode cX11_stock 5 = .ok (.invokevirtual 61, 3) := by decide +kernel
theorem dX11_stock_8 : decode cX11_stock 8 = .ok (.ifCond .ne 5, 3) := by decide +kernel
theorem dX11_stock_11 : decode cX11_stock 11 = .ok (.iconst (-1), 1) := by decide +kernel
theorem dX11_stock_12 : decode cX11_stock 12 = .ok (.ireturn, 1) := by decide +kernel
theorem dX11_stock_13 : decode cX11_stock 13 = .ok (.iload_n 2, 1) := by decide +kernel
theorem dX11_stock_14 : decode cX11_stock 14 = .ok (.ifCond .lt 9, 3) := by decide +kernel
theorem dX11_stock_17 : decode cX11_stock 17 = .ok (.iload_n 2, 1) := by decide +kernel
theorem dX11_stock_18 : decode cX11_stock 18 = .ok (.ldc 65, 2) := by decide +kernel
theorem dX11_stock_20 : decode cX11_stock 20 = .ok (.if_icmp .le 6, 3) := by decide +kernel
theorem dX11_stock_23 : decode cX11_stock 23 = .ok (.bipush (-2), 2) := by decide +kernel
theorem dX11_stock_25 : decode cX11_stock 25 = .ok (.ireturn, 1) := by decide +kernel
theorem dX11_stock_26 : decode cX11_stock 26 = .ok (.aload_n 0, 1) := by decide +kernel
theorem dX11_stock_27 : decode cX11_stock 27 = .ok (.getfield 10, 3) := by decide +kernel
theorem dX11_stock_30 : decode cX11_stock 30 = .ok (.getfield 66, 3) := by decide +kernel
theorem dX11_stock_33 : decode cX11_stock 33 = .ok (.iload_n 1, 1) := by decide +kernel
theorem dX11_stock_34 : decode cX11_stock 34 = .ok (.laload, 1) := by decide +kernel
theorem dX11_stock_35 : decode cX11_stock 35 = .ok (.iload_n 2, 1) := by decide +kernel
theorem dX11_stock_36 : decode cX11_stock 36 = .ok (.i2l, 1) := by decide +kernel
theorem dX11_stock_37 : decode cX11_stock 37 = .ok (.ladd, 1) := by decide +kernel
theorem dX11_stock_38 : decode cX11_stock 38 = .ok (.ldc2_w 70, 3) := by decide +kernel
theorem dX11_stock_41 : decode cX11_stock 41 = .ok (.lcmp, 1) := by decide +kernel
theorem dX11_stock_42 : decode cX11_stock 42 = .ok (.ifCond .le 6, 3) := by decide +kernel
theorem dX11_stock_45 : decode cX11_stock 45 = .ok (.bipush (-8), 2) := by decide +kernel
theorem dX11_stock_47 : decode cX11_stock 47 = .ok (.ireturn, 1) := by decide +kernel
theorem dX11_stock_48 : decode cX11_stock 48 = .ok (.aload_n 0, 1) := by decide +kernel
theorem dX11_stock_49 : decode cX11_stock 49 = .ok (.getfield 35, 3) := by decide +kernel
theorem dX11_stock_52 : decode cX11_stock 52 = .ok (.invokevirtual 46, 3) := by decide +kernel
theorem dX11_stock_55 : decode cX11_stock 55 = .ok (.pop, 1) := by decide +kernel
theorem dX11_stock_56 : decode cX11_stock 56 = .ok (.aload_n 0, 1) := by decide +kernel
theorem dX11_stock_57 : decode cX11_stock 57 = .ok (.getfield 10, 3) := by decide +kernel
theorem dX11_stock_60 : decode cX11_stock 60 = .ok (.getfield 66, 3) := by decide +kernel
theorem dX11_stock_63 : decode cX11_stock 63 = .ok (.iload_n 1, 1) := by decide +kernel
theorem dX11_stock_64 : decode cX11_stock 64 = .ok (.dup2, 1) := by decide +kernel
theorem dX11_stock_65 : decode cX11_stock 65 = .ok (.laload, 1) := by decide +kernel
theorem dX11_stock_66 : decode cX11_stock 66 = .ok (.iload_n 2, 1) := by decide +kernel
theorem dX11_stock_67 : decode cX11_stock 67 = .ok (.i2l, 1) := by decide +kernel
theorem dX11_stock_68 : decode cX11_stock 68 = .ok (.ladd, 1) := by decide +kernel
theorem dX11_stock_69 : decode cX11_stock 69 = .ok (.lastore, 1) := by decide +kernel
theorem dX11_stock_70 : decode cX11_stock 70 = .ok (.iconst 0, 1) := by decide +kernel
theorem dX11_stock_71 : decode cX11_stock 71 = .ok (.ireturn, 1) := by decide +kernel
theorem dX11_job_0 : decode cX11_job 0 = .ok (.aload_n 0, 1) := by decide +kernel
theorem dX11_job_1 : decode cX11_job 1 = .ok (.getfield 10, 3) := by decide +kernel
theorem dX11_job_4 : decode cX11_job 4 = .ok (.iload_n 1, 1) := by decide +kernel
theorem dX11_job_5 : decode cX11_job 5 = .ok (.invokevirtual 72, 3) := by decide +kernel
theorem dX11_job_8 : decode cX11_job 8 = .ok (.ifCond .ne 5, 3) := by decide +kernel
theorem dX11_job_11 : decode cX11_job 11 = .ok (.iconst (-1), 1) := by decide +kernel
theorem dX11_job_12 : decode cX11_job 12 = .ok (.ireturn, 1) := by decide +kernel
theorem dX11_job_13 : decode cX11_job 13 = .ok (.iload_n 2, 1) := by decide +kernel
theorem dX11_job_14 : decode cX11_job 14 = .ok (.iconst 1, 1) := by decide +kernel
theorem dX11_job_15 : decode cX11_job 15 = .ok (.if_icmp .lt 21, 3) := by decide +kernel
theorem dX11_job_18 : decode cX11_job 18 = .ok (.iload_n 2, 1) := by decide +kernel
theorem dX11_job_19 : decode cX11_job 19 = .ok (.sipush 10000, 3) := by decide +kernel
theorem dX11_job_22 : decode cX11_job 22 = .ok (.if_icmp .gt 14, 3) := by decide +kernel
theorem dX11_job_25 : decode cX11_job 25 = .ok (.iload_n 3, 1) := by decide +kernel
theorem dX11_job_26 : decode cX11_job 26 = .ok (.ifCond .lt 10, 3) := by decide +kernel
theorem dX11_job_29 : decode cX11_job 29 = .ok (.iload_n 3, 1) := by decide +kernel
theorem dX11_job_30 : decode cX11_job 30 = .ok (.sipush 1000, 3) := by decide +kernel
theorem dX11_job_33 : decode cX11_job 33 = .ok (.if_icmp .le 6, 3) := by decide +kernel
theorem dX11_job_36 : decode cX11_job 36 = .ok (.bipush (-2), 2) := by decide +kernel
theorem dX11_job_38 : decode cX11_job 38 = .ok (.ireturn, 1) := by decide +kernel
theorem dX11_job_39 : decode cX11_job 39 = .ok (.aload_n 0, 1) := by decide +kernel
theorem dX11_job_40 : decode cX11_job 40 = .ok (.getfield 10, 3) := by decide +kernel
theorem dX11_job_43 : decode cX11_job 43 = .ok (.getfield 75, 3) := by decide +kernel
theorem dX11_job_46 : decode cX11_job 46 = .ok (.sipush 200, 3) := by decide +kernel
theorem dX11_job_49 : decode cX11_job 49 = .ok (.if_icmp .lt 6, 3) := by decide +kernel
theorem dX11_job_52 : decode cX11_job 52 = .ok (.bipush (-8), 2) := by decide +kernel
theorem dX11_job_54 : decode cX11_job 54 = .ok (.ireturn, 1) := by decide +kernel
theorem dX11_job_55 : decode cX11_job 55 = .ok (.aload_n 0, 1) := by decide +kernel
theorem dX11_job_56 : decode cX11_job 56 = .ok (.getfield 35, 3) := by decide +kernel
theorem dX11_job_59 : decode cX11_job 59 = .ok (.invokevirtual 46, 3) := by decide +kernel
theorem dX11_job_62 : decode cX11_job 62 = .ok (.pop, 1) := by decide +kernel
theorem dX11_job_63 : decode cX11_job 63 = .ok (.aload_n 0, 1) := by decide +kernel
theorem dX11_job_64 : decode cX11_job 64 = .ok (.getfield 21, 3) := by decide +kernel
theorem dX11_job_67 : decode cX11_job 67 = .ok (.iconst 0, 1) := by decide +kernel
theorem dX11_job_68 : decode cX11_job 68 = .ok (.putfield 78, 3) := by decide +kernel
theorem dX11_job_71 : decode cX11_job 71 = .ok (.aload_n 0, 1) := by decide +kernel
theorem dX11_job_72 : decode cX11_job 72 = .ok (.getfield 10, 3) := by decide +kernel
theorem dX11_job_75 : decode cX11_job 75 = .ok (.aload_n 0, 1) := by decide +kernel
theorem dX11_job_76 : decode cX11_job 76 = .ok (.getfield 10, 3) := by decide +kernel
theorem dX11_job_79 : decode cX11_job 79 = .ok (.getfield 82, 3) := by decide +kernel
theorem dX11_job_82 : decode cX11_job 82 = .ok (.iload_n 1, 1) := by decide +kernel
theorem dX11_job_83 : decode cX11_job 83 = .ok (.aaload, 1) := by decide +kernel
theorem dX11_job_84 : decode cX11_job 84 = .ok (.iload_n 2, 1) := by decide +kernel
theorem dX11_job_85 : decode cX11_job 85 = .ok (.iload_n 3, 1) := by decide +kernel
theorem dX11_job_86 : decode cX11_job 86 = .ok (.invokevirtual 86, 3) := by decide +kernel
theorem dX11_job_89 : decode cX11_job 89 = .ok (.ireturn, 1) := by decide +kernel
theorem dX11_after_0 : decode cX11_after 0 = .ok (.aload_n 0, 1) := by decide +kernel
theorem dX11_after_1 : decode cX11_after 1 = .ok (.getfield 10, 3) := by decide +kernel
theorem dX11_after_4 : decode cX11_after 4 = .ok (.iload_n 1, 1) := by decide +kernel
theorem dX11_after_5 : decode cX11_after 5 = .ok (.invokevirtual 90, 3) := by decide +kernel
theorem dX11_after_8 : decode cX11_after 8 = .ok (.ifCond .eq 14, 3) := by decide +kernel
theorem dX11_after_11 : decode cX11_after 11 = .ok (.aload_n 0, 1) := by decide +kernel
theorem dX11_after_12 : decode cX11_after 12 = .ok (.getfield 10, 3) := by decide +kernel
theorem dX11_after_15 : decode cX11_after 15 = .ok (.iload_n 2, 1) := by decide +kernel
theorem dX11_after_16 : decode cX11_after 16 = .ok (.invokevirtual 90, 3) := by decide +kernel
theorem dX11_after_19 : decode cX11_after 19 = .ok (.ifCond .ne 5, 3) := by decide +kernel
theorem dX11_after_22 : decode cX11_after 22 = .ok (.iconst (-1), 1) := by decide +kernel
theorem dX11_after_23 : decode cX11_after 23 = .ok (.ireturn, 1) := by decide +kernel
theorem dX11_after_24 : decode cX11_after 24 = .ok (.aload_n 0, 1) := by decide +kernel
theorem dX11_after_25 : decode cX11_after 25 = .ok (.getfield 10, 3) := by decide +kernel
theorem dX11_after_28 : decode cX11_after 28 = .ok (.getfield 93, 3) := by decide +kernel
theorem dX11_after_31 : decode cX11_after 31 = .ok (.iload_n 1, 1) := by decide +kernel
theorem dX11_after_32 : decode cX11_after 32 = .ok (.aaload, 1) := by decide +kernel
theorem dX11_after_33 : decode cX11_after 33 = .ok (.astore_n 3, 1) := by decide +kernel
theorem dX11_after_34 : decode cX11_after 34 = .ok (.aload_n 0, 1) := by decide +kernel
theorem dX11_after_35 : decode cX11_after 35 = .ok (.getfield 10, 3) := by decide +kernel
theorem dX11_after_38 : decode cX11_after 38 = .ok (.getfield 93, 3) := by decide +kernel
theorem dX11_after_41 : decode cX11_after 41 = .ok (.iload_n 2, 1) := by decide +kernel
theorem dX11_after_42 : decode cX11_after 42 = .ok (.aaload, 1) := by decide +kernel
theorem dX11_after_43 : decode cX11_after 43 = .ok (.astore 4, 2) := by decide +kernel
theorem dX11_after_45 : decode cX11_after 45 = .ok (.aload_n 3, 1) := by decide +kernel
theorem dX11_after_46 : decode cX11_after 46 = .ok (.aload 4, 2) := by decide +kernel
theorem dX11_after_48 : decode cX11_after 48 = .ok (.invokevirtual 97, 3) := by decide +kernel
theorem dX11_after_51 : decode cX11_after 51 = .ok (.ifCond .eq 6, 3) := by decide +kernel
theorem dX11_after_54 : decode cX11_after 54 = .ok (.bipush (-3), 2) := by decide +kernel
theorem dX11_after_56 : decode cX11_after 56 = .ok (.ireturn, 1) := by decide +kernel
theorem dX11_after_57 : decode cX11_after 57 = .ok (.aload_n 3, 1) := by decide +kernel
theorem dX11_after_58 : decode cX11_after 58 = .ok (.aload 4, 2) := by decide +kernel
theorem dX11_after_60 : decode cX11_after 60 = .ok (.if_acmp .eq 15, 3) := by decide +kernel
theorem dX11_after_63 : decode cX11_after 63 = .ok (.aload 4, 2) := by decide +kernel
theorem dX11_after_65 : decode cX11_after 65 = .ok (.getfield 103, 3) := by decide +kernel
theorem dX11_after_68 : decode cX11_after 68 = .ok (.iload_n 1, 1) := by decide +kernel
theorem dX11_after_69 : decode cX11_after 69 = .ok (.invokevirtual 107, 3) := by decide +kernel
theorem dX11_after_72 : decode cX11_after 72 = .ok (.ifCond .eq 6, 3) := by decide +kernel
theorem dX11_after_75 : decode cX11_after 75 = .ok (.bipush (-4), 2) := by decide +kernel
theorem dX11_after_77 : decode cX11_after 77 = .ok (.ireturn, 1) := by decide +kernel
theorem dX11_after_78 : decode cX11_after 78 = .ok (.aload_n 0, 1) := by decide +kernel
theorem dX11_after_79 : decode cX11_after 79 = .ok (.getfield 35, 3) := by decide +kernel
theorem dX11_after_82 : decode cX11_after 82 = .ok (.invokevirtual 46, 3) := by decide +kernel
theorem dX11_after_85 : decode cX11_after 85 = .ok (.pop, 1) := by decide +kernel
theorem dX11_after_86 : decode cX11_after 86 = .ok (.aload_n 0, 1) := by decide +kernel
theorem dX11_after_87 : decode cX11_after 87 = .ok (.getfield 21, 3) := by decide +kernel
theorem dX11_after_90 : decode cX11_after 90 = .ok (.iconst 0, 1) := by decide +kernel
theorem dX11_after_91 : decode cX11_after 91 = .ok (.putfield 78, 3) := by decide +kernel
theorem dX11_after_94 : decode cX11_after 94 = .ok (.aload_n 0, 1) := by decide +kernel
theorem dX11_after_95 : decode cX11_after 95 = .ok (.getfield 10, 3) := by decide +kernel
theorem dX11_after_98 : decode cX11_after 98 = .ok (.aload_n 3, 1) := by decide +kernel
theorem dX11_after_99 : decode cX11_after 99 = .ok (.aload 4, 2) := by decide +kernel
theorem dX11_after_101 : decode cX11_after 101 = .ok (.invokevirtual 112, 3) := by decide +kernel
theorem dX11_after_104 : decode cX11_after 104 = .ok (.iconst 0, 1) := by decide +kernel
theorem dX11_after_105 : decode cX11_after 105 = .ok (.ireturn, 1) := by decide +kernel
theorem dX11_needs_0 : decode cX11_needs 0 = .ok (.aload_n 0, 1) := by decide +kernel
theorem dX11_needs_1 : decode cX11_needs 1 = .ok (.getfield 10, 3) := by decide +kernel
theorem dX11_needs_4 : decode cX11_needs 4 = .ok (.iload_n 1, 1) := by decide +kernel
theorem dX11_needs_5 : decode cX11_needs 5 = .ok (.invokevirtual 90, 3) := by decide +kernel
theorem dX11_needs_8 : decode cX11_needs 8 = .ok (.ifCond .eq 14, 3) := by decide +kernel
theorem dX11_needs_11 : decode cX11_needs 11 = .ok (.aload_n 0, 1) := by decide +kernel
theorem dX11_needs_12 : decode cX11_needs 12 = .ok (.getfield 10, 3) := by decide +kernel
theorem dX11_needs_15 : decode cX11_needs 15 = .ok (.iload_n 2, 1) := by decide +kernel
theorem dX11_needs_16 : decode cX11_needs 16 = .ok (.invokevirtual 116, 3) := by decide +kernel
theorem dX11_needs_19 : decode cX11_needs 19 = .ok (.ifCond .ne 5, 3) := by decide +kernel
theorem dX11_needs_22 : decode cX11_needs 22 = .ok (.iconst (-1), 1) := by decide +kernel
theorem dX11_needs_23 : decode cX11_needs 23 = .ok (.ireturn, 1) := by decide +kernel
theorem dX11_needs_24 : decode cX11_needs 24 = .ok (.lconst 1, 1) := by decide +kernel
theorem dX11_needs_25 : decode cX11_needs 25 = .ok (.iload_n 2, 1) := by decide +kernel
theorem dX11_needs_26 : decode cX11_needs 26 = .ok (.lshl, 1) := by decide +kernel
theorem dX11_needs_27 : decode cX11_needs 27 = .ok (.lstore_n 3, 1) := by decide +kernel
theorem dX11_needs_28 : decode cX11_needs 28 = .ok (.aload_n 0, 1) := by decide +kernel
theorem dX11_needs_29 : decode cX11_needs 29 = .ok (.getfield 10, 3) := by decide +kernel
theorem dX11_needs_32 : decode cX11_needs 32 = .ok (.getfield 93, 3) := by decide +kernel
theorem dX11_needs_35 : decode cX11_needs 35 = .ok (.iload_n 1, 1) := by decide +kernel
theorem dX11_needs_36 : decode cX11_needs 36 = .ok (.aaload, 1) := by decide +kernel
theorem dX11_needs_37 : decode cX11_needs 37 = .ok (.getfield 119, 3) := by decide +kernel
theorem dX11_needs_40 : decode cX11_needs 40 = .ok (.lload_n 3, 1) := by decide +kernel
theorem dX11_needs_41 : decode cX11_needs 41 = .ok (.land, 1) := by decide +kernel
theorem dX11_needs_42 : decode cX11_needs 42 = .ok (.lconst 0, 1) := by decide +kernel
theorem dX11_needs_43 : decode cX11_needs 43 = .ok (.lcmp, 1) := by decide +kernel
theorem dX11_needs_44 : decode cX11_needs 44 = .ok (.ifCond .eq 6, 3) := by decide +kernel
theorem dX11_needs_47 : decode cX11_needs 47 = .ok (.bipush (-3), 2) := by decide +kernel
theorem dX11_needs_49 : decode cX11_needs 49 = .ok (.ireturn, 1) := by decide +kernel
theorem dX11_needs_50 : decode cX11_needs 50 = .ok (.aload_n 0, 1) := by decide +kernel
theorem dX11_needs_51 : decode cX11_needs 51 = .ok (.getfield 35, 3) := by decide +kernel
theorem dX11_needs_54 : decode cX11_needs 54 = .ok (.invokevirtual 46, 3) := by decide +kernel
theorem dX11_needs_57 : decode cX11_needs 57 = .ok (.pop, 1) := by decide +kernel
theorem dX11_needs_58 : decode cX11_needs 58 = .ok (.aload_n 0, 1) := by decide +kernel
theorem dX11_needs_59 : decode cX11_needs 59 = .ok (.getfield 10, 3) := by decide +kernel
theorem dX11_needs_62 : decode cX11_needs 62 = .ok (.getfield 93, 3) := by decide +kernel
theorem dX11_needs_65 : decode cX11_needs 65 = .ok (.iload_n 1, 1) := by decide +kernel
theorem dX11_needs_66 : decode cX11_needs 66 = .ok (.aaload, 1) := by decide +kernel
theorem dX11_needs_67 : decode cX11_needs 67 = .ok (.dup, 1) := by decide +kernel
theorem dX11_needs_68 : decode cX11_needs 68 = .ok (.getfield 119, 3) := by decide +kernel
theorem dX11_needs_71 : decode cX11_needs 71 = .ok (.lload_n 3, 1) := by decide +kernel
theorem dX11_needs_72 : decode cX11_needs 72 = .ok (.lor, 1) := by decide +kernel
theorem dX11_needs_73 : decode cX11_needs 73 = .ok (.putfield 119, 3) := by decide +kernel
theorem dX11_needs_76 : decode cX11_needs 76 = .ok (.iconst 0, 1) := by decide +kernel
theorem dX11_needs_77 : decode cX11_needs 77 = .ok (.ireturn, 1) := by decide +kernel
theorem dX11_uses_0 : decode cX11_uses 0 = .ok (.aload_n 0, 1) := by decide +kernel
theorem dX11_uses_1 : decode cX11_uses 1 = .ok (.iload_n 1, 1) := by decide +kernel
theorem dX11_uses_2 : decode cX11_uses 2 = .ok (.iload_n 2, 1) := by decide +kernel
theorem dX11_uses_3 : decode cX11_uses 3 = .ok (.iload_n 3, 1) := by decide +kernel
theorem dX11_uses_4 : decode cX11_uses 4 = .ok (.invokevirtual 123, 3) := by decide +kernel
theorem dX11_uses_7 : decode cX11_uses 7 = .ok (.istore 4, 2) := by decide +kernel
theorem dX11_uses_9 : decode cX11_uses 9 = .ok (.iload 4, 2) := by decide +kernel
theorem dX11_uses_11 : decode cX11_uses 11 = .ok (.ifCond .ne 28, 3) := by decide +kernel
theorem dX11_uses_14 : decode cX11_uses 14 = .ok (.aload_n 0, 1) := by decide +kernel
theorem dX11_uses_15 : decode cX11_uses 15 = .ok (.getfield 35, 3) := by decide +kernel
theorem dX11_uses_18 : decode cX11_uses 18 = .ok (.invokevirtual 46, 3) := by decide +kernel
theorem dX11_uses_21 : decode cX11_uses 21 = .ok (.pop, 1) := by decide +kernel
theorem dX11_uses_22 : decode cX11_uses 22 = .ok (.aload_n 0, 1) := by decide +kernel
theorem dX11_uses_23 : decode cX11_uses 23 = .ok (.getfield 10, 3) := by decide +kernel
theorem dX11_uses_26 : decode cX11_uses 26 = .ok (.getfield 93, 3) := by decide +kernel
theorem dX11_uses_29 : decode cX11_uses 29 = .ok (.iload_n 1, 1) := by decide +kernel
theorem dX11_uses_30 : decode cX11_uses 30 = .ok (.aaload, 1) := by decide +kernel
theorem dX11_uses_31 : decode cX11_uses 31 = .ok (.getfield 127, 3) := by decide +kernel
theorem dX11_uses_34 : decode cX11_uses 34 = .ok (.iload_n 2, 1) := by decide +kernel
theorem dX11_uses_35 : decode cX11_uses 35 = .ok (.iload_n 3, 1) := by decide +kernel
theorem dX11_uses_36 : decode cX11_uses 36 = .ok (.invokevirtual 131, 3) := by decide +kernel
theorem dX11_uses_39 : decode cX11_uses 39 = .ok (.iload 4, 2) := by decide +kernel
theorem dX11_uses_41 : decode cX11_uses 41 = .ok (.ireturn, 1) := by decide +kernel
theorem dX11_gives_0 : decode cX11_gives 0 = .ok (.aload_n 0, 1) := by decide +kernel
theorem dX11_gives_1 : decode cX11_gives 1 = .ok (.iload_n 1, 1) := by decide +kernel
theorem dX11_gives_2 : decode cX11_gives 2 = .ok (.iload_n 2, 1) := by decide +kernel
theorem dX11_gives_3 : decode cX11_gives 3 = .ok (.iload_n 3, 1) := by decide +kernel
theorem dX11_gives_4 : decode cX11_gives 4 = .ok (.invokevirtual 123, 3) := by decide +kernel
theorem dX11_gives_7 : decode cX11_gives 7 = .ok (.istore 4, 2) := by decide +kernel
theorem dX11_gives_9 : decode cX11_gives 9 = .ok (.iload 4, 2) := by decide +kernel
theorem dX11_gives_11 : decode cX11_gives 11 = .ok (.ifCond .ne 28, 3) := by decide +kernel
theorem dX11_gives_14 : decode cX11_gives 14 = .ok (.aload_n 0, 1) := by decide +kernel
theorem dX11_gives_15 : decode cX11_gives 15 = .ok (.getfield 35, 3) := by decide +kernel
theorem dX11_gives_18 : decode cX11_gives 18 = .ok (.invokevirtual 46, 3) := by decide +kernel
theorem dX11_gives_21 : decode cX11_gives 21 = .ok (.pop, 1) := by decide +kernel
theorem dX11_gives_22 : decode cX11_gives 22 = .ok (.aload_n 0, 1) := by decide +kernel
theorem dX11_gives_23 : decode cX11_gives 23 = .ok (.getfield 10, 3) := by decide +kernel
theorem dX11_gives_26 : decode cX11_gives 26 = .ok (.getfield 93, 3) := by decide +kernel
theorem dX11_gives_29 : decode cX11_gives 29 = .ok (.iload_n 1, 1) := by decide +kernel
theorem dX11_gives_30 : decode cX11_gives 30 = .ok (.aaload, 1) := by decide +kernel
theorem dX11_gives_31 : decode cX11_gives 31 = .ok (.getfield 137, 3) := by decide +kernel
theorem dX11_gives_34 : decode cX11_gives 34 = .ok (.iload_n 2, 1) := by decide +kernel
theorem dX11_gives_35 : decode cX11_gives 35 = .ok (.iload_n 3, 1) := by decide +kernel
theorem dX11_gives_36 : decode cX11_gives 36 = .ok (.invokevirtual 131, 3) := by decide +kernel
theorem dX11_gives_39 : decode cX11_gives 39 = .ok (.iload 4, 2) := by decide +kernel
theorem dX11_gives_41 : decode cX11_gives 41 = .ok (.ireturn, 1) := by decide +kernel
theorem dX11_statusOfAmount_0 : decode cX11_statusOfAmount 0 = .ok (.aload_n 0, 1) := by decide +kernel
theorem dX11_statusOfAmount_1 : decode cX11_statusOfAmount 1 = .ok (.getfield 10, 3) := by decide +kernel
theorem dX11_statusOfAmount_4 : decode cX11_statusOfAmount 4 = .ok (.iload_n 1, 1) := by decide +kernel
theorem dX11_statusOfAmount_5 : decode cX11_statusOfAmount 5 = .ok (.invokevirtual 90, 3) := by decide +kernel
theorem dX11_statusOfAmount_8 : decode cX11_statusOfAmount 8 = .ok (.ifCond .eq 14, 3) := by decide +kernel
theorem dX11_statusOfAmount_11 : decode cX11_statusOfAmount 11 = .ok (.aload_n 0, 1) := by decide +kernel
theorem dX11_statusOfAmount_12 : decode cX11_statusOfAmount 12 = .ok (.getfield 10, 3) := by decide +kernel
theorem dX11_statusOfAmount_15 : decode cX11_statusOfAmount 15 = .ok (.iload_n 2, 1) := by decide +kernel
theorem dX11_statusOfAmount_16 : decode cX11_statusOfAmount 16 = .ok (.invokevirtual 61, 3) := by decide +kernel
theorem dX11_statusOfAmount_19 : decode cX11_statusOfAmount 19 = .ok (.ifCond .ne 5, 3) := by decide +kernel
theorem dX11_statusOfAmount_22 : decode cX11_statusOfAmount 22 = .ok (.iconst (-1), 1) := by decide +kernel
theorem dX11_statusOfAmount_23 : decode cX11_statusOfAmount 23 = .ok (.ireturn, 1) := by decide +kernel
theorem dX11_statusOfAmount_24 : decode cX11_statusOfAmount 24 = .ok (.iload_n 3, 1) := by decide +kernel
theorem dX11_statusOfAmount_25 : decode cX11_statusOfAmount 25 = .ok (.iconst 1, 1) := by decide +kernel
theorem dX11_statusOfAmount_26 : decode cX11_statusOfAmount 26 = .ok (.if_icmp .lt 9, 3) := by decide +kernel
theorem dX11_statusOfAmount_29 : decode cX11_statusOfAmount 29 = .ok (.iload_n 3, 1) := by decide +kernel
theorem dX11_statusOfAmount_30 : decode cX11_statusOfAmount 30 = .ok (.ldc 65, 2) := by decide +kernel
theorem dX11_statusOfAmount_32 : decode cX11_statusOfAmount 32 = .ok (.if_icmp .le 6, 3) := by decide +kernel
theorem dX11_statusOfAmount_35 : decode cX11_statusOfAmount 35 = .ok (.bipush (-2), 2) := by decide +kernel
theorem dX11_statusOfAmount_37 : decode cX11_statusOfAmount 37 = .ok (.ireturn, 1) := by decide +kernel
theorem dX11_statusOfAmount_38 : decode cX11_statusOfAmount 38 = .ok (.iconst 0, 1) := by decide +kernel
theorem dX11_statusOfAmount_39 : decode cX11_statusOfAmount 39 = .ok (.ireturn, 1) := by decide +kernel
theorem dX11_body_0 : decode cX11_body 0 = .ok (.aload_n 0, 1) := by decide +kernel
theorem dX11_body_1 : decode cX11_body 1 = .ok (.getfield 10, 3) := by decide +kernel
theorem dX11_body_4 : decode cX11_body 4 = .ok (.iload_n 1, 1) := by decide +kernel
theorem dX11_body_5 : decode cX11_body 5 = .ok (.invokevirtual 90, 3) := by decide +kernel
theorem dX11_body_8 : decode cX11_body 8 = .ok (.ifCond .ne 5, 3) := by decide +kernel
theorem dX11_body_11 : decode cX11_body 11 = .ok (.iconst (-1), 1) := by decide +kernel
theorem dX11_body_12 : decode cX11_body 12 = .ok (.ireturn, 1) := by decide +kernel
theorem dX11_body_13 : decode cX11_body 13 = .ok (.iload_n 2, 1) := by decide +kernel
theorem dX11_body_14 : decode cX11_body 14 = .ok (.ifCond .lt 8, 3) := by decide +kernel
theorem dX11_body_17 : decode cX11_body 17 = .ok (.iload_n 2, 1) := by decide +kernel
theorem dX11_body_18 : decode cX11_body 18 = .ok (.iconst 5, 1) := by decide +kernel
theorem dX11_body_19 : decode cX11_body 19 = .ok (.if_icmp .le 6, 3) := by decide +kernel
theorem dX11_body_22 : decode cX11_body 22 = .ok (.bipush (-2), 2) := by decide +kernel
theorem dX11_body_24 : decode cX11_body 24 = .ok (.ireturn, 1) := by decide +kernel
theorem dX11_body_25 : decode cX11_body 25 = .ok (.aload_n 0, 1) := by decide +kernel
theorem dX11_body_26 : decode cX11_body 26 = .ok (.getfield 35, 3) := by decide +kernel
theorem dX11_body_29 : decode cX11_body 29 = .ok (.invokevirtual 46, 3) := by decide +kernel
theorem dX11_body_32 : decode cX11_body 32 = .ok (.pop, 1) := by decide +kernel
theorem dX11_body_33 : decode cX11_body 33 = .ok (.aload_n 0, 1) := by decide +kernel
theorem dX11_body_34 : decode cX11_body 34 = .ok (.getfield 10, 3) := by decide +kernel
theorem dX11_body_37 : decode cX11_body 37 = .ok (.getfield 93, 3) := by decide +kernel
theorem dX11_body_40 : decode cX11_body 40 = .ok (.iload_n 1, 1) := by decide +kernel
theorem dX11_body_41 : decode cX11_body 41 = .ok (.aaload, 1) := by decide +kernel
theorem dX11_body_42 : decode cX11_body 42 = .ok (.getfield 142, 3) := by decide +kernel
theorem dX11_body_45 : decode cX11_body 45 = .ok (.astore 5, 2) := by decide +kernel
theorem dX11_body_47 : decode cX11_body 47 = .ok (.aload 5, 2) := by decide +kernel
theorem dX11_body_49 : decode cX11_body 49 = .ok (.iload_n 2, 1) := by decide +kernel
theorem dX11_body_50 : decode cX11_body 50 = .ok (.putfield 146, 3) := by decide +kernel
theorem dX11_body_53 : decode cX11_body 53 = .ok (.aload 5, 2) := by decide +kernel
theorem dX11_body_55 : decode cX11_body 55 = .ok (.iload_n 3, 1) := by decide +kernel
theorem dX11_body_56 : decode cX11_body 56 = .ok (.putfield 149, 3) := by decide +kernel
theorem dX11_body_59 : decode cX11_body 59 = .ok (.aload 5, 2) := by decide +kernel
theorem dX11_body_61 : decode cX11_body 61 = .ok (.iload 4, 2) := by decide +kernel
theorem dX11_body_63 : decode cX11_body 63 = .ok (.putfield 152, 3) := by decide +kernel
theorem dX11_body_66 : decode cX11_body 66 = .ok (.iconst 0, 1) := by decide +kernel
theorem dX11_body_67 : decode cX11_body 67 = .ok (.ireturn, 1) := by decide +kernel
theorem dX11_piece_0 : decode cX11_piece 0 = .ok (.aload_n 0, 1) := by decide +kernel
theorem dX11_piece_1 : decode cX11_piece 1 = .ok (.getfield 10, 3) := by decide +kernel
theorem dX11_piece_4 : decode cX11_piece 4 = .ok (.iload_n 1, 1) := by decide +kernel
theorem dX11_piece_5 : decode cX11_piece 5 = .ok (.invokevirtual 90, 3) := by decide +kernel
theorem dX11_piece_8 : decode cX11_piece 8 = .ok (.ifCond .ne 5, 3) := by decide +kernel
theorem dX11_piece_11 : decode cX11_piece 11 = .ok (.iconst (-1), 1) := by decide +kernel
theorem dX11_piece_12 : decode cX11_piece 12 = .ok (.ireturn, 1) := by decide +kernel
theorem dX11_piece_13 : decode cX11_piece 13 = .ok (.aload_n 0, 1) := by decide +kernel
theorem dX11_piece_14 : decode cX11_piece 14 = .ok (.getfield 10, 3) := by decide +kernel
theorem dX11_piece_17 : decode cX11_piece 17 = .ok (.getfield 93, 3) := by decide +kernel
theorem dX11_piece_20 : decode cX11_piece 20 = .ok (.iload_n 1, 1) := by decide +kernel
theorem dX11_piece_21 : decode cX11_piece 21 = .ok (.aaload, 1) := by decide +kernel
theorem dX11_piece_22 : decode cX11_piece 22 = .ok (.getfield 142, 3) := by decide +kernel
theorem dX11_piece_25 : decode cX11_piece 25 = .ok (.astore_n 3, 1) := by decide +kernel
theorem dX11_piece_26 : decode cX11_piece 26 = .ok (.aload_n 3, 1) := by decide +kernel
theorem dX11_piece_27 : decode cX11_piece 27 = .ok (.getfield 155, 3) := by decide +kernel
theorem dX11_piece_30 : decode cX11_piece 30 = .ok (.bipush 30, 2) := by decide +kernel
theorem dX11_piece_32 : decode cX11_piece 32 = .ok (.if_icmp .lt 6, 3) := by decide +kernel
theorem dX11_piece_35 : decode cX11_piece 35 = .ok (.bipush (-8), 2) := by decide +kernel
theorem dX11_piece_37 : decode cX11_piece 37 = .ok (.ireturn, 1) := by decide +kernel
theorem dX11_piece_38 : decode cX11_piece 38 = .ok (.aload_n 0, 1) := by decide +kernel
theorem dX11_piece_39 : decode cX11_piece 39 = .ok (.getfield 35, 3) := by decide +kernel
theorem dX11_piece_42 : decode cX11_piece 42 = .ok (.invokevirtual 46, 3) := by decide +kernel
theorem dX11_piece_45 : decode cX11_piece 45 = .ok (.pop, 1) := by decide +kernel
theorem dX11_piece_46 : decode cX11_piece 46 = .ok (.aload_n 3, 1) := by decide +kernel
theorem dX11_piece_47 : decode cX11_piece 47 = .ok (.getfield 158, 3) := by decide +kernel
theorem dX11_piece_50 : decode cX11_piece 50 = .ok (.aload_n 3, 1) := by decide +kernel
theorem dX11_piece_51 : decode cX11_piece 51 = .ok (.getfield 155, 3) := by decide +kernel
theorem dX11_piece_54 : decode cX11_piece 54 = .ok (.iload_n 2, 1) := by decide +kernel
theorem dX11_piece_55 : decode cX11_piece 55 = .ok (.iastore, 1) := by decide +kernel
theorem dX11_piece_56 : decode cX11_piece 56 = .ok (.aload_n 3, 1) := by decide +kernel
theorem dX11_piece_57 : decode cX11_piece 57 = .ok (.dup, 1) := by decide +kernel
theorem dX11_piece_58 : decode cX11_piece 58 = .ok (.getfield 155, 3) := by decide +kernel
theorem dX11_piece_61 : decode cX11_piece 61 = .ok (.iconst 1, 1) := by decide +kernel
theorem dX11_piece_62 : decode cX11_piece 62 = .ok (.iadd, 1) := by decide +kernel
theorem dX11_piece_63 : decode cX11_piece 63 = .ok (.putfield 155, 3) := by decide +kernel
theorem dX11_piece_66 : decode cX11_piece 66 = .ok (.iconst 0, 1) := by decide +kernel
theorem dX11_piece_67 : decode cX11_piece 67 = .ok (.ireturn, 1) := by decide +kernel
theorem dX11_strip_0 : decode cX11_strip 0 = .ok (.aload_n 0, 1) := by decide +kernel
theorem dX11_strip_1 : decode cX11_strip 1 = .ok (.getfield 10, 3) := by decide +kernel
theorem dX11_strip_4 : decode cX11_strip 4 = .ok (.iload_n 1, 1) := by decide +kernel
theorem dX11_strip_5 : decode cX11_strip 5 = .ok (.invokevirtual 90, 3) := by decide +kernel
theorem dX11_strip_8 : decode cX11_strip 8 = .ok (.ifCond .ne 5, 3) := by decide +kernel
theorem dX11_strip_11 : decode cX11_strip 11 = .ok (.iconst (-1), 1) := by decide +kernel
theorem dX11_strip_12 : decode cX11_strip 12 = .ok (.ireturn, 1) := by decide +kernel
theorem dX11_strip_13 : decode cX11_strip 13 = .ok (.aload_n 0, 1) := by decide +kernel
theorem dX11_strip_14 : decode cX11_strip 14 = .ok (.getfield 10, 3) := by decide +kernel
theorem dX11_strip_17 : decode cX11_strip 17 = .ok (.getfield 93, 3) := by decide +kernel
theorem dX11_strip_20 : decode cX11_strip 20 = .ok (.iload_n 1, 1) := by decide +kernel
theorem dX11_strip_21 : decode cX11_strip 21 = .ok (.aaload, 1) := by decide +kernel
theorem dX11_strip_22 : decode cX11_strip 22 = .ok (.getfield 142, 3) := by decide +kernel
theorem dX11_strip_25 : decode cX11_strip 25 = .ok (.astore_n 2, 1) := by decide +kernel
theorem dX11_strip_26 : decode cX11_strip 26 = .ok (.aload_n 2, 1) := by decide +kernel
theorem dX11_strip_27 : decode cX11_strip 27 = .ok (.getfield 155, 3) := by decide +kernel
theorem dX11_strip_30 : decode cX11_strip 30 = .ok (.ifCond .ne 6, 3) := by decide +kernel
theorem dX11_strip_33 : decode cX11_strip 33 = .ok (.bipush (-3), 2) := by decide +kernel
theorem dX11_strip_35 : decode cX11_strip 35 = .ok (.ireturn, 1) := by decide +kernel
theorem dX11_strip_36 : decode cX11_strip 36 = .ok (.aload_n 0, 1) := by decide +kernel
theorem dX11_strip_37 : decode cX11_strip 37 = .ok (.getfield 35, 3) := by decide +kernel
theorem dX11_strip_40 : decode cX11_strip 40 = .ok (.invokevirtual 46, 3) := by decide +kernel
theorem dX11_strip_43 : decode cX11_strip 43 = .ok (.pop, 1) := by decide +kernel
theorem dX11_strip_44 : decode cX11_strip 44 = .ok (.aload_n 2, 1) := by decide +kernel
theorem dX11_strip_45 : decode cX11_strip 45 = .ok (.iconst 0, 1) := by decide +kernel
theorem dX11_strip_46 : decode cX11_strip 46 = .ok (.putfield 155, 3) := by decide +kernel
theorem dX11_strip_49 : decode cX11_strip 49 = .ok (.iconst 0, 1) := by decide +kernel
theorem dX11_strip_50 : decode cX11_strip 50 = .ok (.ireturn, 1) := by decide +kernel
theorem dX11_plan_0 : decode cX11_plan 0 = .ok (.aload_n 0, 1) := by decide +kernel
theorem dX11_plan_1 : decode cX11_plan 1 = .ok (.getfield 10, 3) := by decide +kernel
theorem dX11_plan_4 : decode cX11_plan 4 = .ok (.iload_n 1, 1) := by decide +kernel
theorem dX11_plan_5 : decode cX11_plan 5 = .ok (.invokevirtual 90, 3) := by decide +kernel
theorem dX11_plan_8 : decode cX11_plan 8 = .ok (.ifCond .ne 5, 3) := by decide +kernel
theorem dX11_plan_11 : decode cX11_plan 11 = .ok (.iconst (-1), 1) := by decide +kernel
theorem dX11_plan_12 : decode cX11_plan 12 = .ok (.ireturn, 1) := by decide +kernel
theorem dX11_plan_13 : decode cX11_plan 13 = .ok (.aload_n 0, 1) := by decide +kernel
theorem dX11_plan_14 : decode cX11_plan 14 = .ok (.getfield 10, 3) := by decide +kernel
theorem dX11_plan_17 : decode cX11_plan 17 = .ok (.getfield 93, 3) := by decide +kernel
theorem dX11_plan_20 : decode cX11_plan 20 = .ok (.iload_n 1, 1) := by decide +kernel
theorem dX11_plan_21 : decode cX11_plan 21 = .ok (.aaload, 1) := by decide +kernel
theorem dX11_plan_22 : decode cX11_plan 22 = .ok (.astore 4, 2) := by decide +kernel
theorem dX11_plan_24 : decode cX11_plan 24 = .ok (.iload_n 2, 1) := by decide +kernel
theorem dX11_plan_25 : decode cX11_plan 25 = .ok (.iconst 1, 1) := by decide +kernel
theorem dX11_plan_26 : decode cX11_plan 26 = .ok (.if_icmp .lt 23, 3) := by decide +kernel
theorem dX11_plan_29 : decode cX11_plan 29 = .ok (.iload_n 2, 1) := by decide +kernel
theorem dX11_plan_30 : decode cX11_plan 30 = .ok (.aload 4, 2) := by decide +kernel
theorem dX11_plan_32 : decode cX11_plan 32 = .ok (.getfield 162, 3) := by decide +kernel
theorem dX11_plan_35 : decode cX11_plan 35 = .ok (.if_icmp .gt 14, 3) := by decide +kernel
theorem dX11_plan_38 : decode cX11_plan 38 = .ok (.iload_n 3, 1) := by decide +kernel
theorem dX11_plan_39 : decode cX11_plan 39 = .ok (.iconst 1, 1) := by decide +kernel
theorem dX11_plan_40 : decode cX11_plan 40 = .ok (.if_icmp .lt 9, 3) := by decide +kernel
theorem dX11_plan_43 : decode cX11_plan 43 = .ok (.iload_n 3, 1) := by decide +kernel
theorem dX11_plan_44 : decode cX11_plan 44 = .ok (.bipush 9, 2) := by decide +kernel
theorem dX11_plan_46 : decode cX11_plan 46 = .ok (.if_icmp .le 6, 3) := by decide +kernel
theorem dX11_plan_49 : decode cX11_plan 49 = .ok (.bipush (-2), 2) := by decide +kernel
theorem dX11_plan_51 : decode cX11_plan 51 = .ok (.ireturn, 1) := by decide +kernel
theorem dX11_plan_52 : decode cX11_plan 52 = .ok (.aload_n 0, 1) := by decide +kernel
theorem dX11_plan_53 : decode cX11_plan 53 = .ok (.getfield 35, 3) := by decide +kernel
theorem dX11_plan_56 : decode cX11_plan 56 = .ok (.invokevirtual 46, 3) := by decide +kernel
theorem dX11_plan_59 : decode cX11_plan 59 = .ok (.pop, 1) := by decide +kernel
theorem dX11_plan_60 : decode cX11_plan 60 = .ok (.aload 4, 2) := by decide +kernel
theorem dX11_plan_62 : decode cX11_plan 62 = .ok (.iload_n 2, 1) := by decide +kernel
theorem dX11_plan_63 : decode cX11_plan 63 = .ok (.putfield 165, 3) := by decide +kernel
theorem dX11_plan_66 : decode cX11_plan 66 = .ok (.aload 4, 2) := by decide +kernel
theorem dX11_plan_68 : decode cX11_plan 68 = .ok (.iload_n 3, 1) := by decide +kernel
theorem dX11_plan_69 : decode cX11_plan 69 = .ok (.putfield 168, 3) := by decide +kernel
theorem dX11_plan_72 : decode cX11_plan 72 = .ok (.iconst 0, 1) := by decide +kernel
theorem dX11_plan_73 : decode cX11_plan 73 = .ok (.ireturn, 1) := by decide +kernel
theorem dX11_clearPlan_0 : decode cX11_clearPlan 0 = .ok (.aload_n 0, 1) := by decide +kernel
theorem dX11_clearPlan_1 : decode cX11_clearPlan 1 = .ok (.getfield 35, 3) := by decide +kernel
theorem dX11_clearPlan_4 : decode cX11_clearPlan 4 = .ok (.invokevirtual 46, 3) := by decide +kernel
theorem dX11_clearPlan_7 : decode cX11_clearPlan 7 = .ok (.pop, 1) := by decide +kernel
theorem dX11_clearPlan_8 : decode cX11_clearPlan 8 = .ok (.iconst 0, 1) := by decide +kernel
theorem dX11_clearPlan_9 : decode cX11_clearPlan 9 = .ok (.istore_n 1, 1) := by decide +kernel
theorem dX11_clearPlan_10 : decode cX11_clearPlan 10 = .ok (.iconst 0, 1) := by decide +kernel
theorem dX11_clearPlan_11 : decode cX11_clearPlan 11 = .ok (.istore_n 2, 1) := by decide +kernel
theorem dX11_clearPlan_12 : decode cX11_clearPlan 12 = .ok (.iload_n 2, 1) := by decide +kernel
theorem dX11_clearPlan_13 : decode cX11_clearPlan 13 = .ok (.aload_n 0, 1) := by decide +kernel
theorem dX11_clearPlan_14 : decode cX11_clearPlan 14 = .ok (.getfield 10, 3) := by decide +kernel
theorem dX11_clearPlan_17 : decode cX11_clearPlan 17 = .ok (.getfield 75, 3) := by decide +kernel
theorem dX11_clearPlan_20 : decode cX11_clearPlan 20 = .ok (.if_icmp .ge 39, 3) := by decide +kernel
theorem dX11_clearPlan_23 : decode cX11_clearPlan 23 = .ok (.aload_n 0, 1) := by decide +kernel
theorem dX11_clearPlan_24 : decode cX11_clearPlan 24 = .ok (.getfield 10, 3) := by decide +kernel
theorem dX11_clearPlan_27 : decode cX11_clearPlan 27 = .ok (.getfield 93, 3) := by decide +kernel
theorem dX11_clearPlan_30 : decode cX11_clearPlan 30 = .ok (.iload_n 2, 1) := by decide +kernel
theorem dX11_clearPlan_31 : decode cX11_clearPlan 31 = .ok (.aaload, 1) := by decide +kernel
theorem dX11_clearPlan_32 : decode cX11_clearPlan 32 = .ok (.astore_n 3, 1) := by decide +kernel
theorem dX11_clearPlan_33 : decode cX11_clearPlan 33 = .ok (.aload_n 3, 1) := by decide +kernel
theorem dX11_clearPlan_34 : decode cX11_clearPlan 34 = .ok (.invokevirtual 171, 3) := by decide +kernel
theorem dX11_clearPlan_37 : decode cX11_clearPlan 37 = .ok (.ifCond .eq 16, 3) := by decide +kernel
theorem dX11_clearPlan_40 : decode cX11_clearPlan 40 = .ok (.iinc 1 1, 3) := by decide +kernel
theorem dX11_clearPlan_43 : decode cX11_clearPlan 43 = .ok (.aload_n 3, 1) := by decide +kernel
theorem dX11_clearPlan_44 : decode cX11_clearPlan 44 = .ok (.iconst 0, 1) := by decide +kernel
theorem dX11_clearPlan_45 : decode cX11_clearPlan 45 = .ok (.putfield 165, 3) := by decide +kernel
theorem dX11_clearPlan_48 : decode cX11_clearPlan 48 = .ok (.aload_n 3, 1) := by decide +kernel
theorem dX11_clearPlan_49 : decode cX11_clearPlan 49 = .ok (.iconst 0, 1) := by decide +kernel
theorem dX11_clearPlan_50 : decode cX11_clearPlan 50 = .ok (.putfield 168, 3) := by decide +kernel
theorem dX11_clearPlan_53 : decode cX11_clearPlan 53 = .ok (.iinc 2 1, 3) := by decide +kernel
theorem dX11_clearPlan_56 : decode cX11_clearPlan 56 = .ok (.goto (-44), 3) := by decide +kernel
theorem dX11_clearPlan_59 : decode cX11_clearPlan 59 = .ok (.iload_n 1, 1) := by decide +kernel
theorem dX11_clearPlan_60 : decode cX11_clearPlan 60 = .ok (.ireturn, 1) := by decide +kernel
theorem dX11_run_0 : decode cX11_run 0 = .ok (.iload_n 1, 1) := by decide +kernel
theorem dX11_run_1 : decode cX11_run 1 = .ok (.iconst 1, 1) := by decide +kernel
theorem dX11_run_2 : decode cX11_run 2 = .ok (.if_icmp .lt 9, 3) := by decide +kernel
theorem dX11_run_5 : decode cX11_run 5 = .ok (.iload_n 1, 1) := by decide +kernel
theorem dX11_run_6 : decode cX11_run 6 = .ok (.ldc 65, 2) := by decide +kernel
theorem dX11_run_8 : decode cX11_run 8 = .ok (.if_icmp .le 6, 3) := by decide +kernel
theorem dX11_run_11 : decode cX11_run 11 = .ok (.bipush (-2), 2) := by decide +kernel
theorem dX11_run_13 : decode cX11_run 13 = .ok (.ireturn, 1) := by decide +kernel
theorem dX11_run_14 : decode cX11_run 14 = .ok (.aload_n 0, 1) := by decide +kernel
theorem dX11_run_15 : decode cX11_run 15 = .ok (.getfield 35, 3) := by decide +kernel
theorem dX11_run_18 : decode cX11_run 18 = .ok (.iload_n 1, 1) := by decide +kernel
theorem dX11_run_19 : decode cX11_run 19 = .ok (.invokevirtual 174, 3) := by decide +kernel
theorem dX11_run_22 : decode cX11_run 22 = .ok (.ireturn, 1) := by decide +kernel
theorem dX11_again_0 : decode cX11_again 0 = .ok (.aload_n 0, 1) := by decide +kernel
theorem dX11_again_1 : decode cX11_again 1 = .ok (.getfield 35, 3) := by decide +kernel
theorem dX11_again_4 : decode cX11_again 4 = .ok (.invokevirtual 46, 3) := by decide +kernel
theorem dX11_again_7 : decode cX11_again 7 = .ok (.ireturn, 1) := by decide +kernel
theorem dX11_state_0 : decode cX11_state 0 = .ok (.aload_n 0, 1) := by decide +kernel
theorem dX11_state_1 : decode cX11_state 1 = .ok (.iload_n 1, 1) := by decide +kernel
theorem dX11_state_2 : decode cX11_state 2 = .ok (.invokevirtual 177, 3) := by decide +kernel
theorem dX11_state_5 : decode cX11_state 5 = .ok (.astore_n 3, 1) := by decide +kernel
theorem dX11_state_6 : decode cX11_state 6 = .ok (.aload_n 3, 1) := by decide +kernel
theorem dX11_state_7 : decode cX11_state 7 = .ok (.getfield 181, 3) := by decide +kernel
theorem dX11_state_10 : decode cX11_state 10 = .ok (.astore 4, 2) := by decide +kernel
theorem dX11_state_12 : decode cX11_state 12 = .ok (.iload_n 2, 1) := by decide +kernel
theorem dX11_state_13 : decode cX11_state 13 = .ok (.tableswitch 98 0 7 #[47, 53, 59, 65, 71, 77, 83, 89], 47) := by decide +kernel
theorem dX11_state_60 : decode cX11_state 60 = .ok (.aload 4, 2) := by decide +kernel
theorem dX11_state_62 : decode cX11_state 62 = .ok (.getfield 185, 3) := by decide +kernel
theorem dX11_state_65 : decode cX11_state 65 = .ok (.ireturn, 1) := by decide +kernel
theorem dX11_state_66 : decode cX11_state 66 = .ok (.aload 4, 2) := by decide +kernel
theorem dX11_state_68 : decode cX11_state 68 = .ok (.getfield 190, 3) := by decide +kernel
theorem dX11_state_71 : decode cX11_state 71 = .ok (.ireturn, 1) := by decide +kernel
theorem dX11_state_72 : decode cX11_state 72 = .ok (.aload 4, 2) := by decide +kernel
theorem dX11_state_74 : decode cX11_state 74 = .ok (.getfield 193, 3) := by decide +kernel
theorem dX11_state_77 : decode cX11_state 77 = .ok (.ireturn, 1) := by decide +kernel
theorem dX11_state_78 : decode cX11_state 78 = .ok (.aload 4, 2) := by decide +kernel
theorem dX11_state_80 : decode cX11_state 80 = .ok (.getfield 196, 3) := by decide +kernel
theorem dX11_state_83 : decode cX11_state 83 = .ok (.ireturn, 1) := by decide +kernel
theorem dX11_state_84 : decode cX11_state 84 = .ok (.aload 4, 2) := by decide +kernel
theorem dX11_state_86 : decode cX11_state 86 = .ok (.getfield 199, 3) := by decide +kernel
theorem dX11_state_89 : decode cX11_state 89 = .ok (.ireturn, 1) := by decide +kernel
theorem dX11_state_90 : decode cX11_state 90 = .ok (.aload 4, 2) := by decide +kernel
theorem dX11_state_92 : decode cX11_state 92 = .ok (.getfield 202, 3) := by decide +kernel
theorem dX11_state_95 : decode cX11_state 95 = .ok (.ireturn, 1) := by decide +kernel
theorem dX11_state_96 : decode cX11_state 96 = .ok (.aload 4, 2) := by decide +kernel
theorem dX11_state_98 : decode cX11_state 98 = .ok (.getfield 205, 3) := by decide +kernel
theorem dX11_state_101 : decode cX11_state 101 = .ok (.ireturn, 1) := by decide +kernel
theorem dX11_state_102 : decode cX11_state 102 = .ok (.aload_n 0, 1) := by decide +kernel
theorem dX11_state_103 : decode cX11_state 103 = .ok (.getfield 35, 3) := by decide +kernel
theorem dX11_state_106 : decode cX11_state 106 = .ok (.aload_n 3, 1) := by decide +kernel
theorem dX11_state_107 : decode cX11_state 107 = .ok (.invokevirtual 206, 3) := by decide +kernel
theorem dX11_state_110 : decode cX11_state 110 = .ok (.ireturn, 1) := by decide +kernel
theorem dX11_state_111 : decode cX11_state 111 = .ok (.iconst (-1), 1) := by decide +kernel
theorem dX11_state_112 : decode cX11_state 112 = .ok (.ireturn, 1) := by decide +kernel
theorem dX11_result_0 : decode cX11_result 0 = .ok (.aload_n 0, 1) := by decide +kernel
theorem dX11_result_1 : decode cX11_result 1 = .ok (.iload_n 1, 1) := by decide +kernel
theorem dX11_result_2 : decode cX11_result 2 = .ok (.invokevirtual 177, 3) := by decide +kernel
theorem dX11_result_5 : decode cX11_result 5 = .ok (.astore_n 2, 1) := by decide +kernel
theorem dX11_result_6 : decode cX11_result 6 = .ok (.aload_n 2, 1) := by decide +kernel
theorem dX11_result_7 : decode cX11_result 7 = .ok (.getfield 181, 3) := by decide +kernel
theorem dX11_result_10 : decode cX11_result 10 = .ok (.getfield 185, 3) := by decide +kernel
theorem dX11_result_13 : decode cX11_result 13 = .ok (.iconst 1, 1) := by decide +kernel
theorem dX11_result_14 : decode cX11_result 14 = .ok (.if_icmp .eq 5, 3) := by decide +kernel
theorem dX11_result_17 : decode cX11_result 17 = .ok (.iconst 0, 1) := by decide +kernel
theorem dX11_result_18 : decode cX11_result 18 = .ok (.ireturn, 1) := by decide +kernel
theorem dX11_result_19 : decode cX11_result 19 = .ok (.aload_n 0, 1) := by decide +kernel
theorem dX11_result_20 : decode cX11_result 20 = .ok (.getfield 28, 3) := by decide +kernel
theorem dX11_result_23 : decode cX11_result 23 = .ok (.aload_n 2, 1) := by decide +kernel
theorem dX11_result_24 : decode cX11_result 24 = .ok (.getfield 142, 3) := by decide +kernel
theorem dX11_result_27 : decode cX11_result 27 = .ok (.invokevirtual 210, 3) := by decide +kernel
theorem dX11_result_30 : decode cX11_result 30 = .ok (.aload_n 0, 1) := by decide +kernel
theorem dX11_result_31 : decode cX11_result 31 = .ok (.getfield 28, 3) := by decide +kernel
theorem dX11_result_34 : decode cX11_result 34 = .ok (.getfield 214, 3) := by decide +kernel
theorem dX11_result_37 : decode cX11_result 37 = .ok (.ireturn, 1) := by decide +kernel
theorem dX11_part_0 : decode cX11_part 0 = .ok (.aload_n 0, 1) := by decide +kernel
theorem dX11_part_1 : decode cX11_part 1 = .ok (.iload_n 1, 1) := by decide +kernel
theorem dX11_part_2 : decode cX11_part 2 = .ok (.invokevirtual 177, 3) := by decide +kernel
theorem dX11_part_5 : decode cX11_part 5 = .ok (.astore_n 3, 1) := by decide +kernel
theorem dX11_part_6 : decode cX11_part 6 = .ok (.aload_n 3, 1) := by decide +kernel
theorem dX11_part_7 : decode cX11_part 7 = .ok (.getfield 181, 3) := by decide +kernel
theorem dX11_part_10 : decode cX11_part 10 = .ok (.getfield 185, 3) := by decide +kernel
theorem dX11_part_13 : decode cX11_part 13 = .ok (.iconst 1, 1) := by decide +kernel
theorem dX11_part_14 : decode cX11_part 14 = .ok (.if_icmp .ne 13, 3) := by decide +kernel
theorem dX11_part_17 : decode cX11_part 17 = .ok (.iload_n 2, 1) := by decide +kernel
theorem dX11_part_18 : decode cX11_part 18 = .ok (.ifCond .lt 9, 3) := by decide +kernel
theorem dX11_part_21 : decode cX11_part 21 = .ok (.iload_n 2, 1) := by decide +kernel
theorem dX11_part_22 : decode cX11_part 22 = .ok (.bipush 30, 2) := by decide +kernel
theorem dX11_part_24 : decode cX11_part 24 = .ok (.if_icmp .lt 5, 3) := by decide +kernel
theorem dX11_part_27 : decode cX11_part 27 = .ok (.lconst 0, 1) := by decide +kernel
theorem dX11_part_28 : decode cX11_part 28 = .ok (.lreturn, 1) := by decide +kernel
theorem dX11_part_29 : decode cX11_part 29 = .ok (.aload_n 0, 1) := by decide +kernel
theorem dX11_part_30 : decode cX11_part 30 = .ok (.getfield 28, 3) := by decide +kernel
theorem dX11_part_33 : decode cX11_part 33 = .ok (.aload_n 3, 1) := by decide +kernel
theorem dX11_part_34 : decode cX11_part 34 = .ok (.getfield 142, 3) := by decide +kernel
theorem dX11_part_37 : decode cX11_part 37 = .ok (.invokevirtual 210, 3) := by decide +kernel
theorem dX11_part_40 : decode cX11_part 40 = .ok (.aload_n 0, 1) := by decide +kernel
theorem dX11_part_41 : decode cX11_part 41 = .ok (.getfield 28, 3) := by decide +kernel
theorem dX11_part_44 : decode cX11_part 44 = .ok (.getfield 217, 3) := by decide +kernel
theorem dX11_part_47 : decode cX11_part 47 = .ok (.iload_n 2, 1) := by decide +kernel
theorem dX11_part_48 : decode cX11_part 48 = .ok (.laload, 1) := by decide +kernel
theorem dX11_part_49 : decode cX11_part 49 = .ok (.lreturn, 1) := by decide +kernel
theorem dX11_check_0 : decode cX11_check 0 = .ok (.aload_n 0, 1) := by decide +kernel
theorem dX11_check_1 : decode cX11_check 1 = .ok (.iload_n 1, 1) := by decide +kernel
theorem dX11_check_2 : decode cX11_check 2 = .ok (.invokevirtual 177, 3) := by decide +kernel
theorem dX11_check_5 : decode cX11_check 5 = .ok (.getfield 142, 3) := by decide +kernel
theorem dX11_check_8 : decode cX11_check 8 = .ok (.invokevirtual 220, 3) := by decide +kernel
theorem dX11_check_11 : decode cX11_check 11 = .ok (.ireturn, 1) := by decide +kernel
theorem dX11_failures_0 : decode cX11_failures 0 = .ok (.aload_n 0, 1) := by decide +kernel
theorem dX11_failures_1 : decode cX11_failures 1 = .ok (.getfield 35, 3) := by decide +kernel
theorem dX11_failures_4 : decode cX11_failures 4 = .ok (.getfield 223, 3) := by decide +kernel
theorem dX11_failures_7 : decode cX11_failures 7 = .ok (.ireturn, 1) := by decide +kernel
theorem dX11_failure_0 : decode cX11_failure 0 = .ok (.aload_n 0, 1) := by decide +kernel
theorem dX11_failure_1 : decode cX11_failure 1 = .ok (.getfield 35, 3) := by decide +kernel
theorem dX11_failure_4 : decode cX11_failure 4 = .ok (.iload_n 1, 1) := by decide +kernel
theorem dX11_failure_5 : decode cX11_failure 5 = .ok (.invokevirtual 226, 3) := by decide +kernel
theorem dX11_failure_8 : decode cX11_failure 8 = .ok (.istore_n 3, 1) := by decide +kernel
theorem dX11_failure_9 : decode cX11_failure 9 = .ok (.iload_n 3, 1) := by decide +kernel
theorem dX11_failure_10 : decode cX11_failure 10 = .ok (.iconst (-1), 1) := by decide +kernel
theorem dX11_failure_11 : decode cX11_failure 11 = .ok (.if_icmp .ne 13, 3) := by decide +kernel
theorem dX11_failure_14 : decode cX11_failure 14 = .ok (.new 229, 3) := by decide +kernel
theorem dX11_failure_17 : decode cX11_failure 17 = .ok (.dup, 1) := by decide +kernel
theorem dX11_failure_18 : decode cX11_failure 18 = .ok (.ldc 231, 2) := by decide +kernel
theorem dX11_failure_20 : decode cX11_failure 20 = .ok (.invokespecial 233, 3) := by decide +kernel
theorem dX11_failure_23 : decode cX11_failure 23 = .ok (.athrow, 1) := by decide +kernel
theorem dX11_failure_24 : decode cX11_failure 24 = .ok (.aload_n 0, 1) := by decide +kernel
theorem dX11_failure_25 : decode cX11_failure 25 = .ok (.getfield 10, 3) := by decide +kernel
theorem dX11_failure_28 : decode cX11_failure 28 = .ok (.getfield 93, 3) := by decide +kernel
theorem dX11_failure_31 : decode cX11_failure 31 = .ok (.iload_n 3, 1) := by decide +kernel
theorem dX11_failure_32 : decode cX11_failure 32 = .ok (.aaload, 1) := by decide +kernel
theorem dX11_failure_33 : decode cX11_failure 33 = .ok (.getfield 181, 3) := by decide +kernel
theorem dX11_failure_36 : decode cX11_failure 36 = .ok (.astore 4, 2) := by decide +kernel
theorem dX11_failure_38 : decode cX11_failure 38 = .ok (.iload_n 2, 1) := by decide +kernel
theorem dX11_failure_39 : decode cX11_failure 39 = .ok (.tableswitch 60 0 3 #[29, 31, 37, 43], 29) := by decide +kernel
theorem dX11_failure_68 : decode cX11_failure 68 = .ok (.iload_n 3, 1) := by decide +kernel
theorem dX11_failure_69 : decode cX11_failure 69 = .ok (.ireturn, 1) := by decide +kernel
theorem dX11_failure_70 : decode cX11_failure 70 = .ok (.aload 4, 2) := by decide +kernel
theorem dX11_failure_72 : decode cX11_failure 72 = .ok (.getfield 205, 3) := by decide +kernel
theorem dX11_failure_75 : decode cX11_failure 75 = .ok (.ireturn, 1) := by decide +kernel
theorem dX11_failure_76 : decode cX11_failure 76 = .ok (.aload 4, 2) := by decide +kernel
theorem dX11_failure_78 : decode cX11_failure 78 = .ok (.getfield 193, 3) := by decide +kernel
theorem dX11_failure_81 : decode cX11_failure 81 = .ok (.ireturn, 1) := by decide +kernel
theorem dX11_failure_82 : decode cX11_failure 82 = .ok (.iload_n 1, 1) := by decide +kernel
theorem dX11_failure_83 : decode cX11_failure 83 = .ok (.ifCond .ne 7, 3) := by decide +kernel
theorem dX11_failure_86 : decode cX11_failure 86 = .ok (.iconst (-1), 1) := by decide +kernel
theorem dX11_failure_87 : decode cX11_failure 87 = .ok (.goto 11, 3) := by decide +kernel
theorem dX11_failure_90 : decode cX11_failure 90 = .ok (.aload_n 0, 1) := by decide +kernel
theorem dX11_failure_91 : decode cX11_failure 91 = .ok (.getfield 35, 3) := by decide +kernel
theorem dX11_failure_94 : decode cX11_failure 94 = .ok (.iconst 0, 1) := by decide +kernel
theorem dX11_failure_95 : decode cX11_failure 95 = .ok (.invokevirtual 226, 3) := by decide +kernel
theorem dX11_failure_98 : decode cX11_failure 98 = .ok (.ireturn, 1) := by decide +kernel
theorem dX11_failure_99 : decode cX11_failure 99 = .ok (.iconst (-1), 1) := by decide +kernel
theorem dX11_failure_100 : decode cX11_failure 100 = .ok (.ireturn, 1) := by decide +kernel
theorem dX11_left_0 : decode cX11_left 0 = .ok (.aload_n 0, 1) := by decide +kernel
theorem dX11_left_1 : decode cX11_left 1 = .ok (.getfield 10, 3) := by decide +kernel
theorem dX11_left_4 : decode cX11_left 4 = .ok (.iload_n 1, 1) := by decide +kernel
theorem dX11_left_5 : decode cX11_left 5 = .ok (.invokevirtual 61, 3) := by decide +kernel
theorem dX11_left_8 : decode cX11_left 8 = .ok (.ifCond .ne 13, 3) := by decide +kernel
theorem dX11_left_11 : decode cX11_left 11 = .ok (.new 229, 3) := by decide +kernel
theorem dX11_left_14 : decode cX11_left 14 = .ok (.dup, 1) := by decide +kernel
theorem dX11_left_15 : decode cX11_left 15 = .ok (.ldc 236, 2) := by decide +kernel
theorem dX11_left_17 : decode cX11_left 17 = .ok (.invokespecial 233, 3) := by decide +kernel
theorem dX11_left_20 : decode cX11_left 20 = .ok (.athrow, 1) := by decide +kernel
theorem dX11_left_21 : decode cX11_left 21 = .ok (.aload_n 0, 1) := by decide +kernel
theorem dX11_left_22 : decode cX11_left 22 = .ok (.getfield 35, 3) := by decide +kernel
theorem dX11_left_25 : decode cX11_left 25 = .ok (.getfield 238, 3) := by decide +kernel
theorem dX11_left_28 : decode cX11_left 28 = .ok (.ifCond .eq 15, 3) := by decide +kernel
theorem dX11_left_31 : decode cX11_left 31 = .ok (.aload_n 0, 1) := by decide +kernel
theorem dX11_left_32 : decode cX11_left 32 = .ok (.getfield 35, 3) := by decide +kernel
theorem dX11_left_35 : decode cX11_left 35 = .ok (.getfield 241, 3) := by decide +kernel
theorem dX11_left_38 : decode cX11_left 38 = .ok (.iload_n 1, 1) := by decide +kernel
theorem dX11_left_39 : decode cX11_left 39 = .ok (.laload, 1) := by decide +kernel
theorem dX11_left_40 : decode cX11_left 40 = .ok (.goto 12, 3) := by decide +kernel
theorem dX11_left_43 : decode cX11_left 43 = .ok (.aload_n 0, 1) := by decide +kernel
theorem dX11_left_44 : decode cX11_left 44 = .ok (.getfield 10, 3) := by decide +kernel
theorem dX11_left_47 : decode cX11_left 47 = .ok (.getfield 66, 3) := by decide +kernel
theorem dX11_left_50 : decode cX11_left 50 = .ok (.iload_n 1, 1) := by decide +kernel
theorem dX11_left_51 : decode cX11_left 51 = .ok (.laload, 1) := by decide +kernel
theorem dX11_left_52 : decode cX11_left 52 = .ok (.lreturn, 1) := by decide +kernel
theorem dX11_had_0 : decode cX11_had 0 = .ok (.aload_n 0, 1) := by decide +kernel
theorem dX11_had_1 : decode cX11_had 1 = .ok (.getfield 10, 3) := by decide +kernel
theorem dX11_had_4 : decode cX11_had 4 = .ok (.iload_n 1, 1) := by decide +kernel
theorem dX11_had_5 : decode cX11_had 5 = .ok (.invokevirtual 116, 3) := by decide +kernel
theorem dX11_had_8 : decode cX11_had 8 = .ok (.ifCond .ne 13, 3) := by decide +kernel
theorem dX11_had_11 : decode cX11_had 11 = .ok (.new 229, 3) := by decide +kernel
theorem dX11_had_14 : decode cX11_had 14 = .ok (.dup, 1) := by decide +kernel
theorem dX11_had_15 : decode cX11_had 15 = .ok (.ldc 244, 2) := by decide +kernel
theorem dX11_had_17 : decode cX11_had 17 = .ok (.invokespecial 233, 3) := by decide +kernel
theorem dX11_had_20 : decode cX11_had 20 = .ok (.athrow, 1) := by decide +kernel
theorem dX11_had_21 : decode cX11_had 21 = .ok (.aload_n 0, 1) := by decide +kernel
theorem dX11_had_22 : decode cX11_had 22 = .ok (.getfield 35, 3) := by decide +kernel
theorem dX11_had_25 : decode cX11_had 25 = .ok (.getfield 246, 3) := by decide +kernel
theorem dX11_had_28 : decode cX11_had 28 = .ok (.iload_n 1, 1) := by decide +kernel
theorem dX11_had_29 : decode cX11_had 29 = .ok (.iaload, 1) := by decide +kernel
theorem dX11_had_30 : decode cX11_had 30 = .ok (.ireturn, 1) := by decide +kernel
theorem dX11_idle_0 : decode cX11_idle 0 = .ok (.aload_n 0, 1) := by decide +kernel
theorem dX11_idle_1 : decode cX11_idle 1 = .ok (.getfield 10, 3) := by decide +kernel
theorem dX11_idle_4 : decode cX11_idle 4 = .ok (.iload_n 1, 1) := by decide +kernel
theorem dX11_idle_5 : decode cX11_idle 5 = .ok (.invokevirtual 72, 3) := by decide +kernel
theorem dX11_idle_8 : decode cX11_idle 8 = .ok (.ifCond .ne 13, 3) := by decide +kernel
theorem dX11_idle_11 : decode cX11_idle 11 = .ok (.new 229, 3) := by decide +kernel
theorem dX11_idle_14 : decode cX11_idle 14 = .ok (.dup, 1) := by decide +kernel
theorem dX11_idle_15 : decode cX11_idle 15 = .ok (.ldc 249, 2) := by decide +kernel
theorem dX11_idle_17 : decode cX11_idle 17 = .ok (.invokespecial 233, 3) := by decide +kernel
theorem dX11_idle_20 : decode cX11_idle 20 = .ok (.athrow, 1) := by decide +kernel
theorem dX11_idle_21 : decode cX11_idle 21 = .ok (.aload_n 0, 1) := by decide +kernel
theorem dX11_idle_22 : decode cX11_idle 22 = .ok (.getfield 35, 3) := by decide +kernel
theorem dX11_idle_25 : decode cX11_idle 25 = .ok (.aload_n 0, 1) := by decide +kernel
theorem dX11_idle_26 : decode cX11_idle 26 = .ok (.getfield 10, 3) := by decide +kernel
theorem dX11_idle_29 : decode cX11_idle 29 = .ok (.getfield 82, 3) := by decide +kernel
theorem dX11_idle_32 : decode cX11_idle 32 = .ok (.iload_n 1, 1) := by decide +kernel
theorem dX11_idle_33 : decode cX11_idle 33 = .ok (.aaload, 1) := by decide +kernel
theorem dX11_idle_34 : decode cX11_idle 34 = .ok (.invokevirtual 251, 3) := by decide +kernel
theorem dX11_idle_37 : decode cX11_idle 37 = .ok (.lreturn, 1) := by decide +kernel
theorem dX11_log_0 : decode cX11_log 0 = .ok (.iload_n 2, 1) := by decide +kernel
theorem dX11_log_1 : decode cX11_log 1 = .ok (.tableswitch 63 0 2 #[27, 39, 51], 27) := by decide +kernel
theorem dX11_log_28 : decode cX11_log 28 = .ok (.aload_n 0, 1) := by decide +kernel
theorem dX11_log_29 : decode cX11_log 29 = .ok (.getfield 35, 3) := by decide +kernel
theorem dX11_log_32 : decode cX11_log 32 = .ok (.getfield 255, 3) := by decide +kernel
theorem dX11_log_35 : decode cX11_log 35 = .ok (.iload_n 1, 1) := by decide +kernel
theorem dX11_log_36 : decode cX11_log 36 = .ok (.invokevirtual 259, 3) := by decide +kernel
theorem dX11_log_39 : decode cX11_log 39 = .ok (.ireturn, 1) := by decide +kernel
theorem dX11_log_40 : decode cX11_log 40 = .ok (.aload_n 0, 1) := by decide +kernel
theorem dX11_log_41 : decode cX11_log 41 = .ok (.getfield 35, 3) := by decide +kernel
theorem dX11_log_44 : decode cX11_log 44 = .ok (.getfield 255, 3) := by decide +kernel
theorem dX11_log_47 : decode cX11_log 47 = .ok (.iload_n 1, 1) := by decide +kernel
theorem dX11_log_48 : decode cX11_log 48 = .ok (.invokevirtual 264, 3) := by decide +kernel
theorem dX11_log_51 : decode cX11_log 51 = .ok (.ireturn, 1) := by decide +kernel
theorem dX11_log_52 : decode cX11_log 52 = .ok (.aload_n 0, 1) := by decide +kernel
theorem dX11_log_53 : decode cX11_log 53 = .ok (.getfield 35, 3) := by decide +kernel
theorem dX11_log_56 : decode cX11_log 56 = .ok (.getfield 255, 3) := by decide +kernel
theorem dX11_log_59 : decode cX11_log 59 = .ok (.iload_n 1, 1) := by decide +kernel
theorem dX11_log_60 : decode cX11_log 60 = .ok (.invokevirtual 267, 3) := by decide +kernel
theorem dX11_log_63 : decode cX11_log 63 = .ok (.ireturn, 1) := by decide +kernel
theorem dX11_log_64 : decode cX11_log 64 = .ok (.iconst (-1), 1) := by decide +kernel
theorem dX11_log_65 : decode cX11_log 65 = .ok (.ireturn, 1) := by decide +kernel
theorem dX11_critical_0 : decode cX11_critical 0 = .ok (.iload_n 1, 1) := by decide +kernel
theorem dX11_critical_1 : decode cX11_critical 1 = .ok (.ifCond .lt 14, 3) := by decide +kernel
theorem dX11_critical_4 : decode cX11_critical 4 = .ok (.iload_n 1, 1) := by decide +kernel
theorem dX11_critical_5 : decode cX11_critical 5 = .ok (.aload_n 0, 1) := by decide +kernel
theorem dX11_critical_6 : decode cX11_critical 6 = .ok (.getfield 21, 3) := by decide +kernel
theorem dX11_critical_9 : decode cX11_critical 9 = .ok (.invokevirtual 270, 3) := by decide +kernel
theorem dX11_critical_12 : decode cX11_critical 12 = .ok (.if_icmp .lt 7, 3) := by decide +kernel
theorem dX11_critical_15 : decode cX11_critical 15 = .ok (.iconst (-1), 1) := by decide +kernel
theorem dX11_critical_16 : decode cX11_critical 16 = .ok (.goto 15, 3) := by decide +kernel
theorem dX11_critical_19 : decode cX11_critical 19 = .ok (.aload_n 0, 1) := by decide +kernel
theorem dX11_critical_20 : decode cX11_critical 20 = .ok (.getfield 21, 3) := by decide +kernel
theorem dX11_critical_23 : decode cX11_critical 23 = .ok (.getfield 273, 3) := by decide +kernel
theorem dX11_critical_26 : decode cX11_critical 26 = .ok (.iload_n 1, 1) := by decide +kernel
theorem dX11_critical_27 : decode cX11_critical 27 = .ok (.aaload, 1) := by decide +kernel
theorem dX11_critical_28 : decode cX11_critical 28 = .ok (.getfield 276, 3) := by decide +kernel
theorem dX11_critical_31 : decode cX11_critical 31 = .ok (.ireturn, 1) := by decide +kernel
theorem dX11_slack_0 : decode cX11_slack 0 = .ok (.aload_n 0, 1) := by decide +kernel
theorem dX11_slack_1 : decode cX11_slack 1 = .ok (.iload_n 1, 1) := by decide +kernel
theorem dX11_slack_2 : decode cX11_slack 2 = .ok (.invokevirtual 177, 3) := by decide +kernel
theorem dX11_slack_5 : decode cX11_slack 5 = .ok (.astore_n 2, 1) := by decide +kernel
theorem dX11_slack_6 : decode cX11_slack 6 = .ok (.aload_n 0, 1) := by decide +kernel
theorem dX11_slack_7 : decode cX11_slack 7 = .ok (.getfield 21, 3) := by decide +kernel
theorem dX11_slack_10 : decode cX11_slack 10 = .ok (.invokevirtual 279, 3) := by decide +kernel
theorem dX11_slack_13 : decode cX11_slack 13 = .ok (.aload_n 2, 1) := by decide +kernel
theorem dX11_slack_14 : decode cX11_slack 14 = .ok (.getfield 282, 3) := by decide +kernel
theorem dX11_slack_17 : decode cX11_slack 17 = .ok (.isub, 1) := by decide +kernel
theorem dX11_slack_18 : decode cX11_slack 18 = .ok (.aload_n 2, 1) := by decide +kernel
theorem dX11_slack_19 : decode cX11_slack 19 = .ok (.getfield 285, 3) := by decide +kernel
theorem dX11_slack_22 : decode cX11_slack 22 = .ok (.isub, 1) := by decide +kernel
theorem dX11_slack_23 : decode cX11_slack 23 = .ok (.aload_n 2, 1) := by decide +kernel
theorem dX11_slack_24 : decode cX11_slack 24 = .ok (.getfield 162, 3) := by decide +kernel
theorem dX11_slack_27 : decode cX11_slack 27 = .ok (.iadd, 1) := by decide +kernel
theorem dX11_slack_28 : decode cX11_slack 28 = .ok (.ireturn, 1) := by decide +kernel
theorem dX11_leans_0 : decode cX11_leans 0 = .ok (.aload_n 0, 1) := by decide +kernel
theorem dX11_leans_1 : decode cX11_leans 1 = .ok (.iload_n 1, 1) := by decide +kernel
theorem dX11_leans_2 : decode cX11_leans 2 = .ok (.invokevirtual 177, 3) := by decide +kernel
theorem dX11_leans_5 : decode cX11_leans 5 = .ok (.astore_n 3, 1) := by decide +kernel
theorem dX11_leans_6 : decode cX11_leans 6 = .ok (.aload_n 0, 1) := by decide +kernel
theorem dX11_leans_7 : decode cX11_leans 7 = .ok (.iload_n 2, 1) := by decide +kernel
theorem dX11_leans_8 : decode cX11_leans 8 = .ok (.invokevirtual 177, 3) := by decide +kernel
theorem dX11_leans_11 : decode cX11_leans 11 = .ok (.astore 4, 2) := by decide +kernel
theorem dX11_leans_13 : decode cX11_leans 13 = .ok (.aload_n 3, 1) := by decide +kernel
theorem dX11_leans_14 : decode cX11_leans 14 = .ok (.getfield 103, 3) := by decide +kernel
theorem dX11_leans_17 : decode cX11_leans 17 = .ok (.aload 4, 2) := by decide +kernel
theorem dX11_leans_19 : decode cX11_leans 19 = .ok (.getfield 276, 3) := by decide +kernel
theorem dX11_leans_22 : decode cX11_leans 22 = .ok (.invokevirtual 107, 3) := by decide +kernel
theorem dX11_leans_25 : decode cX11_leans 25 = .ok (.ireturn, 1) := by decide +kernel
theorem dX11_audit_0 : decode cX11_audit 0 = .ok (.iconst 0, 1) := by decide +kernel
theorem dX11_audit_1 : decode cX11_audit 1 = .ok (.ireturn, 1) := by decide +kernel
theorem dX11_count_0 : decode cX11_count 0 = .ok (.iload_n 1, 1) := by decide +kernel
theorem dX11_count_1 : decode cX11_count 1 = .ok (.tableswitch 126 0 8 #[51, 59, 67, 75, 83, 91, 102, 110, 118], 51) := by decide +kernel
theorem dX11_count_52 : decode cX11_count 52 = .ok (.aload_n 0, 1) := by decide +kernel
theorem dX11_count_53 : decode cX11_count 53 = .ok (.getfield 10, 3) := by decide +kernel
theorem dX11_count_56 : decode cX11_count 56 = .ok (.getfield 39, 3) := by decide +kernel
theorem dX11_count_59 : decode cX11_count 59 = .ok (.ireturn, 1) := by decide +kernel
theorem dX11_count_60 : decode cX11_count 60 = .ok (.aload_n 0, 1) := by decide +kernel
theorem dX11_count_61 : decode cX11_count 61 = .ok (.getfield 10, 3) := by decide +kernel
theorem dX11_count_64 : decode cX11_count 64 = .ok (.getfield 43, 3) := by decide +kernel
theorem dX11_count_67 : decode cX11_count 67 = .ok (.ireturn, 1) := by decide +kernel
theorem dX11_count_68 : decode cX11_count 68 = .ok (.aload_n 0, 1) := by decide +kernel
theorem dX11_count_69 : decode cX11_count 69 = .ok (.getfield 10, 3) := by decide +kernel
theorem dX11_count_72 : decode cX11_count 72 = .ok (.getfield 54, 3) := by decide +kernel
theorem dX11_count_75 : decode cX11_count 75 = .ok (.ireturn, 1) := by decide +kernel
theorem dX11_count_76 : decode cX11_count 76 = .ok (.aload_n 0, 1) := by decide +kernel
theorem dX11_count_77 : decode cX11_count 77 = .ok (.getfield 10, 3) := by decide +kernel
theorem dX11_count_80 : decode cX11_count 80 = .ok (.getfield 75, 3) := by decide +kernel
theorem dX11_count_83 : decode cX11_count 83 = .ok (.ireturn, 1) := by decide +kernel
theorem dX11_count_84 : decode cX11_count 84 = .ok (.aload_n 0, 1) := by decide +kernel
theorem dX11_count_85 : decode cX11_count 85 = .ok (.getfield 35, 3) := by decide +kernel
theorem dX11_count_88 : decode cX11_count 88 = .ok (.getfield 288, 3) := by decide +kernel
theorem dX11_count_91 : decode cX11_count 91 = .ok (.ireturn, 1) := by decide +kernel
theorem dX11_count_92 : decode cX11_count 92 = .ok (.aload_n 0, 1) := by decide +kernel
theorem dX11_count_93 : decode cX11_count 93 = .ok (.getfield 35, 3) := by decide +kernel
theorem dX11_count_96 : decode cX11_count 96 = .ok (.getfield 255, 3) := by decide +kernel
theorem dX11_count_99 : decode cX11_count 99 = .ok (.getfield 291, 3) := by decide +kernel
theorem dX11_count_102 : decode cX11_count 102 = .ok (.ireturn, 1) := by decide +kernel
theorem dX11_count_103 : decode cX11_count 103 = .ok (.aload_n 0, 1) := by decide +kernel
theorem dX11_count_104 : decode cX11_count 104 = .ok (.getfield 35, 3) := by decide +kernel
theorem dX11_count_107 : decode cX11_count 107 = .ok (.getfield 292, 3) := by decide +kernel
theorem dX11_count_110 : decode cX11_count 110 = .ok (.ireturn, 1) := by decide +kernel
theorem dX11_count_111 : decode cX11_count 111 = .ok (.aload_n 0, 1) := by decide +kernel
theorem dX11_count_112 : decode cX11_count 112 = .ok (.getfield 21, 3) := by decide +kernel
theorem dX11_count_115 : decode cX11_count 115 = .ok (.invokevirtual 270, 3) := by decide +kernel
theorem dX11_count_118 : decode cX11_count 118 = .ok (.ireturn, 1) := by decide +kernel
theorem dX11_count_119 : decode cX11_count 119 = .ok (.aload_n 0, 1) := by decide +kernel
theorem dX11_count_120 : decode cX11_count 120 = .ok (.getfield 21, 3) := by decide +kernel
theorem dX11_count_123 : decode cX11_count 123 = .ok (.invokevirtual 279, 3) := by decide +kernel
theorem dX11_count_126 : decode cX11_count 126 = .ok (.ireturn, 1) := by decide +kernel
theorem dX11_count_127 : decode cX11_count 127 = .ok (.iconst (-1), 1) := by decide +kernel
theorem dX11_count_128 : decode cX11_count 128 = .ok (.ireturn, 1) := by decide +kernel
theorem dX11_knownJob_0 : decode cX11_knownJob 0 = .ok (.aload_n 0, 1) := by decide +kernel
theorem dX11_knownJob_1 : decode cX11_knownJob 1 = .ok (.getfield 10, 3) := by decide +kernel
theorem dX11_knownJob_4 : decode cX11_knownJob 4 = .ok (.iload_n 1, 1) := by decide +kernel
theorem dX11_knownJob_5 : decode cX11_knownJob 5 = .ok (.invokevirtual 90, 3) := by decide +kernel
theorem dX11_knownJob_8 : decode cX11_knownJob 8 = .ok (.ifCond .ne 14, 3) := by decide +kernel
theorem dX11_knownJob_11 : decode cX11_knownJob 11 = .ok (.new 229, 3) := by decide +kernel
theorem dX11_knownJob_14 : decode cX11_knownJob 14 = .ok (.dup, 1) := by decide +kernel
theorem dX11_knownJob_15 : decode cX11_knownJob 15 = .ok (.ldc_w 295, 3) := by decide +kernel
theorem dX11_knownJob_18 : decode cX11_knownJob 18 = .ok (.invokespecial 233, 3) := by decide +kernel
theorem dX11_knownJob_21 : decode cX11_knownJob 21 = .ok (.athrow, 1) := by decide +kernel
theorem dX11_knownJob_22 : decode cX11_knownJob 22 = .ok (.aload_n 0, 1) := by decide +kernel
theorem dX11_knownJob_23 : decode cX11_knownJob 23 = .ok (.getfield 10, 3) := by decide +kernel
theorem dX11_knownJob_26 : decode cX11_knownJob 26 = .ok (.getfield 93, 3) := by decide +kernel
theorem dX11_knownJob_29 : decode cX11_knownJob 29 = .ok (.iload_n 1, 1) := by decide +kernel
theorem dX11_knownJob_30 : decode cX11_knownJob 30 = .ok (.aaload, 1) := by decide +kernel
theorem dX11_knownJob_31 : decode cX11_knownJob 31 = .ok (.areturn, 1) := by decide +kernel
