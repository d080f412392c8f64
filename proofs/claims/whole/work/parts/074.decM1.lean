theorem dX12_canBegin_11 : decode cX12_canBegin 11 = .ok (.if_icmp .ne 5, 3) := by decide +kernel
theorem dX12_canBegin_14 : decode cX12_canBegin 14 = .ok (.iconst 0, 1) := by decide +kernel
theorem dX12_canBegin_15 : decode cX12_canBegin 15 = .ok (.ireturn, 1) := by decide +kernel
theorem dX12_canBegin_16 : decode cX12_canBegin 16 = .ok (.iconst 0, 1) := by decide +kernel
theorem dX12_canBegin_17 : decode cX12_canBegin 17 = .ok (.istore_n 2, 1) := by decide +kernel
theorem dX12_canBegin_18 : decode cX12_canBegin 18 = .ok (.iload_n 2, 1) := by decide +kernel
theorem dX12_canBegin_19 : decode cX12_canBegin 19 = .ok (.aload_n 0, 1) := by decide +kernel
theorem dX12_canBegin_20 : decode cX12_canBegin 20 = .ok (.getfield 145, 3) := by decide +kernel
theorem dX12_canBegin_23 : decode cX12_canBegin 23 = .ok (.if_icmp .ge 35, 3) := by decide +kernel
theorem dX12_canBegin_26 : decode cX12_canBegin 26 = .ok (.aload_n 0, 1) := by decide +kernel
theorem dX12_canBegin_27 : decode cX12_canBegin 27 = .ok (.getfield 33, 3) := by decide +kernel
theorem dX12_canBegin_30 : decode cX12_canBegin 30 = .ok (.bipush 40, 2) := by decide +kernel
theorem dX12_canBegin_32 : decode cX12_canBegin 32 = .ok (.iload_n 1, 1) := by decide +kernel
theorem dX12_canBegin_33 : decode cX12_canBegin 33 = .ok (.imul, 1) := by decide +kernel
theorem dX12_canBegin_34 : decode cX12_canBegin 34 = .ok (.iload_n 2, 1) := by decide +kernel
theorem dX12_canBegin_35 : decode cX12_canBegin 35 = .ok (.iadd, 1) := by decide +kernel
theorem dX12_canBegin_36 : decode cX12_canBegin 36 = .ok (.baload, 1) := by decide +kernel
theorem dX12_canBegin_37 : decode cX12_canBegin 37 = .ok (.ifCond .eq 15, 3) := by decide +kernel
theorem dX12_canBegin_40 : decode cX12_canBegin 40 = .ok (.aload_n 0, 1) := by decide +kernel
theorem dX12_canBegin_41 : decode cX12_canBegin 41 = .ok (.getfield 84, 3) := by decide +kernel
theorem dX12_canBegin_44 : decode cX12_canBegin 44 = .ok (.iload_n 2, 1) := by decide +kernel
theorem dX12_canBegin_45 : decode cX12_canBegin 45 = .ok (.iaload, 1) := by decide +kernel
theorem dX12_canBegin_46 : decode cX12_canBegin 46 = .ok (.iconst (-1), 1) := by decide +kernel
theorem dX12_canBegin_47 : decode cX12_canBegin 47 = .ok (.if_icmp .eq 5, 3) := by decide +kernel
theorem dX12_canBegin_50 : decode cX12_canBegin 50 = .ok (.iconst 0, 1) := by decide +kernel
theorem dX12_canBegin_51 : decode cX12_canBegin 51 = .ok (.ireturn, 1) := by decide +kernel
theorem dX12_canBegin_52 : decode cX12_canBegin 52 = .ok (.iinc 2 1, 3) := by decide +kernel
theorem dX12_canBegin_55 : decode cX12_canBegin 55 = .ok (.goto (-37), 3) := by decide +kernel
theorem dX12_canBegin_58 : decode cX12_canBegin 58 = .ok (.iconst 0, 1) := by decide +kernel
theorem dX12_canBegin_59 : decode cX12_canBegin 59 = .ok (.istore_n 2, 1) := by decide +kernel
theorem dX12_canBegin_60 : decode cX12_canBegin 60 = .ok (.iload_n 2, 1) := by decide +kernel
theorem dX12_canBegin_61 : decode cX12_canBegin 61 = .ok (.bipush 60, 2) := by decide +kernel
theorem dX12_canBegin_63 : decode cX12_canBegin 63 = .ok (.if_icmp .ge 33, 3) := by decide +kernel
theorem dX12_canBegin_66 : decode cX12_canBegin 66 = .ok (.aload_n 0, 1) := by decide +kernel
theorem dX12_canBegin_67 : decode cX12_canBegin 67 = .ok (.getfield 36, 3) := by decide +kernel
theorem dX12_canBegin_70 : decode cX12_canBegin 70 = .ok (.bipush 60, 2) := by decide +kernel
theorem dX12_canBegin_72 : decode cX12_canBegin 72 = .ok (.iload_n 1, 1) := by decide +kernel
theorem dX12_canBegin_73 : decode cX12_canBegin 73 = .ok (.imul, 1) := by decide +kernel
theorem dX12_canBegin_74 : decode cX12_canBegin 74 = .ok (.iload_n 2, 1) := by decide +kernel
theorem dX12_canBegin_75 : decode cX12_canBegin 75 = .ok (.iadd, 1) := by decide +kernel
theorem dX12_canBegin_76 : decode cX12_canBegin 76 = .ok (.iaload, 1) := by decide +kernel
theorem dX12_canBegin_77 : decode cX12_canBegin 77 = .ok (.i2l, 1) := by decide +kernel
theorem dX12_canBegin_78 : decode cX12_canBegin 78 = .ok (.aload_n 0, 1) := by decide +kernel
theorem dX12_canBegin_79 : decode cX12_canBegin 79 = .ok (.getfield 90, 3) := by decide +kernel
theorem dX12_canBegin_82 : decode cX12_canBegin 82 = .ok (.iload_n 2, 1) := by decide +kernel
theorem dX12_canBegin_83 : decode cX12_canBegin 83 = .ok (.laload, 1) := by decide +kernel
theorem dX12_canBegin_84 : decode cX12_canBegin 84 = .ok (.lcmp, 1) := by decide +kernel
theorem dX12_canBegin_85 : decode cX12_canBegin 85 = .ok (.ifCond .le 5, 3) := by decide +kernel
theorem dX12_canBegin_88 : decode cX12_canBegin 88 = .ok (.iconst 0, 1) := by decide +kernel
theorem dX12_canBegin_89 : decode cX12_canBegin 89 = .ok (.ireturn, 1) := by decide +kernel
theorem dX12_canBegin_90 : decode cX12_canBegin 90 = .ok (.iinc 2 1, 3) := by decide +kernel
theorem dX12_canBegin_93 : decode cX12_canBegin 93 = .ok (.goto (-33), 3) := by decide +kernel
theorem dX12_canBegin_96 : decode cX12_canBegin 96 = .ok (.iconst 1, 1) := by decide +kernel
theorem dX12_canBegin_97 : decode cX12_canBegin 97 = .ok (.ireturn, 1) := by decide +kernel
theorem dX12_beginsWork_0 : decode cX12_beginsWork 0 = .ok (.aload_n 0, 1) := by decide +kernel
theorem dX12_beginsWork_1 : decode cX12_beginsWork 1 = .ok (.getfield 72, 3) := by decide +kernel
theorem dX12_beginsWork_4 : decode cX12_beginsWork 4 = .ok (.iload_n 1, 1) := by decide +kernel
theorem dX12_beginsWork_5 : decode cX12_beginsWork 5 = .ok (.aload_n 0, 1) := by decide +kernel
theorem dX12_beginsWork_6 : decode cX12_beginsWork 6 = .ok (.aload_n 0, 1) := by decide +kernel
theorem dX12_beginsWork_7 : decode cX12_beginsWork 7 = .ok (.getfield 16, 3) := by decide +kernel
theorem dX12_beginsWork_10 : decode cX12_beginsWork 10 = .ok (.iload_n 1, 1) := by decide +kernel
theorem dX12_beginsWork_11 : decode cX12_beginsWork 11 = .ok (.iaload, 1) := by decide +kernel
theorem dX12_beginsWork_12 : decode cX12_beginsWork 12 = .ok (.invokevirtual 228, 3) := by decide +kernel
theorem dX12_beginsWork_15 : decode cX12_beginsWork 15 = .ok (.iastore, 1) := by decide +kernel
theorem dX12_beginsWork_16 : decode cX12_beginsWork 16 = .ok (.aload_n 0, 1) := by decide +kernel
theorem dX12_beginsWork_17 : decode cX12_beginsWork 17 = .ok (.getfield 81, 3) := by decide +kernel
theorem dX12_beginsWork_20 : decode cX12_beginsWork 20 = .ok (.aload_n 0, 1) := by decide +kernel
theorem dX12_beginsWork_21 : decode cX12_beginsWork 21 = .ok (.getfield 72, 3) := by decide +kernel
theorem dX12_beginsWork_24 : decode cX12_beginsWork 24 = .ok (.iload_n 1, 1) := by decide +kernel
theorem dX12_beginsWork_25 : decode cX12_beginsWork 25 = .ok (.iaload, 1) := by decide +kernel
theorem dX12_beginsWork_26 : decode cX12_beginsWork 26 = .ok (.iaload, 1) := by decide +kernel
theorem dX12_beginsWork_27 : decode cX12_beginsWork 27 = .ok (.iconst (-1), 1) := by decide +kernel
theorem dX12_beginsWork_28 : decode cX12_beginsWork 28 = .ok (.if_icmp .eq 13, 3) := by decide +kernel
theorem dX12_beginsWork_31 : decode cX12_beginsWork 31 = .ok (.aload_n 0, 1) := by decide +kernel
theorem dX12_beginsWork_32 : decode cX12_beginsWork 32 = .ok (.dup, 1) := by decide +kernel
theorem dX12_beginsWork_33 : decode cX12_beginsWork 33 = .ok (.getfield 205, 3) := by decide +kernel
theorem dX12_beginsWork_36 : decode cX12_beginsWork 36 = .ok (.iconst 1, 1) := by decide +kernel
theorem dX12_beginsWork_37 : decode cX12_beginsWork 37 = .ok (.iadd, 1) := by decide +kernel
theorem dX12_beginsWork_38 : decode cX12_beginsWork 38 = .ok (.putfield 205, 3) := by decide +kernel
theorem dX12_beginsWork_41 : decode cX12_beginsWork 41 = .ok (.aload_n 0, 1) := by decide +kernel
theorem dX12_beginsWork_42 : decode cX12_beginsWork 42 = .ok (.getfield 81, 3) := by decide +kernel
theorem dX12_beginsWork_45 : decode cX12_beginsWork 45 = .ok (.aload_n 0, 1) := by decide +kernel
theorem dX12_beginsWork_46 : decode cX12_beginsWork 46 = .ok (.getfield 72, 3) := by decide +kernel
theorem dX12_beginsWork_49 : decode cX12_beginsWork 49 = .ok (.iload_n 1, 1) := by decide +kernel
theorem dX12_beginsWork_50 : decode cX12_beginsWork 50 = .ok (.iaload, 1) := by decide +kernel
theorem dX12_beginsWork_51 : decode cX12_beginsWork 51 = .ok (.iload_n 1, 1) := by decide +kernel
theorem dX12_beginsWork_52 : decode cX12_beginsWork 52 = .ok (.iastore, 1) := by decide +kernel
theorem dX12_beginsWork_53 : decode cX12_beginsWork 53 = .ok (.iconst 0, 1) := by decide +kernel
theorem dX12_beginsWork_54 : decode cX12_beginsWork 54 = .ok (.istore_n 2, 1) := by decide +kernel
theorem dX12_beginsWork_55 : decode cX12_beginsWork 55 = .ok (.iload_n 2, 1) := by decide +kernel
theorem dX12_beginsWork_56 : decode cX12_beginsWork 56 = .ok (.aload_n 0, 1) := by decide +kernel
theorem dX12_beginsWork_57 : decode cX12_beginsWork 57 = .ok (.getfield 145, 3) := by decide +kernel
theorem dX12_beginsWork_60 : decode cX12_beginsWork 60 = .ok (.if_icmp .ge 60, 3) := by decide +kernel
theorem dX12_beginsWork_63 : decode cX12_beginsWork 63 = .ok (.aload_n 0, 1) := by decide +kernel
theorem dX12_beginsWork_64 : decode cX12_beginsWork 64 = .ok (.getfield 33, 3) := by decide +kernel
theorem dX12_beginsWork_67 : decode cX12_beginsWork 67 = .ok (.bipush 40, 2) := by decide +kernel
theorem dX12_beginsWork_69 : decode cX12_beginsWork 69 = .ok (.iload_n 1, 1) := by decide +kernel
theorem dX12_beginsWork_70 : decode cX12_beginsWork 70 = .ok (.imul, 1) := by decide +kernel
theorem dX12_beginsWork_71 : decode cX12_beginsWork 71 = .ok (.iload_n 2, 1) := by decide +kernel
theorem dX12_beginsWork_72 : decode cX12_beginsWork 72 = .ok (.iadd, 1) := by decide +kernel
theorem dX12_beginsWork_73 : decode cX12_beginsWork 73 = .ok (.baload, 1) := by decide +kernel
theorem dX12_beginsWork_74 : decode cX12_beginsWork 74 = .ok (.ifCond .ne 6, 3) := by decide +kernel
theorem dX12_beginsWork_77 : decode cX12_beginsWork 77 = .ok (.goto 37, 3) := by decide +kernel
theorem dX12_beginsWork_80 : decode cX12_beginsWork 80 = .ok (.aload_n 0, 1) := by decide +kernel
theorem dX12_beginsWork_81 : decode cX12_beginsWork 81 = .ok (.getfield 84, 3) := by decide +kernel
theorem dX12_beginsWork_84 : decode cX12_beginsWork 84 = .ok (.iload_n 2, 1) := by decide +kernel
theorem dX12_beginsWork_85 : decode cX12_beginsWork 85 = .ok (.iaload, 1) := by decide +kernel
theorem dX12_beginsWork_86 : decode cX12_beginsWork 86 = .ok (.iconst (-1), 1) := by decide +kernel
theorem dX12_beginsWork_87 : decode cX12_beginsWork 87 = .ok (.if_icmp .eq 13, 3) := by decide +kernel
theorem dX12_beginsWork_90 : decode cX12_beginsWork 90 = .ok (.aload_n 0, 1) := by decide +kernel
theorem dX12_beginsWork_91 : decode cX12_beginsWork 91 = .ok (.dup, 1) := by decide +kernel
theorem dX12_beginsWork_92 : decode cX12_beginsWork 92 = .ok (.getfield 205, 3) := by decide +kernel
theorem dX12_beginsWork_95 : decode cX12_beginsWork 95 = .ok (.iconst 1, 1) := by decide +kernel
theorem dX12_beginsWork_96 : decode cX12_beginsWork 96 = .ok (.iadd, 1) := by decide +kernel
theorem dX12_beginsWork_97 : decode cX12_beginsWork 97 = .ok (.putfield 205, 3) := by decide +kernel
theorem dX12_beginsWork_100 : decode cX12_beginsWork 100 = .ok (.aload_n 0, 1) := by decide +kernel
theorem dX12_beginsWork_101 : decode cX12_beginsWork 101 = .ok (.getfield 84, 3) := by decide +kernel
theorem dX12_beginsWork_104 : decode cX12_beginsWork 104 = .ok (.iload_n 2, 1) := by decide +kernel
theorem dX12_beginsWork_105 : decode cX12_beginsWork 105 = .ok (.iload_n 1, 1) := by decide +kernel
theorem dX12_beginsWork_106 : decode cX12_beginsWork 106 = .ok (.iastore, 1) := by decide +kernel
theorem dX12_beginsWork_107 : decode cX12_beginsWork 107 = .ok (.aload_n 0, 1) := by decide +kernel
theorem dX12_beginsWork_108 : decode cX12_beginsWork 108 = .ok (.getfield 87, 3) := by decide +kernel
theorem dX12_beginsWork_111 : decode cX12_beginsWork 111 = .ok (.iload_n 2, 1) := by decide +kernel
theorem dX12_beginsWork_112 : decode cX12_beginsWork 112 = .ok (.iload_n 1, 1) := by decide +kernel
theorem dX12_beginsWork_113 : decode cX12_beginsWork 113 = .ok (.iastore, 1) := by decide +kernel
theorem dX12_beginsWork_114 : decode cX12_beginsWork 114 = .ok (.iinc 2 1, 3) := by decide +kernel
theorem dX12_beginsWork_117 : decode cX12_beginsWork 117 = .ok (.goto (-62), 3) := by decide +kernel
theorem dX12_beginsWork_120 : decode cX12_beginsWork 120 = .ok (.iconst 0, 1) := by decide +kernel
theorem dX12_beginsWork_121 : decode cX12_beginsWork 121 = .ok (.istore_n 2, 1) := by decide +kernel
theorem dX12_beginsWork_122 : decode cX12_beginsWork 122 = .ok (.iload_n 2, 1) := by decide +kernel
theorem dX12_beginsWork_123 : decode cX12_beginsWork 123 = .ok (.bipush 60, 2) := by decide +kernel
theorem dX12_beginsWork_125 : decode cX12_beginsWork 125 = .ok (.if_icmp .ge 51, 3) := by decide +kernel
theorem dX12_beginsWork_128 : decode cX12_beginsWork 128 = .ok (.aload_n 0, 1) := by decide +kernel
theorem dX12_beginsWork_129 : decode cX12_beginsWork 129 = .ok (.getfield 90, 3) := by decide +kernel
theorem dX12_beginsWork_132 : decode cX12_beginsWork 132 = .ok (.iload_n 2, 1) := by decide +kernel
theorem dX12_beginsWork_133 : decode cX12_beginsWork 133 = .ok (.dup2, 1) := by decide +kernel
theorem dX12_beginsWork_134 : decode cX12_beginsWork 134 = .ok (.laload, 1) := by decide +kernel
theorem dX12_beginsWork_135 : decode cX12_beginsWork 135 = .ok (.aload_n 0, 1) := by decide +kernel
theorem dX12_beginsWork_136 : decode cX12_beginsWork 136 = .ok (.getfield 36, 3) := by decide +kernel
theorem dX12_beginsWork_139 : decode cX12_beginsWork 139 = .ok (.bipush 60, 2) := by decide +kernel
theorem dX12_beginsWork_141 : decode cX12_beginsWork 141 = .ok (.iload_n 1, 1) := by decide +kernel
theorem dX12_beginsWork_142 : decode cX12_beginsWork 142 = .ok (.imul, 1) := by decide +kernel
theorem dX12_beginsWork_143 : decode cX12_beginsWork 143 = .ok (.iload_n 2, 1) := by decide +kernel
theorem dX12_beginsWork_144 : decode cX12_beginsWork 144 = .ok (.iadd, 1) := by decide +kernel
theorem dX12_beginsWork_145 : decode cX12_beginsWork 145 = .ok (.iaload, 1) := by decide +kernel
theorem dX12_beginsWork_146 : decode cX12_beginsWork 146 = .ok (.i2l, 1) := by decide +kernel
theorem dX12_beginsWork_147 : decode cX12_beginsWork 147 = .ok (.lsub, 1) := by decide +kernel
theorem dX12_beginsWork_148 : decode cX12_beginsWork 148 = .ok (.lastore, 1) := by decide +kernel
theorem dX12_beginsWork_149 : decode cX12_beginsWork 149 = .ok (.aload_n 0, 1) := by decide +kernel
theorem dX12_beginsWork_150 : decode cX12_beginsWork 150 = .ok (.getfield 90, 3) := by decide +kernel
theorem dX12_beginsWork_153 : decode cX12_beginsWork 153 = .ok (.iload_n 2, 1) := by decide +kernel
theorem dX12_beginsWork_154 : decode cX12_beginsWork 154 = .ok (.laload, 1) := by decide +kernel
theorem dX12_beginsWork_155 : decode cX12_beginsWork 155 = .ok (.lconst 0, 1) := by decide +kernel
theorem dX12_beginsWork_156 : decode cX12_beginsWork 156 = .ok (.lcmp, 1) := by decide +kernel
theorem dX12_beginsWork_157 : decode cX12_beginsWork 157 = .ok (.ifCond .ge 13, 3) := by decide +kernel
theorem dX12_beginsWork_160 : decode cX12_beginsWork 160 = .ok (.aload_n 0, 1) := by decide +kernel
theorem dX12_beginsWork_161 : decode cX12_beginsWork 161 = .ok (.dup, 1) := by decide +kernel
theorem dX12_beginsWork_162 : decode cX12_beginsWork 162 = .ok (.getfield 205, 3) := by decide +kernel
theorem dX12_beginsWork_165 : decode cX12_beginsWork 165 = .ok (.iconst 1, 1) := by decide +kernel
theorem dX12_beginsWork_166 : decode cX12_beginsWork 166 = .ok (.iadd, 1) := by decide +kernel
theorem dX12_beginsWork_167 : decode cX12_beginsWork 167 = .ok (.putfield 205, 3) := by decide +kernel
theorem dX12_beginsWork_170 : decode cX12_beginsWork 170 = .ok (.iinc 2 1, 3) := by decide +kernel
theorem dX12_beginsWork_173 : decode cX12_beginsWork 173 = .ok (.goto (-51), 3) := by decide +kernel
theorem dX12_beginsWork_176 : decode cX12_beginsWork 176 = .ok (.aload_n 0, 1) := by decide +kernel
theorem dX12_beginsWork_177 : decode cX12_beginsWork 177 = .ok (.getfield 66, 3) := by decide +kernel
theorem dX12_beginsWork_180 : decode cX12_beginsWork 180 = .ok (.iload_n 1, 1) := by decide +kernel
theorem dX12_beginsWork_181 : decode cX12_beginsWork 181 = .ok (.aload_n 0, 1) := by decide +kernel
theorem dX12_beginsWork_182 : decode cX12_beginsWork 182 = .ok (.getfield 202, 3) := by decide +kernel
theorem dX12_beginsWork_185 : decode cX12_beginsWork 185 = .ok (.iastore, 1) := by decide +kernel
theorem dX12_beginsWork_186 : decode cX12_beginsWork 186 = .ok (.aload_n 0, 1) := by decide +kernel
theorem dX12_beginsWork_187 : decode cX12_beginsWork 187 = .ok (.getfield 63, 3) := by decide +kernel
theorem dX12_beginsWork_190 : decode cX12_beginsWork 190 = .ok (.iload_n 1, 1) := by decide +kernel
theorem dX12_beginsWork_191 : decode cX12_beginsWork 191 = .ok (.bipush 6, 2) := by decide +kernel
theorem dX12_beginsWork_193 : decode cX12_beginsWork 193 = .ok (.iastore, 1) := by decide +kernel
theorem dX12_beginsWork_194 : decode cX12_beginsWork 194 = .ok (.aload_n 0, 1) := by decide +kernel
theorem dX12_beginsWork_195 : decode cX12_beginsWork 195 = .ok (.iload_n 1, 1) := by decide +kernel
theorem dX12_beginsWork_196 : decode cX12_beginsWork 196 = .ok (.iconst 5, 1) := by decide +kernel
theorem dX12_beginsWork_197 : decode cX12_beginsWork 197 = .ok (.invokevirtual 211, 3) := by decide +kernel
theorem dX12_beginsWork_200 : decode cX12_beginsWork 200 = .ok (.return_, 1) := by decide +kernel
theorem dX12_nextReady_0 : decode cX12_nextReady 0 = .ok (.iconst (-1), 1) := by decide +kernel
theorem dX12_nextReady_1 : decode cX12_nextReady 1 = .ok (.istore_n 2, 1) := by decide +kernel
theorem dX12_nextReady_2 : decode cX12_nextReady 2 = .ok (.iconst 0, 1) := by decide +kernel
theorem dX12_nextReady_3 : decode cX12_nextReady 3 = .ok (.istore_n 3, 1) := by decide +kernel
theorem dX12_nextReady_4 : decode cX12_nextReady 4 = .ok (.iload_n 3, 1) := by decide +kernel
theorem dX12_nextReady_5 : decode cX12_nextReady 5 = .ok (.aload_n 0, 1) := by decide +kernel
theorem dX12_nextReady_6 : decode cX12_nextReady 6 = .ok (.getfield 128, 3) := by decide +kernel
theorem dX12_nextReady_9 : decode cX12_nextReady 9 = .ok (.if_icmp .ge 61, 3) := by decide +kernel
theorem dX12_nextReady_12 : decode cX12_nextReady 12 = .ok (.aload_n 0, 1) := by decide +kernel
theorem dX12_nextReady_13 : decode cX12_nextReady 13 = .ok (.getfield 16, 3) := by decide +kernel
theorem dX12_nextReady_16 : decode cX12_nextReady 16 = .ok (.iload_n 3, 1) := by decide +kernel
theorem dX12_nextReady_17 : decode cX12_nextReady 17 = .ok (.iaload, 1) := by decide +kernel
theorem dX12_nextReady_18 : decode cX12_nextReady 18 = .ok (.iload_n 1, 1) := by decide +kernel
theorem dX12_nextReady_19 : decode cX12_nextReady 19 = .ok (.if_icmp .ne 45, 3) := by decide +kernel
theorem dX12_nextReady_22 : decode cX12_nextReady 22 = .ok (.aload_n 0, 1) := by decide +kernel
theorem dX12_nextReady_23 : decode cX12_nextReady 23 = .ok (.getfield 115, 3) := by decide +kernel
theorem dX12_nextReady_26 : decode cX12_nextReady 26 = .ok (.iload_n 3, 1) := by decide +kernel
theorem dX12_nextReady_27 : decode cX12_nextReady 27 = .ok (.baload, 1) := by decide +kernel
theorem dX12_nextReady_28 : decode cX12_nextReady 28 = .ok (.ifCond .ne 36, 3) := by decide +kernel
theorem dX12_nextReady_31 : decode cX12_nextReady 31 = .ok (.aload_n 0, 1) := by decide +kernel
theorem dX12_nextReady_32 : decode cX12_nextReady 32 = .ok (.iload_n 3, 1) := by decide +kernel
theorem dX12_nextReady_33 : decode cX12_nextReady 33 = .ok (.invokevirtual 231, 3) := by decide +kernel
theorem dX12_nextReady_36 : decode cX12_nextReady 36 = .ok (.ifCond .ne 6, 3) := by decide +kernel
theorem dX12_nextReady_39 : decode cX12_nextReady 39 = .ok (.goto 25, 3) := by decide +kernel
theorem dX12_nextReady_42 : decode cX12_nextReady 42 = .ok (.iload_n 2, 1) := by decide +kernel
theorem dX12_nextReady_43 : decode cX12_nextReady 43 = .ok (.iconst (-1), 1) := by decide +kernel
theorem dX12_nextReady_44 : decode cX12_nextReady 44 = .ok (.if_icmp .eq 18, 3) := by decide +kernel
theorem dX12_nextReady_47 : decode cX12_nextReady 47 = .ok (.aload_n 0, 1) := by decide +kernel
theorem dX12_nextReady_48 : decode cX12_nextReady 48 = .ok (.getfield 22, 3) := by decide +kernel
theorem dX12_nextReady_51 : decode cX12_nextReady 51 = .ok (.iload_n 3, 1) := by decide +kernel
theorem dX12_nextReady_52 : decode cX12_nextReady 52 = .ok (.iaload, 1) := by decide +kernel
theorem dX12_nextReady_53 : decode cX12_nextReady 53 = .ok (.aload_n 0, 1) := by decide +kernel
theorem dX12_nextReady_54 : decode cX12_nextReady 54 = .ok (.getfield 22, 3) := by decide +kernel
theorem dX12_nextReady_57 : decode cX12_nextReady 57 = .ok (.iload_n 2, 1) := by decide +kernel
theorem dX12_nextReady_58 : decode cX12_nextReady 58 = .ok (.iaload, 1) := by decide +kernel
theorem dX12_nextReady_59 : decode cX12_nextReady 59 = .ok (.if_icmp .ge 5, 3) := by decide +kernel
theorem dX12_nextReady_62 : decode cX12_nextReady 62 = .ok (.iload_n 3, 1) := by decide +kernel
theorem dX12_nextReady_63 : decode cX12_nextReady 63 = .ok (.istore_n 2, 1) := by decide +kernel
theorem dX12_nextReady_64 : decode cX12_nextReady 64 = .ok (.iinc 3 1, 3) := by decide +kernel
theorem dX12_nextReady_67 : decode cX12_nextReady 67 = .ok (.goto (-63), 3) := by decide +kernel
theorem dX12_nextReady_70 : decode cX12_nextReady 70 = .ok (.iload_n 2, 1) := by decide +kernel
theorem dX12_nextReady_71 : decode cX12_nextReady 71 = .ok (.ireturn, 1) := by decide +kernel
theorem dX12_hands_0 : decode cX12_hands 0 = .ok (.iconst 0, 1) := by decide +kernel
theorem dX12_hands_1 : decode cX12_hands 1 = .ok (.istore_n 2, 1) := by decide +kernel
theorem dX12_hands_2 : decode cX12_hands 2 = .ok (.iconst 0, 1) := by decide +kernel
theorem dX12_hands_3 : decode cX12_hands 3 = .ok (.istore_n 3, 1) := by decide +kernel
theorem dX12_hands_4 : decode cX12_hands 4 = .ok (.iload_n 3, 1) := by decide +kernel
theorem dX12_hands_5 : decode cX12_hands 5 = .ok (.aload_n 0, 1) := by decide +kernel
theorem dX12_hands_6 : decode cX12_hands 6 = .ok (.getfield 128, 3) := by decide +kernel
theorem dX12_hands_9 : decode cX12_hands 9 = .ok (.if_icmp .ge 16, 3) := by decide +kernel
theorem dX12_hands_12 : decode cX12_hands 12 = .ok (.aload_n 0, 1) := by decide +kernel
theorem dX12_hands_13 : decode cX12_hands 13 = .ok (.getfield 115, 3) := by decide +kernel
theorem dX12_hands_16 : decode cX12_hands 16 = .ok (.iload_n 3, 1) := by decide +kernel
theorem dX12_hands_17 : decode cX12_hands 17 = .ok (.iconst 0, 1) := by decide +kernel
theorem dX12_hands_18 : decode cX12_hands 18 = .ok (.bastore, 1) := by decide +kernel
theorem dX12_hands_19 : decode cX12_hands 19 = .ok (.iinc 3 1, 3) := by decide +kernel
theorem dX12_hands_22 : decode cX12_hands 22 = .ok (.goto (-18), 3) := by decide +kernel
theorem dX12_hands_25 : decode cX12_hands 25 = .ok (.iconst 0, 1) := by decide +kernel
theorem dX12_hands_26 : decode cX12_hands 26 = .ok (.istore_n 3, 1) := by decide +kernel
theorem dX12_hands_27 : decode cX12_hands 27 = .ok (.iload_n 3, 1) := by decide +kernel
theorem dX12_hands_28 : decode cX12_hands 28 = .ok (.aload_n 0, 1) := by decide +kernel
theorem dX12_hands_29 : decode cX12_hands 29 = .ok (.getfield 135, 3) := by decide +kernel
theorem dX12_hands_32 : decode cX12_hands 32 = .ok (.if_icmp .ge 61, 3) := by decide +kernel
theorem dX12_hands_35 : decode cX12_hands 35 = .ok (.aload_n 0, 1) := by decide +kernel
theorem dX12_hands_36 : decode cX12_hands 36 = .ok (.iload_n 3, 1) := by decide +kernel
theorem dX12_hands_37 : decode cX12_hands 37 = .ok (.invokevirtual 234, 3) := by decide +kernel
theorem dX12_hands_40 : decode cX12_hands 40 = .ok (.istore 4, 2) := by decide +kernel
theorem dX12_hands_42 : decode cX12_hands 42 = .ok (.iload 4, 2) := by decide +kernel
theorem dX12_hands_44 : decode cX12_hands 44 = .ok (.iconst (-1), 1) := by decide +kernel
theorem dX12_hands_45 : decode cX12_hands 45 = .ok (.if_icmp .eq 42, 3) := by decide +kernel
theorem dX12_hands_48 : decode cX12_hands 48 = .ok (.aload_n 0, 1) := by decide +kernel
theorem dX12_hands_49 : decode cX12_hands 49 = .ok (.getfield 115, 3) := by decide +kernel
theorem dX12_hands_52 : decode cX12_hands 52 = .ok (.iload 4, 2) := by decide +kernel
theorem dX12_hands_54 : decode cX12_hands 54 = .ok (.iconst 1, 1) := by decide +kernel
theorem dX12_hands_55 : decode cX12_hands 55 = .ok (.bastore, 1) := by decide +kernel
theorem dX12_hands_56 : decode cX12_hands 56 = .ok (.aload_n 0, 1) := by decide +kernel
theorem dX12_hands_57 : decode cX12_hands 57 = .ok (.iload 4, 2) := by decide +kernel
theorem dX12_hands_59 : decode cX12_hands 59 = .ok (.invokevirtual 237, 3) := by decide +kernel
theorem dX12_hands_62 : decode cX12_hands 62 = .ok (.ifCond .eq 15, 3) := by decide +kernel
theorem dX12_hands_65 : decode cX12_hands 65 = .ok (.iconst 1, 1) := by decide +kernel
theorem dX12_hands_66 : decode cX12_hands 66 = .ok (.istore_n 2, 1) := by decide +kernel
theorem dX12_hands_67 : decode cX12_hands 67 = .ok (.iload_n 1, 1) := by decide +kernel
theorem dX12_hands_68 : decode cX12_hands 68 = .ok (.ifCond .ne 9, 3) := by decide +kernel
theorem dX12_hands_71 : decode cX12_hands 71 = .ok (.aload_n 0, 1) := by decide +kernel
theorem dX12_hands_72 : decode cX12_hands 72 = .ok (.iload 4, 2) := by decide +kernel
theorem dX12_hands_74 : decode cX12_hands 74 = .ok (.invokevirtual 240, 3) := by decide +kernel
theorem dX12_hands_77 : decode cX12_hands 77 = .ok (.aload_n 0, 1) := by decide +kernel
theorem dX12_hands_78 : decode cX12_hands 78 = .ok (.iload_n 3, 1) := by decide +kernel
theorem dX12_hands_79 : decode cX12_hands 79 = .ok (.invokevirtual 234, 3) := by decide +kernel
theorem dX12_hands_82 : decode cX12_hands 82 = .ok (.istore 4, 2) := by decide +kernel
theorem dX12_hands_84 : decode cX12_hands 84 = .ok (.goto (-42), 3) := by decide +kernel
theorem dX12_hands_87 : decode cX12_hands 87 = .ok (.iinc 3 1, 3) := by decide +kernel
theorem dX12_hands_90 : decode cX12_hands 90 = .ok (.goto (-63), 3) := by decide +kernel
theorem dX12_hands_93 : decode cX12_hands 93 = .ok (.iload_n 2, 1) := by decide +kernel
theorem dX12_hands_94 : decode cX12_hands 94 = .ok (.ireturn, 1) := by decide +kernel
theorem dX12_isAnyAtWork_0 : decode cX12_isAnyAtWork 0 = .ok (.iconst 0, 1) := by decide +kernel
theorem dX12_isAnyAtWork_1 : decode cX12_isAnyAtWork 1 = .ok (.istore_n 1, 1) := by decide +kernel
theorem dX12_isAnyAtWork_2 : decode cX12_isAnyAtWork 2 = .ok (.iload_n 1, 1) := by decide +kernel
theorem dX12_isAnyAtWork_3 : decode cX12_isAnyAtWork 3 = .ok (.aload_n 0, 1) := by decide +kernel
theorem dX12_isAnyAtWork_4 : decode cX12_isAnyAtWork 4 = .ok (.getfield 128, 3) := by decide +kernel
theorem dX12_isAnyAtWork_7 : decode cX12_isAnyAtWork 7 = .ok (.if_icmp .ge 22, 3) := by decide +kernel
theorem dX12_isAnyAtWork_10 : decode cX12_isAnyAtWork 10 = .ok (.aload_n 0, 1) := by decide +kernel
theorem dX12_isAnyAtWork_11 : decode cX12_isAnyAtWork 11 = .ok (.getfield 63, 3) := by decide +kernel
theorem dX12_isAnyAtWork_14 : decode cX12_isAnyAtWork 14 = .ok (.iload_n 1, 1) := by decide +kernel
theorem dX12_isAnyAtWork_15 : decode cX12_isAnyAtWork 15 = .ok (.iaload, 1) := by decide +kernel
theorem dX12_isAnyAtWork_16 : decode cX12_isAnyAtWork 16 = .ok (.bipush 6, 2) := by decide +kernel
theorem dX12_isAnyAtWork_18 : decode cX12_isAnyAtWork 18 = .ok (.if_icmp .ne 5, 3) := by decide +kernel
theorem dX12_isAnyAtWork_21 : decode cX12_isAnyAtWork 21 = .ok (.iconst 1, 1) := by decide +kernel
theorem dX12_isAnyAtWork_22 : decode cX12_isAnyAtWork 22 = .ok (.ireturn, 1) := by decide +kernel
theorem dX12_isAnyAtWork_23 : decode cX12_isAnyAtWork 23 = .ok (.iinc 1 1, 3) := by decide +kernel
theorem dX12_isAnyAtWork_26 : decode cX12_isAnyAtWork 26 = .ok (.goto (-24), 3) := by decide +kernel
theorem dX12_isAnyAtWork_29 : decode cX12_isAnyAtWork 29 = .ok (.iconst 0, 1) := by decide +kernel
theorem dX12_isAnyAtWork_30 : decode cX12_isAnyAtWork 30 = .ok (.ireturn, 1) := by decide +kernel
theorem dX12_neverBegin_0 : decode cX12_neverBegin 0 = .ok (.iconst 0, 1) := by decide +kernel
theorem dX12_neverBegin_1 : decode cX12_neverBegin 1 = .ok (.istore_n 1, 1) := by decide +kernel
theorem dX12_neverBegin_2 : decode cX12_neverBegin 2 = .ok (.iload_n 1, 1) := by decide +kernel
theorem dX12_neverBegin_3 : decode cX12_neverBegin 3 = .ok (.aload_n 0, 1) := by decide +kernel
theorem dX12_neverBegin_4 : decode cX12_neverBegin 4 = .ok (.getfield 128, 3) := by decide +kernel
theorem dX12_neverBegin_7 : decode cX12_neverBegin 7 = .ok (.if_icmp .ge 35, 3) := by decide +kernel
theorem dX12_neverBegin_10 : decode cX12_neverBegin 10 = .ok (.aload_n 0, 1) := by decide +kernel
theorem dX12_neverBegin_11 : decode cX12_neverBegin 11 = .ok (.getfield 63, 3) := by decide +kernel
theorem dX12_neverBegin_14 : decode cX12_neverBegin 14 = .ok (.iload_n 1, 1) := by decide +kernel
theorem dX12_neverBegin_15 : decode cX12_neverBegin 15 = .ok (.iaload, 1) := by decide +kernel
theorem dX12_neverBegin_16 : decode cX12_neverBegin 16 = .ok (.ifCond .eq 6, 3) := by decide +kernel
theorem dX12_neverBegin_19 : decode cX12_neverBegin 19 = .ok (.goto 17, 3) := by decide +kernel
theorem dX12_neverBegin_22 : decode cX12_neverBegin 22 = .ok (.aload_n 0, 1) := by decide +kernel
theorem dX12_neverBegin_23 : decode cX12_neverBegin 23 = .ok (.getfield 63, 3) := by decide +kernel
theorem dX12_neverBegin_26 : decode cX12_neverBegin 26 = .ok (.iload_n 1, 1) := by decide +kernel
theorem dX12_neverBegin_27 : decode cX12_neverBegin 27 = .ok (.iconst 5, 1) := by decide +kernel
theorem dX12_neverBegin_28 : decode cX12_neverBegin 28 = .ok (.iastore, 1) := by decide +kernel
theorem dX12_neverBegin_29 : decode cX12_neverBegin 29 = .ok (.aload_n 0, 1) := by decide +kernel
theorem dX12_neverBegin_30 : decode cX12_neverBegin 30 = .ok (.iload_n 1, 1) := by decide +kernel
theorem dX12_neverBegin_31 : decode cX12_neverBegin 31 = .ok (.bipush 6, 2) := by decide +kernel
theorem dX12_neverBegin_33 : decode cX12_neverBegin 33 = .ok (.invokevirtual 211, 3) := by decide +kernel
theorem dX12_neverBegin_36 : decode cX12_neverBegin 36 = .ok (.iinc 1 1, 3) := by decide +kernel
theorem dX12_neverBegin_39 : decode cX12_neverBegin 39 = .ok (.goto (-37), 3) := by decide +kernel
theorem dX12_neverBegin_42 : decode cX12_neverBegin 42 = .ok (.return_, 1) := by decide +kernel
theorem dX12_areAllDone_0 : decode cX12_areAllDone 0 = .ok (.iconst 0, 1) := by decide +kernel
theorem dX12_areAllDone_1 : decode cX12_areAllDone 1 = .ok (.istore_n 1, 1) := by decide +kernel
theorem dX12_areAllDone_2 : decode cX12_areAllDone 2 = .ok (.iload_n 1, 1) := by decide +kernel
theorem dX12_areAllDone_3 : decode cX12_areAllDone 3 = .ok (.aload_n 0, 1) := by decide +kernel
theorem dX12_areAllDone_4 : decode cX12_areAllDone 4 = .ok (.getfield 128, 3) := by decide +kernel
theorem dX12_areAllDone_7 : decode cX12_areAllDone 7 = .ok (.if_icmp .ge 21, 3) := by decide +kernel
theorem dX12_areAllDone_10 : decode cX12_areAllDone 10 = .ok (.aload_n 0, 1) := by decide +kernel
theorem dX12_areAllDone_11 : decode cX12_areAllDone 11 = .ok (.getfield 63, 3) := by decide +kernel
theorem dX12_areAllDone_14 : decode cX12_areAllDone 14 = .ok (.iload_n 1, 1) := by decide +kernel
theorem dX12_areAllDone_15 : decode cX12_areAllDone 15 = .ok (.iaload, 1) := by decide +kernel
theorem dX12_areAllDone_16 : decode cX12_areAllDone 16 = .ok (.iconst 1, 1) := by decide +kernel
theorem dX12_areAllDone_17 : decode cX12_areAllDone 17 = .ok (.if_icmp .eq 5, 3) := by decide +kernel
theorem dX12_areAllDone_20 : decode cX12_areAllDone 20 = .ok (.iconst 0, 1) := by decide +kernel
theorem dX12_areAllDone_21 : decode cX12_areAllDone 21 = .ok (.ireturn, 1) := by decide +kernel
theorem dX12_areAllDone_22 : decode cX12_areAllDone 22 = .ok (.iinc 1 1, 3) := by decide +kernel
theorem dX12_areAllDone_25 : decode cX12_areAllDone 25 = .ok (.goto (-23), 3) := by decide +kernel
theorem dX12_areAllDone_28 : decode cX12_areAllDone 28 = .ok (.iconst 1, 1) := by decide +kernel
theorem dX12_areAllDone_29 : decode cX12_areAllDone 29 = .ok (.ireturn, 1) := by decide +kernel
theorem dX12_goesOn_0 : decode cX12_goesOn 0 = .ok (.iconst 0, 1) := by decide +kernel
theorem dX12_goesOn_1 : decode cX12_goesOn 1 = .ok (.istore_n 2, 1) := by decide +kernel
theorem dX12_goesOn_2 : decode cX12_goesOn 2 = .ok (.iload_n 2, 1) := by decide +kernel
theorem dX12_goesOn_3 : decode cX12_goesOn 3 = .ok (.aload_n 0, 1) := by decide +kernel
theorem dX12_goesOn_4 : decode cX12_goesOn 4 = .ok (.getfield 128, 3) := by decide +kernel
theorem dX12_goesOn_7 : decode cX12_goesOn 7 = .ok (.if_icmp .ge 37, 3) := by decide +kernel
theorem dX12_goesOn_10 : decode cX12_goesOn 10 = .ok (.aload_n 0, 1) := by decide +kernel
theorem dX12_goesOn_11 : decode cX12_goesOn 11 = .ok (.getfield 63, 3) := by decide +kernel
theorem dX12_goesOn_14 : decode cX12_goesOn 14 = .ok (.iload_n 2, 1) := by decide +kernel
theorem dX12_goesOn_15 : decode cX12_goesOn 15 = .ok (.iaload, 1) := by decide +kernel
theorem dX12_goesOn_16 : decode cX12_goesOn 16 = .ok (.bipush 6, 2) := by decide +kernel
theorem dX12_goesOn_18 : decode cX12_goesOn 18 = .ok (.if_icmp .ne 20, 3) := by decide +kernel
theorem dX12_goesOn_21 : decode cX12_goesOn 21 = .ok (.aload_n 0, 1) := by decide +kernel
theorem dX12_goesOn_22 : decode cX12_goesOn 22 = .ok (.iload_n 2, 1) := by decide +kernel
theorem dX12_goesOn_23 : decode cX12_goesOn 23 = .ok (.invokevirtual 243, 3) := by decide +kernel
theorem dX12_goesOn_26 : decode cX12_goesOn 26 = .ok (.aload_n 0, 1) := by decide +kernel
theorem dX12_goesOn_27 : decode cX12_goesOn 27 = .ok (.getfield 202, 3) := by decide +kernel
theorem dX12_goesOn_30 : decode cX12_goesOn 30 = .ok (.if_icmp .ne 8, 3) := by decide +kernel
theorem dX12_goesOn_33 : decode cX12_goesOn 33 = .ok (.aload_n 0, 1) := by decide +kernel
theorem dX12_goesOn_34 : decode cX12_goesOn 34 = .ok (.iload_n 2, 1) := by decide +kernel
theorem dX12_goesOn_35 : decode cX12_goesOn 35 = .ok (.invokevirtual 246, 3) := by decide +kernel
theorem dX12_goesOn_38 : decode cX12_goesOn 38 = .ok (.iinc 2 1, 3) := by decide +kernel
theorem dX12_goesOn_41 : decode cX12_goesOn 41 = .ok (.goto (-39), 3) := by decide +kernel
theorem dX12_goesOn_44 : decode cX12_goesOn 44 = .ok (.aload_n 0, 1) := by decide +kernel
theorem dX12_goesOn_45 : decode cX12_goesOn 45 = .ok (.invokevirtual 249, 3) := by decide +kernel
theorem dX12_goesOn_48 : decode cX12_goesOn 48 = .ok (.aload_n 0, 1) := by decide +kernel
theorem dX12_goesOn_49 : decode cX12_goesOn 49 = .ok (.getfield 202, 3) := by decide +kernel
theorem dX12_goesOn_52 : decode cX12_goesOn 52 = .ok (.iload_n 1, 1) := by decide +kernel
theorem dX12_goesOn_53 : decode cX12_goesOn 53 = .ok (.if_icmp .ne 54, 3) := by decide +kernel
theorem dX12_goesOn_56 : decode cX12_goesOn 56 = .ok (.aload_n 0, 1) := by decide +kernel
theorem dX12_goesOn_57 : decode cX12_goesOn 57 = .ok (.invokevirtual 252, 3) := by decide +kernel
theorem dX12_goesOn_60 : decode cX12_goesOn 60 = .ok (.istore_n 2, 1) := by decide +kernel
theorem dX12_goesOn_61 : decode cX12_goesOn 61 = .ok (.iconst 0, 1) := by decide +kernel
theorem dX12_goesOn_62 : decode cX12_goesOn 62 = .ok (.istore_n 3, 1) := by decide +kernel
theorem dX12_goesOn_63 : decode cX12_goesOn 63 = .ok (.iload_n 3, 1) := by decide +kernel
theorem dX12_goesOn_64 : decode cX12_goesOn 64 = .ok (.aload_n 0, 1) := by decide +kernel
theorem dX12_goesOn_65 : decode cX12_goesOn 65 = .ok (.getfield 128, 3) := by decide +kernel
theorem dX12_goesOn_68 : decode cX12_goesOn 68 = .ok (.if_icmp .ge 25, 3) := by decide +kernel
theorem dX12_goesOn_71 : decode cX12_goesOn 71 = .ok (.aload_n 0, 1) := by decide +kernel
theorem dX12_goesOn_72 : decode cX12_goesOn 72 = .ok (.getfield 63, 3) := by decide +kernel
theorem dX12_goesOn_75 : decode cX12_goesOn 75 = .ok (.iload_n 3, 1) := by decide +kernel
theorem dX12_goesOn_76 : decode cX12_goesOn 76 = .ok (.iaload, 1) := by decide +kernel
theorem dX12_goesOn_77 : decode cX12_goesOn 77 = .ok (.bipush 6, 2) := by decide +kernel
theorem dX12_goesOn_79 : decode cX12_goesOn 79 = .ok (.if_icmp .ne 8, 3) := by decide +kernel
theorem dX12_goesOn_82 : decode cX12_goesOn 82 = .ok (.aload_n 0, 1) := by decide +kernel
theorem dX12_goesOn_83 : decode cX12_goesOn 83 = .ok (.iload_n 3, 1) := by decide +kernel
theorem dX12_goesOn_84 : decode cX12_goesOn 84 = .ok (.invokevirtual 256, 3) := by decide +kernel
theorem dX12_goesOn_87 : decode cX12_goesOn 87 = .ok (.iinc 3 1, 3) := by decide +kernel
theorem dX12_goesOn_90 : decode cX12_goesOn 90 = .ok (.goto (-27), 3) := by decide +kernel
theorem dX12_goesOn_93 : decode cX12_goesOn 93 = .ok (.iload_n 2, 1) := by decide +kernel
theorem dX12_goesOn_94 : decode cX12_goesOn 94 = .ok (.ifCond .ne 11, 3) := by decide +kernel
theorem dX12_goesOn_97 : decode cX12_goesOn 97 = .ok (.aload_n 0, 1) := by decide +kernel
theorem dX12_goesOn_98 : decode cX12_goesOn 98 = .ok (.iconst 1, 1) := by decide +kernel
theorem dX12_goesOn_99 : decode cX12_goesOn 99 = .ok (.invokevirtual 259, 3) := by decide +kernel
theorem dX12_goesOn_102 : decode cX12_goesOn 102 = .ok (.ifCond .eq 76, 3) := by decide +kernel
theorem dX12_goesOn_105 : decode cX12_goesOn 105 = .ok (.iconst 2, 1) := by decide +kernel
theorem dX12_goesOn_106 : decode cX12_goesOn 106 = .ok (.ireturn, 1) := by decide +kernel
theorem dX12_goesOn_107 : decode cX12_goesOn 107 = .ok (.aload_n 0, 1) := by decide +kernel
theorem dX12_goesOn_108 : decode cX12_goesOn 108 = .ok (.iconst 0, 1) := by decide +kernel
theorem dX12_goesOn_109 : decode cX12_goesOn 109 = .ok (.invokevirtual 259, 3) := by decide +kernel
theorem dX12_goesOn_112 : decode cX12_goesOn 112 = .ok (.istore_n 2, 1) := by decide +kernel
theorem dX12_goesOn_113 : decode cX12_goesOn 113 = .ok (.iload_n 2, 1) := by decide +kernel
theorem dX12_goesOn_114 : decode cX12_goesOn 114 = .ok (.ifCond .ne 13, 3) := by decide +kernel
theorem dX12_goesOn_117 : decode cX12_goesOn 117 = .ok (.aload_n 0, 1) := by decide +kernel
theorem dX12_goesOn_118 : decode cX12_goesOn 118 = .ok (.invokevirtual 252, 3) := by decide +kernel
theorem dX12_goesOn_121 : decode cX12_goesOn 121 = .ok (.ifCond .ne 6, 3) := by decide +kernel
theorem dX12_goesOn_124 : decode cX12_goesOn 124 = .ok (.goto 54, 3) := by decide +kernel
theorem dX12_goesOn_127 : decode cX12_goesOn 127 = .ok (.iload_n 1, 1) := by decide +kernel
theorem dX12_goesOn_128 : decode cX12_goesOn 128 = .ok (.istore_n 3, 1) := by decide +kernel
theorem dX12_goesOn_129 : decode cX12_goesOn 129 = .ok (.iconst 0, 1) := by decide +kernel
theorem dX12_goesOn_130 : decode cX12_goesOn 130 = .ok (.istore 4, 2) := by decide +kernel
theorem dX12_goesOn_132 : decode cX12_goesOn 132 = .ok (.iload 4, 2) := by decide +kernel
theorem dX12_goesOn_134 : decode cX12_goesOn 134 = .ok (.aload_n 0, 1) := by decide +kernel
theorem dX12_goesOn_135 : decode cX12_goesOn 135 = .ok (.getfield 128, 3) := by decide +kernel
theorem dX12_goesOn_138 : decode cX12_goesOn 138 = .ok (.if_icmp .ge 32, 3) := by decide +kernel
theorem dX12_goesOn_141 : decode cX12_goesOn 141 = .ok (.aload_n 0, 1) := by decide +kernel
theorem dX12_goesOn_142 : decode cX12_goesOn 142 = .ok (.getfield 63, 3) := by decide +kernel
theorem dX12_goesOn_145 : decode cX12_goesOn 145 = .ok (.iload 4, 2) := by decide +kernel
theorem dX12_goesOn_147 : decode cX12_goesOn 147 = .ok (.iaload, 1) := by decide +kernel
theorem dX12_goesOn_148 : decode cX12_goesOn 148 = .ok (.bipush 6, 2) := by decide +kernel
theorem dX12_goesOn_150 : decode cX12_goesOn 150 = .ok (.if_icmp .ne 14, 3) := by decide +kernel
theorem dX12_goesOn_153 : decode cX12_goesOn 153 = .ok (.iload_n 3, 1) := by decide +kernel
theorem dX12_goesOn_154 : decode cX12_goesOn 154 = .ok (.aload_n 0, 1) := by decide +kernel
theorem dX12_goesOn_155 : decode cX12_goesOn 155 = .ok (.iload 4, 2) := by decide +kernel
theorem dX12_goesOn_157 : decode cX12_goesOn 157 = .ok (.invokevirtual 243, 3) := by decide +kernel
theorem dX12_goesOn_160 : decode cX12_goesOn 160 = .ok (.invokestatic 263, 3) := by decide +kernel
theorem dX12_goesOn_163 : decode cX12_goesOn 163 = .ok (.istore_n 3, 1) := by decide +kernel
theorem dX12_goesOn_164 : decode cX12_goesOn 164 = .ok (.iinc 4 1, 3) := by decide +kernel
theorem dX12_goesOn_167 : decode cX12_goesOn 167 = .ok (.goto (-35), 3) := by decide +kernel
theorem dX12_goesOn_170 : decode cX12_goesOn 170 = .ok (.aload_n 0, 1) := by decide +kernel
theorem dX12_goesOn_171 : decode cX12_goesOn 171 = .ok (.iload_n 3, 1) := by decide +kernel
theorem dX12_goesOn_172 : decode cX12_goesOn 172 = .ok (.putfield 202, 3) := by decide +kernel
theorem dX12_goesOn_175 : decode cX12_goesOn 175 = .ok (.goto (-175), 3) := by decide +kernel
theorem dX12_goesOn_178 : decode cX12_goesOn 178 = .ok (.aload_n 0, 1) := by decide +kernel
theorem dX12_goesOn_179 : decode cX12_goesOn 179 = .ok (.invokevirtual 266, 3) := by decide +kernel
theorem dX12_goesOn_182 : decode cX12_goesOn 182 = .ok (.aload_n 0, 1) := by decide +kernel
theorem dX12_goesOn_183 : decode cX12_goesOn 183 = .ok (.invokevirtual 269, 3) := by decide +kernel
theorem dX12_goesOn_186 : decode cX12_goesOn 186 = .ok (.ifCond .eq 7, 3) := by decide +kernel
theorem dX12_goesOn_189 : decode cX12_goesOn 189 = .ok (.iconst 0, 1) := by decide +kernel
theorem dX12_goesOn_190 : decode cX12_goesOn 190 = .ok (.goto 4, 3) := by decide +kernel
theorem dX12_goesOn_193 : decode cX12_goesOn 193 = .ok (.iconst 1, 1) := by decide +kernel
theorem dX12_goesOn_194 : decode cX12_goesOn 194 = .ok (.ireturn, 1) := by decide +kernel
theorem dX12_swaps_0 : decode cX12_swaps 0 = .ok (.aload_n 0, 1) := by decide +kernel
theorem dX12_swaps_1 : decode cX12_swaps 1 = .ok (.getfield 94, 3) := by decide +kernel
theorem dX12_swaps_4 : decode cX12_swaps 4 = .ok (.iload_n 1, 1) := by decide +kernel
theorem dX12_swaps_5 : decode cX12_swaps 5 = .ok (.iaload, 1) := by decide +kernel
theorem dX12_swaps_6 : decode cX12_swaps 6 = .ok (.istore_n 3, 1) := by decide +kernel
theorem dX12_swaps_7 : decode cX12_swaps 7 = .ok (.aload_n 0, 1) := by decide +kernel
theorem dX12_swaps_8 : decode cX12_swaps 8 = .ok (.getfield 97, 3) := by decide +kernel
theorem dX12_swaps_11 : decode cX12_swaps 11 = .ok (.iload_n 1, 1) := by decide +kernel
theorem dX12_swaps_12 : decode cX12_swaps 12 = .ok (.iaload, 1) := by decide +kernel
theorem dX12_swaps_13 : decode cX12_swaps 13 = .ok (.istore 4, 2) := by decide +kernel
theorem dX12_swaps_15 : decode cX12_swaps 15 = .ok (.aload_n 0, 1) := by decide +kernel
theorem dX12_swaps_16 : decode cX12_swaps 16 = .ok (.getfield 100, 3) := by decide +kernel
theorem dX12_swaps_19 : decode cX12_swaps 19 = .ok (.iload_n 1, 1) := by decide +kernel
theorem dX12_swaps_20 : decode cX12_swaps 20 = .ok (.iaload, 1) := by decide +kernel
theorem dX12_swaps_21 : decode cX12_swaps 21 = .ok (.istore 5, 2) := by decide +kernel
theorem dX12_swaps_23 : decode cX12_swaps 23 = .ok (.aload_n 0, 1) := by decide +kernel
theorem dX12_swaps_24 : decode cX12_swaps 24 = .ok (.getfield 94, 3) := by decide +kernel
theorem dX12_swaps_27 : decode cX12_swaps 27 = .ok (.iload_n 1, 1) := by decide +kernel
theorem dX12_swaps_28 : decode cX12_swaps 28 = .ok (.aload_n 0, 1) := by decide +kernel
theorem dX12_swaps_29 : decode cX12_swaps 29 = .ok (.getfield 94, 3) := by decide +kernel
theorem dX12_swaps_32 : decode cX12_swaps 32 = .ok (.iload_n 2, 1) := by decide +kernel
theorem dX12_swaps_33 : decode cX12_swaps 33 = .ok (.iaload, 1) := by decide +kernel
theorem dX12_swaps_34 : decode cX12_swaps 34 = .ok (.iastore, 1) := by decide +kernel
theorem dX12_swaps_35 : decode cX12_swaps 35 = .ok (.aload_n 0, 1) := by decide +kernel
theorem dX12_swaps_36 : decode cX12_swaps 36 = .ok (.getfield 97, 3) := by decide +kernel
theorem dX12_swaps_39 : decode cX12_swaps 39 = .ok (.iload_n 1, 1) := by decide +kernel
theorem dX12_swaps_40 : decode cX12_swaps 40 = .ok (.aload_n 0, 1) := by decide +kernel
theorem dX12_swaps_41 : decode cX12_swaps 41 = .ok (.getfield 97, 3) := by decide +kernel
theorem dX12_swaps_44 : decode cX12_swaps 44 = .ok (.iload_n 2, 1) := by decide +kernel
theorem dX12_swaps_45 : decode cX12_swaps 45 = .ok (.iaload, 1) := by decide +kernel
theorem dX12_swaps_46 : decode cX12_swaps 46 = .ok (.iastore, 1) := by decide +kernel
theorem dX12_swaps_47 : decode cX12_swaps 47 = .ok (.aload_n 0, 1) := by decide +kernel
theorem dX12_swaps_48 : decode cX12_swaps 48 = .ok (.getfield 100, 3) := by decide +kernel
theorem dX12_swaps_51 : decode cX12_swaps 51 = .ok (.iload_n 1, 1) := by decide +kernel
theorem dX12_swaps_52 : decode cX12_swaps 52 = .ok (.aload_n 0, 1) := by decide +kernel
theorem dX12_swaps_53 : decode cX12_swaps 53 = .ok (.getfield 100, 3) := by decide +kernel
theorem dX12_swaps_56 : decode cX12_swaps 56 = .ok (.iload_n 2, 1) := by decide +kernel
theorem dX12_swaps_57 : decode cX12_swaps 57 = .ok (.iaload, 1) := by decide +kernel
theorem dX12_swaps_58 : decode cX12_swaps 58 = .ok (.iastore, 1) := by decide +kernel
theorem dX12_swaps_59 : decode cX12_swaps 59 = .ok (.aload_n 0, 1) := by decide +kernel
theorem dX12_swaps_60 : decode cX12_swaps 60 = .ok (.getfield 94, 3) := by decide +kernel
theorem dX12_swaps_63 : decode cX12_swaps 63 = .ok (.iload_n 2, 1) := by decide +kernel
theorem dX12_swaps_64 : decode cX12_swaps 64 = .ok (.iload_n 3, 1) := by decide +kernel
theorem dX12_swaps_65 : decode cX12_swaps 65 = .ok (.iastore, 1) := by decide +kernel
theorem dX12_swaps_66 : decode cX12_swaps 66 = .ok (.aload_n 0, 1) := by decide +kernel
theorem dX12_swaps_67 : decode cX12_swaps 67 = .ok (.getfield 97, 3) := by decide +kernel
theorem dX12_swaps_70 : decode cX12_swaps 70 = .ok (.iload_n 2, 1) := by decide +kernel
theorem dX12_swaps_71 : decode cX12_swaps 71 = .ok (.iload 4, 2) := by decide +kernel
theorem dX12_swaps_73 : decode cX12_swaps 73 = .ok (.iastore, 1) := by decide +kernel
theorem dX12_swaps_74 : decode cX12_swaps 74 = .ok (.aload_n 0, 1) := by decide +kernel
theorem dX12_swaps_75 : decode cX12_swaps 75 = .ok (.getfield 100, 3) := by decide +kernel
theorem dX12_swaps_78 : decode cX12_swaps 78 = .ok (.iload_n 2, 1) := by decide +kernel
theorem dX12_swaps_79 : decode cX12_swaps 79 = .ok (.iload 5, 2) := by decide +kernel
theorem dX12_swaps_81 : decode cX12_swaps 81 = .ok (.iastore, 1) := by decide +kernel
theorem dX12_swaps_82 : decode cX12_swaps 82 = .ok (.return_, 1) := by decide +kernel
theorem dX12_isAhead_0 : decode cX12_isAhead 0 = .ok (.aload_n 0, 1) := by decide +kernel
theorem dX12_isAhead_1 : decode cX12_isAhead 1 = .ok (.getfield 94, 3) := by decide +kernel
theorem dX12_isAhead_4 : decode cX12_isAhead 4 = .ok (.iload_n 1, 1) := by decide +kernel
theorem dX12_isAhead_5 : decode cX12_isAhead 5 = .ok (.iaload, 1) := by decide +kernel
theorem dX12_isAhead_6 : decode cX12_isAhead 6 = .ok (.aload_n 0, 1) := by decide +kernel
theorem dX12_isAhead_7 : decode cX12_isAhead 7 = .ok (.getfield 94, 3) := by decide +kernel
theorem dX12_isAhead_10 : decode cX12_isAhead 10 = .ok (.iload_n 2, 1) := by decide +kernel
theorem dX12_isAhead_11 : decode cX12_isAhead 11 = .ok (.iaload, 1) := by decide +kernel
theorem dX12_isAhead_12 : decode cX12_isAhead 12 = .ok (.if_icmp .eq 26, 3) := by decide +kernel
theorem dX12_isAhead_15 : decode cX12_isAhead 15 = .ok (.aload_n 0, 1) := by decide +kernel
theorem dX12_isAhead_16 : decode cX12_isAhead 16 = .ok (.getfield 94, 3) := by decide +kernel
theorem dX12_isAhead_19 : decode cX12_isAhead 19 = .ok (.iload_n 1, 1) := by decide +kernel
theorem dX12_isAhead_20 : decode cX12_isAhead 20 = .ok (.iaload, 1) := by decide +kernel
theorem dX12_isAhead_21 : decode cX12_isAhead 21 = .ok (.aload_n 0, 1) := by decide +kernel
theorem dX12_isAhead_22 : decode cX12_isAhead 22 = .ok (.getfield 94, 3) := by decide +kernel
theorem dX12_isAhead_25 : decode cX12_isAhead 25 = .ok (.iload_n 2, 1) := by decide +kernel
theorem dX12_isAhead_26 : decode cX12_isAhead 26 = .ok (.iaload, 1) := by decide +kernel
theorem dX12_isAhead_27 : decode cX12_isAhead 27 = .ok (.if_icmp .ge 7, 3) := by decide +kernel
theorem dX12_isAhead_30 : decode cX12_isAhead 30 = .ok (.iconst 1, 1) := by decide +kernel
theorem dX12_isAhead_31 : decode cX12_isAhead 31 = .ok (.goto 65, 3) := by decide +kernel
theorem dX12_isAhead_34 : decode cX12_isAhead 34 = .ok (.iconst 0, 1) := by decide +kernel
theorem dX12_isAhead_35 : decode cX12_isAhead 35 = .ok (.goto 61, 3) := by decide +kernel
theorem dX12_isAhead_38 : decode cX12_isAhead 38 = .ok (.aload_n 0, 1) := by decide +kernel
theorem dX12_isAhead_39 : decode cX12_isAhead 39 = .ok (.getfield 100, 3) := by decide +kernel
theorem dX12_isAhead_42 : decode cX12_isAhead 42 = .ok (.iload_n 1, 1) := by decide +kernel
theorem dX12_isAhead_43 : decode cX12_isAhead 43 = .ok (.iaload, 1) := by decide +kernel
theorem dX12_isAhead_44 : decode cX12_isAhead 44 = .ok (.aload_n 0, 1) := by decide +kernel
theorem dX12_isAhead_45 : decode cX12_isAhead 45 = .ok (.getfield 100, 3) := by decide +kernel
theorem dX12_isAhead_48 : decode cX12_isAhead 48 = .ok (.iload_n 2, 1) := by decide +kernel
theorem dX12_isAhead_49 : decode cX12_isAhead 49 = .ok (.iaload, 1) := by decide +kernel
theorem dX12_isAhead_50 : decode cX12_isAhead 50 = .ok (.if_icmp .eq 26, 3) := by decide +kernel
theorem dX12_isAhead_53 : decode cX12_isAhead 53 = .ok (.aload_n 0, 1) := by decide +kernel
theorem dX12_isAhead_54 : decode cX12_isAhead 54 = .ok (.getfield 100, 3) := by decide +kernel
theorem dX12_isAhead_57 : decode cX12_isAhead 57 = .ok (.iload_n 1, 1) := by decide +kernel
theorem dX12_isAhead_58 : decode cX12_isAhead 58 = .ok (.iaload, 1) := by decide +kernel
theorem dX12_isAhead_59 : decode cX12_isAhead 59 = .ok (.aload_n 0, 1) := by decide +kernel
theorem dX12_isAhead_60 : decode cX12_isAhead 60 = .ok (.getfield 100, 3) := by decide +kernel
theorem dX12_isAhead_63 : decode cX12_isAhead 63 = .ok (.iload_n 2, 1) := by decide +kernel
theorem dX12_isAhead_64 : decode cX12_isAhead 64 = .ok (.iaload, 1) := by decide +kernel
theorem dX12_isAhead_65 : decode cX12_isAhead 65 = .ok (.if_icmp .ge 7, 3) := by decide +kernel
theorem dX12_isAhead_68 : decode cX12_isAhead 68 = .ok (.iconst 1, 1) := by decide +kernel
theorem dX12_isAhead_69 : decode cX12_isAhead 69 = .ok (.goto 27, 3) := by decide +kernel
theorem dX12_isAhead_72 : decode cX12_isAhead 72 = .ok (.iconst 0, 1) := by decide +kernel
theorem dX12_isAhead_73 : decode cX12_isAhead 73 = .ok (.goto 23, 3) := by decide +kernel
theorem dX12_isAhead_76 : decode cX12_isAhead 76 = .ok (.aload_n 0, 1) := by decide +kernel
theorem dX12_isAhead_77 : decode cX12_isAhead 77 = .ok (.getfield 97, 3) := by decide +kernel
theorem dX12_isAhead_80 : decode cX12_isAhead 80 = .ok (.iload_n 1, 1) := by decide +kernel
theorem dX12_isAhead_81 : decode cX12_isAhead 81 = .ok (.iaload, 1) := by decide +kernel
theorem dX12_isAhead_82 : decode cX12_isAhead 82 = .ok (.aload_n 0, 1) := by decide +kernel
theorem dX12_isAhead_83 : decode cX12_isAhead 83 = .ok (.getfield 97, 3) := by decide +kernel
theorem dX12_isAhead_86 : decode cX12_isAhead 86 = .ok (.iload_n 2, 1) := by decide +kernel
theorem dX12_isAhead_87 : decode cX12_isAhead 87 = .ok (.iaload, 1) := by decide +kernel
theorem dX12_isAhead_88 : decode cX12_isAhead 88 = .ok (.if_icmp .ge 7, 3) := by decide +kernel
theorem dX12_isAhead_91 : decode cX12_isAhead 91 = .ok (.iconst 1, 1) := by decide +kernel
theorem dX12_isAhead_92 : decode cX12_isAhead 92 = .ok (.goto 4, 3) := by decide +kernel
theorem dX12_isAhead_95 : decode cX12_isAhead 95 = .ok (.iconst 0, 1) := by decide +kernel
theorem dX12_isAhead_96 : decode cX12_isAhead 96 = .ok (.ireturn, 1) := by decide +kernel
theorem dX12_run_0 : decode cX12_run 0 = .ok (.aload_n 0, 1) := by decide +kernel
theorem dX12_run_1 : decode cX12_run 1 = .ok (.iconst 0, 1) := by decide +kernel
theorem dX12_run_2 : decode cX12_run 2 = .ok (.putfield 124, 3) := by decide +kernel
theorem dX12_run_5 : decode cX12_run 5 = .ok (.iload_n 1, 1) := by decide +kernel
theorem dX12_run_6 : decode cX12_run 6 = .ok (.iconst 1, 1) := by decide +kernel
theorem dX12_run_7 : decode cX12_run 7 = .ok (.if_icmp .lt 9, 3) := by decide +kernel
theorem dX12_run_10 : decode cX12_run 10 = .ok (.iload_n 1, 1) := by decide +kernel
theorem dX12_run_11 : decode cX12_run 11 = .ok (.ldc 152, 2) := by decide +kernel
theorem dX12_run_13 : decode cX12_run 13 = .ok (.if_icmp .le 6, 3) := by decide +kernel
theorem dX12_run_16 : decode cX12_run 16 = .ok (.bipush (-2), 2) := by decide +kernel
theorem dX12_run_18 : decode cX12_run 18 = .ok (.ireturn, 1) := by decide +kernel
theorem dX12_run_19 : decode cX12_run 19 = .ok (.aload_n 0, 1) := by decide +kernel
theorem dX12_run_20 : decode cX12_run 20 = .ok (.invokevirtual 272, 3) := by decide +kernel
theorem dX12_run_23 : decode cX12_run 23 = .ok (.aload_n 0, 1) := by decide +kernel
theorem dX12_run_24 : decode cX12_run 24 = .ok (.aload_n 0, 1) := by decide +kernel
theorem dX12_run_25 : decode cX12_run 25 = .ok (.iload_n 1, 1) := by decide +kernel
theorem dX12_run_26 : decode cX12_run 26 = .ok (.invokevirtual 275, 3) := by decide +kernel
theorem dX12_run_29 : decode cX12_run 29 = .ok (.putfield 278, 3) := by decide +kernel
theorem dX12_run_32 : decode cX12_run 32 = .ok (.aload_n 0, 1) := by decide +kernel
theorem dX12_run_33 : decode cX12_run 33 = .ok (.iconst 1, 1) := by decide +kernel
theorem dX12_run_34 : decode cX12_run 34 = .ok (.putfield 131, 3) := by decide +kernel
theorem dX12_run_37 : decode cX12_run 37 = .ok (.iconst 0, 1) := by decide +kernel
theorem dX12_run_38 : decode cX12_run 38 = .ok (.istore_n 2, 1) := by decide +kernel
theorem dX12_run_39 : decode cX12_run 39 = .ok (.iload_n 2, 1) := by decide +kernel
theorem dX12_run_40 : decode cX12_run 40 = .ok (.aload_n 0, 1) := by decide +kernel
theorem dX12_run_41 : decode cX12_run 41 = .ok (.getfield 199, 3) := by decide +kernel
theorem dX12_run_44 : decode cX12_run 44 = .ok (.if_icmp .ge 40, 3) := by decide +kernel
theorem dX12_run_47 : decode cX12_run 47 = .ok (.iload_n 2, 1) := by decide +kernel
theorem dX12_run_48 : decode cX12_run 48 = .ok (.istore_n 3, 1) := by decide +kernel
theorem dX12_run_49 : decode cX12_run 49 = .ok (.iload_n 3, 1) := by decide +kernel
theorem dX12_run_50 : decode cX12_run 50 = .ok (.ifCond .le 28, 3) := by decide +kernel
theorem dX12_run_53 : decode cX12_run 53 = .ok (.aload_n 0, 1) := by decide +kernel
theorem dX12_run_54 : decode cX12_run 54 = .ok (.iload_n 3, 1) := by decide +kernel
theorem dX12_run_55 : decode cX12_run 55 = .ok (.iload_n 3, 1) := by decide +kernel
theorem dX12_run_56 : decode cX12_run 56 = .ok (.iconst 1, 1) := by decide +kernel
theorem dX12_run_57 : decode cX12_run 57 = .ok (.isub, 1) := by decide +kernel
theorem dX12_run_58 : decode cX12_run 58 = .ok (.invokevirtual 281, 3) := by decide +kernel
theorem dX12_run_61 : decode cX12_run 61 = .ok (.ifCond .eq 17, 3) := by decide +kernel
theorem dX12_run_64 : decode cX12_run 64 = .ok (.aload_n 0, 1) := by decide +kernel
theorem dX12_run_65 : decode cX12_run 65 = .ok (.iload_n 3, 1) := by decide +kernel
theorem dX12_run_66 : decode cX12_run 66 = .ok (.iload_n 3, 1) := by decide +kernel
theorem dX12_run_67 : decode cX12_run 67 = .ok (.iconst 1, 1) := by decide +kernel
theorem dX12_run_68 : decode cX12_run 68 = .ok (.isub, 1) := by decide +kernel
theorem dX12_run_69 : decode cX12_run 69 = .ok (.invokevirtual 285, 3) := by decide +kernel
theorem dX12_run_72 : decode cX12_run 72 = .ok (.iinc 3 (-1), 3) := by decide +kernel
theorem dX12_run_75 : decode cX12_run 75 = .ok (.goto (-26), 3) := by decide +kernel
theorem dX12_run_78 : decode cX12_run 78 = .ok (.iinc 2 1, 3) := by decide +kernel
theorem dX12_run_81 : decode cX12_run 81 = .ok (.goto (-42), 3) := by decide +kernel
theorem dX12_run_84 : decode cX12_run 84 = .ok (.aload_n 0, 1) := by decide +kernel
theorem dX12_run_85 : decode cX12_run 85 = .ok (.getfield 278, 3) := by decide +kernel
theorem dX12_run_88 : decode cX12_run 88 = .ok (.ireturn, 1) := by decide +kernel
theorem dX12_again_0 : decode cX12_again 0 = .ok (.aload_n 0, 1) := by decide +kernel
theorem dX12_again_1 : decode cX12_again 1 = .ok (.iconst 0, 1) := by decide +kernel
theorem dX12_again_2 : decode cX12_again 2 = .ok (.putfield 124, 3) := by decide +kernel
theorem dX12_again_5 : decode cX12_again 5 = .ok (.aload_n 0, 1) := by decide +kernel
theorem dX12_again_6 : decode cX12_again 6 = .ok (.getfield 131, 3) := by decide +kernel
theorem dX12_again_9 : decode cX12_again 9 = .ok (.istore_n 1, 1) := by decide +kernel
theorem dX12_again_10 : decode cX12_again 10 = .ok (.aload_n 0, 1) := by decide +kernel
theorem dX12_again_11 : decode cX12_again 11 = .ok (.iconst 0, 1) := by decide +kernel
theorem dX12_again_12 : decode cX12_again 12 = .ok (.putfield 131, 3) := by decide +kernel
theorem dX12_again_15 : decode cX12_again 15 = .ok (.iload_n 1, 1) := by decide +kernel
theorem dX12_again_16 : decode cX12_again 16 = .ok (.ireturn, 1) := by decide +kernel
theorem dX12_causeOf_0 : decode cX12_causeOf 0 = .ok (.iconst 0, 1) := by decide +kernel
theorem dX12_causeOf_1 : decode cX12_causeOf 1 = .ok (.istore_n 2, 1) := by decide +kernel
theorem dX12_causeOf_2 : decode cX12_causeOf 2 = .ok (.iload_n 2, 1) := by decide +kernel
theorem dX12_causeOf_3 : decode cX12_causeOf 3 = .ok (.aload_n 0, 1) := by decide +kernel
theorem dX12_causeOf_4 : decode cX12_causeOf 4 = .ok (.getfield 128, 3) := by decide +kernel
theorem dX12_causeOf_7 : decode cX12_causeOf 7 = .ok (.if_icmp .ge 46, 3) := by decide +kernel
theorem dX12_causeOf_10 : decode cX12_causeOf 10 = .ok (.aload_n 0, 1) := by decide +kernel
theorem dX12_causeOf_11 : decode cX12_causeOf 11 = .ok (.getfield 63, 3) := by decide +kernel
theorem dX12_causeOf_14 : decode cX12_causeOf 14 = .ok (.iload_n 1, 1) := by decide +kernel
theorem dX12_causeOf_15 : decode cX12_causeOf 15 = .ok (.iaload, 1) := by decide +kernel
theorem dX12_causeOf_16 : decode cX12_causeOf 16 = .ok (.iconst 3, 1) := by decide +kernel
theorem dX12_causeOf_17 : decode cX12_causeOf 17 = .ok (.if_icmp .ne 36, 3) := by decide +kernel
theorem dX12_causeOf_20 : decode cX12_causeOf 20 = .ok (.aload_n 0, 1) := by decide +kernel
theorem dX12_causeOf_21 : decode cX12_causeOf 21 = .ok (.getfield 63, 3) := by decide +kernel
theorem dX12_causeOf_24 : decode cX12_causeOf 24 = .ok (.iload_n 2, 1) := by decide +kernel
theorem dX12_causeOf_25 : decode cX12_causeOf 25 = .ok (.iaload, 1) := by decide +kernel
theorem dX12_causeOf_26 : decode cX12_causeOf 26 = .ok (.iconst 2, 1) := by decide +kernel
theorem dX12_causeOf_27 : decode cX12_causeOf 27 = .ok (.if_icmp .ne 20, 3) := by decide +kernel
theorem dX12_causeOf_30 : decode cX12_causeOf 30 = .ok (.aload_n 0, 1) := by decide +kernel
theorem dX12_causeOf_31 : decode cX12_causeOf 31 = .ok (.getfield 30, 3) := by decide +kernel
theorem dX12_causeOf_34 : decode cX12_causeOf 34 = .ok (.sipush 200, 3) := by decide +kernel
theorem dX12_causeOf_37 : decode cX12_causeOf 37 = .ok (.iload_n 1, 1) := by decide +kernel
theorem dX12_causeOf_38 : decode cX12_causeOf 38 = .ok (.imul, 1) := by decide +kernel
theorem dX12_causeOf_39 : decode cX12_causeOf 39 = .ok (.iload_n 2, 1) := by decide +kernel
theorem dX12_causeOf_40 : decode cX12_causeOf 40 = .ok (.iadd, 1) := by decide +kernel
theorem dX12_causeOf_41 : decode cX12_causeOf 41 = .ok (.baload, 1) := by decide +kernel
theorem dX12_causeOf_42 : decode cX12_causeOf 42 = .ok (.ifCond .eq 5, 3) := by decide +kernel
theorem dX12_causeOf_45 : decode cX12_causeOf 45 = .ok (.iload_n 2, 1) := by decide +kernel
theorem dX12_causeOf_46 : decode cX12_causeOf 46 = .ok (.ireturn, 1) := by decide +kernel
theorem dX12_causeOf_47 : decode cX12_causeOf 47 = .ok (.iinc 2 1, 3) := by decide +kernel
theorem dX12_causeOf_50 : decode cX12_causeOf 50 = .ok (.goto (-48), 3) := by decide +kernel
theorem dX12_causeOf_53 : decode cX12_causeOf 53 = .ok (.iconst (-1), 1) := by decide +kernel
theorem dX12_causeOf_54 : decode cX12_causeOf 54 = .ok (.ireturn, 1) := by decide +kernel
theorem dX12_state_0 : decode cX12_state 0 = .ok (.aload_n 0, 1) := by decide +kernel
theorem dX12_state_1 : decode cX12_state 1 = .ok (.aload_n 0, 1) := by decide +kernel
theorem dX12_state_2 : decode cX12_state 2 = .ok (.iload_n 1, 1) := by decide +kernel
theorem dX12_state_3 : decode cX12_state 3 = .ok (.invokevirtual 154, 3) := by decide +kernel
theorem dX12_state_6 : decode cX12_state 6 = .ok (.ifCond .eq 7, 3) := by decide +kernel
theorem dX12_state_9 : decode cX12_state 9 = .ok (.iconst 0, 1) := by decide +kernel
theorem dX12_state_10 : decode cX12_state 10 = .ok (.goto 4, 3) := by decide +kernel
theorem dX12_state_13 : decode cX12_state 13 = .ok (.iconst 1, 1) := by decide +kernel
theorem dX12_state_14 : decode cX12_state 14 = .ok (.putfield 124, 3) := by decide +kernel
theorem dX12_state_17 : decode cX12_state 17 = .ok (.aload_n 0, 1) := by decide +kernel
theorem dX12_state_18 : decode cX12_state 18 = .ok (.getfield 124, 3) := by decide +kernel
theorem dX12_state_21 : decode cX12_state 21 = .ok (.ifCond .le 5, 3) := by decide +kernel
theorem dX12_state_24 : decode cX12_state 24 = .ok (.iconst 0, 1) := by decide +kernel
theorem dX12_state_25 : decode cX12_state 25 = .ok (.ireturn, 1) := by decide +kernel
theorem dX12_state_26 : decode cX12_state 26 = .ok (.iload_n 2, 1) := by decide +kernel
theorem dX12_state_27 : decode cX12_state 27 = .ok (.tableswitch 197 0 7 #[45, 63, 81, 99, 117, 134, 152, 180], 45) := by decide +kernel
theorem dX12_state_72 : decode cX12_state 72 = .ok (.aload_n 0, 1) := by decide +kernel
theorem dX12_state_73 : decode cX12_state 73 = .ok (.getfield 131, 3) := by decide +kernel
theorem dX12_state_76 : decode cX12_state 76 = .ok (.ifCond .eq 12, 3) := by decide +kernel
theorem dX12_state_79 : decode cX12_state 79 = .ok (.aload_n 0, 1) := by decide +kernel
theorem dX12_state_80 : decode cX12_state 80 = .ok (.getfield 63, 3) := by decide +kernel
theorem dX12_state_83 : decode cX12_state 83 = .ok (.iload_n 1, 1) := by decide +kernel
theorem dX12_state_84 : decode cX12_state 84 = .ok (.iaload, 1) := by decide +kernel
theorem dX12_state_85 : decode cX12_state 85 = .ok (.goto 4, 3) := by decide +kernel
theorem dX12_state_88 : decode cX12_state 88 = .ok (.iconst 0, 1) := by decide +kernel
theorem dX12_state_89 : decode cX12_state 89 = .ok (.ireturn, 1) := by decide +kernel
theorem dX12_state_90 : decode cX12_state 90 = .ok (.aload_n 0, 1) := by decide +kernel
theorem dX12_state_91 : decode cX12_state 91 = .ok (.getfield 131, 3) := by decide +kernel
theorem dX12_state_94 : decode cX12_state 94 = .ok (.ifCond .eq 12, 3) := by decide +kernel
theorem dX12_state_97 : decode cX12_state 97 = .ok (.aload_n 0, 1) := by decide +kernel
theorem dX12_state_98 : decode cX12_state 98 = .ok (.getfield 66, 3) := by decide +kernel
theorem dX12_state_101 : decode cX12_state 101 = .ok (.iload_n 1, 1) := by decide +kernel
theorem dX12_state_102 : decode cX12_state 102 = .ok (.iaload, 1) := by decide +kernel
theorem dX12_state_103 : decode cX12_state 103 = .ok (.goto 4, 3) := by decide +kernel
theorem dX12_state_106 : decode cX12_state 106 = .ok (.iconst (-1), 1) := by decide +kernel
theorem dX12_state_107 : decode cX12_state 107 = .ok (.ireturn, 1) := by decide +kernel
theorem dX12_state_108 : decode cX12_state 108 = .ok (.aload_n 0, 1) := by decide +kernel
theorem dX12_state_109 : decode cX12_state 109 = .ok (.getfield 131, 3) := by decide +kernel
theorem dX12_state_112 : decode cX12_state 112 = .ok (.ifCond .eq 12, 3) := by decide +kernel
theorem dX12_state_115 : decode cX12_state 115 = .ok (.aload_n 0, 1) := by decide +kernel
theorem dX12_state_116 : decode cX12_state 116 = .ok (.getfield 69, 3) := by decide +kernel
theorem dX12_state_119 : decode cX12_state 119 = .ok (.iload_n 1, 1) := by decide +kernel
theorem dX12_state_120 : decode cX12_state 120 = .ok (.iaload, 1) := by decide +kernel
theorem dX12_state_121 : decode cX12_state 121 = .ok (.goto 4, 3) := by decide +kernel
theorem dX12_state_124 : decode cX12_state 124 = .ok (.iconst (-1), 1) := by decide +kernel
theorem dX12_state_125 : decode cX12_state 125 = .ok (.ireturn, 1) := by decide +kernel
theorem dX12_state_126 : decode cX12_state 126 = .ok (.aload_n 0, 1) := by decide +kernel
theorem dX12_state_127 : decode cX12_state 127 = .ok (.getfield 131, 3) := by decide +kernel
theorem dX12_state_130 : decode cX12_state 130 = .ok (.ifCond .eq 12, 3) := by decide +kernel
theorem dX12_state_133 : decode cX12_state 133 = .ok (.aload_n 0, 1) := by decide +kernel
theorem dX12_state_134 : decode cX12_state 134 = .ok (.getfield 72, 3) := by decide +kernel
theorem dX12_state_137 : decode cX12_state 137 = .ok (.iload_n 1, 1) := by decide +kernel
theorem dX12_state_138 : decode cX12_state 138 = .ok (.iaload, 1) := by decide +kernel
theorem dX12_state_139 : decode cX12_state 139 = .ok (.goto 4, 3) := by decide +kernel
theorem dX12_state_142 : decode cX12_state 142 = .ok (.iconst (-1), 1) := by decide +kernel
theorem dX12_state_143 : decode cX12_state 143 = .ok (.ireturn, 1) := by decide +kernel
theorem dX12_state_144 : decode cX12_state 144 = .ok (.aload_n 0, 1) := by decide +kernel
theorem dX12_state_145 : decode cX12_state 145 = .ok (.getfield 131, 3) := by decide +kernel
theorem dX12_state_148 : decode cX12_state 148 = .ok (.ifCond .eq 11, 3) := by decide +kernel
theorem dX12_state_151 : decode cX12_state 151 = .ok (.aload_n 0, 1) := by decide +kernel
theorem dX12_state_152 : decode cX12_state 152 = .ok (.iload_n 1, 1) := by decide +kernel
theorem dX12_state_153 : decode cX12_state 153 = .ok (.invokevirtual 215, 3) := by decide +kernel
theorem dX12_state_156 : decode cX12_state 156 = .ok (.goto 4, 3) := by decide +kernel
theorem dX12_state_159 : decode cX12_state 159 = .ok (.iconst 0, 1) := by decide +kernel
theorem dX12_state_160 : decode cX12_state 160 = .ok (.ireturn, 1) := by decide +kernel
theorem dX12_state_161 : decode cX12_state 161 = .ok (.aload_n 0, 1) := by decide +kernel
theorem dX12_state_162 : decode cX12_state 162 = .ok (.getfield 131, 3) := by decide +kernel
theorem dX12_state_165 : decode cX12_state 165 = .ok (.ifCond .eq 12, 3) := by decide +kernel
theorem dX12_state_168 : decode cX12_state 168 = .ok (.aload_n 0, 1) := by decide +kernel
theorem dX12_state_169 : decode cX12_state 169 = .ok (.getfield 75, 3) := by decide +kernel
theorem dX12_state_172 : decode cX12_state 172 = .ok (.iload_n 1, 1) := by decide +kernel
theorem dX12_state_173 : decode cX12_state 173 = .ok (.iaload, 1) := by decide +kernel
theorem dX12_state_174 : decode cX12_state 174 = .ok (.goto 4, 3) := by decide +kernel
theorem dX12_state_177 : decode cX12_state 177 = .ok (.iconst 0, 1) := by decide +kernel
theorem dX12_state_178 : decode cX12_state 178 = .ok (.ireturn, 1) := by decide +kernel
theorem dX12_state_179 : decode cX12_state 179 = .ok (.aload_n 0, 1) := by decide +kernel
theorem dX12_state_180 : decode cX12_state 180 = .ok (.getfield 131, 3) := by decide +kernel
theorem dX12_state_183 : decode cX12_state 183 = .ok (.ifCond .eq 22, 3) := by decide +kernel
theorem dX12_state_186 : decode cX12_state 186 = .ok (.aload_n 0, 1) := by decide +kernel
theorem dX12_state_187 : decode cX12_state 187 = .ok (.getfield 63, 3) := by decide +kernel
theorem dX12_state_190 : decode cX12_state 190 = .ok (.iload_n 1, 1) := by decide +kernel
theorem dX12_state_191 : decode cX12_state 191 = .ok (.iaload, 1) := by decide +kernel
theorem dX12_state_192 : decode cX12_state 192 = .ok (.iconst 2, 1) := by decide +kernel
theorem dX12_state_193 : decode cX12_state 193 = .ok (.if_icmp .ne 12, 3) := by decide +kernel
theorem dX12_state_196 : decode cX12_state 196 = .ok (.aload_n 0, 1) := by decide +kernel
theorem dX12_state_197 : decode cX12_state 197 = .ok (.getfield 78, 3) := by decide +kernel
theorem dX12_state_200 : decode cX12_state 200 = .ok (.iload_n 1, 1) := by decide +kernel
theorem dX12_state_201 : decode cX12_state 201 = .ok (.iaload, 1) := by decide +kernel
theorem dX12_state_202 : decode cX12_state 202 = .ok (.goto 4, 3) := by decide +kernel
theorem dX12_state_205 : decode cX12_state 205 = .ok (.iconst 0, 1) := by decide +kernel
theorem dX12_state_206 : decode cX12_state 206 = .ok (.ireturn, 1) := by decide +kernel
theorem dX12_state_207 : decode cX12_state 207 = .ok (.aload_n 0, 1) := by decide +kernel
theorem dX12_state_208 : decode cX12_state 208 = .ok (.getfield 131, 3) := by decide +kernel
theorem dX12_state_211 : decode cX12_state 211 = .ok (.ifCond .eq 11, 3) := by decide +kernel
theorem dX12_state_214 : decode cX12_state 214 = .ok (.aload_n 0, 1) := by decide +kernel
theorem dX12_state_215 : decode cX12_state 215 = .ok (.iload_n 1, 1) := by decide +kernel
theorem dX12_state_216 : decode cX12_state 216 = .ok (.invokevirtual 288, 3) := by decide +kernel
theorem dX12_state_219 : decode cX12_state 219 = .ok (.goto 4, 3) := by decide +kernel
theorem dX12_state_222 : decode cX12_state 222 = .ok (.iconst (-1), 1) := by decide +kernel
theorem dX12_state_223 : decode cX12_state 223 = .ok (.ireturn, 1) := by decide +kernel
theorem dX12_state_224 : decode cX12_state 224 = .ok (.iconst (-1), 1) := by decide +kernel
theorem dX12_state_225 : decode cX12_state 225 = .ok (.ireturn, 1) := by decide +kernel
theorem dX12_result_0 : decode cX12_result 0 = .ok (.aload_n 0, 1) := by decide +kernel
theorem dX12_result_1 : decode cX12_result 1 = .ok (.aload_n 0, 1) := by decide +kernel
theorem dX12_result_2 : decode cX12_result 2 = .ok (.iload_n 1, 1) := by decide +kernel
theorem dX12_result_3 : decode cX12_result 3 = .ok (.invokevirtual 154, 3) := by decide +kernel
theorem dX12_result_6 : decode cX12_result 6 = .ok (.ifCond .eq 7, 3) := by decide +kernel
theorem dX12_result_9 : decode cX12_result 9 = .ok (.iconst 0, 1) := by decide +kernel
theorem dX12_result_10 : decode cX12_result 10 = .ok (.goto 4, 3) := by decide +kernel
theorem dX12_result_13 : decode cX12_result 13 = .ok (.iconst 1, 1) := by decide +kernel
theorem dX12_result_14 : decode cX12_result 14 = .ok (.putfield 124, 3) := by decide +kernel
theorem dX12_result_17 : decode cX12_result 17 = .ok (.aload_n 0, 1) := by decide +kernel
theorem dX12_result_18 : decode cX12_result 18 = .ok (.getfield 124, 3) := by decide +kernel
theorem dX12_result_21 : decode cX12_result 21 = .ok (.ifCond .gt 20, 3) := by decide +kernel
theorem dX12_result_24 : decode cX12_result 24 = .ok (.aload_n 0, 1) := by decide +kernel
theorem dX12_result_25 : decode cX12_result 25 = .ok (.getfield 131, 3) := by decide +kernel
theorem dX12_result_28 : decode cX12_result 28 = .ok (.ifCond .eq 13, 3) := by decide +kernel
theorem dX12_result_31 : decode cX12_result 31 = .ok (.aload_n 0, 1) := by decide +kernel
theorem dX12_result_32 : decode cX12_result 32 = .ok (.getfield 63, 3) := by decide +kernel
theorem dX12_result_35 : decode cX12_result 35 = .ok (.iload_n 1, 1) := by decide +kernel
theorem dX12_result_36 : decode cX12_result 36 = .ok (.iaload, 1) := by decide +kernel
theorem dX12_result_37 : decode cX12_result 37 = .ok (.iconst 1, 1) := by decide +kernel
theorem dX12_result_38 : decode cX12_result 38 = .ok (.if_icmp .eq 5, 3) := by decide +kernel
theorem dX12_result_41 : decode cX12_result 41 = .ok (.iconst 0, 1) := by decide +kernel
theorem dX12_result_42 : decode cX12_result 42 = .ok (.ireturn, 1) := by decide +kernel
theorem dX12_result_43 : decode cX12_result 43 = .ok (.aload_n 0, 1) := by decide +kernel
theorem dX12_result_44 : decode cX12_result 44 = .ok (.iload_n 1, 1) := by decide +kernel
theorem dX12_result_45 : decode cX12_result 45 = .ok (.invokevirtual 222, 3) := by decide +kernel
theorem dX12_result_48 : decode cX12_result 48 = .ok (.pop, 1) := by decide +kernel
theorem dX12_result_49 : decode cX12_result 49 = .ok (.aload_n 0, 1) := by decide +kernel
theorem dX12_result_50 : decode cX12_result 50 = .ok (.getfield 163, 3) := by decide +kernel
theorem dX12_result_53 : decode cX12_result 53 = .ok (.ireturn, 1) := by decide +kernel
theorem dX12_part_0 : decode cX12_part 0 = .ok (.aload_n 0, 1) := by decide +kernel
theorem dX12_part_1 : decode cX12_part 1 = .ok (.aload_n 0, 1) := by decide +kernel
theorem dX12_part_2 : decode cX12_part 2 = .ok (.iload_n 1, 1) := by decide +kernel
theorem dX12_part_3 : decode cX12_part 3 = .ok (.invokevirtual 154, 3) := by decide +kernel
theorem dX12_part_6 : decode cX12_part 6 = .ok (.ifCond .eq 7, 3) := by decide +kernel
theorem dX12_part_9 : decode cX12_part 9 = .ok (.iconst 0, 1) := by decide +kernel
theorem dX12_part_10 : decode cX12_part 10 = .ok (.goto 4, 3) := by decide +kernel
theorem dX12_part_13 : decode cX12_part 13 = .ok (.iconst 1, 1) := by decide +kernel
theorem dX12_part_14 : decode cX12_part 14 = .ok (.putfield 124, 3) := by decide +kernel
theorem dX12_part_17 : decode cX12_part 17 = .ok (.aload_n 0, 1) := by decide +kernel
theorem dX12_part_18 : decode cX12_part 18 = .ok (.getfield 124, 3) := by decide +kernel
theorem dX12_part_21 : decode cX12_part 21 = .ok (.ifCond .gt 30, 3) := by decide +kernel
theorem dX12_part_24 : decode cX12_part 24 = .ok (.aload_n 0, 1) := by decide +kernel
theorem dX12_part_25 : decode cX12_part 25 = .ok (.getfield 131, 3) := by decide +kernel
theorem dX12_part_28 : decode cX12_part 28 = .ok (.ifCond .eq 23, 3) := by decide +kernel
theorem dX12_part_31 : decode cX12_part 31 = .ok (.aload_n 0, 1) := by decide +kernel
theorem dX12_part_32 : decode cX12_part 32 = .ok (.getfield 63, 3) := by decide +kernel
theorem dX12_part_35 : decode cX12_part 35 = .ok (.iload_n 1, 1) := by decide +kernel
theorem dX12_part_36 : decode cX12_part 36 = .ok (.iaload, 1) := by decide +kernel
theorem dX12_part_37 : decode cX12_part 37 = .ok (.iconst 1, 1) := by decide +kernel
theorem dX12_part_38 : decode cX12_part 38 = .ok (.if_icmp .ne 13, 3) := by decide +kernel
theorem dX12_part_41 : decode cX12_part 41 = .ok (.iload_n 2, 1) := by decide +kernel
theorem dX12_part_42 : decode cX12_part 42 = .ok (.ifCond .lt 9, 3) := by decide +kernel
theorem dX12_part_45 : decode cX12_part 45 = .ok (.iload_n 2, 1) := by decide +kernel
theorem dX12_part_46 : decode cX12_part 46 = .ok (.bipush 30, 2) := by decide +kernel
theorem dX12_part_48 : decode cX12_part 48 = .ok (.if_icmp .lt 5, 3) := by decide +kernel
theorem dX12_part_51 : decode cX12_part 51 = .ok (.lconst 0, 1) := by decide +kernel
theorem dX12_part_52 : decode cX12_part 52 = .ok (.lreturn, 1) := by decide +kernel
theorem dX12_part_53 : decode cX12_part 53 = .ok (.aload_n 0, 1) := by decide +kernel
theorem dX12_part_54 : decode cX12_part 54 = .ok (.iload_n 1, 1) := by decide +kernel
theorem dX12_part_55 : decode cX12_part 55 = .ok (.invokevirtual 222, 3) := by decide +kernel
theorem dX12_part_58 : decode cX12_part 58 = .ok (.pop, 1) := by decide +kernel
theorem dX12_part_59 : decode cX12_part 59 = .ok (.aload_n 0, 1) := by decide +kernel
theorem dX12_part_60 : decode cX12_part 60 = .ok (.getfield 103, 3) := by decide +kernel
theorem dX12_part_63 : decode cX12_part 63 = .ok (.iload_n 2, 1) := by decide +kernel
theorem dX12_part_64 : decode cX12_part 64 = .ok (.laload, 1) := by decide +kernel
theorem dX12_part_65 : decode cX12_part 65 = .ok (.lreturn, 1) := by decide +kernel
theorem dX12_check_0 : decode cX12_check 0 = .ok (.aload_n 0, 1) := by decide +kernel
theorem dX12_check_1 : decode cX12_check 1 = .ok (.aload_n 0, 1) := by decide +kernel
theorem dX12_check_2 : decode cX12_check 2 = .ok (.iload_n 1, 1) := by decide +kernel
theorem dX12_check_3 : decode cX12_check 3 = .ok (.invokevirtual 154, 3) := by decide +kernel
theorem dX12_check_6 : decode cX12_check 6 = .ok (.ifCond .eq 7, 3) := by decide +kernel
theorem dX12_check_9 : decode cX12_check 9 = .ok (.iconst 0, 1) := by decide +kernel
theorem dX12_check_10 : decode cX12_check 10 = .ok (.goto 4, 3) := by decide +kernel
theorem dX12_check_13 : decode cX12_check 13 = .ok (.iconst 1, 1) := by decide +kernel
theorem dX12_check_14 : decode cX12_check 14 = .ok (.putfield 124, 3) := by decide +kernel
theorem dX12_check_17 : decode cX12_check 17 = .ok (.aload_n 0, 1) := by decide +kernel
theorem dX12_check_18 : decode cX12_check 18 = .ok (.getfield 124, 3) := by decide +kernel
theorem dX12_check_21 : decode cX12_check 21 = .ok (.ifCond .le 7, 3) := by decide +kernel
theorem dX12_check_24 : decode cX12_check 24 = .ok (.iconst 0, 1) := by decide +kernel
theorem dX12_check_25 : decode cX12_check 25 = .ok (.goto 8, 3) := by decide +kernel
theorem dX12_check_28 : decode cX12_check 28 = .ok (.aload_n 0, 1) := by decide +kernel
theorem dX12_check_29 : decode cX12_check 29 = .ok (.iload_n 1, 1) := by decide +kernel
theorem dX12_check_30 : decode cX12_check 30 = .ok (.invokevirtual 222, 3) := by decide +kernel
theorem dX12_check_33 : decode cX12_check 33 = .ok (.ireturn, 1) := by decide +kernel
theorem dX12_failures_0 : decode cX12_failures 0 = .ok (.aload_n 0, 1) := by decide +kernel
theorem dX12_failures_1 : decode cX12_failures 1 = .ok (.iconst 0, 1) := by decide +kernel
theorem dX12_failures_2 : decode cX12_failures 2 = .ok (.putfield 124, 3) := by decide +kernel
theorem dX12_failures_5 : decode cX12_failures 5 = .ok (.iconst 0, 1) := by decide +kernel
theorem dX12_failures_6 : decode cX12_failures 6 = .ok (.istore_n 1, 1) := by decide +kernel
theorem dX12_failures_7 : decode cX12_failures 7 = .ok (.iconst 0, 1) := by decide +kernel
theorem dX12_failures_8 : decode cX12_failures 8 = .ok (.istore_n 2, 1) := by decide +kernel
theorem dX12_failures_9 : decode cX12_failures 9 = .ok (.iload_n 2, 1) := by decide +kernel
theorem dX12_failures_10 : decode cX12_failures 10 = .ok (.aload_n 0, 1) := by decide +kernel
theorem dX12_failures_11 : decode cX12_failures 11 = .ok (.getfield 128, 3) := by decide +kernel
theorem dX12_failures_14 : decode cX12_failures 14 = .ok (.if_icmp .ge 34, 3) := by decide +kernel
theorem dX12_failures_17 : decode cX12_failures 17 = .ok (.aload_n 0, 1) := by decide +kernel
theorem dX12_failures_18 : decode cX12_failures 18 = .ok (.getfield 131, 3) := by decide +kernel
theorem dX12_failures_21 : decode cX12_failures 21 = .ok (.ifCond .eq 27, 3) := by decide +kernel
theorem dX12_failures_24 : decode cX12_failures 24 = .ok (.iload_n 1, 1) := by decide +kernel
theorem dX12_failures_25 : decode cX12_failures 25 = .ok (.aload_n 0, 1) := by decide +kernel
theorem dX12_failures_26 : decode cX12_failures 26 = .ok (.getfield 63, 3) := by decide +kernel
theorem dX12_failures_29 : decode cX12_failures 29 = .ok (.iload_n 2, 1) := by decide +kernel
theorem dX12_failures_30 : decode cX12_failures 30 = .ok (.iaload, 1) := by decide +kernel
theorem dX12_failures_31 : decode cX12_failures 31 = .ok (.iconst 2, 1) := by decide +kernel
theorem dX12_failures_32 : decode cX12_failures 32 = .ok (.if_icmp .ne 7, 3) := by decide +kernel
theorem dX12_failures_35 : decode cX12_failures 35 = .ok (.iconst 1, 1) := by decide +kernel
theorem dX12_failures_36 : decode cX12_failures 36 = .ok (.goto 4, 3) := by decide +kernel
theorem dX12_failures_39 : decode cX12_failures 39 = .ok (.iconst 0, 1) := by decide +kernel
theorem dX12_failures_40 : decode cX12_failures 40 = .ok (.iadd, 1) := by decide +kernel
theorem dX12_failures_41 : decode cX12_failures 41 = .ok (.istore_n 1, 1) := by decide +kernel
theorem dX12_failures_42 : decode cX12_failures 42 = .ok (.iinc 2 1, 3) := by decide +kernel
theorem dX12_failures_45 : decode cX12_failures 45 = .ok (.goto (-36), 3) := by decide +kernel
theorem dX12_failures_48 : decode cX12_failures 48 = .ok (.iload_n 1, 1) := by decide +kernel
theorem dX12_failures_49 : decode cX12_failures 49 = .ok (.ireturn, 1) := by decide +kernel
theorem dX12_failedAt_0 : decode cX12_failedAt 0 = .ok (.iconst 0, 1) := by decide +kernel
theorem dX12_failedAt_1 : decode cX12_failedAt 1 = .ok (.istore_n 2, 1) := by decide +kernel
theorem dX12_failedAt_2 : decode cX12_failedAt 2 = .ok (.iconst 0, 1) := by decide +kernel
theorem dX12_failedAt_3 : decode cX12_failedAt 3 = .ok (.istore_n 3, 1) := by decide +kernel
theorem dX12_failedAt_4 : decode cX12_failedAt 4 = .ok (.iload_n 3, 1) := by decide +kernel
theorem dX12_failedAt_5 : decode cX12_failedAt 5 = .ok (.aload_n 0, 1) := by decide +kernel
theorem dX12_failedAt_6 : decode cX12_failedAt 6 = .ok (.getfield 128, 3) := by decide +kernel
theorem dX12_failedAt_9 : decode cX12_failedAt 9 = .ok (.if_icmp .ge 39, 3) := by decide +kernel
theorem dX12_failedAt_12 : decode cX12_failedAt 12 = .ok (.aload_n 0, 1) := by decide +kernel
theorem dX12_failedAt_13 : decode cX12_failedAt 13 = .ok (.getfield 131, 3) := by decide +kernel
theorem dX12_failedAt_16 : decode cX12_failedAt 16 = .ok (.ifCond .eq 32, 3) := by decide +kernel
theorem dX12_failedAt_19 : decode cX12_failedAt 19 = .ok (.aload_n 0, 1) := by decide +kernel
theorem dX12_failedAt_20 : decode cX12_failedAt 20 = .ok (.getfield 63, 3) := by decide +kernel
theorem dX12_failedAt_23 : decode cX12_failedAt 23 = .ok (.iload_n 3, 1) := by decide +kernel
theorem dX12_failedAt_24 : decode cX12_failedAt 24 = .ok (.iaload, 1) := by decide +kernel
theorem dX12_failedAt_25 : decode cX12_failedAt 25 = .ok (.iconst 2, 1) := by decide +kernel
theorem dX12_failedAt_26 : decode cX12_failedAt 26 = .ok (.if_icmp .eq 6, 3) := by decide +kernel
theorem dX12_failedAt_29 : decode cX12_failedAt 29 = .ok (.goto 13, 3) := by decide +kernel
theorem dX12_failedAt_32 : decode cX12_failedAt 32 = .ok (.iload_n 2, 1) := by decide +kernel
theorem dX12_failedAt_33 : decode cX12_failedAt 33 = .ok (.iload_n 1, 1) := by decide +kernel
theorem dX12_failedAt_34 : decode cX12_failedAt 34 = .ok (.if_icmp .ne 5, 3) := by decide +kernel
theorem dX12_failedAt_37 : decode cX12_failedAt 37 = .ok (.iload_n 3, 1) := by decide +kernel
theorem dX12_failedAt_38 : decode cX12_failedAt 38 = .ok (.ireturn, 1) := by decide +kernel
theorem dX12_failedAt_39 : decode cX12_failedAt 39 = .ok (.iinc 2 1, 3) := by decide +kernel
theorem dX12_failedAt_42 : decode cX12_failedAt 42 = .ok (.iinc 3 1, 3) := by decide +kernel
theorem dX12_failedAt_45 : decode cX12_failedAt 45 = .ok (.goto (-41), 3) := by decide +kernel
theorem dX12_failedAt_48 : decode cX12_failedAt 48 = .ok (.iconst (-1), 1) := by decide +kernel
theorem dX12_failedAt_49 : decode cX12_failedAt 49 = .ok (.ireturn, 1) := by decide +kernel
theorem dX12_failure_0 : decode cX12_failure 0 = .ok (.aload_n 0, 1) := by decide +kernel
theorem dX12_failure_1 : decode cX12_failure 1 = .ok (.iload_n 1, 1) := by decide +kernel
theorem dX12_failure_2 : decode cX12_failure 2 = .ok (.invokevirtual 291, 3) := by decide +kernel
theorem dX12_failure_5 : decode cX12_failure 5 = .ok (.istore_n 3, 1) := by decide +kernel
theorem dX12_failure_6 : decode cX12_failure 6 = .ok (.aload_n 0, 1) := by decide +kernel
theorem dX12_failure_7 : decode cX12_failure 7 = .ok (.iload_n 3, 1) := by decide +kernel
theorem dX12_failure_8 : decode cX12_failure 8 = .ok (.iconst (-1), 1) := by decide +kernel
theorem dX12_failure_9 : decode cX12_failure 9 = .ok (.if_icmp .ne 7, 3) := by decide +kernel
theorem dX12_failure_12 : decode cX12_failure 12 = .ok (.iconst 1, 1) := by decide +kernel
theorem dX12_failure_13 : decode cX12_failure 13 = .ok (.goto 4, 3) := by decide +kernel
theorem dX12_failure_16 : decode cX12_failure 16 = .ok (.iconst 0, 1) := by decide +kernel
theorem dX12_failure_17 : decode cX12_failure 17 = .ok (.putfield 124, 3) := by decide +kernel
theorem dX12_failure_20 : decode cX12_failure 20 = .ok (.aload_n 0, 1) := by decide +kernel
theorem dX12_failure_21 : decode cX12_failure 21 = .ok (.getfield 124, 3) := by decide +kernel
theorem dX12_failure_24 : decode cX12_failure 24 = .ok (.ifCond .le 5, 3) := by decide +kernel
theorem dX12_failure_27 : decode cX12_failure 27 = .ok (.iconst 0, 1) := by decide +kernel
theorem dX12_failure_28 : decode cX12_failure 28 = .ok (.ireturn, 1) := by decide +kernel
theorem dX12_failure_29 : decode cX12_failure 29 = .ok (.iload_n 2, 1) := by decide +kernel
theorem dX12_failure_30 : decode cX12_failure 30 = .ok (.tableswitch 60 0 3 #[30, 32, 39, 46], 30) := by decide +kernel
theorem dX12_failure_60 : decode cX12_failure 60 = .ok (.iload_n 3, 1) := by decide +kernel
theorem dX12_failure_61 : decode cX12_failure 61 = .ok (.ireturn, 1) := by decide +kernel
theorem dX12_failure_62 : decode cX12_failure 62 = .ok (.aload_n 0, 1) := by decide +kernel
theorem dX12_failure_63 : decode cX12_failure 63 = .ok (.getfield 78, 3) := by decide +kernel
theorem dX12_failure_66 : decode cX12_failure 66 = .ok (.iload_n 3, 1) := by decide +kernel
theorem dX12_failure_67 : decode cX12_failure 67 = .ok (.iaload, 1) := by decide +kernel
theorem dX12_failure_68 : decode cX12_failure 68 = .ok (.ireturn, 1) := by decide +kernel
theorem dX12_failure_69 : decode cX12_failure 69 = .ok (.aload_n 0, 1) := by decide +kernel
theorem dX12_failure_70 : decode cX12_failure 70 = .ok (.getfield 69, 3) := by decide +kernel
theorem dX12_failure_73 : decode cX12_failure 73 = .ok (.iload_n 3, 1) := by decide +kernel
theorem dX12_failure_74 : decode cX12_failure 74 = .ok (.iaload, 1) := by decide +kernel
theorem dX12_failure_75 : decode cX12_failure 75 = .ok (.ireturn, 1) := by decide +kernel
theorem dX12_failure_76 : decode cX12_failure 76 = .ok (.iload_n 1, 1) := by decide +kernel
theorem dX12_failure_77 : decode cX12_failure 77 = .ok (.ifCond .ne 7, 3) := by decide +kernel
theorem dX12_failure_80 : decode cX12_failure 80 = .ok (.iconst (-1), 1) := by decide +kernel
theorem dX12_failure_81 : decode cX12_failure 81 = .ok (.goto 8, 3) := by decide +kernel
theorem dX12_failure_84 : decode cX12_failure 84 = .ok (.aload_n 0, 1) := by decide +kernel
theorem dX12_failure_85 : decode cX12_failure 85 = .ok (.iconst 0, 1) := by decide +kernel
theorem dX12_failure_86 : decode cX12_failure 86 = .ok (.invokevirtual 291, 3) := by decide +kernel
theorem dX12_failure_89 : decode cX12_failure 89 = .ok (.ireturn, 1) := by decide +kernel
theorem dX12_failure_90 : decode cX12_failure 90 = .ok (.iconst (-1), 1) := by decide +kernel
theorem dX12_failure_91 : decode cX12_failure 91 = .ok (.ireturn, 1) := by decide +kernel
theorem dX12_left_0 : decode cX12_left 0 = .ok (.aload_n 0, 1) := by decide +kernel
theorem dX12_left_1 : decode cX12_left 1 = .ok (.iload_n 1, 1) := by decide +kernel
theorem dX12_left_2 : decode cX12_left 2 = .ok (.invokestatic 148, 3) := by decide +kernel
theorem dX12_left_5 : decode cX12_left 5 = .ok (.ifCond .eq 7, 3) := by decide +kernel
theorem dX12_left_8 : decode cX12_left 8 = .ok (.iconst 0, 1) := by decide +kernel
theorem dX12_left_9 : decode cX12_left 9 = .ok (.goto 4, 3) := by decide +kernel
theorem dX12_left_12 : decode cX12_left 12 = .ok (.iconst 1, 1) := by decide +kernel
theorem dX12_left_13 : decode cX12_left 13 = .ok (.putfield 124, 3) := by decide +kernel
theorem dX12_left_16 : decode cX12_left 16 = .ok (.aload_n 0, 1) := by decide +kernel
theorem dX12_left_17 : decode cX12_left 17 = .ok (.getfield 124, 3) := by decide +kernel
theorem dX12_left_20 : decode cX12_left 20 = .ok (.ifCond .le 7, 3) := by decide +kernel
theorem dX12_left_23 : decode cX12_left 23 = .ok (.lconst 0, 1) := by decide +kernel
theorem dX12_left_24 : decode cX12_left 24 = .ok (.goto 26, 3) := by decide +kernel
theorem dX12_left_27 : decode cX12_left 27 = .ok (.aload_n 0, 1) := by decide +kernel
theorem dX12_left_28 : decode cX12_left 28 = .ok (.getfield 131, 3) := by decide +kernel
theorem dX12_left_31 : decode cX12_left 31 = .ok (.ifCond .eq 12, 3) := by decide +kernel
theorem dX12_left_34 : decode cX12_left 34 = .ok (.aload_n 0, 1) := by decide +kernel
theorem dX12_left_35 : decode cX12_left 35 = .ok (.getfield 90, 3) := by decide +kernel
theorem dX12_left_38 : decode cX12_left 38 = .ok (.iload_n 1, 1) := by decide +kernel
theorem dX12_left_39 : decode cX12_left 39 = .ok (.laload, 1) := by decide +kernel
theorem dX12_left_40 : decode cX12_left 40 = .ok (.goto 10, 3) := by decide +kernel
theorem dX12_left_43 : decode cX12_left 43 = .ok (.aload_n 0, 1) := by decide +kernel
theorem dX12_left_44 : decode cX12_left 44 = .ok (.getfield 13, 3) := by decide +kernel
theorem dX12_left_47 : decode cX12_left 47 = .ok (.iload_n 1, 1) := by decide +kernel
theorem dX12_left_48 : decode cX12_left 48 = .ok (.iaload, 1) := by decide +kernel
theorem dX12_left_49 : decode cX12_left 49 = .ok (.i2l, 1) := by decide +kernel
theorem dX12_left_50 : decode cX12_left 50 = .ok (.lreturn, 1) := by decide +kernel
theorem dX12_had_0 : decode cX12_had 0 = .ok (.aload_n 0, 1) := by decide +kernel
theorem dX12_had_1 : decode cX12_had 1 = .ok (.iload_n 1, 1) := by decide +kernel
theorem dX12_had_2 : decode cX12_had 2 = .ok (.ifCond .lt 11, 3) := by decide +kernel
theorem dX12_had_5 : decode cX12_had 5 = .ok (.iload_n 1, 1) := by decide +kernel
theorem dX12_had_6 : decode cX12_had 6 = .ok (.aload_n 0, 1) := by decide +kernel
theorem dX12_had_7 : decode cX12_had 7 = .ok (.getfield 145, 3) := by decide +kernel
theorem dX12_had_10 : decode cX12_had 10 = .ok (.if_icmp .lt 7, 3) := by decide +kernel
theorem dX12_had_13 : decode cX12_had 13 = .ok (.iconst 1, 1) := by decide +kernel
theorem dX12_had_14 : decode cX12_had 14 = .ok (.goto 4, 3) := by decide +kernel
theorem dX12_had_17 : decode cX12_had 17 = .ok (.iconst 0, 1) := by decide +kernel
theorem dX12_had_18 : decode cX12_had 18 = .ok (.putfield 124, 3) := by decide +kernel
theorem dX12_had_21 : decode cX12_had 21 = .ok (.aload_n 0, 1) := by decide +kernel
theorem dX12_had_22 : decode cX12_had 22 = .ok (.getfield 124, 3) := by decide +kernel
theorem dX12_had_25 : decode cX12_had 25 = .ok (.ifCond .le 7, 3) := by decide +kernel
theorem dX12_had_28 : decode cX12_had 28 = .ok (.iconst 0, 1) := by decide +kernel
theorem dX12_had_29 : decode cX12_had 29 = .ok (.goto 20, 3) := by decide +kernel
theorem dX12_had_32 : decode cX12_had 32 = .ok (.aload_n 0, 1) := by decide +kernel
theorem dX12_had_33 : decode cX12_had 33 = .ok (.getfield 131, 3) := by decide +kernel
theorem dX12_had_36 : decode cX12_had 36 = .ok (.ifCond .eq 12, 3) := by decide +kernel
theorem dX12_had_39 : decode cX12_had 39 = .ok (.aload_n 0, 1) := by decide +kernel
theorem dX12_had_40 : decode cX12_had 40 = .ok (.getfield 87, 3) := by decide +kernel
theorem dX12_had_43 : decode cX12_had 43 = .ok (.iload_n 1, 1) := by decide +kernel
theorem dX12_had_44 : decode cX12_had 44 = .ok (.iaload, 1) := by decide +kernel
theorem dX12_had_45 : decode cX12_had 45 = .ok (.goto 4, 3) := by decide +kernel
theorem dX12_had_48 : decode cX12_had 48 = .ok (.iconst (-1), 1) := by decide +kernel
theorem dX12_had_49 : decode cX12_had 49 = .ok (.ireturn, 1) := by decide +kernel
theorem dX12_idle_0 : decode cX12_idle 0 = .ok (.aload_n 0, 1) := by decide +kernel
theorem dX12_idle_1 : decode cX12_idle 1 = .ok (.iload_n 1, 1) := by decide +kernel
theorem dX12_idle_2 : decode cX12_idle 2 = .ok (.ifCond .lt 11, 3) := by decide +kernel
theorem dX12_idle_5 : decode cX12_idle 5 = .ok (.iload_n 1, 1) := by decide +kernel
theorem dX12_idle_6 : decode cX12_idle 6 = .ok (.aload_n 0, 1) := by decide +kernel
theorem dX12_idle_7 : decode cX12_idle 7 = .ok (.getfield 135, 3) := by decide +kernel
theorem dX12_idle_10 : decode cX12_idle 10 = .ok (.if_icmp .lt 7, 3) := by decide +kernel
theorem dX12_idle_13 : decode cX12_idle 13 = .ok (.iconst 1, 1) := by decide +kernel
theorem dX12_idle_14 : decode cX12_idle 14 = .ok (.goto 4, 3) := by decide +kernel
theorem dX12_idle_17 : decode cX12_idle 17 = .ok (.iconst 0, 1) := by decide +kernel
theorem dX12_idle_18 : decode cX12_idle 18 = .ok (.putfield 124, 3) := by decide +kernel
theorem dX12_idle_21 : decode cX12_idle 21 = .ok (.aload_n 0, 1) := by decide +kernel
theorem dX12_idle_22 : decode cX12_idle 22 = .ok (.getfield 124, 3) := by decide +kernel
theorem dX12_idle_25 : decode cX12_idle 25 = .ok (.ifCond .gt 10, 3) := by decide +kernel
theorem dX12_idle_28 : decode cX12_idle 28 = .ok (.aload_n 0, 1) := by decide +kernel
theorem dX12_idle_29 : decode cX12_idle 29 = .ok (.getfield 131, 3) := by decide +kernel
theorem dX12_idle_32 : decode cX12_idle 32 = .ok (.ifCond .ne 5, 3) := by decide +kernel
theorem dX12_idle_35 : decode cX12_idle 35 = .ok (.lconst 0, 1) := by decide +kernel
theorem dX12_idle_36 : decode cX12_idle 36 = .ok (.lreturn, 1) := by decide +kernel
theorem dX12_idle_37 : decode cX12_idle 37 = .ok (.iconst 0, 1) := by decide +kernel
theorem dX12_idle_38 : decode cX12_idle 38 = .ok (.istore_n 2, 1) := by decide +kernel
theorem dX12_idle_39 : decode cX12_idle 39 = .ok (.lconst 0, 1) := by decide +kernel
theorem dX12_idle_40 : decode cX12_idle 40 = .ok (.lstore_n 3, 1) := by decide +kernel
theorem dX12_idle_41 : decode cX12_idle 41 = .ok (.iconst 0, 1) := by decide +kernel
theorem dX12_idle_42 : decode cX12_idle 42 = .ok (.istore 5, 2) := by decide +kernel
theorem dX12_idle_44 : decode cX12_idle 44 = .ok (.iload 5, 2) := by decide +kernel
theorem dX12_idle_46 : decode cX12_idle 46 = .ok (.aload_n 0, 1) := by decide +kernel
theorem dX12_idle_47 : decode cX12_idle 47 = .ok (.getfield 128, 3) := by decide +kernel
theorem dX12_idle_50 : decode cX12_idle 50 = .ok (.if_icmp .ge 46, 3) := by decide +kernel
theorem dX12_idle_53 : decode cX12_idle 53 = .ok (.iload_n 2, 1) := by decide +kernel
theorem dX12_idle_54 : decode cX12_idle 54 = .ok (.aload_n 0, 1) := by decide +kernel
theorem dX12_idle_55 : decode cX12_idle 55 = .ok (.getfield 69, 3) := by decide +kernel
theorem dX12_idle_58 : decode cX12_idle 58 = .ok (.iload 5, 2) := by decide +kernel
theorem dX12_idle_60 : decode cX12_idle 60 = .ok (.iaload, 1) := by decide +kernel
theorem dX12_idle_61 : decode cX12_idle 61 = .ok (.invokestatic 157, 3) := by decide +kernel
theorem dX12_idle_64 : decode cX12_idle 64 = .ok (.istore_n 2, 1) := by decide +kernel
theorem dX12_idle_65 : decode cX12_idle 65 = .ok (.lload_n 3, 1) := by decide +kernel
theorem dX12_idle_66 : decode cX12_idle 66 = .ok (.aload_n 0, 1) := by decide +kernel
theorem dX12_idle_67 : decode cX12_idle 67 = .ok (.getfield 16, 3) := by decide +kernel
theorem dX12_idle_70 : decode cX12_idle 70 = .ok (.iload 5, 2) := by decide +kernel
theorem dX12_idle_72 : decode cX12_idle 72 = .ok (.iaload, 1) := by decide +kernel
theorem dX12_idle_73 : decode cX12_idle 73 = .ok (.iload_n 1, 1) := by decide +kernel
theorem dX12_idle_74 : decode cX12_idle 74 = .ok (.if_icmp .ne 13, 3) := by decide +kernel
theorem dX12_idle_77 : decode cX12_idle 77 = .ok (.aload_n 0, 1) := by decide +kernel
theorem dX12_idle_78 : decode cX12_idle 78 = .ok (.iload 5, 2) := by decide +kernel
theorem dX12_idle_80 : decode cX12_idle 80 = .ok (.invokevirtual 215, 3) := by decide +kernel
theorem dX12_idle_83 : decode cX12_idle 83 = .ok (.i2l, 1) := by decide +kernel
theorem dX12_idle_84 : decode cX12_idle 84 = .ok (.goto 4, 3) := by decide +kernel
theorem dX12_idle_87 : decode cX12_idle 87 = .ok (.lconst 0, 1) := by decide +kernel
theorem dX12_idle_88 : decode cX12_idle 88 = .ok (.ladd, 1) := by decide +kernel
theorem dX12_idle_89 : decode cX12_idle 89 = .ok (.lstore_n 3, 1) := by decide +kernel
theorem dX12_idle_90 : decode cX12_idle 90 = .ok (.iinc 5 1, 3) := by decide +kernel
theorem dX12_idle_93 : decode cX12_idle 93 = .ok (.goto (-49), 3) := by decide +kernel
theorem dX12_idle_96 : decode cX12_idle 96 = .ok (.aload_n 0, 1) := by decide +kernel
theorem dX12_idle_97 : decode cX12_idle 97 = .ok (.getfield 9, 3) := by decide +kernel
theorem dX12_idle_100 : decode cX12_idle 100 = .ok (.iload_n 1, 1) := by decide +kernel
theorem dX12_idle_101 : decode cX12_idle 101 = .ok (.iaload, 1) := by decide +kernel
theorem dX12_idle_102 : decode cX12_idle 102 = .ok (.i2l, 1) := by decide +kernel
theorem dX12_idle_103 : decode cX12_idle 103 = .ok (.iload_n 2, 1) := by decide +kernel
theorem dX12_idle_104 : decode cX12_idle 104 = .ok (.i2l, 1) := by decide +kernel
theorem dX12_idle_105 : decode cX12_idle 105 = .ok (.lmul, 1) := by decide +kernel
theorem dX12_idle_106 : decode cX12_idle 106 = .ok (.lload_n 3, 1) := by decide +kernel
theorem dX12_idle_107 : decode cX12_idle 107 = .ok (.lsub, 1) := by decide +kernel
theorem dX12_idle_108 : decode cX12_idle 108 = .ok (.lreturn, 1) := by decide +kernel
theorem dX12_log_0 : decode cX12_log 0 = .ok (.aload_n 0, 1) := by decide +kernel
theorem dX12_log_1 : decode cX12_log 1 = .ok (.iconst 0, 1) := by decide +kernel
theorem dX12_log_2 : decode cX12_log 2 = .ok (.putfield 124, 3) := by decide +kernel
theorem dX12_log_5 : decode cX12_log 5 = .ok (.aload_n 0, 1) := by decide +kernel
theorem dX12_log_6 : decode cX12_log 6 = .ok (.getfield 131, 3) := by decide +kernel
theorem dX12_log_9 : decode cX12_log 9 = .ok (.ifCond .eq 15, 3) := by decide +kernel
theorem dX12_log_12 : decode cX12_log 12 = .ok (.iload_n 1, 1) := by decide +kernel
theorem dX12_log_13 : decode cX12_log 13 = .ok (.ifCond .lt 11, 3) := by decide +kernel
theorem dX12_log_16 : decode cX12_log 16 = .ok (.iload_n 1, 1) := by decide +kernel
theorem dX12_log_17 : decode cX12_log 17 = .ok (.aload_n 0, 1) := by decide +kernel
theorem dX12_log_18 : decode cX12_log 18 = .ok (.getfield 199, 3) := by decide +kernel
theorem dX12_log_21 : decode cX12_log 21 = .ok (.if_icmp .lt 5, 3) := by decide +kernel
theorem dX12_log_24 : decode cX12_log 24 = .ok (.iconst (-1), 1) := by decide +kernel
theorem dX12_log_25 : decode cX12_log 25 = .ok (.ireturn, 1) := by decide +kernel
theorem dX12_log_26 : decode cX12_log 26 = .ok (.iload_n 2, 1) := by decide +kernel
theorem dX12_log_27 : decode cX12_log 27 = .ok (.ifCond .ne 12, 3) := by decide +kernel
theorem dX12_log_30 : decode cX12_log 30 = .ok (.aload_n 0, 1) := by decide +kernel
theorem dX12_log_31 : decode cX12_log 31 = .ok (.getfield 94, 3) := by decide +kernel
theorem dX12_log_34 : decode cX12_log 34 = .ok (.iload_n 1, 1) := by decide +kernel
theorem dX12_log_35 : decode cX12_log 35 = .ok (.iaload, 1) := by decide +kernel
theorem dX12_log_36 : decode cX12_log 36 = .ok (.goto 32, 3) := by decide +kernel
theorem dX12_log_39 : decode cX12_log 39 = .ok (.iload_n 2, 1) := by decide +kernel
theorem dX12_log_40 : decode cX12_log 40 = .ok (.iconst 1, 1) := by decide +kernel
theorem dX12_log_41 : decode cX12_log 41 = .ok (.if_icmp .ne 12, 3) := by decide +kernel
theorem dX12_log_44 : decode cX12_log 44 = .ok (.aload_n 0, 1) := by decide +kernel
theorem dX12_log_45 : decode cX12_log 45 = .ok (.getfield 97, 3) := by decide +kernel
theorem dX12_log_48 : decode cX12_log 48 = .ok (.iload_n 1, 1) := by decide +kernel
theorem dX12_log_49 : decode cX12_log 49 = .ok (.iaload, 1) := by decide +kernel
theorem dX12_log_50 : decode cX12_log 50 = .ok (.goto 18, 3) := by decide +kernel
theorem dX12_log_53 : decode cX12_log 53 = .ok (.iload_n 2, 1) := by decide +kernel
theorem dX12_log_54 : decode cX12_log 54 = .ok (.iconst 2, 1) := by decide +kernel
theorem dX12_log_55 : decode cX12_log 55 = .ok (.if_icmp .ne 12, 3) := by decide +kernel
theorem dX12_log_58 : decode cX12_log 58 = .ok (.aload_n 0, 1) := by decide +kernel
theorem dX12_log_59 : decode cX12_log 59 = .ok (.getfield 100, 3) := by decide +kernel
theorem dX12_log_62 : decode cX12_log 62 = .ok (.iload_n 1, 1) := by decide +kernel
theorem dX12_log_63 : decode cX12_log 63 = .ok (.iaload, 1) := by decide +kernel
theorem dX12_log_64 : decode cX12_log 64 = .ok (.goto 4, 3) := by decide +kernel
theorem dX12_log_67 : decode cX12_log 67 = .ok (.iconst (-1), 1) := by decide +kernel
theorem dX12_log_68 : decode cX12_log 68 = .ok (.ireturn, 1) := by decide +kernel
theorem dX12_lengths_0 : decode cX12_lengths 0 = .ok (.iconst 0, 1) := by decide +kernel
theorem dX12_lengths_1 : decode cX12_lengths 1 = .ok (.istore_n 1, 1) := by decide +kernel
theorem dX12_lengths_2 : decode cX12_lengths 2 = .ok (.iload_n 1, 1) := by decide +kernel
theorem dX12_lengths_3 : decode cX12_lengths 3 = .ok (.aload_n 0, 1) := by decide +kernel
theorem dX12_lengths_4 : decode cX12_lengths 4 = .ok (.getfield 128, 3) := by decide +kernel
theorem dX12_lengths_7 : decode cX12_lengths 7 = .ok (.if_icmp .ge 33, 3) := by decide +kernel
theorem dX12_lengths_10 : decode cX12_lengths 10 = .ok (.aload_n 0, 1) := by decide +kernel
theorem dX12_lengths_11 : decode cX12_lengths 11 = .ok (.getfield 118, 3) := by decide +kernel
theorem dX12_lengths_14 : decode cX12_lengths 14 = .ok (.iload_n 1, 1) := by decide +kernel
theorem dX12_lengths_15 : decode cX12_lengths 15 = .ok (.aload_n 0, 1) := by decide +kernel
theorem dX12_lengths_16 : decode cX12_lengths 16 = .ok (.getfield 19, 3) := by decide +kernel
theorem dX12_lengths_19 : decode cX12_lengths 19 = .ok (.iload_n 1, 1) := by decide +kernel
theorem dX12_lengths_20 : decode cX12_lengths 20 = .ok (.iaload, 1) := by decide +kernel
theorem dX12_lengths_21 : decode cX12_lengths 21 = .ok (.iastore, 1) := by decide +kernel
theorem dX12_lengths_22 : decode cX12_lengths 22 = .ok (.aload_n 0, 1) := by decide +kernel
theorem dX12_lengths_23 : decode cX12_lengths 23 = .ok (.getfield 121, 3) := by decide +kernel
theorem dX12_lengths_26 : decode cX12_lengths 26 = .ok (.iload_n 1, 1) := by decide +kernel
theorem dX12_lengths_27 : decode cX12_lengths 27 = .ok (.aload_n 0, 1) := by decide +kernel
theorem dX12_lengths_28 : decode cX12_lengths 28 = .ok (.getfield 19, 3) := by decide +kernel
theorem dX12_lengths_31 : decode cX12_lengths 31 = .ok (.iload_n 1, 1) := by decide +kernel
theorem dX12_lengths_32 : decode cX12_lengths 32 = .ok (.iaload, 1) := by decide +kernel
theorem dX12_lengths_33 : decode cX12_lengths 33 = .ok (.iastore, 1) := by decide +kernel
theorem dX12_lengths_34 : decode cX12_lengths 34 = .ok (.iinc 1 1, 3) := by decide +kernel
theorem dX12_lengths_37 : decode cX12_lengths 37 = .ok (.goto (-35), 3) := by decide +kernel
theorem dX12_lengths_40 : decode cX12_lengths 40 = .ok (.iconst 1, 1) := by decide +kernel
theorem dX12_lengths_41 : decode cX12_lengths 41 = .ok (.istore_n 1, 1) := by decide +kernel
theorem dX12_lengths_42 : decode cX12_lengths 42 = .ok (.iload_n 1, 1) := by decide +kernel
theorem dX12_lengths_43 : decode cX12_lengths 43 = .ok (.ifCond .eq 144, 3) := by decide +kernel
theorem dX12_lengths_46 : decode cX12_lengths 46 = .ok (.iconst 0, 1) := by decide +kernel
theorem dX12_lengths_47 : decode cX12_lengths 47 = .ok (.istore_n 1, 1) := by decide +kernel
theorem dX12_lengths_48 : decode cX12_lengths 48 = .ok (.iconst 0, 1) := by decide +kernel
theorem dX12_lengths_49 : decode cX12_lengths 49 = .ok (.istore_n 2, 1) := by decide +kernel
theorem dX12_lengths_50 : decode cX12_lengths 50 = .ok (.iload_n 2, 1) := by decide +kernel
theorem dX12_lengths_51 : decode cX12_lengths 51 = .ok (.aload_n 0, 1) := by decide +kernel
theorem dX12_lengths_52 : decode cX12_lengths 52 = .ok (.getfield 128, 3) := by decide +kernel
theorem dX12_lengths_55 : decode cX12_lengths 55 = .ok (.if_icmp .ge 129, 3) := by decide +kernel
theorem dX12_lengths_58 : decode cX12_lengths 58 = .ok (.iconst 0, 1) := by decide +kernel
theorem dX12_lengths_59 : decode cX12_lengths 59 = .ok (.istore_n 3, 1) := by decide +kernel
theorem dX12_lengths_60 : decode cX12_lengths 60 = .ok (.iload_n 3, 1) := by decide +kernel
theorem dX12_lengths_61 : decode cX12_lengths 61 = .ok (.aload_n 0, 1) := by decide +kernel
theorem dX12_lengths_62 : decode cX12_lengths 62 = .ok (.getfield 128, 3) := by decide +kernel
theorem dX12_lengths_65 : decode cX12_lengths 65 = .ok (.if_icmp .ge 113, 3) := by decide +kernel
theorem dX12_lengths_68 : decode cX12_lengths 68 = .ok (.aload_n 0, 1) := by decide +kernel
theorem dX12_lengths_69 : decode cX12_lengths 69 = .ok (.getfield 26, 3) := by decide +kernel
theorem dX12_lengths_72 : decode cX12_lengths 72 = .ok (.sipush 200, 3) := by decide +kernel
theorem dX12_lengths_75 : decode cX12_lengths 75 = .ok (.iload_n 2, 1) := by decide +kernel
theorem dX12_lengths_76 : decode cX12_lengths 76 = .ok (.imul, 1) := by decide +kernel
theorem dX12_lengths_77 : decode cX12_lengths 77 = .ok (.iload_n 3, 1) := by decide +kernel
theorem dX12_lengths_78 : decode cX12_lengths 78 = .ok (.iadd, 1) := by decide +kernel
theorem dX12_lengths_79 : decode cX12_lengths 79 = .ok (.baload, 1) := by decide +kernel
theorem dX12_lengths_80 : decode cX12_lengths 80 = .ok (.ifCond .ne 6, 3) := by decide +kernel
theorem dX12_lengths_83 : decode cX12_lengths 83 = .ok (.goto 89, 3) := by decide +kernel
theorem dX12_lengths_86 : decode cX12_lengths 86 = .ok (.aload_n 0, 1) := by decide +kernel
theorem dX12_lengths_87 : decode cX12_lengths 87 = .ok (.getfield 19, 3) := by decide +kernel
theorem dX12_lengths_90 : decode cX12_lengths 90 = .ok (.iload_n 3, 1) := by decide +kernel
theorem dX12_lengths_91 : decode cX12_lengths 91 = .ok (.iaload, 1) := by decide +kernel
theorem dX12_lengths_92 : decode cX12_lengths 92 = .ok (.aload_n 0, 1) := by decide +kernel
theorem dX12_lengths_93 : decode cX12_lengths 93 = .ok (.getfield 118, 3) := by decide +kernel
theorem dX12_lengths_96 : decode cX12_lengths 96 = .ok (.iload_n 2, 1) := by decide +kernel
theorem dX12_lengths_97 : decode cX12_lengths 97 = .ok (.iaload, 1) := by decide +kernel
theorem dX12_lengths_98 : decode cX12_lengths 98 = .ok (.iadd, 1) := by decide +kernel
theorem dX12_lengths_99 : decode cX12_lengths 99 = .ok (.aload_n 0, 1) := by decide +kernel
theorem dX12_lengths_100 : decode cX12_lengths 100 = .ok (.getfield 118, 3) := by decide +kernel
theorem dX12_lengths_103 : decode cX12_lengths 103 = .ok (.iload_n 3, 1) := by decide +kernel
theorem dX12_lengths_104 : decode cX12_lengths 104 = .ok (.iaload, 1) := by decide +kernel
theorem dX12_lengths_105 : decode cX12_lengths 105 = .ok (.if_icmp .le 24, 3) := by decide +kernel
theorem dX12_lengths_108 : decode cX12_lengths 108 = .ok (.aload_n 0, 1) := by decide +kernel
theorem dX12_lengths_109 : decode cX12_lengths 109 = .ok (.getfield 118, 3) := by decide +kernel
theorem dX12_lengths_112 : decode cX12_lengths 112 = .ok (.iload_n 3, 1) := by decide +kernel
theorem dX12_lengths_113 : decode cX12_lengths 113 = .ok (.aload_n 0, 1) := by decide +kernel
theorem dX12_lengths_114 : decode cX12_lengths 114 = .ok (.getfield 19, 3) := by decide +kernel
theorem dX12_lengths_117 : decode cX12_lengths 117 = .ok (.iload_n 3, 1) := by decide +kernel
theorem dX12_lengths_118 : decode cX12_lengths 118 = .ok (.iaload, 1) := by decide +kernel
theorem dX12_lengths_119 : decode cX12_lengths 119 = .ok (.aload_n 0, 1) := by decide +kernel
theorem dX12_lengths_120 : decode cX12_lengths 120 = .ok (.getfield 118, 3) := by decide +kernel
theorem dX12_lengths_123 : decode cX12_lengths 123 = .ok (.iload_n 2, 1) := by decide +kernel
theorem dX12_lengths_124 : decode cX12_lengths 124 = .ok (.iaload, 1) := by decide +kernel
theorem dX12_lengths_125 : decode cX12_lengths 125 = .ok (.iadd, 1) := by decide +kernel
theorem dX12_lengths_126 : decode cX12_lengths 126 = .ok (.iastore, 1) := by decide +kernel
theorem dX12_lengths_127 : decode cX12_lengths 127 = .ok (.iconst 1, 1) := by decide +kernel
theorem dX12_lengths_128 : decode cX12_lengths 128 = .ok (.istore_n 1, 1) := by decide +kernel
theorem dX12_lengths_129 : decode cX12_lengths 129 = .ok (.aload_n 0, 1) := by decide +kernel
theorem dX12_lengths_130 : decode cX12_lengths 130 = .ok (.getfield 19, 3) := by decide +kernel
theorem dX12_lengths_133 : decode cX12_lengths 133 = .ok (.iload_n 2, 1) := by decide +kernel
theorem dX12_lengths_134 : decode cX12_lengths 134 = .ok (.iaload, 1) := by decide +kernel
theorem dX12_lengths_135 : decode cX12_lengths 135 = .ok (.aload_n 0, 1) := by decide +kernel
theorem dX12_lengths_136 : decode cX12_lengths 136 = .ok (.getfield 121, 3) := by decide +kernel
theorem dX12_lengths_139 : decode cX12_lengths 139 = .ok (.iload_n 3, 1) := by decide +kernel
theorem dX12_lengths_140 : decode cX12_lengths 140 = .ok (.iaload, 1) := by decide +kernel
theorem dX12_lengths_141 : decode cX12_lengths 141 = .ok (.iadd, 1) := by decide +kernel
theorem dX12_lengths_142 : decode cX12_lengths 142 = .ok (.aload_n 0, 1) := by decide +kernel
theorem dX12_lengths_143 : decode cX12_lengths 143 = .ok (.getfield 121, 3) := by decide +kernel
theorem dX12_lengths_146 : decode cX12_lengths 146 = .ok (.iload_n 2, 1) := by decide +kernel
theorem dX12_lengths_147 : decode cX12_lengths 147 = .ok (.iaload, 1) := by decide +kernel
theorem dX12_lengths_148 : decode cX12_lengths 148 = .ok (.if_icmp .le 24, 3) := by decide +kernel
theorem dX12_lengths_151 : decode cX12_lengths 151 = .ok (.aload_n 0, 1) := by decide +kernel
theorem dX12_lengths_152 : decode cX12_lengths 152 = .ok (.getfield 121, 3) := by decide +kernel
theorem dX12_lengths_155 : decode cX12_lengths 155 = .ok (.iload_n 2, 1) := by decide +kernel
theorem dX12_lengths_156 : decode cX12_lengths 156 = .ok (.aload_n 0, 1) := by decide +kernel
theorem dX12_lengths_157 : decode cX12_lengths 157 = .ok (.getfield 19, 3) := by decide +kernel
theorem dX12_lengths_160 : decode cX12_lengths 160 = .ok (.iload_n 2, 1) := by decide +kernel
theorem dX12_lengths_161 : decode cX12_lengths 161 = .ok (.iaload, 1) := by decide +kernel
theorem dX12_lengths_162 : decode cX12_lengths 162 = .ok (.aload_n 0, 1) := by decide +kernel
theorem dX12_lengths_163 : decode cX12_lengths 163 = .ok (.getfield 121, 3) := by decide +kernel
theorem dX12_lengths_166 : decode cX12_lengths 166 = .ok (.iload_n 3, 1) := by decide +kernel
theorem dX12_lengths_167 : decode cX12_lengths 167 = .ok (.iaload, 1) := by decide +kernel
theorem dX12_lengths_168 : decode cX12_lengths 168 = .ok (.iadd, 1) := by decide +kernel
theorem dX12_lengths_169 : decode cX12_lengths 169 = .ok (.iastore, 1) := by decide +kernel
theorem dX12_lengths_170 : decode cX12_lengths 170 = .ok (.iconst 1, 1) := by decide +kernel
theorem dX12_lengths_171 : decode cX12_lengths 171 = .ok (.istore_n 1, 1) := by decide +kernel
theorem dX12_lengths_172 : decode cX12_lengths 172 = .ok (.iinc 3 1, 3) := by decide +kernel
theorem dX12_lengths_175 : decode cX12_lengths 175 = .ok (.goto (-115), 3) := by decide +kernel
theorem dX12_lengths_178 : decode cX12_lengths 178 = .ok (.iinc 2 1, 3) := by decide +kernel
theorem dX12_lengths_181 : decode cX12_lengths 181 = .ok (.goto (-131), 3) := by decide +kernel
theorem dX12_lengths_184 : decode cX12_lengths 184 = .ok (.goto (-142), 3) := by decide +kernel
theorem dX12_lengths_187 : decode cX12_lengths 187 = .ok (.iconst 0, 1) := by decide +kernel
theorem dX12_lengths_188 : decode cX12_lengths 188 = .ok (.istore_n 2, 1) := by decide +kernel
theorem dX12_lengths_189 : decode cX12_lengths 189 = .ok (.iconst 0, 1) := by decide +kernel
theorem dX12_lengths_190 : decode cX12_lengths 190 = .ok (.istore_n 3, 1) := by decide +kernel
theorem dX12_lengths_191 : decode cX12_lengths 191 = .ok (.iload_n 3, 1) := by decide +kernel
theorem dX12_lengths_192 : decode cX12_lengths 192 = .ok (.aload_n 0, 1) := by decide +kernel
theorem dX12_lengths_193 : decode cX12_lengths 193 = .ok (.getfield 128, 3) := by decide +kernel
theorem dX12_lengths_196 : decode cX12_lengths 196 = .ok (.if_icmp .ge 20, 3) := by decide +kernel
theorem dX12_lengths_199 : decode cX12_lengths 199 = .ok (.iload_n 2, 1) := by decide +kernel
theorem dX12_lengths_200 : decode cX12_lengths 200 = .ok (.aload_n 0, 1) := by decide +kernel
theorem dX12_lengths_201 : decode cX12_lengths 201 = .ok (.getfield 118, 3) := by decide +kernel
theorem dX12_lengths_204 : decode cX12_lengths 204 = .ok (.iload_n 3, 1) := by decide +kernel
theorem dX12_lengths_205 : decode cX12_lengths 205 = .ok (.iaload, 1) := by decide +kernel
theorem dX12_lengths_206 : decode cX12_lengths 206 = .ok (.invokestatic 157, 3) := by decide +kernel
theorem dX12_lengths_209 : decode cX12_lengths 209 = .ok (.istore_n 2, 1) := by decide +kernel
theorem dX12_lengths_210 : decode cX12_lengths 210 = .ok (.iinc 3 1, 3) := by decide +kernel
theorem dX12_lengths_213 : decode cX12_lengths 213 = .ok (.goto (-22), 3) := by decide +kernel
theorem dX12_lengths_216 : decode cX12_lengths 216 = .ok (.iload_n 2, 1) := by decide +kernel
theorem dX12_lengths_217 : decode cX12_lengths 217 = .ok (.ireturn, 1) := by decide +kernel
theorem dX12_nextOfChain_0 : decode cX12_nextOfChain 0 = .ok (.iconst (-1), 1) := by decide +kernel
theorem dX12_nextOfChain_1 : decode cX12_nextOfChain 1 = .ok (.istore_n 2, 1) := by decide +kernel
theorem dX12_nextOfChain_2 : decode cX12_nextOfChain 2 = .ok (.iconst 0, 1) := by decide +kernel
theorem dX12_nextOfChain_3 : decode cX12_nextOfChain 3 = .ok (.istore_n 3, 1) := by decide +kernel
theorem dX12_nextOfChain_4 : decode cX12_nextOfChain 4 = .ok (.iload_n 3, 1) := by decide +kernel
theorem dX12_nextOfChain_5 : decode cX12_nextOfChain 5 = .ok (.aload_n 0, 1) := by decide +kernel
theorem dX12_nextOfChain_6 : decode cX12_nextOfChain 6 = .ok (.getfield 128, 3) := by decide +kernel
theorem dX12_nextOfChain_9 : decode cX12_nextOfChain 9 = .ok (.if_icmp .ge 51, 3) := by decide +kernel
theorem dX12_nextOfChain_12 : decode cX12_nextOfChain 12 = .ok (.iload_n 1, 1) := by decide +kernel
theorem dX12_nextOfChain_13 : decode cX12_nextOfChain 13 = .ok (.iconst (-1), 1) := by decide +kernel
theorem dX12_nextOfChain_14 : decode cX12_nextOfChain 14 = .ok (.if_icmp .eq 18, 3) := by decide +kernel
theorem dX12_nextOfChain_17 : decode cX12_nextOfChain 17 = .ok (.aload_n 0, 1) := by decide +kernel
theorem dX12_nextOfChain_18 : decode cX12_nextOfChain 18 = .ok (.getfield 26, 3) := by decide +kernel
theorem dX12_nextOfChain_21 : decode cX12_nextOfChain 21 = .ok (.sipush 200, 3) := by decide +kernel
theorem dX12_nextOfChain_24 : decode cX12_nextOfChain 24 = .ok (.iload_n 3, 1) := by decide +kernel
theorem dX12_nextOfChain_25 : decode cX12_nextOfChain 25 = .ok (.imul, 1) := by decide +kernel
theorem dX12_nextOfChain_26 : decode cX12_nextOfChain 26 = .ok (.iload_n 1, 1) := by decide +kernel
theorem dX12_nextOfChain_27 : decode cX12_nextOfChain 27 = .ok (.iadd, 1) := by decide +kernel
theorem dX12_nextOfChain_28 : decode cX12_nextOfChain 28 = .ok (.baload, 1) := by decide +kernel
theorem dX12_nextOfChain_29 : decode cX12_nextOfChain 29 = .ok (.ifCond .eq 25, 3) := by decide +kernel
theorem dX12_nextOfChain_32 : decode cX12_nextOfChain 32 = .ok (.iload_n 2, 1) := by decide +kernel
theorem dX12_nextOfChain_33 : decode cX12_nextOfChain 33 = .ok (.iconst (-1), 1) := by decide +kernel
theorem dX12_nextOfChain_34 : decode cX12_nextOfChain 34 = .ok (.if_icmp .eq 18, 3) := by decide +kernel
theorem dX12_nextOfChain_37 : decode cX12_nextOfChain 37 = .ok (.aload_n 0, 1) := by decide +kernel
theorem dX12_nextOfChain_38 : decode cX12_nextOfChain 38 = .ok (.getfield 118, 3) := by decide +kernel
theorem dX12_nextOfChain_41 : decode cX12_nextOfChain 41 = .ok (.iload_n 3, 1) := by decide +kernel
theorem dX12_nextOfChain_42 : decode cX12_nextOfChain 42 = .ok (.iaload, 1) := by decide +kernel
theorem dX12_nextOfChain_43 : decode cX12_nextOfChain 43 = .ok (.aload_n 0, 1) := by decide +kernel
theorem dX12_nextOfChain_44 : decode cX12_nextOfChain 44 = .ok (.getfield 118, 3) := by decide +kernel
theorem dX12_nextOfChain_47 : decode cX12_nextOfChain 47 = .ok (.iload_n 2, 1) := by decide +kernel
theorem dX12_nextOfChain_48 : decode cX12_nextOfChain 48 = .ok (.iaload, 1) := by decide +kernel
theorem dX12_nextOfChain_49 : decode cX12_nextOfChain 49 = .ok (.if_icmp .le 5, 3) := by decide +kernel
theorem dX12_nextOfChain_52 : decode cX12_nextOfChain 52 = .ok (.iload_n 3, 1) := by decide +kernel
theorem dX12_nextOfChain_53 : decode cX12_nextOfChain 53 = .ok (.istore_n 2, 1) := by decide +kernel
theorem dX12_nextOfChain_54 : decode cX12_nextOfChain 54 = .ok (.iinc 3 1, 3) := by decide +kernel
theorem dX12_nextOfChain_57 : decode cX12_nextOfChain 57 = .ok (.goto (-53), 3) := by decide +kernel
theorem dX12_nextOfChain_60 : decode cX12_nextOfChain 60 = .ok (.iload_n 2, 1) := by decide +kernel
theorem dX12_nextOfChain_61 : decode cX12_nextOfChain 61 = .ok (.ireturn, 1) := by decide +kernel
theorem dX12_critical_0 : decode cX12_critical 0 = .ok (.aload_n 0, 1) := by decide +kernel
theorem dX12_critical_1 : decode cX12_critical 1 = .ok (.iconst 0, 1) := by decide +kernel
theorem dX12_critical_2 : decode cX12_critical 2 = .ok (.putfield 124, 3) := by decide +kernel
theorem dX12_critical_5 : decode cX12_critical 5 = .ok (.iload_n 1, 1) := by decide +kernel
theorem dX12_critical_6 : decode cX12_critical 6 = .ok (.ifCond .ge 5, 3) := by decide +kernel
theorem dX12_critical_9 : decode cX12_critical 9 = .ok (.iconst (-1), 1) := by decide +kernel
theorem dX12_critical_10 : decode cX12_critical 10 = .ok (.ireturn, 1) := by decide +kernel
theorem dX12_critical_11 : decode cX12_critical 11 = .ok (.aload_n 0, 1) := by decide +kernel
theorem dX12_critical_12 : decode cX12_critical 12 = .ok (.invokevirtual 294, 3) := by decide +kernel
theorem dX12_critical_15 : decode cX12_critical 15 = .ok (.pop, 1) := by decide +kernel
theorem dX12_critical_16 : decode cX12_critical 16 = .ok (.aload_n 0, 1) := by decide +kernel
theorem dX12_critical_17 : decode cX12_critical 17 = .ok (.iconst (-1), 1) := by decide +kernel
theorem dX12_critical_18 : decode cX12_critical 18 = .ok (.invokevirtual 298, 3) := by decide +kernel
theorem dX12_critical_21 : decode cX12_critical 21 = .ok (.istore_n 2, 1) := by decide +kernel
theorem dX12_critical_22 : decode cX12_critical 22 = .ok (.iconst 0, 1) := by decide +kernel
theorem dX12_critical_23 : decode cX12_critical 23 = .ok (.istore_n 3, 1) := by decide +kernel
theorem dX12_critical_24 : decode cX12_critical 24 = .ok (.iload_n 3, 1) := by decide +kernel
theorem dX12_critical_25 : decode cX12_critical 25 = .ok (.iload_n 1, 1) := by decide +kernel
theorem dX12_critical_26 : decode cX12_critical 26 = .ok (.if_icmp .ge 20, 3) := by decide +kernel
theorem dX12_critical_29 : decode cX12_critical 29 = .ok (.iload_n 2, 1) := by decide +kernel
theorem dX12_critical_30 : decode cX12_critical 30 = .ok (.iconst (-1), 1) := by decide +kernel
theorem dX12_critical_31 : decode cX12_critical 31 = .ok (.if_icmp .eq 15, 3) := by decide +kernel
theorem dX12_critical_34 : decode cX12_critical 34 = .ok (.aload_n 0, 1) := by decide +kernel
theorem dX12_critical_35 : decode cX12_critical 35 = .ok (.iload_n 2, 1) := by decide +kernel
theorem dX12_critical_36 : decode cX12_critical 36 = .ok (.invokevirtual 298, 3) := by decide +kernel
theorem dX12_critical_39 : decode cX12_critical 39 = .ok (.istore_n 2, 1) := by decide +kernel
theorem dX12_critical_40 : decode cX12_critical 40 = .ok (.iinc 3 1, 3) := by decide +kernel
theorem dX12_critical_43 : decode cX12_critical 43 = .ok (.goto (-19), 3) := by decide +kernel
theorem dX12_critical_46 : decode cX12_critical 46 = .ok (.iload_n 2, 1) := by decide +kernel
theorem dX12_critical_47 : decode cX12_critical 47 = .ok (.ireturn, 1) := by decide +kernel
theorem dX12_slack_0 : decode cX12_slack 0 = .ok (.aload_n 0, 1) := by decide +kernel
theorem dX12_slack_1 : decode cX12_slack 1 = .ok (.aload_n 0, 1) := by decide +kernel
theorem dX12_slack_2 : decode cX12_slack 2 = .ok (.iload_n 1, 1) := by decide +kernel
theorem dX12_slack_3 : decode cX12_slack 3 = .ok (.invokevirtual 154, 3) := by decide +kernel
theorem dX12_slack_6 : decode cX12_slack 6 = .ok (.ifCond .eq 7, 3) := by decide +kernel
theorem dX12_slack_9 : decode cX12_slack 9 = .ok (.iconst 0, 1) := by decide +kernel
theorem dX12_slack_10 : decode cX12_slack 10 = .ok (.goto 4, 3) := by decide +kernel
theorem dX12_slack_13 : decode cX12_slack 13 = .ok (.iconst 1, 1) := by decide +kernel
theorem dX12_slack_14 : decode cX12_slack 14 = .ok (.putfield 124, 3) := by decide +kernel
theorem dX12_slack_17 : decode cX12_slack 17 = .ok (.aload_n 0, 1) := by decide +kernel
theorem dX12_slack_18 : decode cX12_slack 18 = .ok (.getfield 124, 3) := by decide +kernel
theorem dX12_slack_21 : decode cX12_slack 21 = .ok (.ifCond .le 5, 3) := by decide +kernel
theorem dX12_slack_24 : decode cX12_slack 24 = .ok (.iconst 0, 1) := by decide +kernel
theorem dX12_slack_25 : decode cX12_slack 25 = .ok (.ireturn, 1) := by decide +kernel
theorem dX12_slack_26 : decode cX12_slack 26 = .ok (.aload_n 0, 1) := by decide +kernel
theorem dX12_slack_27 : decode cX12_slack 27 = .ok (.invokevirtual 294, 3) := by decide +kernel
theorem dX12_slack_30 : decode cX12_slack 30 = .ok (.aload_n 0, 1) := by decide +kernel
theorem dX12_slack_31 : decode cX12_slack 31 = .ok (.getfield 121, 3) := by decide +kernel
theorem dX12_slack_34 : decode cX12_slack 34 = .ok (.iload_n 1, 1) := by decide +kernel
theorem dX12_slack_35 : decode cX12_slack 35 = .ok (.iaload, 1) := by decide +kernel
theorem dX12_slack_36 : decode cX12_slack 36 = .ok (.isub, 1) := by decide +kernel
theorem dX12_slack_37 : decode cX12_slack 37 = .ok (.aload_n 0, 1) := by decide +kernel
theorem dX12_slack_38 : decode cX12_slack 38 = .ok (.getfield 118, 3) := by decide +kernel
theorem dX12_slack_41 : decode cX12_slack 41 = .ok (.iload_n 1, 1) := by decide +kernel
theorem dX12_slack_42 : decode cX12_slack 42 = .ok (.iaload, 1) := by decide +kernel
theorem dX12_slack_43 : decode cX12_slack 43 = .ok (.isub, 1) := by decide +kernel
theorem dX12_slack_44 : decode cX12_slack 44 = .ok (.aload_n 0, 1) := by decide +kernel
theorem dX12_slack_45 : decode cX12_slack 45 = .ok (.getfield 19, 3) := by decide +kernel
theorem dX12_slack_48 : decode cX12_slack 48 = .ok (.iload_n 1, 1) := by decide +kernel
theorem dX12_slack_49 : decode cX12_slack 49 = .ok (.iaload, 1) := by decide +kernel
theorem dX12_slack_50 : decode cX12_slack 50 = .ok (.iadd, 1) := by decide +kernel
theorem dX12_slack_51 : decode cX12_slack 51 = .ok (.ireturn, 1) := by decide +kernel
theorem dX12_leans_0 : decode cX12_leans 0 = .ok (.aload_n 0, 1) := by decide +kernel
theorem dX12_leans_1 : decode cX12_leans 1 = .ok (.aload_n 0, 1) := by decide +kernel
theorem dX12_leans_2 : decode cX12_leans 2 = .ok (.iload_n 1, 1) := by decide +kernel
theorem dX12_leans_3 : decode cX12_leans 3 = .ok (.invokevirtual 154, 3) := by decide +kernel
theorem dX12_leans_6 : decode cX12_leans 6 = .ok (.ifCond .eq 15, 3) := by decide +kernel
theorem dX12_leans_9 : decode cX12_leans 9 = .ok (.aload_n 0, 1) := by decide +kernel
theorem dX12_leans_10 : decode cX12_leans 10 = .ok (.iload_n 2, 1) := by decide +kernel
theorem dX12_leans_11 : decode cX12_leans 11 = .ok (.invokevirtual 154, 3) := by decide +kernel
theorem dX12_leans_14 : decode cX12_leans 14 = .ok (.ifCond .eq 7, 3) := by decide +kernel
theorem dX12_leans_17 : decode cX12_leans 17 = .ok (.iconst 0, 1) := by decide +kernel
theorem dX12_leans_18 : decode cX12_leans 18 = .ok (.goto 4, 3) := by decide +kernel
theorem dX12_leans_21 : decode cX12_leans 21 = .ok (.iconst 1, 1) := by decide +kernel
theorem dX12_leans_22 : decode cX12_leans 22 = .ok (.putfield 124, 3) := by decide +kernel
theorem dX12_leans_25 : decode cX12_leans 25 = .ok (.aload_n 0, 1) := by decide +kernel
theorem dX12_leans_26 : decode cX12_leans 26 = .ok (.getfield 124, 3) := by decide +kernel
theorem dX12_leans_29 : decode cX12_leans 29 = .ok (.ifCond .ne 22, 3) := by decide +kernel
theorem dX12_leans_32 : decode cX12_leans 32 = .ok (.aload_n 0, 1) := by decide +kernel
theorem dX12_leans_33 : decode cX12_leans 33 = .ok (.getfield 30, 3) := by decide +kernel
theorem dX12_leans_36 : decode cX12_leans 36 = .ok (.sipush 200, 3) := by decide +kernel
theorem dX12_leans_39 : decode cX12_leans 39 = .ok (.iload_n 1, 1) := by decide +kernel
theorem dX12_leans_40 : decode cX12_leans 40 = .ok (.imul, 1) := by decide +kernel
theorem dX12_leans_41 : decode cX12_leans 41 = .ok (.iload_n 2, 1) := by decide +kernel
theorem dX12_leans_42 : decode cX12_leans 42 = .ok (.iadd, 1) := by decide +kernel
theorem dX12_leans_43 : decode cX12_leans 43 = .ok (.baload, 1) := by decide +kernel
theorem dX12_leans_44 : decode cX12_leans 44 = .ok (.ifCond .eq 7, 3) := by decide +kernel
theorem dX12_leans_47 : decode cX12_leans 47 = .ok (.iconst 1, 1) := by decide +kernel
theorem dX12_leans_48 : decode cX12_leans 48 = .ok (.goto 4, 3) := by decide +kernel
theorem dX12_leans_51 : decode cX12_leans 51 = .ok (.iconst 0, 1) := by decide +kernel
theorem dX12_leans_52 : decode cX12_leans 52 = .ok (.ireturn, 1) := by decide +kernel
theorem dX12_audit_0 : decode cX12_audit 0 = .ok (.aload_n 0, 1) := by decide +kernel
theorem dX12_audit_1 : decode cX12_audit 1 = .ok (.iconst 0, 1) := by decide +kernel
theorem dX12_audit_2 : decode cX12_audit 2 = .ok (.putfield 124, 3) := by decide +kernel
theorem dX12_audit_5 : decode cX12_audit 5 = .ok (.aload_n 0, 1) := by decide +kernel
theorem dX12_audit_6 : decode cX12_audit 6 = .ok (.getfield 131, 3) := by decide +kernel
theorem dX12_audit_9 : decode cX12_audit 9 = .ok (.ifCond .eq 10, 3) := by decide +kernel
theorem dX12_audit_12 : decode cX12_audit 12 = .ok (.aload_n 0, 1) := by decide +kernel
theorem dX12_audit_13 : decode cX12_audit 13 = .ok (.getfield 205, 3) := by decide +kernel
theorem dX12_audit_16 : decode cX12_audit 16 = .ok (.goto 4, 3) := by decide +kernel
theorem dX12_audit_19 : decode cX12_audit 19 = .ok (.iconst 0, 1) := by decide +kernel
theorem dX12_audit_20 : decode cX12_audit 20 = .ok (.ireturn, 1) := by decide +kernel
theorem dX12_count_0 : decode cX12_count 0 = .ok (.aload_n 0, 1) := by decide +kernel
theorem dX12_count_1 : decode cX12_count 1 = .ok (.iconst 0, 1) := by decide +kernel
theorem dX12_count_2 : decode cX12_count 2 = .ok (.putfield 124, 3) := by decide +kernel
theorem dX12_count_5 : decode cX12_count 5 = .ok (.iconst 0, 1) := by decide +kernel
theorem dX12_count_6 : decode cX12_count 6 = .ok (.istore_n 2, 1) := by decide +kernel
theorem dX12_count_7 : decode cX12_count 7 = .ok (.iload_n 1, 1) := by decide +kernel
theorem dX12_count_8 : decode cX12_count 8 = .ok (.tableswitch 169 0 8 #[52, 57, 62, 67, 72, 88, 104, 134, 164], 52) := by decide +kernel
theorem dX12_count_60 : decode cX12_count 60 = .ok (.aload_n 0, 1) := by decide +kernel
theorem dX12_count_61 : decode cX12_count 61 = .ok (.getfield 135, 3) := by decide +kernel
theorem dX12_count_64 : decode cX12_count 64 = .ok (.ireturn, 1) := by decide +kernel
theorem dX12_count_65 : decode cX12_count 65 = .ok (.aload_n 0, 1) := by decide +kernel
theorem dX12_count_66 : decode cX12_count 66 = .ok (.getfield 138, 3) := by decide +kernel
theorem dX12_count_69 : decode cX12_count 69 = .ok (.ireturn, 1) := by decide +kernel
theorem dX12_count_70 : decode cX12_count 70 = .ok (.aload_n 0, 1) := by decide +kernel
theorem dX12_count_71 : decode cX12_count 71 = .ok (.getfield 145, 3) := by decide +kernel
theorem dX12_count_74 : decode cX12_count 74 = .ok (.ireturn, 1) := by decide +kernel
theorem dX12_count_75 : decode cX12_count 75 = .ok (.aload_n 0, 1) := by decide +kernel
theorem dX12_count_76 : decode cX12_count 76 = .ok (.getfield 128, 3) := by decide +kernel
theorem dX12_count_79 : decode cX12_count 79 = .ok (.ireturn, 1) := by decide +kernel
theorem dX12_count_80 : decode cX12_count 80 = .ok (.aload_n 0, 1) := by decide +kernel
theorem dX12_count_81 : decode cX12_count 81 = .ok (.getfield 131, 3) := by decide +kernel
theorem dX12_count_84 : decode cX12_count 84 = .ok (.ifCond .eq 10, 3) := by decide +kernel
theorem dX12_count_87 : decode cX12_count 87 = .ok (.aload_n 0, 1) := by decide +kernel
theorem dX12_count_88 : decode cX12_count 88 = .ok (.getfield 278, 3) := by decide +kernel
theorem dX12_count_91 : decode cX12_count 91 = .ok (.goto 4, 3) := by decide +kernel
theorem dX12_count_94 : decode cX12_count 94 = .ok (.iconst (-1), 1) := by decide +kernel
theorem dX12_count_95 : decode cX12_count 95 = .ok (.ireturn, 1) := by decide +kernel
theorem dX12_count_96 : decode cX12_count 96 = .ok (.aload_n 0, 1) := by decide +kernel
theorem dX12_count_97 : decode cX12_count 97 = .ok (.getfield 131, 3) := by decide +kernel
theorem dX12_count_100 : decode cX12_count 100 = .ok (.ifCond .eq 10, 3) := by decide +kernel
theorem dX12_count_103 : decode cX12_count 103 = .ok (.aload_n 0, 1) := by decide +kernel
theorem dX12_count_104 : decode cX12_count 104 = .ok (.getfield 199, 3) := by decide +kernel
theorem dX12_count_107 : decode cX12_count 107 = .ok (.goto 4, 3) := by decide +kernel
theorem dX12_count_110 : decode cX12_count 110 = .ok (.iconst 0, 1) := by decide +kernel
theorem dX12_count_111 : decode cX12_count 111 = .ok (.ireturn, 1) := by decide +kernel
theorem dX12_count_112 : decode cX12_count 112 = .ok (.aload_n 0, 1) := by decide +kernel
theorem dX12_count_113 : decode cX12_count 113 = .ok (.getfield 131, 3) := by decide +kernel
theorem dX12_count_116 : decode cX12_count 116 = .ok (.ifCond .eq 24, 3) := by decide +kernel
theorem dX12_count_119 : decode cX12_count 119 = .ok (.aload_n 0, 1) := by decide +kernel
theorem dX12_count_120 : decode cX12_count 120 = .ok (.getfield 199, 3) := by decide +kernel
theorem dX12_count_123 : decode cX12_count 123 = .ok (.ifCond .le 17, 3) := by decide +kernel
theorem dX12_count_126 : decode cX12_count 126 = .ok (.aload_n 0, 1) := by decide +kernel
theorem dX12_count_127 : decode cX12_count 127 = .ok (.getfield 94, 3) := by decide +kernel
theorem dX12_count_130 : decode cX12_count 130 = .ok (.aload_n 0, 1) := by decide +kernel
theorem dX12_count_131 : decode cX12_count 131 = .ok (.getfield 199, 3) := by decide +kernel
theorem dX12_count_134 : decode cX12_count 134 = .ok (.iconst 1, 1) := by decide +kernel
theorem dX12_count_135 : decode cX12_count 135 = .ok (.isub, 1) := by decide +kernel
theorem dX12_count_136 : decode cX12_count 136 = .ok (.iaload, 1) := by decide +kernel
theorem dX12_count_137 : decode cX12_count 137 = .ok (.goto 4, 3) := by decide +kernel
theorem dX12_count_140 : decode cX12_count 140 = .ok (.iconst 0, 1) := by decide +kernel
theorem dX12_count_141 : decode cX12_count 141 = .ok (.ireturn, 1) := by decide +kernel
theorem dX12_count_142 : decode cX12_count 142 = .ok (.aload_n 0, 1) := by decide +kernel
theorem dX12_count_143 : decode cX12_count 143 = .ok (.invokevirtual 294, 3) := by decide +kernel
theorem dX12_count_146 : decode cX12_count 146 = .ok (.pop, 1) := by decide +kernel
theorem dX12_count_147 : decode cX12_count 147 = .ok (.aload_n 0, 1) := by decide +kernel
theorem dX12_count_148 : decode cX12_count 148 = .ok (.iconst (-1), 1) := by decide +kernel
theorem dX12_count_149 : decode cX12_count 149 = .ok (.invokevirtual 298, 3) := by decide +kernel
theorem dX12_count_152 : decode cX12_count 152 = .ok (.istore_n 3, 1) := by decide +kernel
theorem dX12_count_153 : decode cX12_count 153 = .ok (.iload_n 3, 1) := by decide +kernel
theorem dX12_count_154 : decode cX12_count 154 = .ok (.iconst (-1), 1) := by decide +kernel
theorem dX12_count_155 : decode cX12_count 155 = .ok (.if_icmp .eq 15, 3) := by decide +kernel
theorem dX12_count_158 : decode cX12_count 158 = .ok (.iinc 2 1, 3) := by decide +kernel
theorem dX12_count_161 : decode cX12_count 161 = .ok (.aload_n 0, 1) := by decide +kernel
theorem dX12_count_162 : decode cX12_count 162 = .ok (.iload_n 3, 1) := by decide +kernel
theorem dX12_count_163 : decode cX12_count 163 = .ok (.invokevirtual 298, 3) := by decide +kernel
theorem dX12_count_166 : decode cX12_count 166 = .ok (.istore_n 3, 1) := by decide +kernel
theorem dX12_count_167 : decode cX12_count 167 = .ok (.goto (-14), 3) := by decide +kernel
theorem dX12_count_170 : decode cX12_count 170 = .ok (.iload_n 2, 1) := by decide +kernel
theorem dX12_count_171 : decode cX12_count 171 = .ok (.ireturn, 1) := by decide +kernel
theorem dX12_count_172 : decode cX12_count 172 = .ok (.aload_n 0, 1) := by decide +kernel
theorem dX12_count_173 : decode cX12_count 173 = .ok (.invokevirtual 294, 3) := by decide +kernel
theorem dX12_count_176 : decode cX12_count 176 = .ok (.ireturn, 1) := by decide +kernel
theorem dX12_count_177 : decode cX12_count 177 = .ok (.iconst (-1), 1) := by decide +kernel
theorem dX12_count_178 : decode cX12_count 178 = .ok (.ireturn, 1) := by decide +kernel
