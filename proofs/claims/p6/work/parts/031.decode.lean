theorem dX5_throwsNothingBack_19 : decode cX5_throwsNothingBack 19 = .ok (.lstore_n 3, 1) := by decide +kernel
theorem dX5_throwsNothingBack_20 : decode cX5_throwsNothingBack 20 = .ok (.aload_n 1, 1) := by decide +kernel
theorem dX5_throwsNothingBack_21 : decode cX5_throwsNothingBack 21 = .ok (.getfield 46, 3) := by decide +kernel
theorem dX5_throwsNothingBack_24 : decode cX5_throwsNothingBack 24 = .ok (.aload_n 2, 1) := by decide +kernel
theorem dX5_throwsNothingBack_25 : decode cX5_throwsNothingBack 25 = .ok (.getfield 46, 3) := by decide +kernel
theorem dX5_throwsNothingBack_28 : decode cX5_throwsNothingBack 28 = .ok (.lmul, 1) := by decide +kernel
theorem dX5_throwsNothingBack_29 : decode cX5_throwsNothingBack 29 = .ok (.aload_n 1, 1) := by decide +kernel
theorem dX5_throwsNothingBack_30 : decode cX5_throwsNothingBack 30 = .ok (.getfield 52, 3) := by decide +kernel
theorem dX5_throwsNothingBack_33 : decode cX5_throwsNothingBack 33 = .ok (.aload_n 2, 1) := by decide +kernel
theorem dX5_throwsNothingBack_34 : decode cX5_throwsNothingBack 34 = .ok (.getfield 49, 3) := by decide +kernel
theorem dX5_throwsNothingBack_37 : decode cX5_throwsNothingBack 37 = .ok (.lmul, 1) := by decide +kernel
theorem dX5_throwsNothingBack_38 : decode cX5_throwsNothingBack 38 = .ok (.lsub, 1) := by decide +kernel
theorem dX5_throwsNothingBack_39 : decode cX5_throwsNothingBack 39 = .ok (.lstore 5, 2) := by decide +kernel
theorem dX5_throwsNothingBack_41 : decode cX5_throwsNothingBack 41 = .ok (.aload_n 0, 1) := by decide +kernel
theorem dX5_throwsNothingBack_42 : decode cX5_throwsNothingBack 42 = .ok (.getfield 18, 3) := by decide +kernel
theorem dX5_throwsNothingBack_45 : decode cX5_throwsNothingBack 45 = .ok (.aload_n 0, 1) := by decide +kernel
theorem dX5_throwsNothingBack_46 : decode cX5_throwsNothingBack 46 = .ok (.getfield 29, 3) := by decide +kernel
theorem dX5_throwsNothingBack_49 : decode cX5_throwsNothingBack 49 = .ok (.iaload, 1) := by decide +kernel
theorem dX5_throwsNothingBack_50 : decode cX5_throwsNothingBack 50 = .ok (.aload_n 0, 1) := by decide +kernel
theorem dX5_throwsNothingBack_51 : decode cX5_throwsNothingBack 51 = .ok (.getfield 26, 3) := by decide +kernel
theorem dX5_throwsNothingBack_54 : decode cX5_throwsNothingBack 54 = .ok (.aload_n 0, 1) := by decide +kernel
theorem dX5_throwsNothingBack_55 : decode cX5_throwsNothingBack 55 = .ok (.getfield 33, 3) := by decide +kernel
theorem dX5_throwsNothingBack_58 : decode cX5_throwsNothingBack 58 = .ok (.iaload, 1) := by decide +kernel
theorem dX5_throwsNothingBack_59 : decode cX5_throwsNothingBack 59 = .ok (.imul, 1) := by decide +kernel
theorem dX5_throwsNothingBack_60 : decode cX5_throwsNothingBack 60 = .ok (.i2l, 1) := by decide +kernel
theorem dX5_throwsNothingBack_61 : decode cX5_throwsNothingBack 61 = .ok (.lload_n 3, 1) := by decide +kernel
theorem dX5_throwsNothingBack_62 : decode cX5_throwsNothingBack 62 = .ok (.lmul, 1) := by decide +kernel
theorem dX5_throwsNothingBack_63 : decode cX5_throwsNothingBack 63 = .ok (.aload_n 0, 1) := by decide +kernel
theorem dX5_throwsNothingBack_64 : decode cX5_throwsNothingBack 64 = .ok (.getfield 26, 3) := by decide +kernel
theorem dX5_throwsNothingBack_67 : decode cX5_throwsNothingBack 67 = .ok (.aload_n 0, 1) := by decide +kernel
theorem dX5_throwsNothingBack_68 : decode cX5_throwsNothingBack 68 = .ok (.getfield 29, 3) := by decide +kernel
theorem dX5_throwsNothingBack_71 : decode cX5_throwsNothingBack 71 = .ok (.iaload, 1) := by decide +kernel
theorem dX5_throwsNothingBack_72 : decode cX5_throwsNothingBack 72 = .ok (.aload_n 0, 1) := by decide +kernel
theorem dX5_throwsNothingBack_73 : decode cX5_throwsNothingBack 73 = .ok (.getfield 18, 3) := by decide +kernel
theorem dX5_throwsNothingBack_76 : decode cX5_throwsNothingBack 76 = .ok (.aload_n 0, 1) := by decide +kernel
theorem dX5_throwsNothingBack_77 : decode cX5_throwsNothingBack 77 = .ok (.getfield 33, 3) := by decide +kernel
theorem dX5_throwsNothingBack_80 : decode cX5_throwsNothingBack 80 = .ok (.iaload, 1) := by decide +kernel
theorem dX5_throwsNothingBack_81 : decode cX5_throwsNothingBack 81 = .ok (.imul, 1) := by decide +kernel
theorem dX5_throwsNothingBack_82 : decode cX5_throwsNothingBack 82 = .ok (.i2l, 1) := by decide +kernel
theorem dX5_throwsNothingBack_83 : decode cX5_throwsNothingBack 83 = .ok (.lload 5, 2) := by decide +kernel
theorem dX5_throwsNothingBack_85 : decode cX5_throwsNothingBack 85 = .ok (.lmul, 1) := by decide +kernel
theorem dX5_throwsNothingBack_86 : decode cX5_throwsNothingBack 86 = .ok (.lcmp, 1) := by decide +kernel
theorem dX5_throwsNothingBack_87 : decode cX5_throwsNothingBack 87 = .ok (.ifCond .eq 5, 3) := by decide +kernel
theorem dX5_throwsNothingBack_90 : decode cX5_throwsNothingBack 90 = .ok (.iconst 0, 1) := by decide +kernel
theorem dX5_throwsNothingBack_91 : decode cX5_throwsNothingBack 91 = .ok (.ireturn, 1) := by decide +kernel
theorem dX5_throwsNothingBack_92 : decode cX5_throwsNothingBack 92 = .ok (.aload_n 1, 1) := by decide +kernel
theorem dX5_throwsNothingBack_93 : decode cX5_throwsNothingBack 93 = .ok (.getfield 40, 3) := by decide +kernel
theorem dX5_throwsNothingBack_96 : decode cX5_throwsNothingBack 96 = .ok (.aload_n 2, 1) := by decide +kernel
theorem dX5_throwsNothingBack_97 : decode cX5_throwsNothingBack 97 = .ok (.getfield 49, 3) := by decide +kernel
theorem dX5_throwsNothingBack_100 : decode cX5_throwsNothingBack 100 = .ok (.lmul, 1) := by decide +kernel
theorem dX5_throwsNothingBack_101 : decode cX5_throwsNothingBack 101 = .ok (.aload_n 1, 1) := by decide +kernel
theorem dX5_throwsNothingBack_102 : decode cX5_throwsNothingBack 102 = .ok (.getfield 49, 3) := by decide +kernel
theorem dX5_throwsNothingBack_105 : decode cX5_throwsNothingBack 105 = .ok (.aload_n 2, 1) := by decide +kernel
theorem dX5_throwsNothingBack_106 : decode cX5_throwsNothingBack 106 = .ok (.getfield 46, 3) := by decide +kernel
theorem dX5_throwsNothingBack_109 : decode cX5_throwsNothingBack 109 = .ok (.lmul, 1) := by decide +kernel
theorem dX5_throwsNothingBack_110 : decode cX5_throwsNothingBack 110 = .ok (.ladd, 1) := by decide +kernel
theorem dX5_throwsNothingBack_111 : decode cX5_throwsNothingBack 111 = .ok (.lstore 7, 2) := by decide +kernel
theorem dX5_throwsNothingBack_113 : decode cX5_throwsNothingBack 113 = .ok (.aload_n 1, 1) := by decide +kernel
theorem dX5_throwsNothingBack_114 : decode cX5_throwsNothingBack 114 = .ok (.getfield 52, 3) := by decide +kernel
theorem dX5_throwsNothingBack_117 : decode cX5_throwsNothingBack 117 = .ok (.aload_n 2, 1) := by decide +kernel
theorem dX5_throwsNothingBack_118 : decode cX5_throwsNothingBack 118 = .ok (.getfield 40, 3) := by decide +kernel
theorem dX5_throwsNothingBack_121 : decode cX5_throwsNothingBack 121 = .ok (.lmul, 1) := by decide +kernel
theorem dX5_throwsNothingBack_122 : decode cX5_throwsNothingBack 122 = .ok (.aload_n 1, 1) := by decide +kernel
theorem dX5_throwsNothingBack_123 : decode cX5_throwsNothingBack 123 = .ok (.getfield 46, 3) := by decide +kernel
theorem dX5_throwsNothingBack_126 : decode cX5_throwsNothingBack 126 = .ok (.aload_n 2, 1) := by decide +kernel
theorem dX5_throwsNothingBack_127 : decode cX5_throwsNothingBack 127 = .ok (.getfield 52, 3) := by decide +kernel
theorem dX5_throwsNothingBack_130 : decode cX5_throwsNothingBack 130 = .ok (.lmul, 1) := by decide +kernel
theorem dX5_throwsNothingBack_131 : decode cX5_throwsNothingBack 131 = .ok (.ladd, 1) := by decide +kernel
theorem dX5_throwsNothingBack_132 : decode cX5_throwsNothingBack 132 = .ok (.lstore 9, 2) := by decide +kernel
theorem dX5_throwsNothingBack_134 : decode cX5_throwsNothingBack 134 = .ok (.aload_n 0, 1) := by decide +kernel
theorem dX5_throwsNothingBack_135 : decode cX5_throwsNothingBack 135 = .ok (.getfield 18, 3) := by decide +kernel
theorem dX5_throwsNothingBack_138 : decode cX5_throwsNothingBack 138 = .ok (.aload_n 0, 1) := by decide +kernel
theorem dX5_throwsNothingBack_139 : decode cX5_throwsNothingBack 139 = .ok (.getfield 29, 3) := by decide +kernel
theorem dX5_throwsNothingBack_142 : decode cX5_throwsNothingBack 142 = .ok (.iaload, 1) := by decide +kernel
theorem dX5_throwsNothingBack_143 : decode cX5_throwsNothingBack 143 = .ok (.aload_n 0, 1) := by decide +kernel
theorem dX5_throwsNothingBack_144 : decode cX5_throwsNothingBack 144 = .ok (.getfield 18, 3) := by decide +kernel
theorem dX5_throwsNothingBack_147 : decode cX5_throwsNothingBack 147 = .ok (.aload_n 0, 1) := by decide +kernel
theorem dX5_throwsNothingBack_148 : decode cX5_throwsNothingBack 148 = .ok (.getfield 33, 3) := by decide +kernel
theorem dX5_throwsNothingBack_151 : decode cX5_throwsNothingBack 151 = .ok (.iaload, 1) := by decide +kernel
theorem dX5_throwsNothingBack_152 : decode cX5_throwsNothingBack 152 = .ok (.imul, 1) := by decide +kernel
theorem dX5_throwsNothingBack_153 : decode cX5_throwsNothingBack 153 = .ok (.i2l, 1) := by decide +kernel
theorem dX5_throwsNothingBack_154 : decode cX5_throwsNothingBack 154 = .ok (.lload 7, 2) := by decide +kernel
theorem dX5_throwsNothingBack_156 : decode cX5_throwsNothingBack 156 = .ok (.lmul, 1) := by decide +kernel
theorem dX5_throwsNothingBack_157 : decode cX5_throwsNothingBack 157 = .ok (.aload_n 0, 1) := by decide +kernel
theorem dX5_throwsNothingBack_158 : decode cX5_throwsNothingBack 158 = .ok (.getfield 26, 3) := by decide +kernel
theorem dX5_throwsNothingBack_161 : decode cX5_throwsNothingBack 161 = .ok (.aload_n 0, 1) := by decide +kernel
theorem dX5_throwsNothingBack_162 : decode cX5_throwsNothingBack 162 = .ok (.getfield 29, 3) := by decide +kernel
theorem dX5_throwsNothingBack_165 : decode cX5_throwsNothingBack 165 = .ok (.iaload, 1) := by decide +kernel
theorem dX5_throwsNothingBack_166 : decode cX5_throwsNothingBack 166 = .ok (.aload_n 0, 1) := by decide +kernel
theorem dX5_throwsNothingBack_167 : decode cX5_throwsNothingBack 167 = .ok (.getfield 26, 3) := by decide +kernel
theorem dX5_throwsNothingBack_170 : decode cX5_throwsNothingBack 170 = .ok (.aload_n 0, 1) := by decide +kernel
theorem dX5_throwsNothingBack_171 : decode cX5_throwsNothingBack 171 = .ok (.getfield 33, 3) := by decide +kernel
theorem dX5_throwsNothingBack_174 : decode cX5_throwsNothingBack 174 = .ok (.iaload, 1) := by decide +kernel
theorem dX5_throwsNothingBack_175 : decode cX5_throwsNothingBack 175 = .ok (.imul, 1) := by decide +kernel
theorem dX5_throwsNothingBack_176 : decode cX5_throwsNothingBack 176 = .ok (.i2l, 1) := by decide +kernel
theorem dX5_throwsNothingBack_177 : decode cX5_throwsNothingBack 177 = .ok (.lload 9, 2) := by decide +kernel
theorem dX5_throwsNothingBack_179 : decode cX5_throwsNothingBack 179 = .ok (.lmul, 1) := by decide +kernel
theorem dX5_throwsNothingBack_180 : decode cX5_throwsNothingBack 180 = .ok (.lcmp, 1) := by decide +kernel
theorem dX5_throwsNothingBack_181 : decode cX5_throwsNothingBack 181 = .ok (.ifCond .ne 7, 3) := by decide +kernel
theorem dX5_throwsNothingBack_184 : decode cX5_throwsNothingBack 184 = .ok (.iconst 1, 1) := by decide +kernel
theorem dX5_throwsNothingBack_185 : decode cX5_throwsNothingBack 185 = .ok (.goto 4, 3) := by decide +kernel
theorem dX5_throwsNothingBack_188 : decode cX5_throwsNothingBack 188 = .ok (.iconst 0, 1) := by decide +kernel
theorem dX5_throwsNothingBack_189 : decode cX5_throwsNothingBack 189 = .ok (.ireturn, 1) := by decide +kernel
theorem dX5_whole_0 : decode cX5_whole 0 = .ok (.aload_n 0, 1) := by decide +kernel
theorem dX5_whole_1 : decode cX5_whole 1 = .ok (.getfield 18, 3) := by decide +kernel
theorem dX5_whole_4 : decode cX5_whole 4 = .ok (.aload_n 0, 1) := by decide +kernel
theorem dX5_whole_5 : decode cX5_whole 5 = .ok (.getfield 29, 3) := by decide +kernel
theorem dX5_whole_8 : decode cX5_whole 8 = .ok (.iaload, 1) := by decide +kernel
theorem dX5_whole_9 : decode cX5_whole 9 = .ok (.i2l, 1) := by decide +kernel
theorem dX5_whole_10 : decode cX5_whole 10 = .ok (.aload_n 0, 1) := by decide +kernel
theorem dX5_whole_11 : decode cX5_whole 11 = .ok (.getfield 26, 3) := by decide +kernel
theorem dX5_whole_14 : decode cX5_whole 14 = .ok (.aload_n 0, 1) := by decide +kernel
theorem dX5_whole_15 : decode cX5_whole 15 = .ok (.getfield 33, 3) := by decide +kernel
theorem dX5_whole_18 : decode cX5_whole 18 = .ok (.iaload, 1) := by decide +kernel
theorem dX5_whole_19 : decode cX5_whole 19 = .ok (.i2l, 1) := by decide +kernel
theorem dX5_whole_20 : decode cX5_whole 20 = .ok (.lmul, 1) := by decide +kernel
theorem dX5_whole_21 : decode cX5_whole 21 = .ok (.aload_n 1, 1) := by decide +kernel
theorem dX5_whole_22 : decode cX5_whole 22 = .ok (.getfield 40, 3) := by decide +kernel
theorem dX5_whole_25 : decode cX5_whole 25 = .ok (.lmul, 1) := by decide +kernel
theorem dX5_whole_26 : decode cX5_whole 26 = .ok (.aload_n 0, 1) := by decide +kernel
theorem dX5_whole_27 : decode cX5_whole 27 = .ok (.getfield 26, 3) := by decide +kernel
theorem dX5_whole_30 : decode cX5_whole 30 = .ok (.aload_n 0, 1) := by decide +kernel
theorem dX5_whole_31 : decode cX5_whole 31 = .ok (.getfield 29, 3) := by decide +kernel
theorem dX5_whole_34 : decode cX5_whole 34 = .ok (.iaload, 1) := by decide +kernel
theorem dX5_whole_35 : decode cX5_whole 35 = .ok (.i2l, 1) := by decide +kernel
theorem dX5_whole_36 : decode cX5_whole 36 = .ok (.aload_n 0, 1) := by decide +kernel
theorem dX5_whole_37 : decode cX5_whole 37 = .ok (.getfield 18, 3) := by decide +kernel
theorem dX5_whole_40 : decode cX5_whole 40 = .ok (.aload_n 0, 1) := by decide +kernel
theorem dX5_whole_41 : decode cX5_whole 41 = .ok (.getfield 33, 3) := by decide +kernel
theorem dX5_whole_44 : decode cX5_whole 44 = .ok (.iaload, 1) := by decide +kernel
theorem dX5_whole_45 : decode cX5_whole 45 = .ok (.i2l, 1) := by decide +kernel
theorem dX5_whole_46 : decode cX5_whole 46 = .ok (.lmul, 1) := by decide +kernel
theorem dX5_whole_47 : decode cX5_whole 47 = .ok (.aload_n 1, 1) := by decide +kernel
theorem dX5_whole_48 : decode cX5_whole 48 = .ok (.getfield 46, 3) := by decide +kernel
theorem dX5_whole_51 : decode cX5_whole 51 = .ok (.lmul, 1) := by decide +kernel
theorem dX5_whole_52 : decode cX5_whole 52 = .ok (.ladd, 1) := by decide +kernel
theorem dX5_whole_53 : decode cX5_whole 53 = .ok (.lstore_n 2, 1) := by decide +kernel
theorem dX5_whole_54 : decode cX5_whole 54 = .ok (.aload_n 0, 1) := by decide +kernel
theorem dX5_whole_55 : decode cX5_whole 55 = .ok (.getfield 18, 3) := by decide +kernel
theorem dX5_whole_58 : decode cX5_whole 58 = .ok (.aload_n 0, 1) := by decide +kernel
theorem dX5_whole_59 : decode cX5_whole 59 = .ok (.getfield 29, 3) := by decide +kernel
theorem dX5_whole_62 : decode cX5_whole 62 = .ok (.iaload, 1) := by decide +kernel
theorem dX5_whole_63 : decode cX5_whole 63 = .ok (.i2l, 1) := by decide +kernel
theorem dX5_whole_64 : decode cX5_whole 64 = .ok (.aload_n 0, 1) := by decide +kernel
theorem dX5_whole_65 : decode cX5_whole 65 = .ok (.getfield 18, 3) := by decide +kernel
theorem dX5_whole_68 : decode cX5_whole 68 = .ok (.aload_n 0, 1) := by decide +kernel
theorem dX5_whole_69 : decode cX5_whole 69 = .ok (.getfield 33, 3) := by decide +kernel
theorem dX5_whole_72 : decode cX5_whole 72 = .ok (.iaload, 1) := by decide +kernel
theorem dX5_whole_73 : decode cX5_whole 73 = .ok (.i2l, 1) := by decide +kernel
theorem dX5_whole_74 : decode cX5_whole 74 = .ok (.lmul, 1) := by decide +kernel
theorem dX5_whole_75 : decode cX5_whole 75 = .ok (.aload_n 1, 1) := by decide +kernel
theorem dX5_whole_76 : decode cX5_whole 76 = .ok (.getfield 49, 3) := by decide +kernel
theorem dX5_whole_79 : decode cX5_whole 79 = .ok (.lmul, 1) := by decide +kernel
theorem dX5_whole_80 : decode cX5_whole 80 = .ok (.aload_n 0, 1) := by decide +kernel
theorem dX5_whole_81 : decode cX5_whole 81 = .ok (.getfield 26, 3) := by decide +kernel
theorem dX5_whole_84 : decode cX5_whole 84 = .ok (.aload_n 0, 1) := by decide +kernel
theorem dX5_whole_85 : decode cX5_whole 85 = .ok (.getfield 29, 3) := by decide +kernel
theorem dX5_whole_88 : decode cX5_whole 88 = .ok (.iaload, 1) := by decide +kernel
theorem dX5_whole_89 : decode cX5_whole 89 = .ok (.i2l, 1) := by decide +kernel
theorem dX5_whole_90 : decode cX5_whole 90 = .ok (.aload_n 0, 1) := by decide +kernel
theorem dX5_whole_91 : decode cX5_whole 91 = .ok (.getfield 26, 3) := by decide +kernel
theorem dX5_whole_94 : decode cX5_whole 94 = .ok (.aload_n 0, 1) := by decide +kernel
theorem dX5_whole_95 : decode cX5_whole 95 = .ok (.getfield 33, 3) := by decide +kernel
theorem dX5_whole_98 : decode cX5_whole 98 = .ok (.iaload, 1) := by decide +kernel
theorem dX5_whole_99 : decode cX5_whole 99 = .ok (.i2l, 1) := by decide +kernel
theorem dX5_whole_100 : decode cX5_whole 100 = .ok (.lmul, 1) := by decide +kernel
theorem dX5_whole_101 : decode cX5_whole 101 = .ok (.aload_n 1, 1) := by decide +kernel
theorem dX5_whole_102 : decode cX5_whole 102 = .ok (.getfield 52, 3) := by decide +kernel
theorem dX5_whole_105 : decode cX5_whole 105 = .ok (.lmul, 1) := by decide +kernel
theorem dX5_whole_106 : decode cX5_whole 106 = .ok (.ladd, 1) := by decide +kernel
theorem dX5_whole_107 : decode cX5_whole 107 = .ok (.lstore 4, 2) := by decide +kernel
theorem dX5_whole_109 : decode cX5_whole 109 = .ok (.lload_n 2, 1) := by decide +kernel
theorem dX5_whole_110 : decode cX5_whole 110 = .ok (.lload_n 2, 1) := by decide +kernel
theorem dX5_whole_111 : decode cX5_whole 111 = .ok (.lmul, 1) := by decide +kernel
theorem dX5_whole_112 : decode cX5_whole 112 = .ok (.lload 4, 2) := by decide +kernel
theorem dX5_whole_114 : decode cX5_whole 114 = .ok (.lload 4, 2) := by decide +kernel
theorem dX5_whole_116 : decode cX5_whole 116 = .ok (.lmul, 1) := by decide +kernel
theorem dX5_whole_117 : decode cX5_whole 117 = .ok (.ladd, 1) := by decide +kernel
theorem dX5_whole_118 : decode cX5_whole 118 = .ok (.lreturn, 1) := by decide +kernel
theorem dX6_init_0 : decode cX6_init 0 = .ok (.aload_n 0, 1) := by decide +kernel
theorem dX6_init_1 : decode cX6_init 1 = .ok (.invokespecial 3, 3) := by decide +kernel
theorem dX6_init_4 : decode cX6_init 4 = .ok (.aload_n 0, 1) := by decide +kernel
theorem dX6_init_5 : decode cX6_init 5 = .ok (.sipush 168, 3) := by decide +kernel
theorem dX6_init_8 : decode cX6_init 8 = .ok (.anewarray 9, 3) := by decide +kernel
theorem dX6_init_11 : decode cX6_init 11 = .ok (.putfield 11, 3) := by decide +kernel
theorem dX6_init_14 : decode cX6_init 14 = .ok (.aload_n 0, 1) := by decide +kernel
theorem dX6_init_15 : decode cX6_init 15 = .ok (.new 17, 3) := by decide +kernel
theorem dX6_init_18 : decode cX6_init 18 = .ok (.dup, 1) := by decide +kernel
theorem dX6_init_19 : decode cX6_init 19 = .ok (.invokespecial 19, 3) := by decide +kernel
theorem dX6_init_22 : decode cX6_init 22 = .ok (.putfield 20, 3) := by decide +kernel
theorem dX6_init_25 : decode cX6_init 25 = .ok (.aload_n 0, 1) := by decide +kernel
theorem dX6_init_26 : decode cX6_init 26 = .ok (.bipush 42, 2) := by decide +kernel
theorem dX6_init_28 : decode cX6_init 28 = .ok (.newarray .int, 2) := by decide +kernel
theorem dX6_init_30 : decode cX6_init 30 = .ok (.putfield 24, 3) := by decide +kernel
theorem dX6_init_33 : decode cX6_init 33 = .ok (.aload_n 0, 1) := by decide +kernel
theorem dX6_init_34 : decode cX6_init 34 = .ok (.iconst 0, 1) := by decide +kernel
theorem dX6_init_35 : decode cX6_init 35 = .ok (.putfield 28, 3) := by decide +kernel
theorem dX6_init_38 : decode cX6_init 38 = .ok (.aload_n 0, 1) := by decide +kernel
theorem dX6_init_39 : decode cX6_init 39 = .ok (.iconst 0, 1) := by decide +kernel
theorem dX6_init_40 : decode cX6_init 40 = .ok (.putfield 32, 3) := by decide +kernel
theorem dX6_init_43 : decode cX6_init 43 = .ok (.iconst 0, 1) := by decide +kernel
theorem dX6_init_44 : decode cX6_init 44 = .ok (.istore_n 1, 1) := by decide +kernel
theorem dX6_init_45 : decode cX6_init 45 = .ok (.iload_n 1, 1) := by decide +kernel
theorem dX6_init_46 : decode cX6_init 46 = .ok (.sipush 168, 3) := by decide +kernel
theorem dX6_init_49 : decode cX6_init 49 = .ok (.if_icmp .ge 22, 3) := by decide +kernel
theorem dX6_init_52 : decode cX6_init 52 = .ok (.aload_n 0, 1) := by decide +kernel
theorem dX6_init_53 : decode cX6_init 53 = .ok (.getfield 11, 3) := by decide +kernel
theorem dX6_init_56 : decode cX6_init 56 = .ok (.iload_n 1, 1) := by decide +kernel
theorem dX6_init_57 : decode cX6_init 57 = .ok (.new 9, 3) := by decide +kernel
theorem dX6_init_60 : decode cX6_init 60 = .ok (.dup, 1) := by decide +kernel
theorem dX6_init_61 : decode cX6_init 61 = .ok (.invokespecial 35, 3) := by decide +kernel
theorem dX6_init_64 : decode cX6_init 64 = .ok (.aastore, 1) := by decide +kernel
theorem dX6_init_65 : decode cX6_init 65 = .ok (.iinc 1 1, 3) := by decide +kernel
theorem dX6_init_68 : decode cX6_init 68 = .ok (.goto (-23), 3) := by decide +kernel
theorem dX6_init_71 : decode cX6_init 71 = .ok (.return_, 1) := by decide +kernel
theorem dX6_prepare_0 : decode cX6_prepare 0 = .ok (.aload_n 0, 1) := by decide +kernel
theorem dX6_prepare_1 : decode cX6_prepare 1 = .ok (.iload_n 2, 1) := by decide +kernel
theorem dX6_prepare_2 : decode cX6_prepare 2 = .ok (.bipush 15, 2) := by decide +kernel
theorem dX6_prepare_4 : decode cX6_prepare 4 = .ok (.iand, 1) := by decide +kernel
theorem dX6_prepare_5 : decode cX6_prepare 5 = .ok (.putfield 32, 3) := by decide +kernel
theorem dX6_prepare_8 : decode cX6_prepare 8 = .ok (.aload_n 0, 1) := by decide +kernel
theorem dX6_prepare_9 : decode cX6_prepare 9 = .ok (.iconst 0, 1) := by decide +kernel
theorem dX6_prepare_10 : decode cX6_prepare 10 = .ok (.putfield 28, 3) := by decide +kernel
theorem dX6_prepare_13 : decode cX6_prepare 13 = .ok (.iconst 0, 1) := by decide +kernel
theorem dX6_prepare_14 : decode cX6_prepare 14 = .ok (.istore 5, 2) := by decide +kernel
theorem dX6_prepare_16 : decode cX6_prepare 16 = .ok (.iload 5, 2) := by decide +kernel
theorem dX6_prepare_18 : decode cX6_prepare 18 = .ok (.bipush 42, 2) := by decide +kernel
theorem dX6_prepare_20 : decode cX6_prepare 20 = .ok (.if_icmp .ge 70, 3) := by decide +kernel
theorem dX6_prepare_23 : decode cX6_prepare 23 = .ok (.iload 5, 2) := by decide +kernel
theorem dX6_prepare_25 : decode cX6_prepare 25 = .ok (.bipush 7, 2) := by decide +kernel
theorem dX6_prepare_27 : decode cX6_prepare 27 = .ok (.idiv, 1) := by decide +kernel
theorem dX6_prepare_28 : decode cX6_prepare 28 = .ok (.istore 6, 2) := by decide +kernel
theorem dX6_prepare_30 : decode cX6_prepare 30 = .ok (.iload 5, 2) := by decide +kernel
theorem dX6_prepare_32 : decode cX6_prepare 32 = .ok (.bipush 7, 2) := by decide +kernel
theorem dX6_prepare_34 : decode cX6_prepare 34 = .ok (.irem, 1) := by decide +kernel
theorem dX6_prepare_35 : decode cX6_prepare 35 = .ok (.istore 7, 2) := by decide +kernel
theorem dX6_prepare_37 : decode cX6_prepare 37 = .ok (.iload_n 3, 1) := by decide +kernel
theorem dX6_prepare_38 : decode cX6_prepare 38 = .ok (.iload 6, 2) := by decide +kernel
theorem dX6_prepare_40 : decode cX6_prepare 40 = .ok (.invokestatic 36, 3) := by decide +kernel
theorem dX6_prepare_43 : decode cX6_prepare 43 = .ok (.ifCond .eq 41, 3) := by decide +kernel
theorem dX6_prepare_46 : decode cX6_prepare 46 = .ok (.iload 4, 2) := by decide +kernel
theorem dX6_prepare_48 : decode cX6_prepare 48 = .ok (.iload 7, 2) := by decide +kernel
theorem dX6_prepare_50 : decode cX6_prepare 50 = .ok (.invokestatic 36, 3) := by decide +kernel
theorem dX6_prepare_53 : decode cX6_prepare 53 = .ok (.ifCond .eq 31, 3) := by decide +kernel
theorem dX6_prepare_56 : decode cX6_prepare 56 = .ok (.aload_n 0, 1) := by decide +kernel
theorem dX6_prepare_57 : decode cX6_prepare 57 = .ok (.getfield 24, 3) := by decide +kernel
theorem dX6_prepare_60 : decode cX6_prepare 60 = .ok (.aload_n 0, 1) := by decide +kernel
theorem dX6_prepare_61 : decode cX6_prepare 61 = .ok (.getfield 28, 3) := by decide +kernel
theorem dX6_prepare_64 : decode cX6_prepare 64 = .ok (.iload 5, 2) := by decide +kernel
theorem dX6_prepare_66 : decode cX6_prepare 66 = .ok (.iastore, 1) := by decide +kernel
theorem dX6_prepare_67 : decode cX6_prepare 67 = .ok (.aload_n 0, 1) := by decide +kernel
theorem dX6_prepare_68 : decode cX6_prepare 68 = .ok (.dup, 1) := by decide +kernel
theorem dX6_prepare_69 : decode cX6_prepare 69 = .ok (.getfield 28, 3) := by decide +kernel
theorem dX6_prepare_72 : decode cX6_prepare 72 = .ok (.iconst 1, 1) := by decide +kernel
theorem dX6_prepare_73 : decode cX6_prepare 73 = .ok (.iadd, 1) := by decide +kernel
theorem dX6_prepare_74 : decode cX6_prepare 74 = .ok (.putfield 28, 3) := by decide +kernel
theorem dX6_prepare_77 : decode cX6_prepare 77 = .ok (.aload_n 0, 1) := by decide +kernel
theorem dX6_prepare_78 : decode cX6_prepare 78 = .ok (.aload_n 1, 1) := by decide +kernel
theorem dX6_prepare_79 : decode cX6_prepare 79 = .ok (.iload 5, 2) := by decide +kernel
theorem dX6_prepare_81 : decode cX6_prepare 81 = .ok (.invokevirtual 40, 3) := by decide +kernel
theorem dX6_prepare_84 : decode cX6_prepare 84 = .ok (.iinc 5 1, 3) := by decide +kernel
theorem dX6_prepare_87 : decode cX6_prepare 87 = .ok (.goto (-71), 3) := by decide +kernel
theorem dX6_prepare_90 : decode cX6_prepare 90 = .ok (.return_, 1) := by decide +kernel
theorem dX6_fill_0 : decode cX6_fill 0 = .ok (.iload_n 2, 1) := by decide +kernel
theorem dX6_fill_1 : decode cX6_fill 1 = .ok (.bipush 7, 2) := by decide +kernel
theorem dX6_fill_3 : decode cX6_fill 3 = .ok (.irem, 1) := by decide +kernel
theorem dX6_fill_4 : decode cX6_fill 4 = .ok (.istore_n 3, 1) := by decide +kernel
theorem dX6_fill_5 : decode cX6_fill 5 = .ok (.iconst 0, 1) := by decide +kernel
theorem dX6_fill_6 : decode cX6_fill 6 = .ok (.istore 4, 2) := by decide +kernel
theorem dX6_fill_8 : decode cX6_fill 8 = .ok (.iload 4, 2) := by decide +kernel
theorem dX6_fill_10 : decode cX6_fill 10 = .ok (.iconst 4, 1) := by decide +kernel
theorem dX6_fill_11 : decode cX6_fill 11 = .ok (.if_icmp .ge 70, 3) := by decide +kernel
theorem dX6_fill_14 : decode cX6_fill 14 = .ok (.aload_n 0, 1) := by decide +kernel
theorem dX6_fill_15 : decode cX6_fill 15 = .ok (.getfield 32, 3) := by decide +kernel
theorem dX6_fill_18 : decode cX6_fill 18 = .ok (.iload 4, 2) := by decide +kernel
theorem dX6_fill_20 : decode cX6_fill 20 = .ok (.invokestatic 36, 3) := by decide +kernel
theorem dX6_fill_23 : decode cX6_fill 23 = .ok (.ifCond .eq 52, 3) := by decide +kernel
theorem dX6_fill_26 : decode cX6_fill 26 = .ok (.aload_n 0, 1) := by decide +kernel
theorem dX6_fill_27 : decode cX6_fill 27 = .ok (.getfield 20, 3) := by decide +kernel
theorem dX6_fill_30 : decode cX6_fill 30 = .ok (.getstatic 44, 3) := by decide +kernel
theorem dX6_fill_33 : decode cX6_fill 33 = .ok (.iload_n 3, 1) := by decide +kernel
theorem dX6_fill_34 : decode cX6_fill 34 = .ok (.iaload, 1) := by decide +kernel
theorem dX6_fill_35 : decode cX6_fill 35 = .ok (.i2l, 1) := by decide +kernel
theorem dX6_fill_36 : decode cX6_fill 36 = .ok (.getstatic 47, 3) := by decide +kernel
theorem dX6_fill_39 : decode cX6_fill 39 = .ok (.iload_n 3, 1) := by decide +kernel
theorem dX6_fill_40 : decode cX6_fill 40 = .ok (.iaload, 1) := by decide +kernel
theorem dX6_fill_41 : decode cX6_fill 41 = .ok (.i2l, 1) := by decide +kernel
theorem dX6_fill_42 : decode cX6_fill 42 = .ok (.invokevirtual 50, 3) := by decide +kernel
theorem dX6_fill_45 : decode cX6_fill 45 = .ok (.aload_n 0, 1) := by decide +kernel
theorem dX6_fill_46 : decode cX6_fill 46 = .ok (.getfield 20, 3) := by decide +kernel
theorem dX6_fill_49 : decode cX6_fill 49 = .ok (.iload 4, 2) := by decide +kernel
theorem dX6_fill_51 : decode cX6_fill 51 = .ok (.iconst 1, 1) := by decide +kernel
theorem dX6_fill_52 : decode cX6_fill 52 = .ok (.iadd, 1) := by decide +kernel
theorem dX6_fill_53 : decode cX6_fill 53 = .ok (.invokevirtual 54, 3) := by decide +kernel
theorem dX6_fill_56 : decode cX6_fill 56 = .ok (.aload_n 0, 1) := by decide +kernel
theorem dX6_fill_57 : decode cX6_fill 57 = .ok (.iload 4, 2) := by decide +kernel
theorem dX6_fill_59 : decode cX6_fill 59 = .ok (.iload_n 2, 1) := by decide +kernel
theorem dX6_fill_60 : decode cX6_fill 60 = .ok (.invokevirtual 58, 3) := by decide +kernel
theorem dX6_fill_63 : decode cX6_fill 63 = .ok (.aload_n 1, 1) := by decide +kernel
theorem dX6_fill_64 : decode cX6_fill 64 = .ok (.iload_n 2, 1) := by decide +kernel
theorem dX6_fill_65 : decode cX6_fill 65 = .ok (.bipush 7, 2) := by decide +kernel
theorem dX6_fill_67 : decode cX6_fill 67 = .ok (.idiv, 1) := by decide +kernel
theorem dX6_fill_68 : decode cX6_fill 68 = .ok (.aload_n 0, 1) := by decide +kernel
theorem dX6_fill_69 : decode cX6_fill 69 = .ok (.getfield 20, 3) := by decide +kernel
theorem dX6_fill_72 : decode cX6_fill 72 = .ok (.invokevirtual 62, 3) := by decide +kernel
theorem dX6_fill_75 : decode cX6_fill 75 = .ok (.iinc 4 1, 3) := by decide +kernel
theorem dX6_fill_78 : decode cX6_fill 78 = .ok (.goto (-70), 3) := by decide +kernel
theorem dX6_fill_81 : decode cX6_fill 81 = .ok (.return_, 1) := by decide +kernel
theorem dX6_matrixOf_0 : decode cX6_matrixOf 0 = .ok (.aload_n 0, 1) := by decide +kernel
theorem dX6_matrixOf_1 : decode cX6_matrixOf 1 = .ok (.getfield 11, 3) := by decide +kernel
theorem dX6_matrixOf_4 : decode cX6_matrixOf 4 = .ok (.iload_n 1, 1) := by decide +kernel
theorem dX6_matrixOf_5 : decode cX6_matrixOf 5 = .ok (.bipush 42, 2) := by decide +kernel
theorem dX6_matrixOf_7 : decode cX6_matrixOf 7 = .ok (.imul, 1) := by decide +kernel
theorem dX6_matrixOf_8 : decode cX6_matrixOf 8 = .ok (.iload_n 2, 1) := by decide +kernel
theorem dX6_matrixOf_9 : decode cX6_matrixOf 9 = .ok (.iadd, 1) := by decide +kernel
theorem dX6_matrixOf_10 : decode cX6_matrixOf 10 = .ok (.aaload, 1) := by decide +kernel
theorem dX6_matrixOf_11 : decode cX6_matrixOf 11 = .ok (.areturn, 1) := by decide +kernel
theorem dX7_init_0 : decode cX7_init 0 = .ok (.aload_n 0, 1) := by decide +kernel
theorem dX7_init_1 : decode cX7_init 1 = .ok (.invokespecial 3, 3) := by decide +kernel
theorem dX7_init_4 : decode cX7_init 4 = .ok (.aload_n 0, 1) := by decide +kernel
theorem dX7_init_5 : decode cX7_init 5 = .ok (.bipush 16, 2) := by decide +kernel
theorem dX7_init_7 : decode cX7_init 7 = .ok (.anewarray 9, 3) := by decide +kernel
theorem dX7_init_10 : decode cX7_init 10 = .ok (.putfield 11, 3) := by decide +kernel
theorem dX7_init_13 : decode cX7_init 13 = .ok (.aload_n 0, 1) := by decide +kernel
theorem dX7_init_14 : decode cX7_init 14 = .ok (.iconst 3, 1) := by decide +kernel
theorem dX7_init_15 : decode cX7_init 15 = .ok (.newarray .int, 2) := by decide +kernel
theorem dX7_init_17 : decode cX7_init 17 = .ok (.putfield 17, 3) := by decide +kernel
theorem dX7_init_20 : decode cX7_init 20 = .ok (.iconst 0, 1) := by decide +kernel
theorem dX7_init_21 : decode cX7_init 21 = .ok (.istore_n 1, 1) := by decide +kernel
theorem dX7_init_22 : decode cX7_init 22 = .ok (.iload_n 1, 1) := by decide +kernel
theorem dX7_init_23 : decode cX7_init 23 = .ok (.aload_n 0, 1) := by decide +kernel
theorem dX7_init_24 : decode cX7_init 24 = .ok (.getfield 11, 3) := by decide +kernel
theorem dX7_init_27 : decode cX7_init 27 = .ok (.arraylength, 1) := by decide +kernel
theorem dX7_init_28 : decode cX7_init 28 = .ok (.if_icmp .ge 22, 3) := by decide +kernel
theorem dX7_init_31 : decode cX7_init 31 = .ok (.aload_n 0, 1) := by decide +kernel
theorem dX7_init_32 : decode cX7_init 32 = .ok (.getfield 11, 3) := by decide +kernel
theorem dX7_init_35 : decode cX7_init 35 = .ok (.iload_n 1, 1) := by decide +kernel
theorem dX7_init_36 : decode cX7_init 36 = .ok (.new 9, 3) := by decide +kernel
theorem dX7_init_39 : decode cX7_init 39 = .ok (.dup, 1) := by decide +kernel
theorem dX7_init_40 : decode cX7_init 40 = .ok (.invokespecial 21, 3) := by decide +kernel
theorem dX7_init_43 : decode cX7_init 43 = .ok (.aastore, 1) := by decide +kernel
theorem dX7_init_44 : decode cX7_init 44 = .ok (.iinc 1 1, 3) := by decide +kernel
theorem dX7_init_47 : decode cX7_init 47 = .ok (.goto (-25), 3) := by decide +kernel
theorem dX7_init_50 : decode cX7_init 50 = .ok (.return_, 1) := by decide +kernel
theorem dX7_seek_0 : decode cX7_seek 0 = .ok (.iconst 0, 1) := by decide +kernel
theorem dX7_seek_1 : decode cX7_seek 1 = .ok (.istore 6, 2) := by decide +kernel
theorem dX7_seek_3 : decode cX7_seek 3 = .ok (.iload_n 3, 1) := by decide +kernel
theorem dX7_seek_4 : decode cX7_seek 4 = .ok (.iload 4, 2) := by decide +kernel
theorem dX7_seek_6 : decode cX7_seek 6 = .ok (.if_icmp .ge 8, 3) := by decide +kernel
theorem dX7_seek_9 : decode cX7_seek 9 = .ok (.iload_n 3, 1) := by decide +kernel
theorem dX7_seek_10 : decode cX7_seek 10 = .ok (.iconst 3, 1) := by decide +kernel
theorem dX7_seek_11 : decode cX7_seek 11 = .ok (.if_icmp .lt 6, 3) := by decide +kernel
theorem dX7_seek_14 : decode cX7_seek 14 = .ok (.iload 6, 2) := by decide +kernel
theorem dX7_seek_16 : decode cX7_seek 16 = .ok (.ireturn, 1) := by decide +kernel
theorem dX7_seek_17 : decode cX7_seek 17 = .ok (.iconst 0, 1) := by decide +kernel
theorem dX7_seek_18 : decode cX7_seek 18 = .ok (.istore 7, 2) := by decide +kernel
theorem dX7_seek_20 : decode cX7_seek 20 = .ok (.iload 7, 2) := by decide +kernel
theorem dX7_seek_22 : decode cX7_seek 22 = .ok (.aload_n 1, 1) := by decide +kernel
theorem dX7_seek_23 : decode cX7_seek 23 = .ok (.getfield 22, 3) := by decide +kernel
theorem dX7_seek_26 : decode cX7_seek 26 = .ok (.if_icmp .ge 127, 3) := by decide +kernel
theorem dX7_seek_29 : decode cX7_seek 29 = .ok (.aload_n 1, 1) := by decide +kernel
theorem dX7_seek_30 : decode cX7_seek 30 = .ok (.getfield 28, 3) := by decide +kernel
theorem dX7_seek_33 : decode cX7_seek 33 = .ok (.iload 7, 2) := by decide +kernel
theorem dX7_seek_35 : decode cX7_seek 35 = .ok (.iaload, 1) := by decide +kernel
theorem dX7_seek_36 : decode cX7_seek 36 = .ok (.istore 8, 2) := by decide +kernel
theorem dX7_seek_38 : decode cX7_seek 38 = .ok (.iload_n 3, 1) := by decide +kernel
theorem dX7_seek_39 : decode cX7_seek 39 = .ok (.ifCond .le 25, 3) := by decide +kernel
theorem dX7_seek_42 : decode cX7_seek 42 = .ok (.iload 8, 2) := by decide +kernel
theorem dX7_seek_44 : decode cX7_seek 44 = .ok (.bipush 7, 2) := by decide +kernel
theorem dX7_seek_46 : decode cX7_seek 46 = .ok (.idiv, 1) := by decide +kernel
theorem dX7_seek_47 : decode cX7_seek 47 = .ok (.aload_n 0, 1) := by decide +kernel
theorem dX7_seek_48 : decode cX7_seek 48 = .ok (.getfield 17, 3) := by decide +kernel
theorem dX7_seek_51 : decode cX7_seek 51 = .ok (.iload_n 3, 1) := by decide +kernel
theorem dX7_seek_52 : decode cX7_seek 52 = .ok (.iconst 1, 1) := by decide +kernel
theorem dX7_seek_53 : decode cX7_seek 53 = .ok (.isub, 1) := by decide +kernel
theorem dX7_seek_54 : decode cX7_seek 54 = .ok (.iaload, 1) := by decide +kernel
theorem dX7_seek_55 : decode cX7_seek 55 = .ok (.bipush 7, 2) := by decide +kernel
theorem dX7_seek_57 : decode cX7_seek 57 = .ok (.idiv, 1) := by decide +kernel
theorem dX7_seek_58 : decode cX7_seek 58 = .ok (.if_icmp .ne 6, 3) := by decide +kernel
theorem dX7_seek_61 : decode cX7_seek 61 = .ok (.goto 86, 3) := by decide +kernel
theorem dX7_seek_64 : decode cX7_seek 64 = .ok (.aload_n 0, 1) := by decide +kernel
theorem dX7_seek_65 : decode cX7_seek 65 = .ok (.getfield 17, 3) := by decide +kernel
theorem dX7_seek_68 : decode cX7_seek 68 = .ok (.iload_n 3, 1) := by decide +kernel
theorem dX7_seek_69 : decode cX7_seek 69 = .ok (.iload 8, 2) := by decide +kernel
theorem dX7_seek_71 : decode cX7_seek 71 = .ok (.iastore, 1) := by decide +kernel
theorem dX7_seek_72 : decode cX7_seek 72 = .ok (.iload_n 3, 1) := by decide +kernel
theorem dX7_seek_73 : decode cX7_seek 73 = .ok (.iconst 1, 1) := by decide +kernel
theorem dX7_seek_74 : decode cX7_seek 74 = .ok (.iadd, 1) := by decide +kernel
theorem dX7_seek_75 : decode cX7_seek 75 = .ok (.iload 4, 2) := by decide +kernel
theorem dX7_seek_77 : decode cX7_seek 77 = .ok (.if_icmp .ne 28, 3) := by decide +kernel
theorem dX7_seek_80 : decode cX7_seek 80 = .ok (.iload 6, 2) := by decide +kernel
theorem dX7_seek_82 : decode cX7_seek 82 = .ok (.aload_n 0, 1) := by decide +kernel
theorem dX7_seek_83 : decode cX7_seek 83 = .ok (.aload_n 1, 1) := by decide +kernel
theorem dX7_seek_84 : decode cX7_seek 84 = .ok (.aload_n 2, 1) := by decide +kernel
theorem dX7_seek_85 : decode cX7_seek 85 = .ok (.iload_n 3, 1) := by decide +kernel
theorem dX7_seek_86 : decode cX7_seek 86 = .ok (.iload 8, 2) := by decide +kernel
theorem dX7_seek_88 : decode cX7_seek 88 = .ok (.invokevirtual 31, 3) := by decide +kernel
theorem dX7_seek_91 : decode cX7_seek 91 = .ok (.ifCond .eq 7, 3) := by decide +kernel
theorem dX7_seek_94 : decode cX7_seek 94 = .ok (.iconst 1, 1) := by decide +kernel
theorem dX7_seek_95 : decode cX7_seek 95 = .ok (.goto 4, 3) := by decide +kernel
theorem dX7_seek_98 : decode cX7_seek 98 = .ok (.iconst 0, 1) := by decide +kernel
theorem dX7_seek_99 : decode cX7_seek 99 = .ok (.iadd, 1) := by decide +kernel
theorem dX7_seek_100 : decode cX7_seek 100 = .ok (.istore 6, 2) := by decide +kernel
theorem dX7_seek_102 : decode cX7_seek 102 = .ok (.goto 32, 3) := by decide +kernel
theorem dX7_seek_105 : decode cX7_seek 105 = .ok (.aload_n 0, 1) := by decide +kernel
theorem dX7_seek_106 : decode cX7_seek 106 = .ok (.aload_n 1, 1) := by decide +kernel
theorem dX7_seek_107 : decode cX7_seek 107 = .ok (.iload_n 3, 1) := by decide +kernel
theorem dX7_seek_108 : decode cX7_seek 108 = .ok (.iload 8, 2) := by decide +kernel
theorem dX7_seek_110 : decode cX7_seek 110 = .ok (.invokevirtual 35, 3) := by decide +kernel
theorem dX7_seek_113 : decode cX7_seek 113 = .ok (.ifCond .eq 21, 3) := by decide +kernel
theorem dX7_seek_116 : decode cX7_seek 116 = .ok (.iload 6, 2) := by decide +kernel
theorem dX7_seek_118 : decode cX7_seek 118 = .ok (.aload_n 0, 1) := by decide +kernel
theorem dX7_seek_119 : decode cX7_seek 119 = .ok (.aload_n 1, 1) := by decide +kernel
theorem dX7_seek_120 : decode cX7_seek 120 = .ok (.aload_n 2, 1) := by decide +kernel
theorem dX7_seek_121 : decode cX7_seek 121 = .ok (.iload_n 3, 1) := by decide +kernel
theorem dX7_seek_122 : decode cX7_seek 122 = .ok (.iconst 1, 1) := by decide +kernel
theorem dX7_seek_123 : decode cX7_seek 123 = .ok (.iadd, 1) := by decide +kernel
theorem dX7_seek_124 : decode cX7_seek 124 = .ok (.iload 4, 2) := by decide +kernel
theorem dX7_seek_126 : decode cX7_seek 126 = .ok (.iload 5, 2) := by decide +kernel
theorem dX7_seek_128 : decode cX7_seek 128 = .ok (.invokevirtual 39, 3) := by decide +kernel
theorem dX7_seek_131 : decode cX7_seek 131 = .ok (.iadd, 1) := by decide +kernel
theorem dX7_seek_132 : decode cX7_seek 132 = .ok (.istore 6, 2) := by decide +kernel
theorem dX7_seek_134 : decode cX7_seek 134 = .ok (.iload 5, 2) := by decide +kernel
theorem dX7_seek_136 : decode cX7_seek 136 = .ok (.ifCond .eq 11, 3) := by decide +kernel
theorem dX7_seek_139 : decode cX7_seek 139 = .ok (.iload 6, 2) := by decide +kernel
theorem dX7_seek_141 : decode cX7_seek 141 = .ok (.ifCond .le 6, 3) := by decide +kernel
theorem dX7_seek_144 : decode cX7_seek 144 = .ok (.iload 6, 2) := by decide +kernel
theorem dX7_seek_146 : decode cX7_seek 146 = .ok (.ireturn, 1) := by decide +kernel
theorem dX7_seek_147 : decode cX7_seek 147 = .ok (.iinc 7 1, 3) := by decide +kernel
theorem dX7_seek_150 : decode cX7_seek 150 = .ok (.goto (-130), 3) := by decide +kernel
theorem dX7_seek_153 : decode cX7_seek 153 = .ok (.iload 6, 2) := by decide +kernel
theorem dX7_seek_155 : decode cX7_seek 155 = .ok (.ireturn, 1) := by decide +kernel
theorem dX7_holds_0 : decode cX7_holds 0 = .ok (.iconst 0, 1) := by decide +kernel
theorem dX7_holds_1 : decode cX7_holds 1 = .ok (.istore 5, 2) := by decide +kernel
theorem dX7_holds_3 : decode cX7_holds 3 = .ok (.iload 5, 2) := by decide +kernel
theorem dX7_holds_5 : decode cX7_holds 5 = .ok (.iconst 4, 1) := by decide +kernel
theorem dX7_holds_6 : decode cX7_holds 6 = .ok (.if_icmp .ge 45, 3) := by decide +kernel
theorem dX7_holds_9 : decode cX7_holds 9 = .ok (.aload_n 1, 1) := by decide +kernel
theorem dX7_holds_10 : decode cX7_holds 10 = .ok (.getfield 43, 3) := by decide +kernel
theorem dX7_holds_13 : decode cX7_holds 13 = .ok (.iload 5, 2) := by decide +kernel
theorem dX7_holds_15 : decode cX7_holds 15 = .ok (.invokestatic 46, 3) := by decide +kernel
theorem dX7_holds_18 : decode cX7_holds 18 = .ok (.ifCond .eq 27, 3) := by decide +kernel
theorem dX7_holds_21 : decode cX7_holds 21 = .ok (.aload_n 2, 1) := by decide +kernel
theorem dX7_holds_22 : decode cX7_holds 22 = .ok (.aload_n 0, 1) := by decide +kernel
theorem dX7_holds_23 : decode cX7_holds 23 = .ok (.iload 5, 2) := by decide +kernel
theorem dX7_holds_25 : decode cX7_holds 25 = .ok (.iload_n 3, 1) := by decide +kernel
theorem dX7_holds_26 : decode cX7_holds 26 = .ok (.invokevirtual 50, 3) := by decide +kernel
theorem dX7_holds_29 : decode cX7_holds 29 = .ok (.aload_n 1, 1) := by decide +kernel
theorem dX7_holds_30 : decode cX7_holds 30 = .ok (.iload 5, 2) := by decide +kernel
theorem dX7_holds_32 : decode cX7_holds 32 = .ok (.iload 4, 2) := by decide +kernel
theorem dX7_holds_34 : decode cX7_holds 34 = .ok (.invokevirtual 54, 3) := by decide +kernel
theorem dX7_holds_37 : decode cX7_holds 37 = .ok (.invokevirtual 57, 3) := by decide +kernel
theorem dX7_holds_40 : decode cX7_holds 40 = .ok (.ifCond .ne 5, 3) := by decide +kernel
theorem dX7_holds_43 : decode cX7_holds 43 = .ok (.iconst 0, 1) := by decide +kernel
theorem dX7_holds_44 : decode cX7_holds 44 = .ok (.ireturn, 1) := by decide +kernel
theorem dX7_holds_45 : decode cX7_holds 45 = .ok (.iinc 5 1, 3) := by decide +kernel
theorem dX7_holds_48 : decode cX7_holds 48 = .ok (.goto (-45), 3) := by decide +kernel
theorem dX7_holds_51 : decode cX7_holds 51 = .ok (.aload_n 0, 1) := by decide +kernel
theorem dX7_holds_52 : decode cX7_holds 52 = .ok (.aload_n 1, 1) := by decide +kernel
theorem dX7_holds_53 : decode cX7_holds 53 = .ok (.iload_n 3, 1) := by decide +kernel
theorem dX7_holds_54 : decode cX7_holds 54 = .ok (.iload 4, 2) := by decide +kernel
theorem dX7_holds_56 : decode cX7_holds 56 = .ok (.invokevirtual 35, 3) := by decide +kernel
theorem dX7_holds_59 : decode cX7_holds 59 = .ok (.ireturn, 1) := by decide +kernel
theorem dX7_extend_0 : decode cX7_extend 0 = .ok (.iconst 0, 1) := by decide +kernel
theorem dX7_extend_1 : decode cX7_extend 1 = .ok (.istore 4, 2) := by decide +kernel
theorem dX7_extend_3 : decode cX7_extend 3 = .ok (.iload 4, 2) := by decide +kernel
theorem dX7_extend_5 : decode cX7_extend 5 = .ok (.iconst 4, 1) := by decide +kernel
theorem dX7_extend_6 : decode cX7_extend 6 = .ok (.if_icmp .ge 64, 3) := by decide +kernel
theorem dX7_extend_9 : decode cX7_extend 9 = .ok (.aload_n 1, 1) := by decide +kernel
theorem dX7_extend_10 : decode cX7_extend 10 = .ok (.getfield 43, 3) := by decide +kernel
theorem dX7_extend_13 : decode cX7_extend 13 = .ok (.iload 4, 2) := by decide +kernel
theorem dX7_extend_15 : decode cX7_extend 15 = .ok (.invokestatic 46, 3) := by decide +kernel
theorem dX7_extend_18 : decode cX7_extend 18 = .ok (.ifCond .ne 6, 3) := by decide +kernel
theorem dX7_extend_21 : decode cX7_extend 21 = .ok (.goto 43, 3) := by decide +kernel
theorem dX7_extend_24 : decode cX7_extend 24 = .ok (.aload_n 0, 1) := by decide +kernel
theorem dX7_extend_25 : decode cX7_extend 25 = .ok (.iload 4, 2) := by decide +kernel
theorem dX7_extend_27 : decode cX7_extend 27 = .ok (.iload_n 2, 1) := by decide +kernel
theorem dX7_extend_28 : decode cX7_extend 28 = .ok (.iconst 1, 1) := by decide +kernel
theorem dX7_extend_29 : decode cX7_extend 29 = .ok (.iadd, 1) := by decide +kernel
theorem dX7_extend_30 : decode cX7_extend 30 = .ok (.invokevirtual 50, 3) := by decide +kernel
theorem dX7_extend_33 : decode cX7_extend 33 = .ok (.astore 5, 2) := by decide +kernel
theorem dX7_extend_35 : decode cX7_extend 35 = .ok (.aload 5, 2) := by decide +kernel
theorem dX7_extend_37 : decode cX7_extend 37 = .ok (.aload_n 0, 1) := by decide +kernel
theorem dX7_extend_38 : decode cX7_extend 38 = .ok (.iload 4, 2) := by decide +kernel
theorem dX7_extend_40 : decode cX7_extend 40 = .ok (.iload_n 2, 1) := by decide +kernel
theorem dX7_extend_41 : decode cX7_extend 41 = .ok (.invokevirtual 50, 3) := by decide +kernel
theorem dX7_extend_44 : decode cX7_extend 44 = .ok (.aload_n 1, 1) := by decide +kernel
theorem dX7_extend_45 : decode cX7_extend 45 = .ok (.iload 4, 2) := by decide +kernel
theorem dX7_extend_47 : decode cX7_extend 47 = .ok (.iload_n 3, 1) := by decide +kernel
theorem dX7_extend_48 : decode cX7_extend 48 = .ok (.invokevirtual 54, 3) := by decide +kernel
theorem dX7_extend_51 : decode cX7_extend 51 = .ok (.invokevirtual 63, 3) := by decide +kernel
theorem dX7_extend_54 : decode cX7_extend 54 = .ok (.aload 5, 2) := by decide +kernel
theorem dX7_extend_56 : decode cX7_extend 56 = .ok (.getfield 67, 3) := by decide +kernel
theorem dX7_extend_59 : decode cX7_extend 59 = .ok (.ifCond .eq 5, 3) := by decide +kernel
theorem dX7_extend_62 : decode cX7_extend 62 = .ok (.iconst 0, 1) := by decide +kernel
theorem dX7_extend_63 : decode cX7_extend 63 = .ok (.ireturn, 1) := by decide +kernel
theorem dX7_extend_64 : decode cX7_extend 64 = .ok (.iinc 4 1, 3) := by decide +kernel
theorem dX7_extend_67 : decode cX7_extend 67 = .ok (.goto (-64), 3) := by decide +kernel
theorem dX7_extend_70 : decode cX7_extend 70 = .ok (.iconst 1, 1) := by decide +kernel
theorem dX7_extend_71 : decode cX7_extend 71 = .ok (.ireturn, 1) := by decide +kernel
theorem dX7_rowOf_0 : decode cX7_rowOf 0 = .ok (.aload_n 0, 1) := by decide +kernel
theorem dX7_rowOf_1 : decode cX7_rowOf 1 = .ok (.getfield 11, 3) := by decide +kernel
theorem dX7_rowOf_4 : decode cX7_rowOf 4 = .ok (.iload_n 1, 1) := by decide +kernel
theorem dX7_rowOf_5 : decode cX7_rowOf 5 = .ok (.iconst 4, 1) := by decide +kernel
theorem dX7_rowOf_6 : decode cX7_rowOf 6 = .ok (.imul, 1) := by decide +kernel
theorem dX7_rowOf_7 : decode cX7_rowOf 7 = .ok (.iload_n 2, 1) := by decide +kernel
theorem dX7_rowOf_8 : decode cX7_rowOf 8 = .ok (.iadd, 1) := by decide +kernel
theorem dX7_rowOf_9 : decode cX7_rowOf 9 = .ok (.aaload, 1) := by decide +kernel
theorem dX7_rowOf_10 : decode cX7_rowOf 10 = .ok (.areturn, 1) := by decide +kernel
theorem dX8_init_0 : decode cX8_init 0 = .ok (.aload_n 0, 1) := by decide +kernel
theorem dX8_init_1 : decode cX8_init 1 = .ok (.invokespecial 1, 3) := by decide +kernel
theorem dX8_init_4 : decode cX8_init 4 = .ok (.aload_n 0, 1) := by decide +kernel
theorem dX8_init_5 : decode cX8_init 5 = .ok (.lconst 0, 1) := by decide +kernel
theorem dX8_init_6 : decode cX8_init 6 = .ok (.putfield 7, 3) := by decide +kernel
theorem dX8_init_9 : decode cX8_init 9 = .ok (.aload_n 0, 1) := by decide +kernel
theorem dX8_init_10 : decode cX8_init 10 = .ok (.lconst 1, 1) := by decide +kernel
theorem dX8_init_11 : decode cX8_init 11 = .ok (.putfield 13, 3) := by decide +kernel
theorem dX8_init_14 : decode cX8_init 14 = .ok (.return_, 1) := by decide +kernel
theorem dX8_set_0 : decode cX8_set 0 = .ok (.lload_n 1, 1) := by decide +kernel
theorem dX8_set_1 : decode cX8_set 1 = .ok (.lload_n 3, 1) := by decide +kernel
theorem dX8_set_2 : decode cX8_set 2 = .ok (.invokestatic 16, 3) := by decide +kernel
theorem dX8_set_5 : decode cX8_set 5 = .ok (.lstore 5, 2) := by decide +kernel
theorem dX8_set_7 : decode cX8_set 7 = .ok (.aload_n 0, 1) := by decide +kernel
theorem dX8_set_8 : decode cX8_set 8 = .ok (.lload 5, 2) := by decide +kernel
theorem dX8_set_10 : decode cX8_set 10 = .ok (.lconst 1, 1) := by decide +kernel
theorem dX8_set_11 : decode cX8_set 11 = .ok (.lcmp, 1) := by decide +kernel
theorem dX8_set_12 : decode cX8_set 12 = .ok (.ifCond .le 10, 3) := by decide +kernel
theorem dX8_set_15 : decode cX8_set 15 = .ok (.lload_n 1, 1) := by decide +kernel
theorem dX8_set_16 : decode cX8_set 16 = .ok (.lload 5, 2) := by decide +kernel
theorem dX8_set_18 : decode cX8_set 18 = .ok (.ldiv, 1) := by decide +kernel
theorem dX8_set_19 : decode cX8_set 19 = .ok (.goto 4, 3) := by decide +kernel
theorem dX8_set_22 : decode cX8_set 22 = .ok (.lload_n 1, 1) := by decide +kernel
theorem dX8_set_23 : decode cX8_set 23 = .ok (.putfield 7, 3) := by decide +kernel
theorem dX8_set_26 : decode cX8_set 26 = .ok (.aload_n 0, 1) := by decide +kernel
theorem dX8_set_27 : decode cX8_set 27 = .ok (.lload 5, 2) := by decide +kernel
theorem dX8_set_29 : decode cX8_set 29 = .ok (.lconst 1, 1) := by decide +kernel
theorem dX8_set_30 : decode cX8_set 30 = .ok (.lcmp, 1) := by decide +kernel
theorem dX8_set_31 : decode cX8_set 31 = .ok (.ifCond .le 10, 3) := by decide +kernel
theorem dX8_set_34 : decode cX8_set 34 = .ok (.lload_n 3, 1) := by decide +kernel
theorem dX8_set_35 : decode cX8_set 35 = .ok (.lload 5, 2) := by decide +kernel
theorem dX8_set_37 : decode cX8_set 37 = .ok (.ldiv, 1) := by decide +kernel
theorem dX8_set_38 : decode cX8_set 38 = .ok (.goto 4, 3) := by decide +kernel
theorem dX8_set_41 : decode cX8_set 41 = .ok (.lload_n 3, 1) := by decide +kernel
theorem dX8_set_42 : decode cX8_set 42 = .ok (.putfield 13, 3) := by decide +kernel
theorem dX8_set_45 : decode cX8_set 45 = .ok (.return_, 1) := by decide +kernel
theorem dX8_ofCode_0 : decode cX8_ofCode 0 = .ok (.aload_n 0, 1) := by decide +kernel
theorem dX8_ofCode_1 : decode cX8_ofCode 1 = .ok (.iload_n 1, 1) := by decide +kernel
theorem dX8_ofCode_2 : decode cX8_ofCode 2 = .ok (.invokestatic 22, 3) := by decide +kernel
theorem dX8_ofCode_5 : decode cX8_ofCode 5 = .ok (.i2l, 1) := by decide +kernel
theorem dX8_ofCode_6 : decode cX8_ofCode 6 = .ok (.putfield 7, 3) := by decide +kernel
theorem dX8_ofCode_9 : decode cX8_ofCode 9 = .ok (.aload_n 0, 1) := by decide +kernel
theorem dX8_ofCode_10 : decode cX8_ofCode 10 = .ok (.iload_n 1, 1) := by decide +kernel
theorem dX8_ofCode_11 : decode cX8_ofCode 11 = .ok (.invokestatic 26, 3) := by decide +kernel
theorem dX8_ofCode_14 : decode cX8_ofCode 14 = .ok (.i2l, 1) := by decide +kernel
theorem dX8_ofCode_15 : decode cX8_ofCode 15 = .ok (.putfield 13, 3) := by decide +kernel
theorem dX8_ofCode_18 : decode cX8_ofCode 18 = .ok (.return_, 1) := by decide +kernel
theorem dX8_slip_0 : decode cX8_slip 0 = .ok (.aload_n 0, 1) := by decide +kernel
theorem dX8_slip_1 : decode cX8_slip 1 = .ok (.getfield 13, 3) := by decide +kernel
theorem dX8_slip_4 : decode cX8_slip 4 = .ok (.lconst 0, 1) := by decide +kernel
theorem dX8_slip_5 : decode cX8_slip 5 = .ok (.lcmp, 1) := by decide +kernel
theorem dX8_slip_6 : decode cX8_slip 6 = .ok (.ifCond .ne 4, 3) := by decide +kernel
theorem dX8_slip_9 : decode cX8_slip 9 = .ok (.return_, 1) := by decide +kernel
theorem dX8_slip_10 : decode cX8_slip 10 = .ok (.iload_n 2, 1) := by decide +kernel
theorem dX8_slip_11 : decode cX8_slip 11 = .ok (.ifCond .eq 18, 3) := by decide +kernel
theorem dX8_slip_14 : decode cX8_slip 14 = .ok (.aload_n 0, 1) := by decide +kernel
theorem dX8_slip_15 : decode cX8_slip 15 = .ok (.getfield 7, 3) := by decide +kernel
theorem dX8_slip_18 : decode cX8_slip 18 = .ok (.iload_n 1, 1) := by decide +kernel
theorem dX8_slip_19 : decode cX8_slip 19 = .ok (.i2l, 1) := by decide +kernel
theorem dX8_slip_20 : decode cX8_slip 20 = .ok (.lmul, 1) := by decide +kernel
theorem dX8_slip_21 : decode cX8_slip 21 = .ok (.aload_n 0, 1) := by decide +kernel
theorem dX8_slip_22 : decode cX8_slip 22 = .ok (.getfield 13, 3) := by decide +kernel
theorem dX8_slip_25 : decode cX8_slip 25 = .ok (.ladd, 1) := by decide +kernel
theorem dX8_slip_26 : decode cX8_slip 26 = .ok (.goto 15, 3) := by decide +kernel
theorem dX8_slip_29 : decode cX8_slip 29 = .ok (.aload_n 0, 1) := by decide +kernel
theorem dX8_slip_30 : decode cX8_slip 30 = .ok (.getfield 7, 3) := by decide +kernel
theorem dX8_slip_33 : decode cX8_slip 33 = .ok (.iload_n 1, 1) := by decide +kernel
theorem dX8_slip_34 : decode cX8_slip 34 = .ok (.i2l, 1) := by decide +kernel
theorem dX8_slip_35 : decode cX8_slip 35 = .ok (.lmul, 1) := by decide +kernel
theorem dX8_slip_36 : decode cX8_slip 36 = .ok (.aload_n 0, 1) := by decide +kernel
theorem dX8_slip_37 : decode cX8_slip 37 = .ok (.getfield 13, 3) := by decide +kernel
theorem dX8_slip_40 : decode cX8_slip 40 = .ok (.lsub, 1) := by decide +kernel
theorem dX8_slip_41 : decode cX8_slip 41 = .ok (.lstore_n 3, 1) := by decide +kernel
theorem dX8_slip_42 : decode cX8_slip 42 = .ok (.aload_n 0, 1) := by decide +kernel
theorem dX8_slip_43 : decode cX8_slip 43 = .ok (.lload_n 3, 1) := by decide +kernel
theorem dX8_slip_44 : decode cX8_slip 44 = .ok (.lconst 0, 1) := by decide +kernel
theorem dX8_slip_45 : decode cX8_slip 45 = .ok (.lcmp, 1) := by decide +kernel
theorem dX8_slip_46 : decode cX8_slip 46 = .ok (.ifCond .ge 7, 3) := by decide +kernel
theorem dX8_slip_49 : decode cX8_slip 49 = .ok (.lconst 0, 1) := by decide +kernel
theorem dX8_slip_50 : decode cX8_slip 50 = .ok (.goto 4, 3) := by decide +kernel
theorem dX8_slip_53 : decode cX8_slip 53 = .ok (.lload_n 3, 1) := by decide +kernel
theorem dX8_slip_54 : decode cX8_slip 54 = .ok (.aload_n 0, 1) := by decide +kernel
theorem dX8_slip_55 : decode cX8_slip 55 = .ok (.getfield 13, 3) := by decide +kernel
theorem dX8_slip_58 : decode cX8_slip 58 = .ok (.iload_n 1, 1) := by decide +kernel
theorem dX8_slip_59 : decode cX8_slip 59 = .ok (.i2l, 1) := by decide +kernel
theorem dX8_slip_60 : decode cX8_slip 60 = .ok (.lmul, 1) := by decide +kernel
theorem dX8_slip_61 : decode cX8_slip 61 = .ok (.invokevirtual 29, 3) := by decide +kernel
theorem dX8_slip_64 : decode cX8_slip 64 = .ok (.return_, 1) := by decide +kernel
theorem dX8_raise_0 : decode cX8_raise 0 = .ok (.aload_n 0, 1) := by decide +kernel
theorem dX8_raise_1 : decode cX8_raise 1 = .ok (.getfield 13, 3) := by decide +kernel
theorem dX8_raise_4 : decode cX8_raise 4 = .ok (.lstore_n 2, 1) := by decide +kernel
theorem dX8_raise_5 : decode cX8_raise 5 = .ok (.aload_n 0, 1) := by decide +kernel
theorem dX8_raise_6 : decode cX8_raise 6 = .ok (.getfield 7, 3) := by decide +kernel
theorem dX8_raise_9 : decode cX8_raise 9 = .ok (.lstore 4, 2) := by decide +kernel
theorem dX8_raise_11 : decode cX8_raise 11 = .ok (.iconst 1, 1) := by decide +kernel
theorem dX8_raise_12 : decode cX8_raise 12 = .ok (.istore 6, 2) := by decide +kernel
theorem dX8_raise_14 : decode cX8_raise 14 = .ok (.iload 6, 2) := by decide +kernel
theorem dX8_raise_16 : decode cX8_raise 16 = .ok (.iload_n 1, 1) := by decide +kernel
theorem dX8_raise_17 : decode cX8_raise 17 = .ok (.if_icmp .ge 44, 3) := by decide +kernel
theorem dX8_raise_20 : decode cX8_raise 20 = .ok (.lload_n 2, 1) := by decide +kernel
theorem dX8_raise_21 : decode cX8_raise 21 = .ok (.aload_n 0, 1) := by decide +kernel
theorem dX8_raise_22 : decode cX8_raise 22 = .ok (.getfield 13, 3) := by decide +kernel
theorem dX8_raise_25 : decode cX8_raise 25 = .ok (.lmul, 1) := by decide +kernel
theorem dX8_raise_26 : decode cX8_raise 26 = .ok (.lload 4, 2) := by decide +kernel
theorem dX8_raise_28 : decode cX8_raise 28 = .ok (.aload_n 0, 1) := by decide +kernel
theorem dX8_raise_29 : decode cX8_raise 29 = .ok (.getfield 7, 3) := by decide +kernel
theorem dX8_raise_32 : decode cX8_raise 32 = .ok (.lmul, 1) := by decide +kernel
theorem dX8_raise_33 : decode cX8_raise 33 = .ok (.lsub, 1) := by decide +kernel
theorem dX8_raise_34 : decode cX8_raise 34 = .ok (.lstore 7, 2) := by decide +kernel
theorem dX8_raise_36 : decode cX8_raise 36 = .ok (.lload_n 2, 1) := by decide +kernel
theorem dX8_raise_37 : decode cX8_raise 37 = .ok (.aload_n 0, 1) := by decide +kernel
theorem dX8_raise_38 : decode cX8_raise 38 = .ok (.getfield 7, 3) := by decide +kernel
theorem dX8_raise_41 : decode cX8_raise 41 = .ok (.lmul, 1) := by decide +kernel
theorem dX8_raise_42 : decode cX8_raise 42 = .ok (.lload 4, 2) := by decide +kernel
theorem dX8_raise_44 : decode cX8_raise 44 = .ok (.aload_n 0, 1) := by decide +kernel
theorem dX8_raise_45 : decode cX8_raise 45 = .ok (.getfield 13, 3) := by decide +kernel
theorem dX8_raise_48 : decode cX8_raise 48 = .ok (.lmul, 1) := by decide +kernel
theorem dX8_raise_49 : decode cX8_raise 49 = .ok (.ladd, 1) := by decide +kernel
theorem dX8_raise_50 : decode cX8_raise 50 = .ok (.lstore 4, 2) := by decide +kernel
theorem dX8_raise_52 : decode cX8_raise 52 = .ok (.lload 7, 2) := by decide +kernel
theorem dX8_raise_54 : decode cX8_raise 54 = .ok (.lstore_n 2, 1) := by decide +kernel
theorem dX8_raise_55 : decode cX8_raise 55 = .ok (.iinc 6 1, 3) := by decide +kernel
theorem dX8_raise_58 : decode cX8_raise 58 = .ok (.goto (-44), 3) := by decide +kernel
theorem dX8_raise_61 : decode cX8_raise 61 = .ok (.lload_n 2, 1) := by decide +kernel
theorem dX8_raise_62 : decode cX8_raise 62 = .ok (.lconst 0, 1) := by decide +kernel
theorem dX8_raise_63 : decode cX8_raise 63 = .ok (.lcmp, 1) := by decide +kernel
theorem dX8_raise_64 : decode cX8_raise 64 = .ok (.ifCond .lt 16, 3) := by decide +kernel
theorem dX8_raise_67 : decode cX8_raise 67 = .ok (.lload_n 2, 1) := by decide +kernel
theorem dX8_raise_68 : decode cX8_raise 68 = .ok (.lconst 0, 1) := by decide +kernel
theorem dX8_raise_69 : decode cX8_raise 69 = .ok (.lcmp, 1) := by decide +kernel
theorem dX8_raise_70 : decode cX8_raise 70 = .ok (.ifCond .ne 14, 3) := by decide +kernel
theorem dX8_raise_73 : decode cX8_raise 73 = .ok (.lload 4, 2) := by decide +kernel
theorem dX8_raise_75 : decode cX8_raise 75 = .ok (.lconst 0, 1) := by decide +kernel
theorem dX8_raise_76 : decode cX8_raise 76 = .ok (.lcmp, 1) := by decide +kernel
theorem dX8_raise_77 : decode cX8_raise 77 = .ok (.ifCond .ge 7, 3) := by decide +kernel
theorem dX8_raise_80 : decode cX8_raise 80 = .ok (.iconst (-1), 1) := by decide +kernel
theorem dX8_raise_81 : decode cX8_raise 81 = .ok (.goto 4, 3) := by decide +kernel
theorem dX8_raise_84 : decode cX8_raise 84 = .ok (.iconst 1, 1) := by decide +kernel
theorem dX8_raise_85 : decode cX8_raise 85 = .ok (.istore 6, 2) := by decide +kernel
theorem dX8_raise_87 : decode cX8_raise 87 = .ok (.aload_n 0, 1) := by decide +kernel
theorem dX8_raise_88 : decode cX8_raise 88 = .ok (.iload 6, 2) := by decide +kernel
theorem dX8_raise_90 : decode cX8_raise 90 = .ok (.i2l, 1) := by decide +kernel
theorem dX8_raise_91 : decode cX8_raise 91 = .ok (.lload 4, 2) := by decide +kernel
theorem dX8_raise_93 : decode cX8_raise 93 = .ok (.lmul, 1) := by decide +kernel
theorem dX8_raise_94 : decode cX8_raise 94 = .ok (.iload 6, 2) := by decide +kernel
theorem dX8_raise_96 : decode cX8_raise 96 = .ok (.i2l, 1) := by decide +kernel
theorem dX8_raise_97 : decode cX8_raise 97 = .ok (.lload_n 2, 1) := by decide +kernel
theorem dX8_raise_98 : decode cX8_raise 98 = .ok (.lmul, 1) := by decide +kernel
theorem dX8_raise_99 : decode cX8_raise 99 = .ok (.invokevirtual 29, 3) := by decide +kernel
theorem dX8_raise_102 : decode cX8_raise 102 = .ok (.return_, 1) := by decide +kernel
theorem dX9_init_0 : decode cX9_init 0 = .ok (.aload_n 0, 1) := by decide +kernel
theorem dX9_init_1 : decode cX9_init 1 = .ok (.invokespecial 3, 3) := by decide +kernel
theorem dX9_init_4 : decode cX9_init 4 = .ok (.aload_n 0, 1) := by decide +kernel
theorem dX9_init_5 : decode cX9_init 5 = .ok (.sipush 200, 3) := by decide +kernel
theorem dX9_init_8 : decode cX9_init 8 = .ok (.newarray .int, 2) := by decide +kernel
theorem dX9_init_10 : decode cX9_init 10 = .ok (.putfield 9, 3) := by decide +kernel
theorem dX9_init_13 : decode cX9_init 13 = .ok (.aload_n 0, 1) := by decide +kernel
theorem dX9_init_14 : decode cX9_init 14 = .ok (.iconst 0, 1) := by decide +kernel
theorem dX9_init_15 : decode cX9_init 15 = .ok (.putfield 15, 3) := by decide +kernel
theorem dX9_init_18 : decode cX9_init 18 = .ok (.aload_n 0, 1) := by decide +kernel
theorem dX9_init_19 : decode cX9_init 19 = .ok (.iconst 0, 1) := by decide +kernel
theorem dX9_init_20 : decode cX9_init 20 = .ok (.putfield 19, 3) := by decide +kernel
theorem dX9_init_23 : decode cX9_init 23 = .ok (.aload_n 0, 1) := by decide +kernel
theorem dX9_init_24 : decode cX9_init 24 = .ok (.iconst (-1), 1) := by decide +kernel
theorem dX9_init_25 : decode cX9_init 25 = .ok (.putfield 22, 3) := by decide +kernel
theorem dX9_init_28 : decode cX9_init 28 = .ok (.aload_n 0, 1) := by decide +kernel
theorem dX9_init_29 : decode cX9_init 29 = .ok (.new 25, 3) := by decide +kernel
theorem dX9_init_32 : decode cX9_init 32 = .ok (.dup, 1) := by decide +kernel
theorem dX9_init_33 : decode cX9_init 33 = .ok (.invokespecial 27, 3) := by decide +kernel
theorem dX9_init_36 : decode cX9_init 36 = .ok (.putfield 28, 3) := by decide +kernel
theorem dX9_init_39 : decode cX9_init 39 = .ok (.aload_n 0, 1) := by decide +kernel
theorem dX9_init_40 : decode cX9_init 40 = .ok (.iconst 4, 1) := by decide +kernel
theorem dX9_init_41 : decode cX9_init 41 = .ok (.newarray .int, 2) := by decide +kernel
theorem dX9_init_43 : decode cX9_init 43 = .ok (.putfield 32, 3) := by decide +kernel
theorem dX9_init_46 : decode cX9_init 46 = .ok (.aload_n 0, 1) := by decide +kernel
theorem dX9_init_47 : decode cX9_init 47 = .ok (.iconst 4, 1) := by decide +kernel
theorem dX9_init_48 : decode cX9_init 48 = .ok (.newarray .int, 2) := by decide +kernel
theorem dX9_init_50 : decode cX9_init 50 = .ok (.putfield 35, 3) := by decide +kernel
theorem dX9_init_53 : decode cX9_init 53 = .ok (.aload_n 0, 1) := by decide +kernel
theorem dX9_init_54 : decode cX9_init 54 = .ok (.iconst 0, 1) := by decide +kernel
theorem dX9_init_55 : decode cX9_init 55 = .ok (.putfield 38, 3) := by decide +kernel
theorem dX9_init_58 : decode cX9_init 58 = .ok (.aload_n 0, 1) := by decide +kernel
theorem dX9_init_59 : decode cX9_init 59 = .ok (.iconst 0, 1) := by decide +kernel
theorem dX9_init_60 : decode cX9_init 60 = .ok (.putfield 41, 3) := by decide +kernel
theorem dX9_init_63 : decode cX9_init 63 = .ok (.aload_n 0, 1) := by decide +kernel
theorem dX9_init_64 : decode cX9_init 64 = .ok (.iconst 0, 1) := by decide +kernel
theorem dX9_init_65 : decode cX9_init 65 = .ok (.putfield 44, 3) := by decide +kernel
theorem dX9_init_68 : decode cX9_init 68 = .ok (.aload_n 0, 1) := by decide +kernel
theorem dX9_init_69 : decode cX9_init 69 = .ok (.iconst 0, 1) := by decide +kernel
theorem dX9_init_70 : decode cX9_init 70 = .ok (.putfield 47, 3) := by decide +kernel
theorem dX9_init_73 : decode cX9_init 73 = .ok (.aload_n 0, 1) := by decide +kernel
theorem dX9_init_74 : decode cX9_init 74 = .ok (.iconst (-1), 1) := by decide +kernel
theorem dX9_init_75 : decode cX9_init 75 = .ok (.putfield 50, 3) := by decide +kernel
theorem dX9_init_78 : decode cX9_init 78 = .ok (.return_, 1) := by decide +kernel
theorem dX9_append_0 : decode cX9_append 0 = .ok (.bipush 24, 2) := by decide +kernel
theorem dX9_append_2 : decode cX9_append 2 = .ok (.istore_n 2, 1) := by decide +kernel
theorem dX9_append_3 : decode cX9_append 3 = .ok (.iload_n 2, 1) := by decide +kernel
theorem dX9_append_4 : decode cX9_append 4 = .ok (.ifCond .lt 45, 3) := by decide +kernel
theorem dX9_append_7 : decode cX9_append 7 = .ok (.aload_n 0, 1) := by decide +kernel
theorem dX9_append_8 : decode cX9_append 8 = .ok (.getfield 15, 3) := by decide +kernel
theorem dX9_append_11 : decode cX9_append 11 = .ok (.sipush 200, 3) := by decide +kernel
theorem dX9_append_14 : decode cX9_append 14 = .ok (.if_icmp .ge 35, 3) := by decide +kernel
theorem dX9_append_17 : decode cX9_append 17 = .ok (.aload_n 0, 1) := by decide +kernel
theorem dX9_append_18 : decode cX9_append 18 = .ok (.getfield 9, 3) := by decide +kernel
theorem dX9_append_21 : decode cX9_append 21 = .ok (.aload_n 0, 1) := by decide +kernel
theorem dX9_append_22 : decode cX9_append 22 = .ok (.getfield 15, 3) := by decide +kernel
theorem dX9_append_25 : decode cX9_append 25 = .ok (.iload_n 1, 1) := by decide +kernel
theorem dX9_append_26 : decode cX9_append 26 = .ok (.iload_n 2, 1) := by decide +kernel
theorem dX9_append_27 : decode cX9_append 27 = .ok (.ishr, 1) := by decide +kernel
theorem dX9_append_28 : decode cX9_append 28 = .ok (.sipush 255, 3) := by decide +kernel
theorem dX9_append_31 : decode cX9_append 31 = .ok (.iand, 1) := by decide +kernel
theorem dX9_append_32 : decode cX9_append 32 = .ok (.iastore, 1) := by decide +kernel
theorem dX9_append_33 : decode cX9_append 33 = .ok (.aload_n 0, 1) := by decide +kernel
theorem dX9_append_34 : decode cX9_append 34 = .ok (.dup, 1) := by decide +kernel
theorem dX9_append_35 : decode cX9_append 35 = .ok (.getfield 15, 3) := by decide +kernel
theorem dX9_append_38 : decode cX9_append 38 = .ok (.iconst 1, 1) := by decide +kernel
theorem dX9_append_39 : decode cX9_append 39 = .ok (.iadd, 1) := by decide +kernel
theorem dX9_append_40 : decode cX9_append 40 = .ok (.putfield 15, 3) := by decide +kernel
theorem dX9_append_43 : decode cX9_append 43 = .ok (.iinc 2 (-8), 3) := by decide +kernel
theorem dX9_append_46 : decode cX9_append 46 = .ok (.goto (-43), 3) := by decide +kernel
theorem dX9_append_49 : decode cX9_append 49 = .ok (.return_, 1) := by decide +kernel
theorem dX9_parse_0 : decode cX9_parse 0 = .ok (.aload_n 0, 1) := by decide +kernel
theorem dX9_parse_1 : decode cX9_parse 1 = .ok (.iconst 0, 1) := by decide +kernel
theorem dX9_parse_2 : decode cX9_parse 2 = .ok (.putfield 19, 3) := by decide +kernel
theorem dX9_parse_5 : decode cX9_parse 5 = .ok (.aload_n 0, 1) := by decide +kernel
theorem dX9_parse_6 : decode cX9_parse 6 = .ok (.iconst (-1), 1) := by decide +kernel
theorem dX9_parse_7 : decode cX9_parse 7 = .ok (.putfield 22, 3) := by decide +kernel
theorem dX9_parse_10 : decode cX9_parse 10 = .ok (.aload_n 0, 1) := by decide +kernel
theorem dX9_parse_11 : decode cX9_parse 11 = .ok (.getfield 28, 3) := by decide +kernel
theorem dX9_parse_14 : decode cX9_parse 14 = .ok (.iconst 0, 1) := by decide +kernel
theorem dX9_parse_15 : decode cX9_parse 15 = .ok (.putfield 53, 3) := by decide +kernel
theorem dX9_parse_18 : decode cX9_parse 18 = .ok (.aload_n 0, 1) := by decide +kernel
theorem dX9_parse_19 : decode cX9_parse 19 = .ok (.iconst 0, 1) := by decide +kernel
theorem dX9_parse_20 : decode cX9_parse 20 = .ok (.putfield 38, 3) := by decide +kernel
theorem dX9_parse_23 : decode cX9_parse 23 = .ok (.aload_n 0, 1) := by decide +kernel
theorem dX9_parse_24 : decode cX9_parse 24 = .ok (.iconst 0, 1) := by decide +kernel
theorem dX9_parse_25 : decode cX9_parse 25 = .ok (.putfield 41, 3) := by decide +kernel
theorem dX9_parse_28 : decode cX9_parse 28 = .ok (.aload_n 0, 1) := by decide +kernel
theorem dX9_parse_29 : decode cX9_parse 29 = .ok (.iconst (-1), 1) := by decide +kernel
theorem dX9_parse_30 : decode cX9_parse 30 = .ok (.putfield 50, 3) := by decide +kernel
theorem dX9_parse_33 : decode cX9_parse 33 = .ok (.aload_n 0, 1) := by decide +kernel
theorem dX9_parse_34 : decode cX9_parse 34 = .ok (.invokevirtual 56, 3) := by decide +kernel
theorem dX9_parse_37 : decode cX9_parse 37 = .ok (.iconst 0, 1) := by decide +kernel
theorem dX9_parse_38 : decode cX9_parse 38 = .ok (.istore_n 1, 1) := by decide +kernel
theorem dX9_parse_39 : decode cX9_parse 39 = .ok (.iload_n 1, 1) := by decide +kernel
theorem dX9_parse_40 : decode cX9_parse 40 = .ok (.sipush 200, 3) := by decide +kernel
theorem dX9_parse_43 : decode cX9_parse 43 = .ok (.if_icmp .gt 35, 3) := by decide +kernel
theorem dX9_parse_46 : decode cX9_parse 46 = .ok (.aload_n 0, 1) := by decide +kernel
theorem dX9_parse_47 : decode cX9_parse 47 = .ok (.getfield 19, 3) := by decide +kernel
theorem dX9_parse_50 : decode cX9_parse 50 = .ok (.ifCond .ne 28, 3) := by decide +kernel
theorem dX9_parse_53 : decode cX9_parse 53 = .ok (.aload_n 0, 1) := by decide +kernel
theorem dX9_parse_54 : decode cX9_parse 54 = .ok (.getfield 41, 3) := by decide +kernel
theorem dX9_parse_57 : decode cX9_parse 57 = .ok (.aload_n 0, 1) := by decide +kernel
theorem dX9_parse_58 : decode cX9_parse 58 = .ok (.getfield 15, 3) := by decide +kernel
theorem dX9_parse_61 : decode cX9_parse 61 = .ok (.if_icmp .ge 17, 3) := by decide +kernel
theorem dX9_parse_64 : decode cX9_parse 64 = .ok (.aload_n 0, 1) := by decide +kernel
theorem dX9_parse_65 : decode cX9_parse 65 = .ok (.invokevirtual 59, 3) := by decide +kernel
theorem dX9_parse_68 : decode cX9_parse 68 = .ok (.aload_n 0, 1) := by decide +kernel
theorem dX9_parse_69 : decode cX9_parse 69 = .ok (.invokevirtual 56, 3) := by decide +kernel
theorem dX9_parse_72 : decode cX9_parse 72 = .ok (.iinc 1 1, 3) := by decide +kernel
theorem dX9_parse_75 : decode cX9_parse 75 = .ok (.goto (-36), 3) := by decide +kernel
theorem dX9_parse_78 : decode cX9_parse 78 = .ok (.aload_n 0, 1) := by decide +kernel
theorem dX9_parse_79 : decode cX9_parse 79 = .ok (.getfield 19, 3) := by decide +kernel
theorem dX9_parse_82 : decode cX9_parse 82 = .ok (.ifCond .ne 19, 3) := by decide +kernel
theorem dX9_parse_85 : decode cX9_parse 85 = .ok (.aload_n 0, 1) := by decide +kernel
theorem dX9_parse_86 : decode cX9_parse 86 = .ok (.getfield 38, 3) := by decide +kernel
theorem dX9_parse_89 : decode cX9_parse 89 = .ok (.ifCond .le 12, 3) := by decide +kernel
theorem dX9_parse_92 : decode cX9_parse 92 = .ok (.aload_n 0, 1) := by decide +kernel
theorem dX9_parse_93 : decode cX9_parse 93 = .ok (.iconst 1, 1) := by decide +kernel
theorem dX9_parse_94 : decode cX9_parse 94 = .ok (.aload_n 0, 1) := by decide +kernel
theorem dX9_parse_95 : decode cX9_parse 95 = .ok (.getfield 41, 3) := by decide +kernel
theorem dX9_parse_98 : decode cX9_parse 98 = .ok (.invokevirtual 62, 3) := by decide +kernel
theorem dX9_parse_101 : decode cX9_parse 101 = .ok (.aload_n 0, 1) := by decide +kernel
theorem dX9_parse_102 : decode cX9_parse 102 = .ok (.getfield 19, 3) := by decide +kernel
theorem dX9_parse_105 : decode cX9_parse 105 = .ok (.ifCond .ne 20, 3) := by decide +kernel
theorem dX9_parse_108 : decode cX9_parse 108 = .ok (.aload_n 0, 1) := by decide +kernel
theorem dX9_parse_109 : decode cX9_parse 109 = .ok (.getfield 50, 3) := by decide +kernel
theorem dX9_parse_112 : decode cX9_parse 112 = .ok (.iconst (-1), 1) := by decide +kernel
theorem dX9_parse_113 : decode cX9_parse 113 = .ok (.if_icmp .eq 12, 3) := by decide +kernel
theorem dX9_parse_116 : decode cX9_parse 116 = .ok (.aload_n 0, 1) := by decide +kernel
theorem dX9_parse_117 : decode cX9_parse 117 = .ok (.iconst 4, 1) := by decide +kernel
theorem dX9_parse_118 : decode cX9_parse 118 = .ok (.aload_n 0, 1) := by decide +kernel
theorem dX9_parse_119 : decode cX9_parse 119 = .ok (.getfield 50, 3) := by decide +kernel
theorem dX9_parse_122 : decode cX9_parse 122 = .ok (.invokevirtual 62, 3) := by decide +kernel
theorem dX9_parse_125 : decode cX9_parse 125 = .ok (.aload_n 0, 1) := by decide +kernel
theorem dX9_parse_126 : decode cX9_parse 126 = .ok (.getfield 19, 3) := by decide +kernel
theorem dX9_parse_129 : decode cX9_parse 129 = .ok (.ifCond .ne 7, 3) := by decide +kernel
theorem dX9_parse_132 : decode cX9_parse 132 = .ok (.iconst 1, 1) := by decide +kernel
theorem dX9_parse_133 : decode cX9_parse 133 = .ok (.goto 4, 3) := by decide +kernel
theorem dX9_parse_136 : decode cX9_parse 136 = .ok (.iconst 0, 1) := by decide +kernel
theorem dX9_parse_137 : decode cX9_parse 137 = .ok (.ireturn, 1) := by decide +kernel
theorem dX9_readOne_0 : decode cX9_readOne 0 = .ok (.aload_n 0, 1) := by decide +kernel
theorem dX9_readOne_1 : decode cX9_readOne 1 = .ok (.invokevirtual 66, 3) := by decide +kernel
theorem dX9_readOne_4 : decode cX9_readOne 4 = .ok (.istore_n 1, 1) := by decide +kernel
theorem dX9_readOne_5 : decode cX9_readOne 5 = .ok (.aload_n 0, 1) := by decide +kernel
theorem dX9_readOne_6 : decode cX9_readOne 6 = .ok (.getfield 38, 3) := by decide +kernel
theorem dX9_readOne_9 : decode cX9_readOne 9 = .ok (.ifCond .ne 11, 3) := by decide +kernel
theorem dX9_readOne_12 : decode cX9_readOne 12 = .ok (.aload_n 0, 1) := by decide +kernel
theorem dX9_readOne_13 : decode cX9_readOne 13 = .ok (.aload_n 0, 1) := by decide +kernel
theorem dX9_readOne_14 : decode cX9_readOne 14 = .ok (.getfield 41, 3) := by decide +kernel
theorem dX9_readOne_17 : decode cX9_readOne 17 = .ok (.putfield 47, 3) := by decide +kernel
theorem dX9_readOne_20 : decode cX9_readOne 20 = .ok (.iload_n 1, 1) := by decide +kernel
theorem dX9_readOne_21 : decode cX9_readOne 21 = .ok (.bipush 65, 2) := by decide +kernel
theorem dX9_readOne_23 : decode cX9_readOne 23 = .ok (.if_icmp .lt 20, 3) := by decide +kernel
theorem dX9_readOne_26 : decode cX9_readOne 26 = .ok (.iload_n 1, 1) := by decide +kernel
theorem dX9_readOne_27 : decode cX9_readOne 27 = .ok (.bipush 71, 2) := by decide +kernel
theorem dX9_readOne_29 : decode cX9_readOne 29 = .ok (.if_icmp .ge 14, 3) := by decide +kernel
theorem dX9_readOne_32 : decode cX9_readOne 32 = .ok (.aload_n 0, 1) := by decide +kernel
theorem dX9_readOne_33 : decode cX9_readOne 33 = .ok (.iload_n 1, 1) := by decide +kernel
theorem dX9_readOne_34 : decode cX9_readOne 34 = .ok (.bipush 65, 2) := by decide +kernel
theorem dX9_readOne_36 : decode cX9_readOne 36 = .ok (.isub, 1) := by decide +kernel
theorem dX9_readOne_37 : decode cX9_readOne 37 = .ok (.invokevirtual 70, 3) := by decide +kernel
theorem dX9_readOne_40 : decode cX9_readOne 40 = .ok (.goto 46, 3) := by decide +kernel
theorem dX9_readOne_43 : decode cX9_readOne 43 = .ok (.iload_n 1, 1) := by decide +kernel
theorem dX9_readOne_44 : decode cX9_readOne 44 = .ok (.invokestatic 74, 3) := by decide +kernel
theorem dX9_readOne_47 : decode cX9_readOne 47 = .ok (.ifCond .eq 10, 3) := by decide +kernel
theorem dX9_readOne_50 : decode cX9_readOne 50 = .ok (.aload_n 0, 1) := by decide +kernel
theorem dX9_readOne_51 : decode cX9_readOne 51 = .ok (.invokevirtual 78, 3) := by decide +kernel
theorem dX9_readOne_54 : decode cX9_readOne 54 = .ok (.goto 32, 3) := by decide +kernel
theorem dX9_readOne_57 : decode cX9_readOne 57 = .ok (.iload_n 1, 1) := by decide +kernel
theorem dX9_readOne_58 : decode cX9_readOne 58 = .ok (.bipush 41, 2) := by decide +kernel
theorem dX9_readOne_60 : decode cX9_readOne 60 = .ok (.if_icmp .ne 17, 3) := by decide +kernel
theorem dX9_readOne_63 : decode cX9_readOne 63 = .ok (.aload_n 0, 1) := by decide +kernel
theorem dX9_readOne_64 : decode cX9_readOne 64 = .ok (.getfield 38, 3) := by decide +kernel
theorem dX9_readOne_67 : decode cX9_readOne 67 = .ok (.ifCond .le 10, 3) := by decide +kernel
theorem dX9_readOne_70 : decode cX9_readOne 70 = .ok (.aload_n 0, 1) := by decide +kernel
theorem dX9_readOne_71 : decode cX9_readOne 71 = .ok (.invokevirtual 81, 3) := by decide +kernel
theorem dX9_readOne_74 : decode cX9_readOne 74 = .ok (.goto 12, 3) := by decide +kernel
theorem dX9_readOne_77 : decode cX9_readOne 77 = .ok (.aload_n 0, 1) := by decide +kernel
theorem dX9_readOne_78 : decode cX9_readOne 78 = .ok (.iconst 1, 1) := by decide +kernel
theorem dX9_readOne_79 : decode cX9_readOne 79 = .ok (.aload_n 0, 1) := by decide +kernel
theorem dX9_readOne_80 : decode cX9_readOne 80 = .ok (.getfield 41, 3) := by decide +kernel
theorem dX9_readOne_83 : decode cX9_readOne 83 = .ok (.invokevirtual 62, 3) := by decide +kernel
theorem dX9_readOne_86 : decode cX9_readOne 86 = .ok (.return_, 1) := by decide +kernel
theorem dX9_readLayer_0 : decode cX9_readLayer 0 = .ok (.aload_n 0, 1) := by decide +kernel
theorem dX9_readLayer_1 : decode cX9_readLayer 1 = .ok (.dup, 1) := by decide +kernel
theorem dX9_readLayer_2 : decode cX9_readLayer 2 = .ok (.getfield 41, 3) := by decide +kernel
theorem dX9_readLayer_5 : decode cX9_readLayer 5 = .ok (.iconst 1, 1) := by decide +kernel
theorem dX9_readLayer_6 : decode cX9_readLayer 6 = .ok (.iadd, 1) := by decide +kernel
theorem dX9_readLayer_7 : decode cX9_readLayer 7 = .ok (.putfield 41, 3) := by decide +kernel
theorem dX9_readLayer_10 : decode cX9_readLayer 10 = .ok (.aload_n 0, 1) := by decide +kernel
theorem dX9_readLayer_11 : decode cX9_readLayer 11 = .ok (.invokevirtual 56, 3) := by decide +kernel
theorem dX9_readLayer_14 : decode cX9_readLayer 14 = .ok (.aload_n 0, 1) := by decide +kernel
theorem dX9_readLayer_15 : decode cX9_readLayer 15 = .ok (.invokevirtual 66, 3) := by decide +kernel
theorem dX9_readLayer_18 : decode cX9_readLayer 18 = .ok (.bipush 104, 2) := by decide +kernel
theorem dX9_readLayer_20 : decode cX9_readLayer 20 = .ok (.if_icmp .ne 26, 3) := by decide +kernel
theorem dX9_readLayer_23 : decode cX9_readLayer 23 = .ok (.aload_n 0, 1) := by decide +kernel
theorem dX9_readLayer_24 : decode cX9_readLayer 24 = .ok (.dup, 1) := by decide +kernel
theorem dX9_readLayer_25 : decode cX9_readLayer 25 = .ok (.getfield 41, 3) := by decide +kernel
theorem dX9_readLayer_28 : decode cX9_readLayer 28 = .ok (.iconst 1, 1) := by decide +kernel
theorem dX9_readLayer_29 : decode cX9_readLayer 29 = .ok (.iadd, 1) := by decide +kernel
theorem dX9_readLayer_30 : decode cX9_readLayer 30 = .ok (.putfield 41, 3) := by decide +kernel
theorem dX9_readLayer_33 : decode cX9_readLayer 33 = .ok (.aload_n 0, 1) := by decide +kernel
theorem dX9_readLayer_34 : decode cX9_readLayer 34 = .ok (.iload_n 1, 1) := by decide +kernel
theorem dX9_readLayer_35 : decode cX9_readLayer 35 = .ok (.iconst 1, 1) := by decide +kernel
theorem dX9_readLayer_36 : decode cX9_readLayer 36 = .ok (.iconst 0, 1) := by decide +kernel
theorem dX9_readLayer_37 : decode cX9_readLayer 37 = .ok (.invokestatic 84, 3) := by decide +kernel
theorem dX9_readLayer_40 : decode cX9_readLayer 40 = .ok (.invokevirtual 88, 3) := by decide +kernel
theorem dX9_readLayer_43 : decode cX9_readLayer 43 = .ok (.goto 31, 3) := by decide +kernel
theorem dX9_readLayer_46 : decode cX9_readLayer 46 = .ok (.aload_n 0, 1) := by decide +kernel
theorem dX9_readLayer_47 : decode cX9_readLayer 47 = .ok (.invokevirtual 66, 3) := by decide +kernel
theorem dX9_readLayer_50 : decode cX9_readLayer 50 = .ok (.invokestatic 74, 3) := by decide +kernel
theorem dX9_readLayer_53 : decode cX9_readLayer 53 = .ok (.ifCond .eq 11, 3) := by decide +kernel
theorem dX9_readLayer_56 : decode cX9_readLayer 56 = .ok (.aload_n 0, 1) := by decide +kernel
theorem dX9_readLayer_57 : decode cX9_readLayer 57 = .ok (.iload_n 1, 1) := by decide +kernel
theorem dX9_readLayer_58 : decode cX9_readLayer 58 = .ok (.invokevirtual 91, 3) := by decide +kernel
theorem dX9_readLayer_61 : decode cX9_readLayer 61 = .ok (.goto 13, 3) := by decide +kernel
theorem dX9_readLayer_64 : decode cX9_readLayer 64 = .ok (.aload_n 0, 1) := by decide +kernel
theorem dX9_readLayer_65 : decode cX9_readLayer 65 = .ok (.iload_n 1, 1) := by decide +kernel
theorem dX9_readLayer_66 : decode cX9_readLayer 66 = .ok (.iconst 1, 1) := by decide +kernel
theorem dX9_readLayer_67 : decode cX9_readLayer 67 = .ok (.iconst 1, 1) := by decide +kernel
theorem dX9_readLayer_68 : decode cX9_readLayer 68 = .ok (.invokestatic 84, 3) := by decide +kernel
theorem dX9_readLayer_71 : decode cX9_readLayer 71 = .ok (.invokevirtual 88, 3) := by decide +kernel
theorem dX9_readLayer_74 : decode cX9_readLayer 74 = .ok (.return_, 1) := by decide +kernel
theorem dX9_readThickOrNone_0 : decode cX9_readThickOrNone 0 = .ok (.aload_n 0, 1) := by decide +kernel
theorem dX9_readThickOrNone_1 : decode cX9_readThickOrNone 1 = .ok (.getfield 41, 3) := by decide +kernel
theorem dX9_readThickOrNone_4 : decode cX9_readThickOrNone 4 = .ok (.istore_n 2, 1) := by decide +kernel
theorem dX9_readThickOrNone_5 : decode cX9_readThickOrNone 5 = .ok (.aload_n 0, 1) := by decide +kernel
theorem dX9_readThickOrNone_6 : decode cX9_readThickOrNone 6 = .ok (.invokevirtual 94, 3) := by decide +kernel
theorem dX9_readThickOrNone_9 : decode cX9_readThickOrNone 9 = .ok (.aload_n 0, 1) := by decide +kernel
theorem dX9_readThickOrNone_10 : decode cX9_readThickOrNone 10 = .ok (.invokevirtual 56, 3) := by decide +kernel
theorem dX9_readThickOrNone_13 : decode cX9_readThickOrNone 13 = .ok (.aload_n 0, 1) := by decide +kernel
theorem dX9_readThickOrNone_14 : decode cX9_readThickOrNone 14 = .ok (.invokevirtual 66, 3) := by decide +kernel
theorem dX9_readThickOrNone_17 : decode cX9_readThickOrNone 17 = .ok (.bipush 40, 2) := by decide +kernel
theorem dX9_readThickOrNone_19 : decode cX9_readThickOrNone 19 = .ok (.if_icmp .ne 19, 3) := by decide +kernel
theorem dX9_readThickOrNone_22 : decode cX9_readThickOrNone 22 = .ok (.aload_n 0, 1) := by decide +kernel
theorem dX9_readThickOrNone_23 : decode cX9_readThickOrNone 23 = .ok (.iload_n 2, 1) := by decide +kernel
theorem dX9_readThickOrNone_24 : decode cX9_readThickOrNone 24 = .ok (.putfield 41, 3) := by decide +kernel
theorem dX9_readThickOrNone_27 : decode cX9_readThickOrNone 27 = .ok (.aload_n 0, 1) := by decide +kernel
theorem dX9_readThickOrNone_28 : decode cX9_readThickOrNone 28 = .ok (.iload_n 1, 1) := by decide +kernel
theorem dX9_readThickOrNone_29 : decode cX9_readThickOrNone 29 = .ok (.iconst 1, 1) := by decide +kernel
theorem dX9_readThickOrNone_30 : decode cX9_readThickOrNone 30 = .ok (.iconst 1, 1) := by decide +kernel
theorem dX9_readThickOrNone_31 : decode cX9_readThickOrNone 31 = .ok (.invokestatic 84, 3) := by decide +kernel
theorem dX9_readThickOrNone_34 : decode cX9_readThickOrNone 34 = .ok (.invokevirtual 88, 3) := by decide +kernel
theorem dX9_readThickOrNone_37 : decode cX9_readThickOrNone 37 = .ok (.return_, 1) := by decide +kernel
theorem dX9_readThickOrNone_38 : decode cX9_readThickOrNone 38 = .ok (.aload_n 0, 1) := by decide +kernel
theorem dX9_readThickOrNone_39 : decode cX9_readThickOrNone 39 = .ok (.invokevirtual 66, 3) := by decide +kernel
theorem dX9_readThickOrNone_42 : decode cX9_readThickOrNone 42 = .ok (.bipush 47, 2) := by decide +kernel
theorem dX9_readThickOrNone_44 : decode cX9_readThickOrNone 44 = .ok (.if_icmp .eq 13, 3) := by decide +kernel
theorem dX9_readThickOrNone_47 : decode cX9_readThickOrNone 47 = .ok (.aload_n 0, 1) := by decide +kernel
theorem dX9_readThickOrNone_48 : decode cX9_readThickOrNone 48 = .ok (.iconst 1, 1) := by decide +kernel
theorem dX9_readThickOrNone_49 : decode cX9_readThickOrNone 49 = .ok (.aload_n 0, 1) := by decide +kernel
theorem dX9_readThickOrNone_50 : decode cX9_readThickOrNone 50 = .ok (.getfield 41, 3) := by decide +kernel
theorem dX9_readThickOrNone_53 : decode cX9_readThickOrNone 53 = .ok (.invokevirtual 62, 3) := by decide +kernel
theorem dX9_readThickOrNone_56 : decode cX9_readThickOrNone 56 = .ok (.return_, 1) := by decide +kernel
theorem dX9_readThickOrNone_57 : decode cX9_readThickOrNone 57 = .ok (.aload_n 0, 1) := by decide +kernel
theorem dX9_readThickOrNone_58 : decode cX9_readThickOrNone 58 = .ok (.getfield 44, 3) := by decide +kernel
theorem dX9_readThickOrNone_61 : decode cX9_readThickOrNone 61 = .ok (.bipush 6, 2) := by decide +kernel
theorem dX9_readThickOrNone_63 : decode cX9_readThickOrNone 63 = .ok (.if_icmp .le 10, 3) := by decide +kernel
theorem dX9_readThickOrNone_66 : decode cX9_readThickOrNone 66 = .ok (.aload_n 0, 1) := by decide +kernel
theorem dX9_readThickOrNone_67 : decode cX9_readThickOrNone 67 = .ok (.iconst 2, 1) := by decide +kernel
theorem dX9_readThickOrNone_68 : decode cX9_readThickOrNone 68 = .ok (.iload_n 2, 1) := by decide +kernel
theorem dX9_readThickOrNone_69 : decode cX9_readThickOrNone 69 = .ok (.invokevirtual 62, 3) := by decide +kernel
theorem dX9_readThickOrNone_72 : decode cX9_readThickOrNone 72 = .ok (.return_, 1) := by decide +kernel
theorem dX9_readThickOrNone_73 : decode cX9_readThickOrNone 73 = .ok (.aload_n 0, 1) := by decide +kernel
theorem dX9_readThickOrNone_74 : decode cX9_readThickOrNone 74 = .ok (.getfield 44, 3) := by decide +kernel
theorem dX9_readThickOrNone_77 : decode cX9_readThickOrNone 77 = .ok (.istore_n 3, 1) := by decide +kernel
theorem dX9_readThickOrNone_78 : decode cX9_readThickOrNone 78 = .ok (.aload_n 0, 1) := by decide +kernel
theorem dX9_readThickOrNone_79 : decode cX9_readThickOrNone 79 = .ok (.dup, 1) := by decide +kernel
theorem dX9_readThickOrNone_80 : decode cX9_readThickOrNone 80 = .ok (.getfield 41, 3) := by decide +kernel
theorem dX9_readThickOrNone_83 : decode cX9_readThickOrNone 83 = .ok (.iconst 1, 1) := by decide +kernel
theorem dX9_readThickOrNone_84 : decode cX9_readThickOrNone 84 = .ok (.iadd, 1) := by decide +kernel
theorem dX9_readThickOrNone_85 : decode cX9_readThickOrNone 85 = .ok (.putfield 41, 3) := by decide +kernel
theorem dX9_readThickOrNone_88 : decode cX9_readThickOrNone 88 = .ok (.aload_n 0, 1) := by decide +kernel
theorem dX9_readThickOrNone_89 : decode cX9_readThickOrNone 89 = .ok (.invokevirtual 56, 3) := by decide +kernel
theorem dX9_readThickOrNone_92 : decode cX9_readThickOrNone 92 = .ok (.aload_n 0, 1) := by decide +kernel
theorem dX9_readThickOrNone_93 : decode cX9_readThickOrNone 93 = .ok (.invokevirtual 66, 3) := by decide +kernel
theorem dX9_readThickOrNone_96 : decode cX9_readThickOrNone 96 = .ok (.invokestatic 74, 3) := by decide +kernel
theorem dX9_readThickOrNone_99 : decode cX9_readThickOrNone 99 = .ok (.ifCond .ne 13, 3) := by decide +kernel
theorem dX9_readThickOrNone_102 : decode cX9_readThickOrNone 102 = .ok (.aload_n 0, 1) := by decide +kernel
theorem dX9_readThickOrNone_103 : decode cX9_readThickOrNone 103 = .ok (.iconst 1, 1) := by decide +kernel
theorem dX9_readThickOrNone_104 : decode cX9_readThickOrNone 104 = .ok (.aload_n 0, 1) := by decide +kernel
theorem dX9_readThickOrNone_105 : decode cX9_readThickOrNone 105 = .ok (.getfield 41, 3) := by decide +kernel
theorem dX9_readThickOrNone_108 : decode cX9_readThickOrNone 108 = .ok (.invokevirtual 62, 3) := by decide +kernel
theorem dX9_readThickOrNone_111 : decode cX9_readThickOrNone 111 = .ok (.return_, 1) := by decide +kernel
theorem dX9_readThickOrNone_112 : decode cX9_readThickOrNone 112 = .ok (.aload_n 0, 1) := by decide +kernel
theorem dX9_readThickOrNone_113 : decode cX9_readThickOrNone 113 = .ok (.getfield 41, 3) := by decide +kernel
theorem dX9_readThickOrNone_116 : decode cX9_readThickOrNone 116 = .ok (.istore_n 2, 1) := by decide +kernel
theorem dX9_readThickOrNone_117 : decode cX9_readThickOrNone 117 = .ok (.aload_n 0, 1) := by decide +kernel
theorem dX9_readThickOrNone_118 : decode cX9_readThickOrNone 118 = .ok (.invokevirtual 94, 3) := by decide +kernel
theorem dX9_readThickOrNone_121 : decode cX9_readThickOrNone 121 = .ok (.aload_n 0, 1) := by decide +kernel
theorem dX9_readThickOrNone_122 : decode cX9_readThickOrNone 122 = .ok (.getfield 44, 3) := by decide +kernel
theorem dX9_readThickOrNone_125 : decode cX9_readThickOrNone 125 = .ok (.iconst 1, 1) := by decide +kernel
theorem dX9_readThickOrNone_126 : decode cX9_readThickOrNone 126 = .ok (.if_icmp .lt 12, 3) := by decide +kernel
theorem dX9_readThickOrNone_129 : decode cX9_readThickOrNone 129 = .ok (.aload_n 0, 1) := by decide +kernel
theorem dX9_readThickOrNone_130 : decode cX9_readThickOrNone 130 = .ok (.getfield 44, 3) := by decide +kernel
theorem dX9_readThickOrNone_133 : decode cX9_readThickOrNone 133 = .ok (.bipush 6, 2) := by decide +kernel
theorem dX9_readThickOrNone_135 : decode cX9_readThickOrNone 135 = .ok (.if_icmp .le 10, 3) := by decide +kernel
theorem dX9_readThickOrNone_138 : decode cX9_readThickOrNone 138 = .ok (.aload_n 0, 1) := by decide +kernel
theorem dX9_readThickOrNone_139 : decode cX9_readThickOrNone 139 = .ok (.iconst 2, 1) := by decide +kernel
theorem dX9_readThickOrNone_140 : decode cX9_readThickOrNone 140 = .ok (.iload_n 2, 1) := by decide +kernel
theorem dX9_readThickOrNone_141 : decode cX9_readThickOrNone 141 = .ok (.invokevirtual 62, 3) := by decide +kernel
theorem dX9_readThickOrNone_144 : decode cX9_readThickOrNone 144 = .ok (.return_, 1) := by decide +kernel
theorem dX9_readThickOrNone_145 : decode cX9_readThickOrNone 145 = .ok (.aload_n 0, 1) := by decide +kernel
theorem dX9_readThickOrNone_146 : decode cX9_readThickOrNone 146 = .ok (.iload_n 1, 1) := by decide +kernel
theorem dX9_readThickOrNone_147 : decode cX9_readThickOrNone 147 = .ok (.iload_n 3, 1) := by decide +kernel
theorem dX9_readThickOrNone_148 : decode cX9_readThickOrNone 148 = .ok (.aload_n 0, 1) := by decide +kernel
theorem dX9_readThickOrNone_149 : decode cX9_readThickOrNone 149 = .ok (.getfield 44, 3) := by decide +kernel
theorem dX9_readThickOrNone_152 : decode cX9_readThickOrNone 152 = .ok (.invokestatic 84, 3) := by decide +kernel
theorem dX9_readThickOrNone_155 : decode cX9_readThickOrNone 155 = .ok (.invokevirtual 88, 3) := by decide +kernel
theorem dX9_readThickOrNone_158 : decode cX9_readThickOrNone 158 = .ok (.return_, 1) := by decide +kernel
theorem dX9_readOpening_0 : decode cX9_readOpening 0 = .ok (.aload_n 0, 1) := by decide +kernel
theorem dX9_readOpening_1 : decode cX9_readOpening 1 = .ok (.getfield 41, 3) := by decide +kernel
theorem dX9_readOpening_4 : decode cX9_readOpening 4 = .ok (.istore_n 1, 1) := by decide +kernel
theorem dX9_readOpening_5 : decode cX9_readOpening 5 = .ok (.aload_n 0, 1) := by decide +kernel
theorem dX9_readOpening_6 : decode cX9_readOpening 6 = .ok (.invokevirtual 94, 3) := by decide +kernel
theorem dX9_readOpening_9 : decode cX9_readOpening 9 = .ok (.aload_n 0, 1) := by decide +kernel
theorem dX9_readOpening_10 : decode cX9_readOpening 10 = .ok (.invokevirtual 56, 3) := by decide +kernel
theorem dX9_readOpening_13 : decode cX9_readOpening 13 = .ok (.aload_n 0, 1) := by decide +kernel
theorem dX9_readOpening_14 : decode cX9_readOpening 14 = .ok (.invokevirtual 66, 3) := by decide +kernel
theorem dX9_readOpening_17 : decode cX9_readOpening 17 = .ok (.bipush 40, 2) := by decide +kernel
theorem dX9_readOpening_19 : decode cX9_readOpening 19 = .ok (.if_icmp .ne 11, 3) := by decide +kernel
theorem dX9_readOpening_22 : decode cX9_readOpening 22 = .ok (.aload_n 0, 1) := by decide +kernel
theorem dX9_readOpening_23 : decode cX9_readOpening 23 = .ok (.iload_n 1, 1) := by decide +kernel
theorem dX9_readOpening_24 : decode cX9_readOpening 24 = .ok (.invokevirtual 97, 3) := by decide +kernel
theorem dX9_readOpening_27 : decode cX9_readOpening 27 = .ok (.goto 39, 3) := by decide +kernel
theorem dX9_readOpening_30 : decode cX9_readOpening 30 = .ok (.aload_n 0, 1) := by decide +kernel
theorem dX9_readOpening_31 : decode cX9_readOpening 31 = .ok (.invokevirtual 66, 3) := by decide +kernel
theorem dX9_readOpening_34 : decode cX9_readOpening 34 = .ok (.bipush 47, 2) := by decide +kernel
theorem dX9_readOpening_36 : decode cX9_readOpening 36 = .ok (.if_icmp .ne 21, 3) := by decide +kernel
theorem dX9_readOpening_39 : decode cX9_readOpening 39 = .ok (.aload_n 0, 1) := by decide +kernel
theorem dX9_readOpening_40 : decode cX9_readOpening 40 = .ok (.getfield 44, 3) := by decide +kernel
theorem dX9_readOpening_43 : decode cX9_readOpening 43 = .ok (.bipush 6, 2) := by decide +kernel
theorem dX9_readOpening_45 : decode cX9_readOpening 45 = .ok (.if_icmp .le 12, 3) := by decide +kernel
theorem dX9_readOpening_48 : decode cX9_readOpening 48 = .ok (.aload_n 0, 1) := by decide +kernel
theorem dX9_readOpening_49 : decode cX9_readOpening 49 = .ok (.iconst 2, 1) := by decide +kernel
theorem dX9_readOpening_50 : decode cX9_readOpening 50 = .ok (.iload_n 1, 1) := by decide +kernel
theorem dX9_readOpening_51 : decode cX9_readOpening 51 = .ok (.invokevirtual 62, 3) := by decide +kernel
theorem dX9_readOpening_54 : decode cX9_readOpening 54 = .ok (.goto 12, 3) := by decide +kernel
theorem dX9_readOpening_57 : decode cX9_readOpening 57 = .ok (.aload_n 0, 1) := by decide +kernel
theorem dX9_readOpening_58 : decode cX9_readOpening 58 = .ok (.iconst 1, 1) := by decide +kernel
theorem dX9_readOpening_59 : decode cX9_readOpening 59 = .ok (.aload_n 0, 1) := by decide +kernel
theorem dX9_readOpening_60 : decode cX9_readOpening 60 = .ok (.getfield 41, 3) := by decide +kernel
theorem dX9_readOpening_63 : decode cX9_readOpening 63 = .ok (.invokevirtual 62, 3) := by decide +kernel
theorem dX9_readOpening_66 : decode cX9_readOpening 66 = .ok (.return_, 1) := by decide +kernel
theorem dX9_openGroup_0 : decode cX9_openGroup 0 = .ok (.aload_n 0, 1) := by decide +kernel
theorem dX9_openGroup_1 : decode cX9_openGroup 1 = .ok (.getfield 44, 3) := by decide +kernel
theorem dX9_openGroup_4 : decode cX9_openGroup 4 = .ok (.iconst 1, 1) := by decide +kernel
theorem dX9_openGroup_5 : decode cX9_openGroup 5 = .ok (.if_icmp .lt 12, 3) := by decide +kernel
theorem dX9_openGroup_8 : decode cX9_openGroup 8 = .ok (.aload_n 0, 1) := by decide +kernel
theorem dX9_openGroup_9 : decode cX9_openGroup 9 = .ok (.getfield 44, 3) := by decide +kernel
theorem dX9_openGroup_12 : decode cX9_openGroup 12 = .ok (.bipush 9, 2) := by decide +kernel
theorem dX9_openGroup_14 : decode cX9_openGroup 14 = .ok (.if_icmp .le 10, 3) := by decide +kernel
theorem dX9_openGroup_17 : decode cX9_openGroup 17 = .ok (.aload_n 0, 1) := by decide +kernel
theorem dX9_openGroup_18 : decode cX9_openGroup 18 = .ok (.iconst 2, 1) := by decide +kernel
theorem dX9_openGroup_19 : decode cX9_openGroup 19 = .ok (.iload_n 1, 1) := by decide +kernel
theorem dX9_openGroup_20 : decode cX9_openGroup 20 = .ok (.invokevirtual 62, 3) := by decide +kernel
theorem dX9_openGroup_23 : decode cX9_openGroup 23 = .ok (.return_, 1) := by decide +kernel
theorem dX9_openGroup_24 : decode cX9_openGroup 24 = .ok (.aload_n 0, 1) := by decide +kernel
theorem dX9_openGroup_25 : decode cX9_openGroup 25 = .ok (.getfield 38, 3) := by decide +kernel
theorem dX9_openGroup_28 : decode cX9_openGroup 28 = .ok (.iconst 4, 1) := by decide +kernel
theorem dX9_openGroup_29 : decode cX9_openGroup 29 = .ok (.if_icmp .lt 13, 3) := by decide +kernel
theorem dX9_openGroup_32 : decode cX9_openGroup 32 = .ok (.aload_n 0, 1) := by decide +kernel
theorem dX9_openGroup_33 : decode cX9_openGroup 33 = .ok (.iconst 3, 1) := by decide +kernel
theorem dX9_openGroup_34 : decode cX9_openGroup 34 = .ok (.aload_n 0, 1) := by decide +kernel
theorem dX9_openGroup_35 : decode cX9_openGroup 35 = .ok (.getfield 41, 3) := by decide +kernel
theorem dX9_openGroup_38 : decode cX9_openGroup 38 = .ok (.invokevirtual 62, 3) := by decide +kernel
theorem dX9_openGroup_41 : decode cX9_openGroup 41 = .ok (.return_, 1) := by decide +kernel
theorem dX9_openGroup_42 : decode cX9_openGroup 42 = .ok (.aload_n 0, 1) := by decide +kernel
theorem dX9_openGroup_43 : decode cX9_openGroup 43 = .ok (.getfield 32, 3) := by decide +kernel
theorem dX9_openGroup_46 : decode cX9_openGroup 46 = .ok (.aload_n 0, 1) := by decide +kernel
theorem dX9_openGroup_47 : decode cX9_openGroup 47 = .ok (.getfield 38, 3) := by decide +kernel
theorem dX9_openGroup_50 : decode cX9_openGroup 50 = .ok (.aload_n 0, 1) := by decide +kernel
theorem dX9_openGroup_51 : decode cX9_openGroup 51 = .ok (.getfield 44, 3) := by decide +kernel
theorem dX9_openGroup_54 : decode cX9_openGroup 54 = .ok (.iastore, 1) := by decide +kernel
theorem dX9_openGroup_55 : decode cX9_openGroup 55 = .ok (.aload_n 0, 1) := by decide +kernel
theorem dX9_openGroup_56 : decode cX9_openGroup 56 = .ok (.getfield 35, 3) := by decide +kernel
theorem dX9_openGroup_59 : decode cX9_openGroup 59 = .ok (.aload_n 0, 1) := by decide +kernel
theorem dX9_openGroup_60 : decode cX9_openGroup 60 = .ok (.getfield 38, 3) := by decide +kernel
theorem dX9_openGroup_63 : decode cX9_openGroup 63 = .ok (.aload_n 0, 1) := by decide +kernel
theorem dX9_openGroup_64 : decode cX9_openGroup 64 = .ok (.getfield 28, 3) := by decide +kernel
theorem dX9_openGroup_67 : decode cX9_openGroup 67 = .ok (.getfield 53, 3) := by decide +kernel
theorem dX9_openGroup_70 : decode cX9_openGroup 70 = .ok (.iastore, 1) := by decide +kernel
theorem dX9_openGroup_71 : decode cX9_openGroup 71 = .ok (.aload_n 0, 1) := by decide +kernel
theorem dX9_openGroup_72 : decode cX9_openGroup 72 = .ok (.dup, 1) := by decide +kernel
theorem dX9_openGroup_73 : decode cX9_openGroup 73 = .ok (.getfield 38, 3) := by decide +kernel
theorem dX9_openGroup_76 : decode cX9_openGroup 76 = .ok (.iconst 1, 1) := by decide +kernel
theorem dX9_openGroup_77 : decode cX9_openGroup 77 = .ok (.iadd, 1) := by decide +kernel
theorem dX9_openGroup_78 : decode cX9_openGroup 78 = .ok (.putfield 38, 3) := by decide +kernel
theorem dX9_openGroup_81 : decode cX9_openGroup 81 = .ok (.aload_n 0, 1) := by decide +kernel
theorem dX9_openGroup_82 : decode cX9_openGroup 82 = .ok (.dup, 1) := by decide +kernel
theorem dX9_openGroup_83 : decode cX9_openGroup 83 = .ok (.getfield 41, 3) := by decide +kernel
theorem dX9_openGroup_86 : decode cX9_openGroup 86 = .ok (.iconst 1, 1) := by decide +kernel
theorem dX9_openGroup_87 : decode cX9_openGroup 87 = .ok (.iadd, 1) := by decide +kernel
theorem dX9_openGroup_88 : decode cX9_openGroup 88 = .ok (.putfield 41, 3) := by decide +kernel
theorem dX9_openGroup_91 : decode cX9_openGroup 91 = .ok (.return_, 1) := by decide +kernel
theorem dX9_closeGroup_0 : decode cX9_closeGroup 0 = .ok (.aload_n 0, 1) := by decide +kernel
theorem dX9_closeGroup_1 : decode cX9_closeGroup 1 = .ok (.getfield 38, 3) := by decide +kernel
theorem dX9_closeGroup_4 : decode cX9_closeGroup 4 = .ok (.iconst 1, 1) := by decide +kernel
theorem dX9_closeGroup_5 : decode cX9_closeGroup 5 = .ok (.if_icmp .lt 11, 3) := by decide +kernel
theorem dX9_closeGroup_8 : decode cX9_closeGroup 8 = .ok (.aload_n 0, 1) := by decide +kernel
theorem dX9_closeGroup_9 : decode cX9_closeGroup 9 = .ok (.getfield 38, 3) := by decide +kernel
theorem dX9_closeGroup_12 : decode cX9_closeGroup 12 = .ok (.iconst 4, 1) := by decide +kernel
theorem dX9_closeGroup_13 : decode cX9_closeGroup 13 = .ok (.if_icmp .le 4, 3) := by decide +kernel
theorem dX9_closeGroup_16 : decode cX9_closeGroup 16 = .ok (.return_, 1) := by decide +kernel
theorem dX9_closeGroup_17 : decode cX9_closeGroup 17 = .ok (.aload_n 0, 1) := by decide +kernel
theorem dX9_closeGroup_18 : decode cX9_closeGroup 18 = .ok (.dup, 1) := by decide +kernel
theorem dX9_closeGroup_19 : decode cX9_closeGroup 19 = .ok (.getfield 41, 3) := by decide +kernel
theorem dX9_closeGroup_22 : decode cX9_closeGroup 22 = .ok (.iconst 1, 1) := by decide +kernel
theorem dX9_closeGroup_23 : decode cX9_closeGroup 23 = .ok (.iadd, 1) := by decide +kernel
theorem dX9_closeGroup_24 : decode cX9_closeGroup 24 = .ok (.putfield 41, 3) := by decide +kernel
theorem dX9_closeGroup_27 : decode cX9_closeGroup 27 = .ok (.aload_n 0, 1) := by decide +kernel
theorem dX9_closeGroup_28 : decode cX9_closeGroup 28 = .ok (.dup, 1) := by decide +kernel
theorem dX9_closeGroup_29 : decode cX9_closeGroup 29 = .ok (.getfield 38, 3) := by decide +kernel
theorem dX9_closeGroup_32 : decode cX9_closeGroup 32 = .ok (.iconst 1, 1) := by decide +kernel
theorem dX9_closeGroup_33 : decode cX9_closeGroup 33 = .ok (.isub, 1) := by decide +kernel
theorem dX9_closeGroup_34 : decode cX9_closeGroup 34 = .ok (.putfield 38, 3) := by decide +kernel
theorem dX9_closeGroup_37 : decode cX9_closeGroup 37 = .ok (.aload_n 0, 1) := by decide +kernel
theorem dX9_closeGroup_38 : decode cX9_closeGroup 38 = .ok (.getfield 35, 3) := by decide +kernel
theorem dX9_closeGroup_41 : decode cX9_closeGroup 41 = .ok (.aload_n 0, 1) := by decide +kernel
theorem dX9_closeGroup_42 : decode cX9_closeGroup 42 = .ok (.getfield 38, 3) := by decide +kernel
theorem dX9_closeGroup_45 : decode cX9_closeGroup 45 = .ok (.iaload, 1) := by decide +kernel
theorem dX9_closeGroup_46 : decode cX9_closeGroup 46 = .ok (.istore_n 1, 1) := by decide +kernel
theorem dX9_closeGroup_47 : decode cX9_closeGroup 47 = .ok (.aload_n 0, 1) := by decide +kernel
theorem dX9_closeGroup_48 : decode cX9_closeGroup 48 = .ok (.getfield 28, 3) := by decide +kernel
theorem dX9_closeGroup_51 : decode cX9_closeGroup 51 = .ok (.getfield 53, 3) := by decide +kernel
theorem dX9_closeGroup_54 : decode cX9_closeGroup 54 = .ok (.istore_n 2, 1) := by decide +kernel
theorem dX9_closeGroup_55 : decode cX9_closeGroup 55 = .ok (.iconst 1, 1) := by decide +kernel
theorem dX9_closeGroup_56 : decode cX9_closeGroup 56 = .ok (.istore_n 3, 1) := by decide +kernel
theorem dX9_closeGroup_57 : decode cX9_closeGroup 57 = .ok (.iload_n 3, 1) := by decide +kernel
theorem dX9_closeGroup_58 : decode cX9_closeGroup 58 = .ok (.aload_n 0, 1) := by decide +kernel
theorem dX9_closeGroup_59 : decode cX9_closeGroup 59 = .ok (.getfield 32, 3) := by decide +kernel
theorem dX9_closeGroup_62 : decode cX9_closeGroup 62 = .ok (.aload_n 0, 1) := by decide +kernel
theorem dX9_closeGroup_63 : decode cX9_closeGroup 63 = .ok (.getfield 38, 3) := by decide +kernel
theorem dX9_closeGroup_66 : decode cX9_closeGroup 66 = .ok (.iaload, 1) := by decide +kernel
theorem dX9_closeGroup_67 : decode cX9_closeGroup 67 = .ok (.if_icmp .ge 38, 3) := by decide +kernel
theorem dX9_closeGroup_70 : decode cX9_closeGroup 70 = .ok (.iload_n 1, 1) := by decide +kernel
theorem dX9_closeGroup_71 : decode cX9_closeGroup 71 = .ok (.istore 4, 2) := by decide +kernel
theorem dX9_closeGroup_73 : decode cX9_closeGroup 73 = .ok (.iload 4, 2) := by decide +kernel
theorem dX9_closeGroup_75 : decode cX9_closeGroup 75 = .ok (.iload_n 2, 1) := by decide +kernel
theorem dX9_closeGroup_76 : decode cX9_closeGroup 76 = .ok (.if_icmp .ge 23, 3) := by decide +kernel
theorem dX9_closeGroup_79 : decode cX9_closeGroup 79 = .ok (.aload_n 0, 1) := by decide +kernel
theorem dX9_closeGroup_80 : decode cX9_closeGroup 80 = .ok (.aload_n 0, 1) := by decide +kernel
theorem dX9_closeGroup_81 : decode cX9_closeGroup 81 = .ok (.getfield 28, 3) := by decide +kernel
theorem dX9_closeGroup_84 : decode cX9_closeGroup 84 = .ok (.getfield 100, 3) := by decide +kernel
theorem dX9_closeGroup_87 : decode cX9_closeGroup 87 = .ok (.iload 4, 2) := by decide +kernel
theorem dX9_closeGroup_89 : decode cX9_closeGroup 89 = .ok (.iaload, 1) := by decide +kernel
theorem dX9_closeGroup_90 : decode cX9_closeGroup 90 = .ok (.invokevirtual 88, 3) := by decide +kernel
theorem dX9_closeGroup_93 : decode cX9_closeGroup 93 = .ok (.iinc 4 1, 3) := by decide +kernel
theorem dX9_closeGroup_96 : decode cX9_closeGroup 96 = .ok (.goto (-23), 3) := by decide +kernel
theorem dX9_closeGroup_99 : decode cX9_closeGroup 99 = .ok (.iinc 3 1, 3) := by decide +kernel
theorem dX9_closeGroup_102 : decode cX9_closeGroup 102 = .ok (.goto (-45), 3) := by decide +kernel
theorem dX9_closeGroup_105 : decode cX9_closeGroup 105 = .ok (.return_, 1) := by decide +kernel
theorem dX9_lay_0 : decode cX9_lay 0 = .ok (.aload_n 0, 1) := by decide +kernel
theorem dX9_lay_1 : decode cX9_lay 1 = .ok (.getfield 28, 3) := by decide +kernel
theorem dX9_lay_4 : decode cX9_lay 4 = .ok (.getfield 53, 3) := by decide +kernel
theorem dX9_lay_7 : decode cX9_lay 7 = .ok (.bipush 24, 2) := by decide +kernel
theorem dX9_lay_9 : decode cX9_lay 9 = .ok (.if_icmp .ge 21, 3) := by decide +kernel
theorem dX9_lay_12 : decode cX9_lay 12 = .ok (.aload_n 0, 1) := by decide +kernel
theorem dX9_lay_13 : decode cX9_lay 13 = .ok (.getfield 28, 3) := by decide +kernel
theorem dX9_lay_16 : decode cX9_lay 16 = .ok (.aload_n 0, 1) := by decide +kernel
theorem dX9_lay_17 : decode cX9_lay 17 = .ok (.getfield 28, 3) := by decide +kernel
theorem dX9_lay_20 : decode cX9_lay 20 = .ok (.getfield 53, 3) := by decide +kernel
theorem dX9_lay_23 : decode cX9_lay 23 = .ok (.iload_n 1, 1) := by decide +kernel
theorem dX9_lay_24 : decode cX9_lay 24 = .ok (.invokevirtual 103, 3) := by decide +kernel
theorem dX9_lay_27 : decode cX9_lay 27 = .ok (.goto 19, 3) := by decide +kernel
theorem dX9_lay_30 : decode cX9_lay 30 = .ok (.aload_n 0, 1) := by decide +kernel
theorem dX9_lay_31 : decode cX9_lay 31 = .ok (.getfield 50, 3) := by decide +kernel
theorem dX9_lay_34 : decode cX9_lay 34 = .ok (.iconst (-1), 1) := by decide +kernel
theorem dX9_lay_35 : decode cX9_lay 35 = .ok (.if_icmp .ne 11, 3) := by decide +kernel
theorem dX9_lay_38 : decode cX9_lay 38 = .ok (.aload_n 0, 1) := by decide +kernel
theorem dX9_lay_39 : decode cX9_lay 39 = .ok (.aload_n 0, 1) := by decide +kernel
theorem dX9_lay_40 : decode cX9_lay 40 = .ok (.getfield 47, 3) := by decide +kernel
theorem dX9_lay_43 : decode cX9_lay 43 = .ok (.putfield 50, 3) := by decide +kernel
theorem dX9_lay_46 : decode cX9_lay 46 = .ok (.return_, 1) := by decide +kernel
theorem dX9_readNumber_0 : decode cX9_readNumber 0 = .ok (.aload_n 0, 1) := by decide +kernel
theorem dX9_readNumber_1 : decode cX9_readNumber 1 = .ok (.iconst 0, 1) := by decide +kernel
theorem dX9_readNumber_2 : decode cX9_readNumber 2 = .ok (.putfield 44, 3) := by decide +kernel
theorem dX9_readNumber_5 : decode cX9_readNumber 5 = .ok (.iconst 0, 1) := by decide +kernel
theorem dX9_readNumber_6 : decode cX9_readNumber 6 = .ok (.istore_n 1, 1) := by decide +kernel
theorem dX9_readNumber_7 : decode cX9_readNumber 7 = .ok (.iload_n 1, 1) := by decide +kernel
theorem dX9_readNumber_8 : decode cX9_readNumber 8 = .ok (.sipush 200, 3) := by decide +kernel
theorem dX9_readNumber_11 : decode cX9_readNumber 11 = .ok (.if_icmp .ge 54, 3) := by decide +kernel
theorem dX9_readNumber_14 : decode cX9_readNumber 14 = .ok (.aload_n 0, 1) := by decide +kernel
theorem dX9_readNumber_15 : decode cX9_readNumber 15 = .ok (.invokevirtual 66, 3) := by decide +kernel
theorem dX9_readNumber_18 : decode cX9_readNumber 18 = .ok (.invokestatic 74, 3) := by decide +kernel
theorem dX9_readNumber_21 : decode cX9_readNumber 21 = .ok (.ifCond .eq 44, 3) := by decide +kernel
theorem dX9_readNumber_24 : decode cX9_readNumber 24 = .ok (.aload_n 0, 1) := by decide +kernel
theorem dX9_readNumber_25 : decode cX9_readNumber 25 = .ok (.aload_n 0, 1) := by decide +kernel
theorem dX9_readNumber_26 : decode cX9_readNumber 26 = .ok (.getfield 44, 3) := by decide +kernel
theorem dX9_readNumber_29 : decode cX9_readNumber 29 = .ok (.bipush 10, 2) := by decide +kernel
theorem dX9_readNumber_31 : decode cX9_readNumber 31 = .ok (.imul, 1) := by decide +kernel
theorem dX9_readNumber_32 : decode cX9_readNumber 32 = .ok (.aload_n 0, 1) := by decide +kernel
theorem dX9_readNumber_33 : decode cX9_readNumber 33 = .ok (.invokevirtual 66, 3) := by decide +kernel
theorem dX9_readNumber_36 : decode cX9_readNumber 36 = .ok (.iadd, 1) := by decide +kernel
theorem dX9_readNumber_37 : decode cX9_readNumber 37 = .ok (.bipush 48, 2) := by decide +kernel
theorem dX9_readNumber_39 : decode cX9_readNumber 39 = .ok (.isub, 1) := by decide +kernel
theorem dX9_readNumber_40 : decode cX9_readNumber 40 = .ok (.sipush 1000, 3) := by decide +kernel
theorem dX9_readNumber_43 : decode cX9_readNumber 43 = .ok (.invokestatic 106, 3) := by decide +kernel
theorem dX9_readNumber_46 : decode cX9_readNumber 46 = .ok (.putfield 44, 3) := by decide +kernel
theorem dX9_readNumber_49 : decode cX9_readNumber 49 = .ok (.aload_n 0, 1) := by decide +kernel
theorem dX9_readNumber_50 : decode cX9_readNumber 50 = .ok (.dup, 1) := by decide +kernel
theorem dX9_readNumber_51 : decode cX9_readNumber 51 = .ok (.getfield 41, 3) := by decide +kernel
theorem dX9_readNumber_54 : decode cX9_readNumber 54 = .ok (.iconst 1, 1) := by decide +kernel
theorem dX9_readNumber_55 : decode cX9_readNumber 55 = .ok (.iadd, 1) := by decide +kernel
theorem dX9_readNumber_56 : decode cX9_readNumber 56 = .ok (.putfield 41, 3) := by decide +kernel
theorem dX9_readNumber_59 : decode cX9_readNumber 59 = .ok (.iinc 1 1, 3) := by decide +kernel
theorem dX9_readNumber_62 : decode cX9_readNumber 62 = .ok (.goto (-55), 3) := by decide +kernel
theorem dX9_readNumber_65 : decode cX9_readNumber 65 = .ok (.return_, 1) := by decide +kernel
theorem dX9_skipBlanks_0 : decode cX9_skipBlanks 0 = .ok (.iconst 0, 1) := by decide +kernel
theorem dX9_skipBlanks_1 : decode cX9_skipBlanks 1 = .ok (.istore_n 1, 1) := by decide +kernel
theorem dX9_skipBlanks_2 : decode cX9_skipBlanks 2 = .ok (.iload_n 1, 1) := by decide +kernel
theorem dX9_skipBlanks_3 : decode cX9_skipBlanks 3 = .ok (.sipush 200, 3) := by decide +kernel
theorem dX9_skipBlanks_6 : decode cX9_skipBlanks 6 = .ok (.if_icmp .ge 37, 3) := by decide +kernel
theorem dX9_skipBlanks_9 : decode cX9_skipBlanks 9 = .ok (.aload_n 0, 1) := by decide +kernel
theorem dX9_skipBlanks_10 : decode cX9_skipBlanks 10 = .ok (.invokevirtual 66, 3) := by decide +kernel
theorem dX9_skipBlanks_13 : decode cX9_skipBlanks 13 = .ok (.bipush 32, 2) := by decide +kernel
theorem dX9_skipBlanks_15 : decode cX9_skipBlanks 15 = .ok (.if_icmp .eq 12, 3) := by decide +kernel
theorem dX9_skipBlanks_18 : decode cX9_skipBlanks 18 = .ok (.aload_n 0, 1) := by decide +kernel
theorem dX9_skipBlanks_19 : decode cX9_skipBlanks 19 = .ok (.invokevirtual 66, 3) := by decide +kernel
theorem dX9_skipBlanks_22 : decode cX9_skipBlanks 22 = .ok (.bipush 10, 2) := by decide +kernel
theorem dX9_skipBlanks_24 : decode cX9_skipBlanks 24 = .ok (.if_icmp .ne 19, 3) := by decide +kernel
theorem dX9_skipBlanks_27 : decode cX9_skipBlanks 27 = .ok (.aload_n 0, 1) := by decide +kernel
theorem dX9_skipBlanks_28 : decode cX9_skipBlanks 28 = .ok (.dup, 1) := by decide +kernel
theorem dX9_skipBlanks_29 : decode cX9_skipBlanks 29 = .ok (.getfield 41, 3) := by decide +kernel
theorem dX9_skipBlanks_32 : decode cX9_skipBlanks 32 = .ok (.iconst 1, 1) := by decide +kernel
theorem dX9_skipBlanks_33 : decode cX9_skipBlanks 33 = .ok (.iadd, 1) := by decide +kernel
theorem dX9_skipBlanks_34 : decode cX9_skipBlanks 34 = .ok (.putfield 41, 3) := by decide +kernel
theorem dX9_skipBlanks_37 : decode cX9_skipBlanks 37 = .ok (.iinc 1 1, 3) := by decide +kernel
theorem dX9_skipBlanks_40 : decode cX9_skipBlanks 40 = .ok (.goto (-38), 3) := by decide +kernel
theorem dX9_skipBlanks_43 : decode cX9_skipBlanks 43 = .ok (.return_, 1) := by decide +kernel
theorem dX9_peek_0 : decode cX9_peek 0 = .ok (.aload_n 0, 1) := by decide +kernel
theorem dX9_peek_1 : decode cX9_peek 1 = .ok (.getfield 41, 3) := by decide +kernel
theorem dX9_peek_4 : decode cX9_peek 4 = .ok (.ifCond .lt 36, 3) := by decide +kernel
theorem dX9_peek_7 : decode cX9_peek 7 = .ok (.aload_n 0, 1) := by decide +kernel
theorem dX9_peek_8 : decode cX9_peek 8 = .ok (.getfield 41, 3) := by decide +kernel
theorem dX9_peek_11 : decode cX9_peek 11 = .ok (.aload_n 0, 1) := by decide +kernel
theorem dX9_peek_12 : decode cX9_peek 12 = .ok (.getfield 15, 3) := by decide +kernel
theorem dX9_peek_15 : decode cX9_peek 15 = .ok (.if_icmp .ge 25, 3) := by decide +kernel
theorem dX9_peek_18 : decode cX9_peek 18 = .ok (.aload_n 0, 1) := by decide +kernel
theorem dX9_peek_19 : decode cX9_peek 19 = .ok (.getfield 41, 3) := by decide +kernel
theorem dX9_peek_22 : decode cX9_peek 22 = .ok (.sipush 200, 3) := by decide +kernel
theorem dX9_peek_25 : decode cX9_peek 25 = .ok (.if_icmp .ge 15, 3) := by decide +kernel
theorem dX9_peek_28 : decode cX9_peek 28 = .ok (.aload_n 0, 1) := by decide +kernel
theorem dX9_peek_29 : decode cX9_peek 29 = .ok (.getfield 9, 3) := by decide +kernel
theorem dX9_peek_32 : decode cX9_peek 32 = .ok (.aload_n 0, 1) := by decide +kernel
theorem dX9_peek_33 : decode cX9_peek 33 = .ok (.getfield 41, 3) := by decide +kernel
theorem dX9_peek_36 : decode cX9_peek 36 = .ok (.iaload, 1) := by decide +kernel
theorem dX9_peek_37 : decode cX9_peek 37 = .ok (.goto 4, 3) := by decide +kernel
theorem dX9_peek_40 : decode cX9_peek 40 = .ok (.iconst (-1), 1) := by decide +kernel
theorem dX9_peek_41 : decode cX9_peek 41 = .ok (.ireturn, 1) := by decide +kernel
theorem dX9_isDigit_0 : decode cX9_isDigit 0 = .ok (.iload_n 0, 1) := by decide +kernel
theorem dX9_isDigit_1 : decode cX9_isDigit 1 = .ok (.bipush 48, 2) := by decide +kernel
theorem dX9_isDigit_3 : decode cX9_isDigit 3 = .ok (.if_icmp .lt 13, 3) := by decide +kernel
theorem dX9_isDigit_6 : decode cX9_isDigit 6 = .ok (.iload_n 0, 1) := by decide +kernel
theorem dX9_isDigit_7 : decode cX9_isDigit 7 = .ok (.bipush 57, 2) := by decide +kernel
theorem dX9_isDigit_9 : decode cX9_isDigit 9 = .ok (.if_icmp .gt 7, 3) := by decide +kernel
theorem dX9_isDigit_12 : decode cX9_isDigit 12 = .ok (.iconst 1, 1) := by decide +kernel
theorem dX9_isDigit_13 : decode cX9_isDigit 13 = .ok (.goto 4, 3) := by decide +kernel
theorem dX9_isDigit_16 : decode cX9_isDigit 16 = .ok (.iconst 0, 1) := by decide +kernel
theorem dX9_isDigit_17 : decode cX9_isDigit 17 = .ok (.ireturn, 1) := by decide +kernel
theorem dX9_fail_0 : decode cX9_fail 0 = .ok (.aload_n 0, 1) := by decide +kernel
theorem dX9_fail_1 : decode cX9_fail 1 = .ok (.iload_n 1, 1) := by decide +kernel
theorem dX9_fail_2 : decode cX9_fail 2 = .ok (.putfield 19, 3) := by decide +kernel
theorem dX9_fail_5 : decode cX9_fail 5 = .ok (.aload_n 0, 1) := by decide +kernel
theorem dX9_fail_6 : decode cX9_fail 6 = .ok (.iload_n 2, 1) := by decide +kernel
theorem dX9_fail_7 : decode cX9_fail 7 = .ok (.putfield 22, 3) := by decide +kernel
theorem dX9_fail_10 : decode cX9_fail 10 = .ok (.return_, 1) := by decide +kernel
theorem dX10_init_0 : decode cX10_init 0 = .ok (.aload_n 0, 1) := by decide +kernel
theorem dX10_init_1 : decode cX10_init 1 = .ok (.invokespecial 3, 3) := by decide +kernel
theorem dX10_init_4 : decode cX10_init 4 = .ok (.aload_n 0, 1) := by decide +kernel
theorem dX10_init_5 : decode cX10_init 5 = .ok (.new 9, 3) := by decide +kernel
theorem dX10_init_8 : decode cX10_init 8 = .ok (.dup, 1) := by decide +kernel
theorem dX10_init_9 : decode cX10_init 9 = .ok (.invokespecial 11, 3) := by decide +kernel
theorem dX10_init_12 : decode cX10_init 12 = .ok (.putfield 12, 3) := by decide +kernel
theorem dX10_init_15 : decode cX10_init 15 = .ok (.aload_n 0, 1) := by decide +kernel
theorem dX10_init_16 : decode cX10_init 16 = .ok (.new 16, 3) := by decide +kernel
theorem dX10_init_19 : decode cX10_init 19 = .ok (.dup, 1) := by decide +kernel
theorem dX10_init_20 : decode cX10_init 20 = .ok (.invokespecial 18, 3) := by decide +kernel
theorem dX10_init_23 : decode cX10_init 23 = .ok (.putfield 19, 3) := by decide +kernel
theorem dX10_init_26 : decode cX10_init 26 = .ok (.aload_n 0, 1) := by decide +kernel
theorem dX10_init_27 : decode cX10_init 27 = .ok (.new 23, 3) := by decide +kernel
theorem dX10_init_30 : decode cX10_init 30 = .ok (.dup, 1) := by decide +kernel
theorem dX10_init_31 : decode cX10_init 31 = .ok (.invokespecial 25, 3) := by decide +kernel
theorem dX10_init_34 : decode cX10_init 34 = .ok (.putfield 26, 3) := by decide +kernel
theorem dX10_init_37 : decode cX10_init 37 = .ok (.aload_n 0, 1) := by decide +kernel
theorem dX10_init_38 : decode cX10_init 38 = .ok (.new 30, 3) := by decide +kernel
theorem dX10_init_41 : decode cX10_init 41 = .ok (.dup, 1) := by decide +kernel
theorem dX10_init_42 : decode cX10_init 42 = .ok (.invokespecial 32, 3) := by decide +kernel
theorem dX10_init_45 : decode cX10_init 45 = .ok (.putfield 33, 3) := by decide +kernel
theorem dX10_init_48 : decode cX10_init 48 = .ok (.aload_n 0, 1) := by decide +kernel
theorem dX10_init_49 : decode cX10_init 49 = .ok (.new 37, 3) := by decide +kernel
theorem dX10_init_52 : decode cX10_init 52 = .ok (.dup, 1) := by decide +kernel
theorem dX10_init_53 : decode cX10_init 53 = .ok (.invokespecial 39, 3) := by decide +kernel
theorem dX10_init_56 : decode cX10_init 56 = .ok (.putfield 40, 3) := by decide +kernel
theorem dX10_init_59 : decode cX10_init 59 = .ok (.aload_n 0, 1) := by decide +kernel
theorem dX10_init_60 : decode cX10_init 60 = .ok (.new 44, 3) := by decide +kernel
theorem dX10_init_63 : decode cX10_init 63 = .ok (.dup, 1) := by decide +kernel
theorem dX10_init_64 : decode cX10_init 64 = .ok (.invokespecial 46, 3) := by decide +kernel
theorem dX10_init_67 : decode cX10_init 67 = .ok (.putfield 47, 3) := by decide +kernel
theorem dX10_init_70 : decode cX10_init 70 = .ok (.aload_n 0, 1) := by decide +kernel
theorem dX10_init_71 : decode cX10_init 71 = .ok (.iconst 4, 1) := by decide +kernel
theorem dX10_init_72 : decode cX10_init 72 = .ok (.anewarray 51, 3) := by decide +kernel
theorem dX10_init_75 : decode cX10_init 75 = .ok (.putfield 53, 3) := by decide +kernel
theorem dX10_init_78 : decode cX10_init 78 = .ok (.aload_n 0, 1) := by decide +kernel
theorem dX10_init_79 : decode cX10_init 79 = .ok (.new 57, 3) := by decide +kernel
theorem dX10_init_82 : decode cX10_init 82 = .ok (.dup, 1) := by decide +kernel
theorem dX10_init_83 : decode cX10_init 83 = .ok (.invokespecial 59, 3) := by decide +kernel
theorem dX10_init_86 : decode cX10_init 86 = .ok (.putfield 60, 3) := by decide +kernel
theorem dX10_init_89 : decode cX10_init 89 = .ok (.aload_n 0, 1) := by decide +kernel
theorem dX10_init_90 : decode cX10_init 90 = .ok (.new 64, 3) := by decide +kernel
theorem dX10_init_93 : decode cX10_init 93 = .ok (.dup, 1) := by decide +kernel
theorem dX10_init_94 : decode cX10_init 94 = .ok (.invokespecial 66, 3) := by decide +kernel
theorem dX10_init_97 : decode cX10_init 97 = .ok (.putfield 67, 3) := by decide +kernel
theorem dX10_init_100 : decode cX10_init 100 = .ok (.aload_n 0, 1) := by decide +kernel
theorem dX10_init_101 : decode cX10_init 101 = .ok (.new 71, 3) := by decide +kernel
theorem dX10_init_104 : decode cX10_init 104 = .ok (.dup, 1) := by decide +kernel
theorem dX10_init_105 : decode cX10_init 105 = .ok (.invokespecial 73, 3) := by decide +kernel
theorem dX10_init_108 : decode cX10_init 108 = .ok (.putfield 74, 3) := by decide +kernel
theorem dX10_init_111 : decode cX10_init 111 = .ok (.aload_n 0, 1) := by decide +kernel
theorem dX10_init_112 : decode cX10_init 112 = .ok (.new 71, 3) := by decide +kernel
theorem dX10_init_115 : decode cX10_init 115 = .ok (.dup, 1) := by decide +kernel
theorem dX10_init_116 : decode cX10_init 116 = .ok (.invokespecial 73, 3) := by decide +kernel
theorem dX10_init_119 : decode cX10_init 119 = .ok (.putfield 78, 3) := by decide +kernel
theorem dX10_init_122 : decode cX10_init 122 = .ok (.aload_n 0, 1) := by decide +kernel
theorem dX10_init_123 : decode cX10_init 123 = .ok (.new 71, 3) := by decide +kernel
theorem dX10_init_126 : decode cX10_init 126 = .ok (.dup, 1) := by decide +kernel
theorem dX10_init_127 : decode cX10_init 127 = .ok (.invokespecial 73, 3) := by decide +kernel
theorem dX10_init_130 : decode cX10_init 130 = .ok (.putfield 81, 3) := by decide +kernel
theorem dX10_init_133 : decode cX10_init 133 = .ok (.aload_n 0, 1) := by decide +kernel
theorem dX10_init_134 : decode cX10_init 134 = .ok (.bipush 96, 2) := by decide +kernel
theorem dX10_init_136 : decode cX10_init 136 = .ok (.newarray .int, 2) := by decide +kernel
theorem dX10_init_138 : decode cX10_init 138 = .ok (.putfield 84, 3) := by decide +kernel
theorem dX10_init_141 : decode cX10_init 141 = .ok (.aload_n 0, 1) := by decide +kernel
theorem dX10_init_142 : decode cX10_init 142 = .ok (.iconst 0, 1) := by decide +kernel
theorem dX10_init_143 : decode cX10_init 143 = .ok (.putfield 88, 3) := by decide +kernel
theorem dX10_init_146 : decode cX10_init 146 = .ok (.iconst 0, 1) := by decide +kernel
theorem dX10_init_147 : decode cX10_init 147 = .ok (.istore_n 1, 1) := by decide +kernel
theorem dX10_init_148 : decode cX10_init 148 = .ok (.iload_n 1, 1) := by decide +kernel
theorem dX10_init_149 : decode cX10_init 149 = .ok (.iconst 4, 1) := by decide +kernel
theorem dX10_init_150 : decode cX10_init 150 = .ok (.if_icmp .ge 22, 3) := by decide +kernel
