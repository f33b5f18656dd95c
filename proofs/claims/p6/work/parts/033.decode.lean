theorem dX10_add_87 : decode cX10_add 87 = .ok (.getfield 40, 3) := by decide +kernel
theorem dX10_add_90 : decode cX10_add 90 = .ok (.getfield 332, 3) := by decide +kernel
theorem dX10_add_93 : decode cX10_add 93 = .ok (.iload 8, 2) := by decide +kernel
theorem dX10_add_95 : decode cX10_add 95 = .ok (.iaload, 1) := by decide +kernel
theorem dX10_add_96 : decode cX10_add 96 = .ok (.iload_n 1, 1) := by decide +kernel
theorem dX10_add_97 : decode cX10_add 97 = .ok (.iload 4, 2) := by decide +kernel
theorem dX10_add_99 : decode cX10_add 99 = .ok (.invokevirtual 335, 3) := by decide +kernel
theorem dX10_add_102 : decode cX10_add 102 = .ok (.ifCond .eq 33, 3) := by decide +kernel
theorem dX10_add_105 : decode cX10_add 105 = .ok (.iconst 1, 1) := by decide +kernel
theorem dX10_add_106 : decode cX10_add 106 = .ok (.istore 4, 2) := by decide +kernel
theorem dX10_add_108 : decode cX10_add 108 = .ok (.aload_n 0, 1) := by decide +kernel
theorem dX10_add_109 : decode cX10_add 109 = .ok (.getfield 78, 3) := by decide +kernel
theorem dX10_add_112 : decode cX10_add 112 = .ok (.aload_n 0, 1) := by decide +kernel
theorem dX10_add_113 : decode cX10_add 113 = .ok (.getfield 81, 3) := by decide +kernel
theorem dX10_add_116 : decode cX10_add 116 = .ok (.invokevirtual 260, 3) := by decide +kernel
theorem dX10_add_119 : decode cX10_add 119 = .ok (.iload 7, 2) := by decide +kernel
theorem dX10_add_121 : decode cX10_add 121 = .ok (.istore 5, 2) := by decide +kernel
theorem dX10_add_123 : decode cX10_add 123 = .ok (.aload_n 0, 1) := by decide +kernel
theorem dX10_add_124 : decode cX10_add 124 = .ok (.getfield 40, 3) := by decide +kernel
theorem dX10_add_127 : decode cX10_add 127 = .ok (.getfield 332, 3) := by decide +kernel
theorem dX10_add_130 : decode cX10_add 130 = .ok (.iload 8, 2) := by decide +kernel
theorem dX10_add_132 : decode cX10_add 132 = .ok (.iaload, 1) := by decide +kernel
theorem dX10_add_133 : decode cX10_add 133 = .ok (.istore 6, 2) := by decide +kernel
theorem dX10_add_135 : decode cX10_add 135 = .ok (.iinc 8 1, 3) := by decide +kernel
theorem dX10_add_138 : decode cX10_add 138 = .ok (.goto (-67), 3) := by decide +kernel
theorem dX10_add_141 : decode cX10_add 141 = .ok (.iinc 7 1, 3) := by decide +kernel
theorem dX10_add_144 : decode cX10_add 144 = .ok (.goto (-88), 3) := by decide +kernel
theorem dX10_add_147 : decode cX10_add 147 = .ok (.iload 5, 2) := by decide +kernel
theorem dX10_add_149 : decode cX10_add 149 = .ok (.iconst (-1), 1) := by decide +kernel
theorem dX10_add_150 : decode cX10_add 150 = .ok (.if_icmp .eq 29, 3) := by decide +kernel
theorem dX10_add_153 : decode cX10_add 153 = .ok (.aload_n 0, 1) := by decide +kernel
theorem dX10_add_154 : decode cX10_add 154 = .ok (.getfield 26, 3) := by decide +kernel
theorem dX10_add_157 : decode cX10_add 157 = .ok (.aload_n 0, 1) := by decide +kernel
theorem dX10_add_158 : decode cX10_add 158 = .ok (.getfield 19, 3) := by decide +kernel
theorem dX10_add_161 : decode cX10_add 161 = .ok (.iconst 0, 1) := by decide +kernel
theorem dX10_add_162 : decode cX10_add 162 = .ok (.invokevirtual 104, 3) := by decide +kernel
theorem dX10_add_165 : decode cX10_add 165 = .ok (.aload_n 0, 1) := by decide +kernel
theorem dX10_add_166 : decode cX10_add 166 = .ok (.getfield 19, 3) := by decide +kernel
theorem dX10_add_169 : decode cX10_add 169 = .ok (.iload 5, 2) := by decide +kernel
theorem dX10_add_171 : decode cX10_add 171 = .ok (.iload 6, 2) := by decide +kernel
theorem dX10_add_173 : decode cX10_add 173 = .ok (.invokestatic 316, 3) := by decide +kernel
theorem dX10_add_176 : decode cX10_add 176 = .ok (.invokevirtual 178, 3) := by decide +kernel
theorem dX10_add_179 : decode cX10_add 179 = .ok (.iload 5, 2) := by decide +kernel
theorem dX10_add_181 : decode cX10_add 181 = .ok (.ireturn, 1) := by decide +kernel
theorem dX10_merge_0 : decode cX10_merge 0 = .ok (.aload_n 0, 1) := by decide +kernel
theorem dX10_merge_1 : decode cX10_merge 1 = .ok (.getfield 19, 3) := by decide +kernel
theorem dX10_merge_4 : decode cX10_merge 4 = .ok (.iload_n 1, 1) := by decide +kernel
theorem dX10_merge_5 : decode cX10_merge 5 = .ok (.invokevirtual 148, 3) := by decide +kernel
theorem dX10_merge_8 : decode cX10_merge 8 = .ok (.ifCond .eq 16, 3) := by decide +kernel
theorem dX10_merge_11 : decode cX10_merge 11 = .ok (.iload_n 1, 1) := by decide +kernel
theorem dX10_merge_12 : decode cX10_merge 12 = .ok (.iconst 1, 1) := by decide +kernel
theorem dX10_merge_13 : decode cX10_merge 13 = .ok (.iadd, 1) := by decide +kernel
theorem dX10_merge_14 : decode cX10_merge 14 = .ok (.aload_n 0, 1) := by decide +kernel
theorem dX10_merge_15 : decode cX10_merge 15 = .ok (.getfield 19, 3) := by decide +kernel
theorem dX10_merge_18 : decode cX10_merge 18 = .ok (.getfield 115, 3) := by decide +kernel
theorem dX10_merge_21 : decode cX10_merge 21 = .ok (.if_icmp .lt 5, 3) := by decide +kernel
theorem dX10_merge_24 : decode cX10_merge 24 = .ok (.iconst (-1), 1) := by decide +kernel
theorem dX10_merge_25 : decode cX10_merge 25 = .ok (.ireturn, 1) := by decide +kernel
theorem dX10_merge_26 : decode cX10_merge 26 = .ok (.aload_n 0, 1) := by decide +kernel
theorem dX10_merge_27 : decode cX10_merge 27 = .ok (.getfield 19, 3) := by decide +kernel
theorem dX10_merge_30 : decode cX10_merge 30 = .ok (.getfield 151, 3) := by decide +kernel
theorem dX10_merge_33 : decode cX10_merge 33 = .ok (.iload_n 1, 1) := by decide +kernel
theorem dX10_merge_34 : decode cX10_merge 34 = .ok (.iaload, 1) := by decide +kernel
theorem dX10_merge_35 : decode cX10_merge 35 = .ok (.istore_n 2, 1) := by decide +kernel
theorem dX10_merge_36 : decode cX10_merge 36 = .ok (.aload_n 0, 1) := by decide +kernel
theorem dX10_merge_37 : decode cX10_merge 37 = .ok (.getfield 19, 3) := by decide +kernel
theorem dX10_merge_40 : decode cX10_merge 40 = .ok (.getfield 151, 3) := by decide +kernel
theorem dX10_merge_43 : decode cX10_merge 43 = .ok (.iload_n 1, 1) := by decide +kernel
theorem dX10_merge_44 : decode cX10_merge 44 = .ok (.iconst 1, 1) := by decide +kernel
theorem dX10_merge_45 : decode cX10_merge 45 = .ok (.iadd, 1) := by decide +kernel
theorem dX10_merge_46 : decode cX10_merge 46 = .ok (.iaload, 1) := by decide +kernel
theorem dX10_merge_47 : decode cX10_merge 47 = .ok (.istore_n 3, 1) := by decide +kernel
theorem dX10_merge_48 : decode cX10_merge 48 = .ok (.iload_n 2, 1) := by decide +kernel
theorem dX10_merge_49 : decode cX10_merge 49 = .ok (.invokestatic 154, 3) := by decide +kernel
theorem dX10_merge_52 : decode cX10_merge 52 = .ok (.iload_n 3, 1) := by decide +kernel
theorem dX10_merge_53 : decode cX10_merge 53 = .ok (.invokestatic 154, 3) := by decide +kernel
theorem dX10_merge_56 : decode cX10_merge 56 = .ok (.if_icmp .eq 5, 3) := by decide +kernel
theorem dX10_merge_59 : decode cX10_merge 59 = .ok (.iconst (-1), 1) := by decide +kernel
theorem dX10_merge_60 : decode cX10_merge 60 = .ok (.ireturn, 1) := by decide +kernel
theorem dX10_merge_61 : decode cX10_merge 61 = .ok (.iload_n 2, 1) := by decide +kernel
theorem dX10_merge_62 : decode cX10_merge 62 = .ok (.invokestatic 339, 3) := by decide +kernel
theorem dX10_merge_65 : decode cX10_merge 65 = .ok (.iload_n 3, 1) := by decide +kernel
theorem dX10_merge_66 : decode cX10_merge 66 = .ok (.invokestatic 342, 3) := by decide +kernel
theorem dX10_merge_69 : decode cX10_merge 69 = .ok (.imul, 1) := by decide +kernel
theorem dX10_merge_70 : decode cX10_merge 70 = .ok (.iload_n 3, 1) := by decide +kernel
theorem dX10_merge_71 : decode cX10_merge 71 = .ok (.invokestatic 339, 3) := by decide +kernel
theorem dX10_merge_74 : decode cX10_merge 74 = .ok (.iload_n 2, 1) := by decide +kernel
theorem dX10_merge_75 : decode cX10_merge 75 = .ok (.invokestatic 342, 3) := by decide +kernel
theorem dX10_merge_78 : decode cX10_merge 78 = .ok (.imul, 1) := by decide +kernel
theorem dX10_merge_79 : decode cX10_merge 79 = .ok (.iadd, 1) := by decide +kernel
theorem dX10_merge_80 : decode cX10_merge 80 = .ok (.istore 4, 2) := by decide +kernel
theorem dX10_merge_82 : decode cX10_merge 82 = .ok (.iload_n 2, 1) := by decide +kernel
theorem dX10_merge_83 : decode cX10_merge 83 = .ok (.invokestatic 342, 3) := by decide +kernel
theorem dX10_merge_86 : decode cX10_merge 86 = .ok (.iload_n 3, 1) := by decide +kernel
theorem dX10_merge_87 : decode cX10_merge 87 = .ok (.invokestatic 342, 3) := by decide +kernel
theorem dX10_merge_90 : decode cX10_merge 90 = .ok (.imul, 1) := by decide +kernel
theorem dX10_merge_91 : decode cX10_merge 91 = .ok (.iload_n 2, 1) := by decide +kernel
theorem dX10_merge_92 : decode cX10_merge 92 = .ok (.invokestatic 339, 3) := by decide +kernel
theorem dX10_merge_95 : decode cX10_merge 95 = .ok (.iload_n 3, 1) := by decide +kernel
theorem dX10_merge_96 : decode cX10_merge 96 = .ok (.invokestatic 339, 3) := by decide +kernel
theorem dX10_merge_99 : decode cX10_merge 99 = .ok (.imul, 1) := by decide +kernel
theorem dX10_merge_100 : decode cX10_merge 100 = .ok (.isub, 1) := by decide +kernel
theorem dX10_merge_101 : decode cX10_merge 101 = .ok (.istore 5, 2) := by decide +kernel
theorem dX10_merge_103 : decode cX10_merge 103 = .ok (.iload 5, 2) := by decide +kernel
theorem dX10_merge_105 : decode cX10_merge 105 = .ok (.ifCond .ge 7, 3) := by decide +kernel
theorem dX10_merge_108 : decode cX10_merge 108 = .ok (.iconst (-1), 1) := by decide +kernel
theorem dX10_merge_109 : decode cX10_merge 109 = .ok (.goto 4, 3) := by decide +kernel
theorem dX10_merge_112 : decode cX10_merge 112 = .ok (.iconst 1, 1) := by decide +kernel
theorem dX10_merge_113 : decode cX10_merge 113 = .ok (.istore 6, 2) := by decide +kernel
theorem dX10_merge_115 : decode cX10_merge 115 = .ok (.aload_n 0, 1) := by decide +kernel
theorem dX10_merge_116 : decode cX10_merge 116 = .ok (.getfield 67, 3) := by decide +kernel
theorem dX10_merge_119 : decode cX10_merge 119 = .ok (.iload 6, 2) := by decide +kernel
theorem dX10_merge_121 : decode cX10_merge 121 = .ok (.iload 4, 2) := by decide +kernel
theorem dX10_merge_123 : decode cX10_merge 123 = .ok (.imul, 1) := by decide +kernel
theorem dX10_merge_124 : decode cX10_merge 124 = .ok (.i2l, 1) := by decide +kernel
theorem dX10_merge_125 : decode cX10_merge 125 = .ok (.iload 6, 2) := by decide +kernel
theorem dX10_merge_127 : decode cX10_merge 127 = .ok (.iload 5, 2) := by decide +kernel
theorem dX10_merge_129 : decode cX10_merge 129 = .ok (.imul, 1) := by decide +kernel
theorem dX10_merge_130 : decode cX10_merge 130 = .ok (.i2l, 1) := by decide +kernel
theorem dX10_merge_131 : decode cX10_merge 131 = .ok (.invokevirtual 345, 3) := by decide +kernel
theorem dX10_merge_134 : decode cX10_merge 134 = .ok (.aload_n 0, 1) := by decide +kernel
theorem dX10_merge_135 : decode cX10_merge 135 = .ok (.getfield 67, 3) := by decide +kernel
theorem dX10_merge_138 : decode cX10_merge 138 = .ok (.getfield 163, 3) := by decide +kernel
theorem dX10_merge_141 : decode cX10_merge 141 = .ok (.aload_n 0, 1) := by decide +kernel
theorem dX10_merge_142 : decode cX10_merge 142 = .ok (.getfield 67, 3) := by decide +kernel
theorem dX10_merge_145 : decode cX10_merge 145 = .ok (.getfield 167, 3) := by decide +kernel
theorem dX10_merge_148 : decode cX10_merge 148 = .ok (.invokestatic 170, 3) := by decide +kernel
theorem dX10_merge_151 : decode cX10_merge 151 = .ok (.ifCond .ne 5, 3) := by decide +kernel
theorem dX10_merge_154 : decode cX10_merge 154 = .ok (.iconst (-1), 1) := by decide +kernel
theorem dX10_merge_155 : decode cX10_merge 155 = .ok (.ireturn, 1) := by decide +kernel
theorem dX10_merge_156 : decode cX10_merge 156 = .ok (.aload_n 0, 1) := by decide +kernel
theorem dX10_merge_157 : decode cX10_merge 157 = .ok (.getfield 26, 3) := by decide +kernel
theorem dX10_merge_160 : decode cX10_merge 160 = .ok (.aload_n 0, 1) := by decide +kernel
theorem dX10_merge_161 : decode cX10_merge 161 = .ok (.getfield 19, 3) := by decide +kernel
theorem dX10_merge_164 : decode cX10_merge 164 = .ok (.iconst 0, 1) := by decide +kernel
theorem dX10_merge_165 : decode cX10_merge 165 = .ok (.invokevirtual 104, 3) := by decide +kernel
theorem dX10_merge_168 : decode cX10_merge 168 = .ok (.aload_n 0, 1) := by decide +kernel
theorem dX10_merge_169 : decode cX10_merge 169 = .ok (.getfield 19, 3) := by decide +kernel
theorem dX10_merge_172 : decode cX10_merge 172 = .ok (.getfield 151, 3) := by decide +kernel
theorem dX10_merge_175 : decode cX10_merge 175 = .ok (.iload_n 1, 1) := by decide +kernel
theorem dX10_merge_176 : decode cX10_merge 176 = .ok (.iload_n 2, 1) := by decide +kernel
theorem dX10_merge_177 : decode cX10_merge 177 = .ok (.invokestatic 154, 3) := by decide +kernel
theorem dX10_merge_180 : decode cX10_merge 180 = .ok (.aload_n 0, 1) := by decide +kernel
theorem dX10_merge_181 : decode cX10_merge 181 = .ok (.getfield 67, 3) := by decide +kernel
theorem dX10_merge_184 : decode cX10_merge 184 = .ok (.getfield 163, 3) := by decide +kernel
theorem dX10_merge_187 : decode cX10_merge 187 = .ok (.l2i, 1) := by decide +kernel
theorem dX10_merge_188 : decode cX10_merge 188 = .ok (.aload_n 0, 1) := by decide +kernel
theorem dX10_merge_189 : decode cX10_merge 189 = .ok (.getfield 67, 3) := by decide +kernel
theorem dX10_merge_192 : decode cX10_merge 192 = .ok (.getfield 167, 3) := by decide +kernel
theorem dX10_merge_195 : decode cX10_merge 195 = .ok (.l2i, 1) := by decide +kernel
theorem dX10_merge_196 : decode cX10_merge 196 = .ok (.invokestatic 174, 3) := by decide +kernel
theorem dX10_merge_199 : decode cX10_merge 199 = .ok (.iastore, 1) := by decide +kernel
theorem dX10_merge_200 : decode cX10_merge 200 = .ok (.aload_n 0, 1) := by decide +kernel
theorem dX10_merge_201 : decode cX10_merge 201 = .ok (.getfield 19, 3) := by decide +kernel
theorem dX10_merge_204 : decode cX10_merge 204 = .ok (.iload_n 1, 1) := by decide +kernel
theorem dX10_merge_205 : decode cX10_merge 205 = .ok (.iconst 1, 1) := by decide +kernel
theorem dX10_merge_206 : decode cX10_merge 206 = .ok (.iadd, 1) := by decide +kernel
theorem dX10_merge_207 : decode cX10_merge 207 = .ok (.invokevirtual 182, 3) := by decide +kernel
theorem dX10_merge_210 : decode cX10_merge 210 = .ok (.aload_n 0, 1) := by decide +kernel
theorem dX10_merge_211 : decode cX10_merge 211 = .ok (.getfield 19, 3) := by decide +kernel
theorem dX10_merge_214 : decode cX10_merge 214 = .ok (.getfield 115, 3) := by decide +kernel
theorem dX10_merge_217 : decode cX10_merge 217 = .ok (.ireturn, 1) := by decide +kernel
theorem dX10_period_0 : decode cX10_period 0 = .ok (.iload_n 1, 1) := by decide +kernel
theorem dX10_period_1 : decode cX10_period 1 = .ok (.ifCond .lt 8, 3) := by decide +kernel
theorem dX10_period_4 : decode cX10_period 4 = .ok (.iload_n 1, 1) := by decide +kernel
theorem dX10_period_5 : decode cX10_period 5 = .ok (.iconst 1, 1) := by decide +kernel
theorem dX10_period_6 : decode cX10_period 6 = .ok (.if_icmp .le 5, 3) := by decide +kernel
theorem dX10_period_9 : decode cX10_period 9 = .ok (.iconst (-1), 1) := by decide +kernel
theorem dX10_period_10 : decode cX10_period 10 = .ok (.ireturn, 1) := by decide +kernel
theorem dX10_period_11 : decode cX10_period 11 = .ok (.iconst 1, 1) := by decide +kernel
theorem dX10_period_12 : decode cX10_period 12 = .ok (.istore_n 2, 1) := by decide +kernel
theorem dX10_period_13 : decode cX10_period 13 = .ok (.iload_n 2, 1) := by decide +kernel
theorem dX10_period_14 : decode cX10_period 14 = .ok (.aload_n 0, 1) := by decide +kernel
theorem dX10_period_15 : decode cX10_period 15 = .ok (.getfield 19, 3) := by decide +kernel
theorem dX10_period_18 : decode cX10_period 18 = .ok (.getfield 115, 3) := by decide +kernel
theorem dX10_period_21 : decode cX10_period 21 = .ok (.if_icmp .gt 50, 3) := by decide +kernel
theorem dX10_period_24 : decode cX10_period 24 = .ok (.aload_n 0, 1) := by decide +kernel
theorem dX10_period_25 : decode cX10_period 25 = .ok (.getfield 19, 3) := by decide +kernel
theorem dX10_period_28 : decode cX10_period 28 = .ok (.getfield 115, 3) := by decide +kernel
theorem dX10_period_31 : decode cX10_period 31 = .ok (.iload_n 2, 1) := by decide +kernel
theorem dX10_period_32 : decode cX10_period 32 = .ok (.irem, 1) := by decide +kernel
theorem dX10_period_33 : decode cX10_period 33 = .ok (.ifCond .ne 32, 3) := by decide +kernel
theorem dX10_period_36 : decode cX10_period 36 = .ok (.aload_n 0, 1) := by decide +kernel
theorem dX10_period_37 : decode cX10_period 37 = .ok (.getfield 19, 3) := by decide +kernel
theorem dX10_period_40 : decode cX10_period 40 = .ok (.iload_n 2, 1) := by decide +kernel
theorem dX10_period_41 : decode cX10_period 41 = .ok (.invokevirtual 346, 3) := by decide +kernel
theorem dX10_period_44 : decode cX10_period 44 = .ok (.ifCond .eq 21, 3) := by decide +kernel
theorem dX10_period_47 : decode cX10_period 47 = .ok (.iload_n 1, 1) := by decide +kernel
theorem dX10_period_48 : decode cX10_period 48 = .ok (.ifCond .ne 7, 3) := by decide +kernel
theorem dX10_period_51 : decode cX10_period 51 = .ok (.iload_n 2, 1) := by decide +kernel
theorem dX10_period_52 : decode cX10_period 52 = .ok (.goto 12, 3) := by decide +kernel
theorem dX10_period_55 : decode cX10_period 55 = .ok (.aload_n 0, 1) := by decide +kernel
theorem dX10_period_56 : decode cX10_period 56 = .ok (.getfield 19, 3) := by decide +kernel
theorem dX10_period_59 : decode cX10_period 59 = .ok (.getfield 115, 3) := by decide +kernel
theorem dX10_period_62 : decode cX10_period 62 = .ok (.iload_n 2, 1) := by decide +kernel
theorem dX10_period_63 : decode cX10_period 63 = .ok (.idiv, 1) := by decide +kernel
theorem dX10_period_64 : decode cX10_period 64 = .ok (.ireturn, 1) := by decide +kernel
theorem dX10_period_65 : decode cX10_period 65 = .ok (.iinc 2 1, 3) := by decide +kernel
theorem dX10_period_68 : decode cX10_period 68 = .ok (.goto (-55), 3) := by decide +kernel
theorem dX10_period_71 : decode cX10_period 71 = .ok (.iconst 0, 1) := by decide +kernel
theorem dX10_period_72 : decode cX10_period 72 = .ok (.ireturn, 1) := by decide +kernel
theorem dX10_show_0 : decode cX10_show 0 = .ok (.aload_n 0, 1) := by decide +kernel
theorem dX10_show_1 : decode cX10_show 1 = .ok (.iconst 0, 1) := by decide +kernel
theorem dX10_show_2 : decode cX10_show 2 = .ok (.putfield 88, 3) := by decide +kernel
theorem dX10_show_5 : decode cX10_show 5 = .ok (.iconst 0, 1) := by decide +kernel
theorem dX10_show_6 : decode cX10_show 6 = .ok (.istore_n 1, 1) := by decide +kernel
theorem dX10_show_7 : decode cX10_show 7 = .ok (.iload_n 1, 1) := by decide +kernel
theorem dX10_show_8 : decode cX10_show 8 = .ok (.aload_n 0, 1) := by decide +kernel
theorem dX10_show_9 : decode cX10_show 9 = .ok (.getfield 19, 3) := by decide +kernel
theorem dX10_show_12 : decode cX10_show 12 = .ok (.getfield 115, 3) := by decide +kernel
theorem dX10_show_15 : decode cX10_show 15 = .ok (.if_icmp .ge 99, 3) := by decide +kernel
theorem dX10_show_18 : decode cX10_show 18 = .ok (.aload_n 0, 1) := by decide +kernel
theorem dX10_show_19 : decode cX10_show 19 = .ok (.getfield 19, 3) := by decide +kernel
theorem dX10_show_22 : decode cX10_show 22 = .ok (.getfield 151, 3) := by decide +kernel
theorem dX10_show_25 : decode cX10_show 25 = .ok (.iload_n 1, 1) := by decide +kernel
theorem dX10_show_26 : decode cX10_show 26 = .ok (.iaload, 1) := by decide +kernel
theorem dX10_show_27 : decode cX10_show 27 = .ok (.invokestatic 339, 3) := by decide +kernel
theorem dX10_show_30 : decode cX10_show 30 = .ok (.istore_n 2, 1) := by decide +kernel
theorem dX10_show_31 : decode cX10_show 31 = .ok (.aload_n 0, 1) := by decide +kernel
theorem dX10_show_32 : decode cX10_show 32 = .ok (.getfield 19, 3) := by decide +kernel
theorem dX10_show_35 : decode cX10_show 35 = .ok (.getfield 151, 3) := by decide +kernel
theorem dX10_show_38 : decode cX10_show 38 = .ok (.iload_n 1, 1) := by decide +kernel
theorem dX10_show_39 : decode cX10_show 39 = .ok (.iaload, 1) := by decide +kernel
theorem dX10_show_40 : decode cX10_show 40 = .ok (.invokestatic 342, 3) := by decide +kernel
theorem dX10_show_43 : decode cX10_show 43 = .ok (.istore_n 3, 1) := by decide +kernel
theorem dX10_show_44 : decode cX10_show 44 = .ok (.aload_n 0, 1) := by decide +kernel
theorem dX10_show_45 : decode cX10_show 45 = .ok (.bipush 65, 2) := by decide +kernel
theorem dX10_show_47 : decode cX10_show 47 = .ok (.aload_n 0, 1) := by decide +kernel
theorem dX10_show_48 : decode cX10_show 48 = .ok (.getfield 19, 3) := by decide +kernel
theorem dX10_show_51 : decode cX10_show 51 = .ok (.getfield 151, 3) := by decide +kernel
theorem dX10_show_54 : decode cX10_show 54 = .ok (.iload_n 1, 1) := by decide +kernel
theorem dX10_show_55 : decode cX10_show 55 = .ok (.iaload, 1) := by decide +kernel
theorem dX10_show_56 : decode cX10_show 56 = .ok (.invokestatic 154, 3) := by decide +kernel
theorem dX10_show_59 : decode cX10_show 59 = .ok (.iadd, 1) := by decide +kernel
theorem dX10_show_60 : decode cX10_show 60 = .ok (.invokevirtual 349, 3) := by decide +kernel
theorem dX10_show_63 : decode cX10_show 63 = .ok (.iload_n 3, 1) := by decide +kernel
theorem dX10_show_64 : decode cX10_show 64 = .ok (.ifCond .ne 12, 3) := by decide +kernel
theorem dX10_show_67 : decode cX10_show 67 = .ok (.aload_n 0, 1) := by decide +kernel
theorem dX10_show_68 : decode cX10_show 68 = .ok (.bipush 104, 2) := by decide +kernel
theorem dX10_show_70 : decode cX10_show 70 = .ok (.invokevirtual 349, 3) := by decide +kernel
theorem dX10_show_73 : decode cX10_show 73 = .ok (.goto 35, 3) := by decide +kernel
theorem dX10_show_76 : decode cX10_show 76 = .ok (.iload_n 2, 1) := by decide +kernel
theorem dX10_show_77 : decode cX10_show 77 = .ok (.iconst 1, 1) := by decide +kernel
theorem dX10_show_78 : decode cX10_show 78 = .ok (.if_icmp .ne 8, 3) := by decide +kernel
theorem dX10_show_81 : decode cX10_show 81 = .ok (.iload_n 3, 1) := by decide +kernel
theorem dX10_show_82 : decode cX10_show 82 = .ok (.iconst 1, 1) := by decide +kernel
theorem dX10_show_83 : decode cX10_show 83 = .ok (.if_icmp .eq 25, 3) := by decide +kernel
theorem dX10_show_86 : decode cX10_show 86 = .ok (.aload_n 0, 1) := by decide +kernel
theorem dX10_show_87 : decode cX10_show 87 = .ok (.bipush 48, 2) := by decide +kernel
theorem dX10_show_89 : decode cX10_show 89 = .ok (.iload_n 2, 1) := by decide +kernel
theorem dX10_show_90 : decode cX10_show 90 = .ok (.iadd, 1) := by decide +kernel
theorem dX10_show_91 : decode cX10_show 91 = .ok (.invokevirtual 349, 3) := by decide +kernel
theorem dX10_show_94 : decode cX10_show 94 = .ok (.aload_n 0, 1) := by decide +kernel
theorem dX10_show_95 : decode cX10_show 95 = .ok (.bipush 47, 2) := by decide +kernel
theorem dX10_show_97 : decode cX10_show 97 = .ok (.invokevirtual 349, 3) := by decide +kernel
theorem dX10_show_100 : decode cX10_show 100 = .ok (.aload_n 0, 1) := by decide +kernel
theorem dX10_show_101 : decode cX10_show 101 = .ok (.bipush 48, 2) := by decide +kernel
theorem dX10_show_103 : decode cX10_show 103 = .ok (.iload_n 3, 1) := by decide +kernel
theorem dX10_show_104 : decode cX10_show 104 = .ok (.iadd, 1) := by decide +kernel
theorem dX10_show_105 : decode cX10_show 105 = .ok (.invokevirtual 349, 3) := by decide +kernel
theorem dX10_show_108 : decode cX10_show 108 = .ok (.iinc 1 1, 3) := by decide +kernel
theorem dX10_show_111 : decode cX10_show 111 = .ok (.goto (-104), 3) := by decide +kernel
theorem dX10_show_114 : decode cX10_show 114 = .ok (.aload_n 0, 1) := by decide +kernel
theorem dX10_show_115 : decode cX10_show 115 = .ok (.getfield 88, 3) := by decide +kernel
theorem dX10_show_118 : decode cX10_show 118 = .ok (.ireturn, 1) := by decide +kernel
theorem dX10_out_0 : decode cX10_out 0 = .ok (.iload_n 1, 1) := by decide +kernel
theorem dX10_out_1 : decode cX10_out 1 = .ok (.ifCond .lt 11, 3) := by decide +kernel
theorem dX10_out_4 : decode cX10_out 4 = .ok (.iload_n 1, 1) := by decide +kernel
theorem dX10_out_5 : decode cX10_out 5 = .ok (.aload_n 0, 1) := by decide +kernel
theorem dX10_out_6 : decode cX10_out 6 = .ok (.getfield 88, 3) := by decide +kernel
theorem dX10_out_9 : decode cX10_out 9 = .ok (.if_icmp .lt 7, 3) := by decide +kernel
theorem dX10_out_12 : decode cX10_out 12 = .ok (.iconst (-1), 1) := by decide +kernel
theorem dX10_out_13 : decode cX10_out 13 = .ok (.goto 9, 3) := by decide +kernel
theorem dX10_out_16 : decode cX10_out 16 = .ok (.aload_n 0, 1) := by decide +kernel
theorem dX10_out_17 : decode cX10_out 17 = .ok (.getfield 84, 3) := by decide +kernel
theorem dX10_out_20 : decode cX10_out 20 = .ok (.iload_n 1, 1) := by decide +kernel
theorem dX10_out_21 : decode cX10_out 21 = .ok (.iaload, 1) := by decide +kernel
theorem dX10_out_22 : decode cX10_out 22 = .ok (.ireturn, 1) := by decide +kernel
theorem dX10_spare_0 : decode cX10_spare 0 = .ok (.iload_n 1, 1) := by decide +kernel
theorem dX10_spare_1 : decode cX10_spare 1 = .ok (.bipush 15, 2) := by decide +kernel
theorem dX10_spare_3 : decode cX10_spare 3 = .ok (.iand, 1) := by decide +kernel
theorem dX10_spare_4 : decode cX10_spare 4 = .ok (.ifCond .ne 6, 3) := by decide +kernel
theorem dX10_spare_7 : decode cX10_spare 7 = .ok (.bipush (-2), 2) := by decide +kernel
theorem dX10_spare_9 : decode cX10_spare 9 = .ok (.ireturn, 1) := by decide +kernel
theorem dX10_spare_10 : decode cX10_spare 10 = .ok (.iconst 1, 1) := by decide +kernel
theorem dX10_spare_11 : decode cX10_spare 11 = .ok (.aload_n 0, 1) := by decide +kernel
theorem dX10_spare_12 : decode cX10_spare 12 = .ok (.getfield 19, 3) := by decide +kernel
theorem dX10_spare_15 : decode cX10_spare 15 = .ok (.getfield 115, 3) := by decide +kernel
theorem dX10_spare_18 : decode cX10_spare 18 = .ok (.ishl, 1) := by decide +kernel
theorem dX10_spare_19 : decode cX10_spare 19 = .ok (.iconst 1, 1) := by decide +kernel
theorem dX10_spare_20 : decode cX10_spare 20 = .ok (.isub, 1) := by decide +kernel
theorem dX10_spare_21 : decode cX10_spare 21 = .ok (.istore_n 2, 1) := by decide +kernel
theorem dX10_spare_22 : decode cX10_spare 22 = .ok (.iconst 1, 1) := by decide +kernel
theorem dX10_spare_23 : decode cX10_spare 23 = .ok (.istore_n 3, 1) := by decide +kernel
theorem dX10_spare_24 : decode cX10_spare 24 = .ok (.iload_n 3, 1) := by decide +kernel
theorem dX10_spare_25 : decode cX10_spare 25 = .ok (.iconst 4, 1) := by decide +kernel
theorem dX10_spare_26 : decode cX10_spare 26 = .ok (.if_icmp .gt 28, 3) := by decide +kernel
theorem dX10_spare_29 : decode cX10_spare 29 = .ok (.iload_n 1, 1) := by decide +kernel
theorem dX10_spare_30 : decode cX10_spare 30 = .ok (.iload_n 3, 1) := by decide +kernel
theorem dX10_spare_31 : decode cX10_spare 31 = .ok (.iconst 1, 1) := by decide +kernel
theorem dX10_spare_32 : decode cX10_spare 32 = .ok (.isub, 1) := by decide +kernel
theorem dX10_spare_33 : decode cX10_spare 33 = .ok (.invokestatic 352, 3) := by decide +kernel
theorem dX10_spare_36 : decode cX10_spare 36 = .ok (.ifCond .eq 12, 3) := by decide +kernel
theorem dX10_spare_39 : decode cX10_spare 39 = .ok (.iload_n 2, 1) := by decide +kernel
theorem dX10_spare_40 : decode cX10_spare 40 = .ok (.aload_n 0, 1) := by decide +kernel
theorem dX10_spare_41 : decode cX10_spare 41 = .ok (.iload_n 3, 1) := by decide +kernel
theorem dX10_spare_42 : decode cX10_spare 42 = .ok (.iload_n 2, 1) := by decide +kernel
theorem dX10_spare_43 : decode cX10_spare 43 = .ok (.invokevirtual 356, 3) := by decide +kernel
theorem dX10_spare_46 : decode cX10_spare 46 = .ok (.iand, 1) := by decide +kernel
theorem dX10_spare_47 : decode cX10_spare 47 = .ok (.istore_n 2, 1) := by decide +kernel
theorem dX10_spare_48 : decode cX10_spare 48 = .ok (.iinc 3 1, 3) := by decide +kernel
theorem dX10_spare_51 : decode cX10_spare 51 = .ok (.goto (-27), 3) := by decide +kernel
theorem dX10_spare_54 : decode cX10_spare 54 = .ok (.iload_n 2, 1) := by decide +kernel
theorem dX10_spare_55 : decode cX10_spare 55 = .ok (.ireturn, 1) := by decide +kernel
theorem dX10_look_0 : decode cX10_look 0 = .ok (.iload_n 1, 1) := by decide +kernel
theorem dX10_look_1 : decode cX10_look 1 = .ok (.tableswitch 111 0 6 #[43, 51, 59, 75, 83, 91, 101], 43) := by decide +kernel
theorem dX10_look_44 : decode cX10_look 44 = .ok (.aload_n 0, 1) := by decide +kernel
theorem dX10_look_45 : decode cX10_look 45 = .ok (.getfield 19, 3) := by decide +kernel
theorem dX10_look_48 : decode cX10_look 48 = .ok (.getfield 115, 3) := by decide +kernel
theorem dX10_look_51 : decode cX10_look 51 = .ok (.ireturn, 1) := by decide +kernel
theorem dX10_look_52 : decode cX10_look 52 = .ok (.aload_n 0, 1) := by decide +kernel
theorem dX10_look_53 : decode cX10_look 53 = .ok (.getfield 19, 3) := by decide +kernel
theorem dX10_look_56 : decode cX10_look 56 = .ok (.invokevirtual 359, 3) := by decide +kernel
theorem dX10_look_59 : decode cX10_look 59 = .ok (.ireturn, 1) := by decide +kernel
theorem dX10_look_60 : decode cX10_look 60 = .ok (.aload_n 0, 1) := by decide +kernel
theorem dX10_look_61 : decode cX10_look 61 = .ok (.getfield 19, 3) := by decide +kernel
theorem dX10_look_64 : decode cX10_look 64 = .ok (.invokevirtual 185, 3) := by decide +kernel
theorem dX10_look_67 : decode cX10_look 67 = .ok (.ifCond .eq 7, 3) := by decide +kernel
theorem dX10_look_70 : decode cX10_look 70 = .ok (.iconst 1, 1) := by decide +kernel
theorem dX10_look_71 : decode cX10_look 71 = .ok (.goto 4, 3) := by decide +kernel
theorem dX10_look_74 : decode cX10_look 74 = .ok (.iconst 0, 1) := by decide +kernel
theorem dX10_look_75 : decode cX10_look 75 = .ok (.ireturn, 1) := by decide +kernel
theorem dX10_look_76 : decode cX10_look 76 = .ok (.aload_n 0, 1) := by decide +kernel
theorem dX10_look_77 : decode cX10_look 77 = .ok (.getfield 26, 3) := by decide +kernel
theorem dX10_look_80 : decode cX10_look 80 = .ok (.getfield 194, 3) := by decide +kernel
theorem dX10_look_83 : decode cX10_look 83 = .ok (.ireturn, 1) := by decide +kernel
theorem dX10_look_84 : decode cX10_look 84 = .ok (.aload_n 0, 1) := by decide +kernel
theorem dX10_look_85 : decode cX10_look 85 = .ok (.getfield 12, 3) := by decide +kernel
theorem dX10_look_88 : decode cX10_look 88 = .ok (.getfield 93, 3) := by decide +kernel
theorem dX10_look_91 : decode cX10_look 91 = .ok (.ireturn, 1) := by decide +kernel
theorem dX10_look_92 : decode cX10_look 92 = .ok (.aload_n 0, 1) := by decide +kernel
theorem dX10_look_93 : decode cX10_look 93 = .ok (.getfield 19, 3) := by decide +kernel
theorem dX10_look_96 : decode cX10_look 96 = .ok (.iconst 1, 1) := by decide +kernel
theorem dX10_look_97 : decode cX10_look 97 = .ok (.iconst 0, 1) := by decide +kernel
theorem dX10_look_98 : decode cX10_look 98 = .ok (.invokevirtual 363, 3) := by decide +kernel
theorem dX10_look_101 : decode cX10_look 101 = .ok (.ireturn, 1) := by decide +kernel
theorem dX10_look_102 : decode cX10_look 102 = .ok (.aload_n 0, 1) := by decide +kernel
theorem dX10_look_103 : decode cX10_look 103 = .ok (.getfield 19, 3) := by decide +kernel
theorem dX10_look_106 : decode cX10_look 106 = .ok (.iconst 1, 1) := by decide +kernel
theorem dX10_look_107 : decode cX10_look 107 = .ok (.iconst 1, 1) := by decide +kernel
theorem dX10_look_108 : decode cX10_look 108 = .ok (.invokevirtual 363, 3) := by decide +kernel
theorem dX10_look_111 : decode cX10_look 111 = .ok (.ireturn, 1) := by decide +kernel
theorem dX10_look_112 : decode cX10_look 112 = .ok (.iconst (-1), 1) := by decide +kernel
theorem dX10_look_113 : decode cX10_look 113 = .ok (.ireturn, 1) := by decide +kernel
theorem dX10_isMaterial_0 : decode cX10_isMaterial 0 = .ok (.iload_n 0, 1) := by decide +kernel
theorem dX10_isMaterial_1 : decode cX10_isMaterial 1 = .ok (.ifCond .lt 13, 3) := by decide +kernel
theorem dX10_isMaterial_4 : decode cX10_isMaterial 4 = .ok (.iload_n 0, 1) := by decide +kernel
theorem dX10_isMaterial_5 : decode cX10_isMaterial 5 = .ok (.bipush 6, 2) := by decide +kernel
theorem dX10_isMaterial_7 : decode cX10_isMaterial 7 = .ok (.if_icmp .ge 7, 3) := by decide +kernel
theorem dX10_isMaterial_10 : decode cX10_isMaterial 10 = .ok (.iconst 1, 1) := by decide +kernel
theorem dX10_isMaterial_11 : decode cX10_isMaterial 11 = .ok (.goto 4, 3) := by decide +kernel
theorem dX10_isMaterial_14 : decode cX10_isMaterial 14 = .ok (.iconst 0, 1) := by decide +kernel
theorem dX10_isMaterial_15 : decode cX10_isMaterial 15 = .ok (.ireturn, 1) := by decide +kernel
theorem dX10_isMark_0 : decode cX10_isMark 0 = .ok (.iload_n 0, 1) := by decide +kernel
theorem dX10_isMark_1 : decode cX10_isMark 1 = .ok (.iconst 1, 1) := by decide +kernel
theorem dX10_isMark_2 : decode cX10_isMark 2 = .ok (.if_icmp .lt 12, 3) := by decide +kernel
theorem dX10_isMark_5 : decode cX10_isMark 5 = .ok (.iload_n 0, 1) := by decide +kernel
theorem dX10_isMark_6 : decode cX10_isMark 6 = .ok (.iconst 4, 1) := by decide +kernel
theorem dX10_isMark_7 : decode cX10_isMark 7 = .ok (.if_icmp .gt 7, 3) := by decide +kernel
theorem dX10_isMark_10 : decode cX10_isMark 10 = .ok (.iconst 1, 1) := by decide +kernel
theorem dX10_isMark_11 : decode cX10_isMark 11 = .ok (.goto 4, 3) := by decide +kernel
theorem dX10_isMark_14 : decode cX10_isMark 14 = .ok (.iconst 0, 1) := by decide +kernel
theorem dX10_isMark_15 : decode cX10_isMark 15 = .ok (.ireturn, 1) := by decide +kernel
theorem dX10_isSlip_0 : decode cX10_isSlip 0 = .ok (.iload_n 0, 1) := by decide +kernel
theorem dX10_isSlip_1 : decode cX10_isSlip 1 = .ok (.iconst 2, 1) := by decide +kernel
theorem dX10_isSlip_2 : decode cX10_isSlip 2 = .ok (.if_icmp .lt 13, 3) := by decide +kernel
theorem dX10_isSlip_5 : decode cX10_isSlip 5 = .ok (.iload_n 0, 1) := by decide +kernel
theorem dX10_isSlip_6 : decode cX10_isSlip 6 = .ok (.bipush 12, 2) := by decide +kernel
theorem dX10_isSlip_8 : decode cX10_isSlip 8 = .ok (.if_icmp .gt 7, 3) := by decide +kernel
theorem dX10_isSlip_11 : decode cX10_isSlip 11 = .ok (.iconst 1, 1) := by decide +kernel
theorem dX10_isSlip_12 : decode cX10_isSlip 12 = .ok (.goto 4, 3) := by decide +kernel
theorem dX10_isSlip_15 : decode cX10_isSlip 15 = .ok (.iconst 0, 1) := by decide +kernel
theorem dX10_isSlip_16 : decode cX10_isSlip 16 = .ok (.ireturn, 1) := by decide +kernel
theorem dX10_isTangent_0 : decode cX10_isTangent 0 = .ok (.lload_n 0, 1) := by decide +kernel
theorem dX10_isTangent_1 : decode cX10_isTangent 1 = .ok (.lconst 1, 1) := by decide +kernel
theorem dX10_isTangent_2 : decode cX10_isTangent 2 = .ok (.lcmp, 1) := by decide +kernel
theorem dX10_isTangent_3 : decode cX10_isTangent 3 = .ok (.ifCond .ne 13, 3) := by decide +kernel
theorem dX10_isTangent_6 : decode cX10_isTangent 6 = .ok (.lload_n 2, 1) := by decide +kernel
theorem dX10_isTangent_7 : decode cX10_isTangent 7 = .ok (.lconst 0, 1) := by decide +kernel
theorem dX10_isTangent_8 : decode cX10_isTangent 8 = .ok (.lcmp, 1) := by decide +kernel
theorem dX10_isTangent_9 : decode cX10_isTangent 9 = .ok (.ifCond .ne 7, 3) := by decide +kernel
theorem dX10_isTangent_12 : decode cX10_isTangent 12 = .ok (.iconst 1, 1) := by decide +kernel
theorem dX10_isTangent_13 : decode cX10_isTangent 13 = .ok (.goto 4, 3) := by decide +kernel
theorem dX10_isTangent_16 : decode cX10_isTangent 16 = .ok (.iconst 0, 1) := by decide +kernel
theorem dX10_isTangent_17 : decode cX10_isTangent 17 = .ok (.istore 4, 2) := by decide +kernel
theorem dX10_isTangent_19 : decode cX10_isTangent 19 = .ok (.iload 4, 2) := by decide +kernel
theorem dX10_isTangent_21 : decode cX10_isTangent 21 = .ok (.ifCond .ne 31, 3) := by decide +kernel
theorem dX10_isTangent_24 : decode cX10_isTangent 24 = .ok (.lload_n 0, 1) := by decide +kernel
theorem dX10_isTangent_25 : decode cX10_isTangent 25 = .ok (.lconst 0, 1) := by decide +kernel
theorem dX10_isTangent_26 : decode cX10_isTangent 26 = .ok (.lcmp, 1) := by decide +kernel
theorem dX10_isTangent_27 : decode cX10_isTangent 27 = .ok (.ifCond .lt 29, 3) := by decide +kernel
theorem dX10_isTangent_30 : decode cX10_isTangent 30 = .ok (.lload_n 0, 1) := by decide +kernel
theorem dX10_isTangent_31 : decode cX10_isTangent 31 = .ok (.ldc2_w 366, 3) := by decide +kernel
theorem dX10_isTangent_34 : decode cX10_isTangent 34 = .ok (.lcmp, 1) := by decide +kernel
theorem dX10_isTangent_35 : decode cX10_isTangent 35 = .ok (.ifCond .gt 21, 3) := by decide +kernel
theorem dX10_isTangent_38 : decode cX10_isTangent 38 = .ok (.lload_n 2, 1) := by decide +kernel
theorem dX10_isTangent_39 : decode cX10_isTangent 39 = .ok (.lconst 1, 1) := by decide +kernel
theorem dX10_isTangent_40 : decode cX10_isTangent 40 = .ok (.lcmp, 1) := by decide +kernel
theorem dX10_isTangent_41 : decode cX10_isTangent 41 = .ok (.ifCond .lt 15, 3) := by decide +kernel
theorem dX10_isTangent_44 : decode cX10_isTangent 44 = .ok (.lload_n 2, 1) := by decide +kernel
theorem dX10_isTangent_45 : decode cX10_isTangent 45 = .ok (.ldc2_w 366, 3) := by decide +kernel
theorem dX10_isTangent_48 : decode cX10_isTangent 48 = .ok (.lcmp, 1) := by decide +kernel
theorem dX10_isTangent_49 : decode cX10_isTangent 49 = .ok (.ifCond .gt 7, 3) := by decide +kernel
theorem dX10_isTangent_52 : decode cX10_isTangent 52 = .ok (.iconst 1, 1) := by decide +kernel
theorem dX10_isTangent_53 : decode cX10_isTangent 53 = .ok (.goto 4, 3) := by decide +kernel
theorem dX10_isTangent_56 : decode cX10_isTangent 56 = .ok (.iconst 0, 1) := by decide +kernel
theorem dX10_isTangent_57 : decode cX10_isTangent 57 = .ok (.ireturn, 1) := by decide +kernel
theorem dX10_isInSet_0 : decode cX10_isInSet 0 = .ok (.iload_n 0, 1) := by decide +kernel
theorem dX10_isInSet_1 : decode cX10_isInSet 1 = .ok (.iload_n 1, 1) := by decide +kernel
theorem dX10_isInSet_2 : decode cX10_isInSet 2 = .ok (.ishr, 1) := by decide +kernel
theorem dX10_isInSet_3 : decode cX10_isInSet 3 = .ok (.iconst 1, 1) := by decide +kernel
theorem dX10_isInSet_4 : decode cX10_isInSet 4 = .ok (.iand, 1) := by decide +kernel
theorem dX10_isInSet_5 : decode cX10_isInSet 5 = .ok (.ifCond .eq 7, 3) := by decide +kernel
theorem dX10_isInSet_8 : decode cX10_isInSet 8 = .ok (.iconst 1, 1) := by decide +kernel
theorem dX10_isInSet_9 : decode cX10_isInSet 9 = .ok (.goto 4, 3) := by decide +kernel
theorem dX10_isInSet_12 : decode cX10_isInSet 12 = .ok (.iconst 0, 1) := by decide +kernel
theorem dX10_isInSet_13 : decode cX10_isInSet 13 = .ok (.ireturn, 1) := by decide +kernel
theorem dX10_areSets_0 : decode cX10_areSets 0 = .ok (.iload_n 0, 1) := by decide +kernel
theorem dX10_areSets_1 : decode cX10_areSets 1 = .ok (.bipush 15, 2) := by decide +kernel
theorem dX10_areSets_3 : decode cX10_areSets 3 = .ok (.iand, 1) := by decide +kernel
theorem dX10_areSets_4 : decode cX10_areSets 4 = .ok (.ifCond .eq 21, 3) := by decide +kernel
theorem dX10_areSets_7 : decode cX10_areSets 7 = .ok (.iload_n 1, 1) := by decide +kernel
theorem dX10_areSets_8 : decode cX10_areSets 8 = .ok (.bipush 63, 2) := by decide +kernel
theorem dX10_areSets_10 : decode cX10_areSets 10 = .ok (.iand, 1) := by decide +kernel
theorem dX10_areSets_11 : decode cX10_areSets 11 = .ok (.ifCond .eq 14, 3) := by decide +kernel
theorem dX10_areSets_14 : decode cX10_areSets 14 = .ok (.iload_n 2, 1) := by decide +kernel
theorem dX10_areSets_15 : decode cX10_areSets 15 = .ok (.bipush 127, 2) := by decide +kernel
theorem dX10_areSets_17 : decode cX10_areSets 17 = .ok (.iand, 1) := by decide +kernel
theorem dX10_areSets_18 : decode cX10_areSets 18 = .ok (.ifCond .eq 7, 3) := by decide +kernel
theorem dX10_areSets_21 : decode cX10_areSets 21 = .ok (.iconst 1, 1) := by decide +kernel
theorem dX10_areSets_22 : decode cX10_areSets 22 = .ok (.goto 4, 3) := by decide +kernel
theorem dX10_areSets_25 : decode cX10_areSets 25 = .ok (.iconst 0, 1) := by decide +kernel
theorem dX10_areSets_26 : decode cX10_areSets 26 = .ok (.ireturn, 1) := by decide +kernel
theorem dX10_isBeginning_0 : decode cX10_isBeginning 0 = .ok (.iload_n 1, 1) := by decide +kernel
theorem dX10_isBeginning_1 : decode cX10_isBeginning 1 = .ok (.ifCond .lt 18, 3) := by decide +kernel
theorem dX10_isBeginning_4 : decode cX10_isBeginning 4 = .ok (.iload_n 1, 1) := by decide +kernel
theorem dX10_isBeginning_5 : decode cX10_isBeginning 5 = .ok (.aload_n 0, 1) := by decide +kernel
theorem dX10_isBeginning_6 : decode cX10_isBeginning 6 = .ok (.getfield 19, 3) := by decide +kernel
theorem dX10_isBeginning_9 : decode cX10_isBeginning 9 = .ok (.getfield 115, 3) := by decide +kernel
theorem dX10_isBeginning_12 : decode cX10_isBeginning 12 = .ok (.if_icmp .gt 7, 3) := by decide +kernel
theorem dX10_isBeginning_15 : decode cX10_isBeginning 15 = .ok (.iconst 1, 1) := by decide +kernel
theorem dX10_isBeginning_16 : decode cX10_isBeginning 16 = .ok (.goto 4, 3) := by decide +kernel
theorem dX10_isBeginning_19 : decode cX10_isBeginning 19 = .ok (.iconst 0, 1) := by decide +kernel
theorem dX10_isBeginning_20 : decode cX10_isBeginning 20 = .ok (.ireturn, 1) := by decide +kernel
theorem dX10_codeOf_0 : decode cX10_codeOf 0 = .ok (.iload_n 1, 1) := by decide +kernel
theorem dX10_codeOf_1 : decode cX10_codeOf 1 = .ok (.i2l, 1) := by decide +kernel
theorem dX10_codeOf_2 : decode cX10_codeOf 2 = .ok (.iload_n 2, 1) := by decide +kernel
theorem dX10_codeOf_3 : decode cX10_codeOf 3 = .ok (.i2l, 1) := by decide +kernel
theorem dX10_codeOf_4 : decode cX10_codeOf 4 = .ok (.invokestatic 368, 3) := by decide +kernel
theorem dX10_codeOf_7 : decode cX10_codeOf 7 = .ok (.lstore_n 3, 1) := by decide +kernel
theorem dX10_codeOf_8 : decode cX10_codeOf 8 = .ok (.lload_n 3, 1) := by decide +kernel
theorem dX10_codeOf_9 : decode cX10_codeOf 9 = .ok (.lconst 1, 1) := by decide +kernel
theorem dX10_codeOf_10 : decode cX10_codeOf 10 = .ok (.lcmp, 1) := by decide +kernel
theorem dX10_codeOf_11 : decode cX10_codeOf 11 = .ok (.ifCond .le 8, 3) := by decide +kernel
theorem dX10_codeOf_14 : decode cX10_codeOf 14 = .ok (.lload_n 3, 1) := by decide +kernel
theorem dX10_codeOf_15 : decode cX10_codeOf 15 = .ok (.l2i, 1) := by decide +kernel
theorem dX10_codeOf_16 : decode cX10_codeOf 16 = .ok (.goto 4, 3) := by decide +kernel
theorem dX10_codeOf_19 : decode cX10_codeOf 19 = .ok (.iconst 1, 1) := by decide +kernel
theorem dX10_codeOf_20 : decode cX10_codeOf 20 = .ok (.istore 5, 2) := by decide +kernel
theorem dX10_codeOf_22 : decode cX10_codeOf 22 = .ok (.iload_n 0, 1) := by decide +kernel
theorem dX10_codeOf_23 : decode cX10_codeOf 23 = .ok (.bipush 6, 2) := by decide +kernel
theorem dX10_codeOf_25 : decode cX10_codeOf 25 = .ok (.ishl, 1) := by decide +kernel
theorem dX10_codeOf_26 : decode cX10_codeOf 26 = .ok (.iload_n 1, 1) := by decide +kernel
theorem dX10_codeOf_27 : decode cX10_codeOf 27 = .ok (.iload 5, 2) := by decide +kernel
theorem dX10_codeOf_29 : decode cX10_codeOf 29 = .ok (.idiv, 1) := by decide +kernel
theorem dX10_codeOf_30 : decode cX10_codeOf 30 = .ok (.iconst 3, 1) := by decide +kernel
theorem dX10_codeOf_31 : decode cX10_codeOf 31 = .ok (.ishl, 1) := by decide +kernel
theorem dX10_codeOf_32 : decode cX10_codeOf 32 = .ok (.ior, 1) := by decide +kernel
theorem dX10_codeOf_33 : decode cX10_codeOf 33 = .ok (.iload_n 2, 1) := by decide +kernel
theorem dX10_codeOf_34 : decode cX10_codeOf 34 = .ok (.iload 5, 2) := by decide +kernel
theorem dX10_codeOf_36 : decode cX10_codeOf 36 = .ok (.idiv, 1) := by decide +kernel
theorem dX10_codeOf_37 : decode cX10_codeOf 37 = .ok (.ior, 1) := by decide +kernel
theorem dX10_codeOf_38 : decode cX10_codeOf 38 = .ok (.ireturn, 1) := by decide +kernel
theorem dX10_codeOfChoice_0 : decode cX10_codeOfChoice 0 = .ok (.iload_n 0, 1) := by decide +kernel
theorem dX10_codeOfChoice_1 : decode cX10_codeOfChoice 1 = .ok (.bipush 7, 2) := by decide +kernel
theorem dX10_codeOfChoice_3 : decode cX10_codeOfChoice 3 = .ok (.irem, 1) := by decide +kernel
theorem dX10_codeOfChoice_4 : decode cX10_codeOfChoice 4 = .ok (.istore_n 1, 1) := by decide +kernel
theorem dX10_codeOfChoice_5 : decode cX10_codeOfChoice 5 = .ok (.iload_n 0, 1) := by decide +kernel
theorem dX10_codeOfChoice_6 : decode cX10_codeOfChoice 6 = .ok (.bipush 7, 2) := by decide +kernel
theorem dX10_codeOfChoice_8 : decode cX10_codeOfChoice 8 = .ok (.idiv, 1) := by decide +kernel
theorem dX10_codeOfChoice_9 : decode cX10_codeOfChoice 9 = .ok (.getstatic 322, 3) := by decide +kernel
theorem dX10_codeOfChoice_12 : decode cX10_codeOfChoice 12 = .ok (.iload_n 1, 1) := by decide +kernel
theorem dX10_codeOfChoice_13 : decode cX10_codeOfChoice 13 = .ok (.iaload, 1) := by decide +kernel
theorem dX10_codeOfChoice_14 : decode cX10_codeOfChoice 14 = .ok (.getstatic 325, 3) := by decide +kernel
theorem dX10_codeOfChoice_17 : decode cX10_codeOfChoice 17 = .ok (.iload_n 1, 1) := by decide +kernel
theorem dX10_codeOfChoice_18 : decode cX10_codeOfChoice 18 = .ok (.iaload, 1) := by decide +kernel
theorem dX10_codeOfChoice_19 : decode cX10_codeOfChoice 19 = .ok (.invokestatic 174, 3) := by decide +kernel
theorem dX10_codeOfChoice_22 : decode cX10_codeOfChoice 22 = .ok (.ireturn, 1) := by decide +kernel
theorem dX10_materialOf_0 : decode cX10_materialOf 0 = .ok (.iload_n 0, 1) := by decide +kernel
theorem dX10_materialOf_1 : decode cX10_materialOf 1 = .ok (.bipush 6, 2) := by decide +kernel
theorem dX10_materialOf_3 : decode cX10_materialOf 3 = .ok (.ishr, 1) := by decide +kernel
theorem dX10_materialOf_4 : decode cX10_materialOf 4 = .ok (.ireturn, 1) := by decide +kernel
theorem dX10_pOf_0 : decode cX10_pOf 0 = .ok (.iload_n 0, 1) := by decide +kernel
theorem dX10_pOf_1 : decode cX10_pOf 1 = .ok (.iconst 3, 1) := by decide +kernel
theorem dX10_pOf_2 : decode cX10_pOf 2 = .ok (.ishr, 1) := by decide +kernel
theorem dX10_pOf_3 : decode cX10_pOf 3 = .ok (.bipush 7, 2) := by decide +kernel
theorem dX10_pOf_5 : decode cX10_pOf 5 = .ok (.iand, 1) := by decide +kernel
theorem dX10_pOf_6 : decode cX10_pOf 6 = .ok (.ireturn, 1) := by decide +kernel
theorem dX10_qOf_0 : decode cX10_qOf 0 = .ok (.iload_n 0, 1) := by decide +kernel
theorem dX10_qOf_1 : decode cX10_qOf 1 = .ok (.bipush 7, 2) := by decide +kernel
theorem dX10_qOf_3 : decode cX10_qOf 3 = .ok (.iand, 1) := by decide +kernel
theorem dX10_qOf_4 : decode cX10_qOf 4 = .ok (.ireturn, 1) := by decide +kernel
theorem dX10_commonDivisor_0 : decode cX10_commonDivisor 0 = .ok (.lload_n 0, 1) := by decide +kernel
theorem dX10_commonDivisor_1 : decode cX10_commonDivisor 1 = .ok (.lconst 0, 1) := by decide +kernel
theorem dX10_commonDivisor_2 : decode cX10_commonDivisor 2 = .ok (.lcmp, 1) := by decide +kernel
theorem dX10_commonDivisor_3 : decode cX10_commonDivisor 3 = .ok (.ifCond .ge 8, 3) := by decide +kernel
theorem dX10_commonDivisor_6 : decode cX10_commonDivisor 6 = .ok (.lload_n 0, 1) := by decide +kernel
theorem dX10_commonDivisor_7 : decode cX10_commonDivisor 7 = .ok (.lneg, 1) := by decide +kernel
theorem dX10_commonDivisor_8 : decode cX10_commonDivisor 8 = .ok (.goto 4, 3) := by decide +kernel
theorem dX10_commonDivisor_11 : decode cX10_commonDivisor 11 = .ok (.lload_n 0, 1) := by decide +kernel
theorem dX10_commonDivisor_12 : decode cX10_commonDivisor 12 = .ok (.lstore 4, 2) := by decide +kernel
theorem dX10_commonDivisor_14 : decode cX10_commonDivisor 14 = .ok (.lload_n 2, 1) := by decide +kernel
theorem dX10_commonDivisor_15 : decode cX10_commonDivisor 15 = .ok (.lconst 0, 1) := by decide +kernel
theorem dX10_commonDivisor_16 : decode cX10_commonDivisor 16 = .ok (.lcmp, 1) := by decide +kernel
theorem dX10_commonDivisor_17 : decode cX10_commonDivisor 17 = .ok (.ifCond .ge 8, 3) := by decide +kernel
theorem dX10_commonDivisor_20 : decode cX10_commonDivisor 20 = .ok (.lload_n 2, 1) := by decide +kernel
theorem dX10_commonDivisor_21 : decode cX10_commonDivisor 21 = .ok (.lneg, 1) := by decide +kernel
theorem dX10_commonDivisor_22 : decode cX10_commonDivisor 22 = .ok (.goto 4, 3) := by decide +kernel
theorem dX10_commonDivisor_25 : decode cX10_commonDivisor 25 = .ok (.lload_n 2, 1) := by decide +kernel
theorem dX10_commonDivisor_26 : decode cX10_commonDivisor 26 = .ok (.lstore 6, 2) := by decide +kernel
theorem dX10_commonDivisor_28 : decode cX10_commonDivisor 28 = .ok (.iconst 0, 1) := by decide +kernel
theorem dX10_commonDivisor_29 : decode cX10_commonDivisor 29 = .ok (.istore 8, 2) := by decide +kernel
theorem dX10_commonDivisor_31 : decode cX10_commonDivisor 31 = .ok (.iload 8, 2) := by decide +kernel
theorem dX10_commonDivisor_33 : decode cX10_commonDivisor 33 = .ok (.sipush 200, 3) := by decide +kernel
theorem dX10_commonDivisor_36 : decode cX10_commonDivisor 36 = .ok (.if_icmp .ge 31, 3) := by decide +kernel
theorem dX10_commonDivisor_39 : decode cX10_commonDivisor 39 = .ok (.lload 6, 2) := by decide +kernel
theorem dX10_commonDivisor_41 : decode cX10_commonDivisor 41 = .ok (.lconst 0, 1) := by decide +kernel
theorem dX10_commonDivisor_42 : decode cX10_commonDivisor 42 = .ok (.lcmp, 1) := by decide +kernel
theorem dX10_commonDivisor_43 : decode cX10_commonDivisor 43 = .ok (.ifCond .eq 24, 3) := by decide +kernel
theorem dX10_commonDivisor_46 : decode cX10_commonDivisor 46 = .ok (.lload 4, 2) := by decide +kernel
theorem dX10_commonDivisor_48 : decode cX10_commonDivisor 48 = .ok (.lload 6, 2) := by decide +kernel
theorem dX10_commonDivisor_50 : decode cX10_commonDivisor 50 = .ok (.lrem, 1) := by decide +kernel
theorem dX10_commonDivisor_51 : decode cX10_commonDivisor 51 = .ok (.lstore 9, 2) := by decide +kernel
theorem dX10_commonDivisor_53 : decode cX10_commonDivisor 53 = .ok (.lload 6, 2) := by decide +kernel
theorem dX10_commonDivisor_55 : decode cX10_commonDivisor 55 = .ok (.lstore 4, 2) := by decide +kernel
theorem dX10_commonDivisor_57 : decode cX10_commonDivisor 57 = .ok (.lload 9, 2) := by decide +kernel
theorem dX10_commonDivisor_59 : decode cX10_commonDivisor 59 = .ok (.lstore 6, 2) := by decide +kernel
theorem dX10_commonDivisor_61 : decode cX10_commonDivisor 61 = .ok (.iinc 8 1, 3) := by decide +kernel
theorem dX10_commonDivisor_64 : decode cX10_commonDivisor 64 = .ok (.goto (-33), 3) := by decide +kernel
theorem dX10_commonDivisor_67 : decode cX10_commonDivisor 67 = .ok (.lload 4, 2) := by decide +kernel
theorem dX10_commonDivisor_69 : decode cX10_commonDivisor 69 = .ok (.lreturn, 1) := by decide +kernel
theorem dX10_bitsOfFloat_0 : decode cX10_bitsOfFloat 0 = .ok (.fload_n 0, 1) := by decide +kernel
theorem dX10_bitsOfFloat_1 : decode cX10_bitsOfFloat 1 = .ok (.fconst 0, 1) := by decide +kernel
theorem dX10_bitsOfFloat_2 : decode cX10_bitsOfFloat 2 = .ok (.fcmp .g, 1) := by decide +kernel
theorem dX10_bitsOfFloat_3 : decode cX10_bitsOfFloat 3 = .ok (.ifCond .gt 5, 3) := by decide +kernel
theorem dX10_bitsOfFloat_6 : decode cX10_bitsOfFloat 6 = .ok (.iconst 0, 1) := by decide +kernel
theorem dX10_bitsOfFloat_7 : decode cX10_bitsOfFloat 7 = .ok (.ireturn, 1) := by decide +kernel
theorem dX10_bitsOfFloat_8 : decode cX10_bitsOfFloat 8 = .ok (.fload_n 0, 1) := by decide +kernel
theorem dX10_bitsOfFloat_9 : decode cX10_bitsOfFloat 9 = .ok (.fstore_n 1, 1) := by decide +kernel
theorem dX10_bitsOfFloat_10 : decode cX10_bitsOfFloat 10 = .ok (.bipush 127, 2) := by decide +kernel
theorem dX10_bitsOfFloat_12 : decode cX10_bitsOfFloat 12 = .ok (.istore_n 2, 1) := by decide +kernel
theorem dX10_bitsOfFloat_13 : decode cX10_bitsOfFloat 13 = .ok (.iconst 0, 1) := by decide +kernel
theorem dX10_bitsOfFloat_14 : decode cX10_bitsOfFloat 14 = .ok (.istore_n 3, 1) := by decide +kernel
theorem dX10_bitsOfFloat_15 : decode cX10_bitsOfFloat 15 = .ok (.iload_n 3, 1) := by decide +kernel
theorem dX10_bitsOfFloat_16 : decode cX10_bitsOfFloat 16 = .ok (.sipush 200, 3) := by decide +kernel
theorem dX10_bitsOfFloat_19 : decode cX10_bitsOfFloat 19 = .ok (.if_icmp .ge 22, 3) := by decide +kernel
theorem dX10_bitsOfFloat_22 : decode cX10_bitsOfFloat 22 = .ok (.fload_n 1, 1) := by decide +kernel
theorem dX10_bitsOfFloat_23 : decode cX10_bitsOfFloat 23 = .ok (.fconst 1, 1) := by decide +kernel
theorem dX10_bitsOfFloat_24 : decode cX10_bitsOfFloat 24 = .ok (.fcmp .g, 1) := by decide +kernel
theorem dX10_bitsOfFloat_25 : decode cX10_bitsOfFloat 25 = .ok (.ifCond .ge 16, 3) := by decide +kernel
theorem dX10_bitsOfFloat_28 : decode cX10_bitsOfFloat 28 = .ok (.fload_n 1, 1) := by decide +kernel
theorem dX10_bitsOfFloat_29 : decode cX10_bitsOfFloat 29 = .ok (.fconst 2, 1) := by decide +kernel
theorem dX10_bitsOfFloat_30 : decode cX10_bitsOfFloat 30 = .ok (.fmul, 1) := by decide +kernel
theorem dX10_bitsOfFloat_31 : decode cX10_bitsOfFloat 31 = .ok (.fstore_n 1, 1) := by decide +kernel
theorem dX10_bitsOfFloat_32 : decode cX10_bitsOfFloat 32 = .ok (.iinc 2 (-1), 3) := by decide +kernel
theorem dX10_bitsOfFloat_35 : decode cX10_bitsOfFloat 35 = .ok (.iinc 3 1, 3) := by decide +kernel
theorem dX10_bitsOfFloat_38 : decode cX10_bitsOfFloat 38 = .ok (.goto (-23), 3) := by decide +kernel
theorem dX10_bitsOfFloat_41 : decode cX10_bitsOfFloat 41 = .ok (.iload_n 2, 1) := by decide +kernel
theorem dX10_bitsOfFloat_42 : decode cX10_bitsOfFloat 42 = .ok (.bipush 23, 2) := by decide +kernel
theorem dX10_bitsOfFloat_44 : decode cX10_bitsOfFloat 44 = .ok (.ishl, 1) := by decide +kernel
theorem dX10_bitsOfFloat_45 : decode cX10_bitsOfFloat 45 = .ok (.fload_n 1, 1) := by decide +kernel
theorem dX10_bitsOfFloat_46 : decode cX10_bitsOfFloat 46 = .ok (.fconst 1, 1) := by decide +kernel
theorem dX10_bitsOfFloat_47 : decode cX10_bitsOfFloat 47 = .ok (.fsub, 1) := by decide +kernel
theorem dX10_bitsOfFloat_48 : decode cX10_bitsOfFloat 48 = .ok (.ldc_w 372, 3) := by decide +kernel
theorem dX10_bitsOfFloat_51 : decode cX10_bitsOfFloat 51 = .ok (.fmul, 1) := by decide +kernel
theorem dX10_bitsOfFloat_52 : decode cX10_bitsOfFloat 52 = .ok (.f2i, 1) := by decide +kernel
theorem dX10_bitsOfFloat_53 : decode cX10_bitsOfFloat 53 = .ok (.ior, 1) := by decide +kernel
theorem dX10_bitsOfFloat_54 : decode cX10_bitsOfFloat 54 = .ok (.ireturn, 1) := by decide +kernel
theorem dX10_bitsOfDouble_0 : decode cX10_bitsOfDouble 0 = .ok (.dload_n 0, 1) := by decide +kernel
theorem dX10_bitsOfDouble_1 : decode cX10_bitsOfDouble 1 = .ok (.dconst 0, 1) := by decide +kernel
theorem dX10_bitsOfDouble_2 : decode cX10_bitsOfDouble 2 = .ok (.dcmp .g, 1) := by decide +kernel
theorem dX10_bitsOfDouble_3 : decode cX10_bitsOfDouble 3 = .ok (.ifCond .gt 5, 3) := by decide +kernel
theorem dX10_bitsOfDouble_6 : decode cX10_bitsOfDouble 6 = .ok (.lconst 0, 1) := by decide +kernel
theorem dX10_bitsOfDouble_7 : decode cX10_bitsOfDouble 7 = .ok (.lreturn, 1) := by decide +kernel
theorem dX10_bitsOfDouble_8 : decode cX10_bitsOfDouble 8 = .ok (.dload_n 0, 1) := by decide +kernel
theorem dX10_bitsOfDouble_9 : decode cX10_bitsOfDouble 9 = .ok (.dstore_n 2, 1) := by decide +kernel
theorem dX10_bitsOfDouble_10 : decode cX10_bitsOfDouble 10 = .ok (.ldc2_w 373, 3) := by decide +kernel
theorem dX10_bitsOfDouble_13 : decode cX10_bitsOfDouble 13 = .ok (.lstore 4, 2) := by decide +kernel
theorem dX10_bitsOfDouble_15 : decode cX10_bitsOfDouble 15 = .ok (.iconst 0, 1) := by decide +kernel
theorem dX10_bitsOfDouble_16 : decode cX10_bitsOfDouble 16 = .ok (.istore 6, 2) := by decide +kernel
theorem dX10_bitsOfDouble_18 : decode cX10_bitsOfDouble 18 = .ok (.iload 6, 2) := by decide +kernel
theorem dX10_bitsOfDouble_20 : decode cX10_bitsOfDouble 20 = .ok (.sipush 200, 3) := by decide +kernel
theorem dX10_bitsOfDouble_23 : decode cX10_bitsOfDouble 23 = .ok (.if_icmp .ge 27, 3) := by decide +kernel
theorem dX10_bitsOfDouble_26 : decode cX10_bitsOfDouble 26 = .ok (.dload_n 2, 1) := by decide +kernel
theorem dX10_bitsOfDouble_27 : decode cX10_bitsOfDouble 27 = .ok (.dconst 1, 1) := by decide +kernel
theorem dX10_bitsOfDouble_28 : decode cX10_bitsOfDouble 28 = .ok (.dcmp .g, 1) := by decide +kernel
theorem dX10_bitsOfDouble_29 : decode cX10_bitsOfDouble 29 = .ok (.ifCond .ge 21, 3) := by decide +kernel
theorem dX10_bitsOfDouble_32 : decode cX10_bitsOfDouble 32 = .ok (.dload_n 2, 1) := by decide +kernel
theorem dX10_bitsOfDouble_33 : decode cX10_bitsOfDouble 33 = .ok (.ldc2_w 375, 3) := by decide +kernel
theorem dX10_bitsOfDouble_36 : decode cX10_bitsOfDouble 36 = .ok (.dmul, 1) := by decide +kernel
theorem dX10_bitsOfDouble_37 : decode cX10_bitsOfDouble 37 = .ok (.dstore_n 2, 1) := by decide +kernel
theorem dX10_bitsOfDouble_38 : decode cX10_bitsOfDouble 38 = .ok (.lload 4, 2) := by decide +kernel
theorem dX10_bitsOfDouble_40 : decode cX10_bitsOfDouble 40 = .ok (.lconst 1, 1) := by decide +kernel
theorem dX10_bitsOfDouble_41 : decode cX10_bitsOfDouble 41 = .ok (.lsub, 1) := by decide +kernel
theorem dX10_bitsOfDouble_42 : decode cX10_bitsOfDouble 42 = .ok (.lstore 4, 2) := by decide +kernel
theorem dX10_bitsOfDouble_44 : decode cX10_bitsOfDouble 44 = .ok (.iinc 6 1, 3) := by decide +kernel
theorem dX10_bitsOfDouble_47 : decode cX10_bitsOfDouble 47 = .ok (.goto (-29), 3) := by decide +kernel
theorem dX10_bitsOfDouble_50 : decode cX10_bitsOfDouble 50 = .ok (.lload 4, 2) := by decide +kernel
theorem dX10_bitsOfDouble_52 : decode cX10_bitsOfDouble 52 = .ok (.bipush 52, 2) := by decide +kernel
theorem dX10_bitsOfDouble_54 : decode cX10_bitsOfDouble 54 = .ok (.lshl, 1) := by decide +kernel
theorem dX10_bitsOfDouble_55 : decode cX10_bitsOfDouble 55 = .ok (.dload_n 2, 1) := by decide +kernel
theorem dX10_bitsOfDouble_56 : decode cX10_bitsOfDouble 56 = .ok (.dconst 1, 1) := by decide +kernel
theorem dX10_bitsOfDouble_57 : decode cX10_bitsOfDouble 57 = .ok (.dsub, 1) := by decide +kernel
theorem dX10_bitsOfDouble_58 : decode cX10_bitsOfDouble 58 = .ok (.ldc2_w 377, 3) := by decide +kernel
theorem dX10_bitsOfDouble_61 : decode cX10_bitsOfDouble 61 = .ok (.dmul, 1) := by decide +kernel
theorem dX10_bitsOfDouble_62 : decode cX10_bitsOfDouble 62 = .ok (.d2l, 1) := by decide +kernel
theorem dX10_bitsOfDouble_63 : decode cX10_bitsOfDouble 63 = .ok (.lor, 1) := by decide +kernel
theorem dX10_bitsOfDouble_64 : decode cX10_bitsOfDouble 64 = .ok (.lreturn, 1) := by decide +kernel
theorem dX10_beginning_0 : decode cX10_beginning 0 = .ok (.aload_n 0, 1) := by decide +kernel
theorem dX10_beginning_1 : decode cX10_beginning 1 = .ok (.getfield 53, 3) := by decide +kernel
theorem dX10_beginning_4 : decode cX10_beginning 4 = .ok (.iconst 0, 1) := by decide +kernel
theorem dX10_beginning_5 : decode cX10_beginning 5 = .ok (.aaload, 1) := by decide +kernel
theorem dX10_beginning_6 : decode cX10_beginning 6 = .ok (.aload_n 0, 1) := by decide +kernel
theorem dX10_beginning_7 : decode cX10_beginning 7 = .ok (.getfield 19, 3) := by decide +kernel
theorem dX10_beginning_10 : decode cX10_beginning 10 = .ok (.aload_n 0, 1) := by decide +kernel
theorem dX10_beginning_11 : decode cX10_beginning 11 = .ok (.getfield 33, 3) := by decide +kernel
theorem dX10_beginning_14 : decode cX10_beginning 14 = .ok (.iload_n 2, 1) := by decide +kernel
theorem dX10_beginning_15 : decode cX10_beginning 15 = .ok (.iload_n 1, 1) := by decide +kernel
theorem dX10_beginning_16 : decode cX10_beginning 16 = .ok (.invokevirtual 263, 3) := by decide +kernel
theorem dX10_beginning_19 : decode cX10_beginning 19 = .ok (.aload_n 0, 1) := by decide +kernel
theorem dX10_beginning_20 : decode cX10_beginning 20 = .ok (.getfield 53, 3) := by decide +kernel
theorem dX10_beginning_23 : decode cX10_beginning 23 = .ok (.iconst 0, 1) := by decide +kernel
theorem dX10_beginning_24 : decode cX10_beginning 24 = .ok (.aaload, 1) := by decide +kernel
theorem dX10_beginning_25 : decode cX10_beginning 25 = .ok (.invokevirtual 286, 3) := by decide +kernel
theorem dX10_beginning_28 : decode cX10_beginning 28 = .ok (.areturn, 1) := by decide +kernel
theorem dX10_isOfKind_0 : decode cX10_isOfKind 0 = .ok (.iload_n 2, 1) := by decide +kernel
theorem dX10_isOfKind_1 : decode cX10_isOfKind 1 = .ok (.iconst 2, 1) := by decide +kernel
theorem dX10_isOfKind_2 : decode cX10_isOfKind 2 = .ok (.if_icmp .eq 10, 3) := by decide +kernel
theorem dX10_isOfKind_5 : decode cX10_isOfKind 5 = .ok (.aload_n 1, 1) := by decide +kernel
theorem dX10_isOfKind_6 : decode cX10_isOfKind 6 = .ok (.getfield 210, 3) := by decide +kernel
theorem dX10_isOfKind_9 : decode cX10_isOfKind 9 = .ok (.ifCond .eq 21, 3) := by decide +kernel
theorem dX10_isOfKind_12 : decode cX10_isOfKind 12 = .ok (.iload_n 2, 1) := by decide +kernel
theorem dX10_isOfKind_13 : decode cX10_isOfKind 13 = .ok (.iconst 2, 1) := by decide +kernel
theorem dX10_isOfKind_14 : decode cX10_isOfKind 14 = .ok (.if_icmp .ne 14, 3) := by decide +kernel
theorem dX10_isOfKind_17 : decode cX10_isOfKind 17 = .ok (.aload_n 1, 1) := by decide +kernel
theorem dX10_isOfKind_18 : decode cX10_isOfKind 18 = .ok (.getfield 210, 3) := by decide +kernel
theorem dX10_isOfKind_21 : decode cX10_isOfKind 21 = .ok (.ifCond .eq 7, 3) := by decide +kernel
theorem dX10_isOfKind_24 : decode cX10_isOfKind 24 = .ok (.iconst 1, 1) := by decide +kernel
theorem dX10_isOfKind_25 : decode cX10_isOfKind 25 = .ok (.goto 4, 3) := by decide +kernel
theorem dX10_isOfKind_28 : decode cX10_isOfKind 28 = .ok (.iconst 0, 1) := by decide +kernel
theorem dX10_isOfKind_29 : decode cX10_isOfKind 29 = .ok (.ireturn, 1) := by decide +kernel
theorem dX10_isOfKind_30 : decode cX10_isOfKind 30 = .ok (.iload_n 2, 1) := by decide +kernel
theorem dX10_isOfKind_31 : decode cX10_isOfKind 31 = .ok (.ifCond .ne 18, 3) := by decide +kernel
theorem dX10_isOfKind_34 : decode cX10_isOfKind 34 = .ok (.aload_n 0, 1) := by decide +kernel
theorem dX10_isOfKind_35 : decode cX10_isOfKind 35 = .ok (.getfield 33, 3) := by decide +kernel
theorem dX10_isOfKind_38 : decode cX10_isOfKind 38 = .ok (.aload_n 1, 1) := by decide +kernel
theorem dX10_isOfKind_39 : decode cX10_isOfKind 39 = .ok (.aload_n 0, 1) := by decide +kernel
theorem dX10_isOfKind_40 : decode cX10_isOfKind 40 = .ok (.getfield 74, 3) := by decide +kernel
theorem dX10_isOfKind_43 : decode cX10_isOfKind 43 = .ok (.invokevirtual 222, 3) := by decide +kernel
theorem dX10_isOfKind_46 : decode cX10_isOfKind 46 = .ok (.goto 15, 3) := by decide +kernel
theorem dX10_isOfKind_49 : decode cX10_isOfKind 49 = .ok (.aload_n 0, 1) := by decide +kernel
theorem dX10_isOfKind_50 : decode cX10_isOfKind 50 = .ok (.getfield 33, 3) := by decide +kernel
theorem dX10_isOfKind_53 : decode cX10_isOfKind 53 = .ok (.aload_n 1, 1) := by decide +kernel
theorem dX10_isOfKind_54 : decode cX10_isOfKind 54 = .ok (.aload_n 0, 1) := by decide +kernel
theorem dX10_isOfKind_55 : decode cX10_isOfKind 55 = .ok (.getfield 74, 3) := by decide +kernel
theorem dX10_isOfKind_58 : decode cX10_isOfKind 58 = .ok (.invokevirtual 226, 3) := by decide +kernel
theorem dX10_isOfKind_61 : decode cX10_isOfKind 61 = .ok (.aload_n 0, 1) := by decide +kernel
theorem dX10_isOfKind_62 : decode cX10_isOfKind 62 = .ok (.getfield 74, 3) := by decide +kernel
theorem dX10_isOfKind_65 : decode cX10_isOfKind 65 = .ok (.getfield 232, 3) := by decide +kernel
theorem dX10_isOfKind_68 : decode cX10_isOfKind 68 = .ok (.lconst 0, 1) := by decide +kernel
theorem dX10_isOfKind_69 : decode cX10_isOfKind 69 = .ok (.lcmp, 1) := by decide +kernel
theorem dX10_isOfKind_70 : decode cX10_isOfKind 70 = .ok (.ifCond .ne 7, 3) := by decide +kernel
theorem dX10_isOfKind_73 : decode cX10_isOfKind 73 = .ok (.iconst 1, 1) := by decide +kernel
theorem dX10_isOfKind_74 : decode cX10_isOfKind 74 = .ok (.goto 4, 3) := by decide +kernel
theorem dX10_isOfKind_77 : decode cX10_isOfKind 77 = .ok (.iconst 0, 1) := by decide +kernel
theorem dX10_isOfKind_78 : decode cX10_isOfKind 78 = .ok (.ireturn, 1) := by decide +kernel
theorem dX10_findWorstCorner_0 : decode cX10_findWorstCorner 0 = .ok (.aload_n 0, 1) := by decide +kernel
theorem dX10_findWorstCorner_1 : decode cX10_findWorstCorner 1 = .ok (.getfield 19, 3) := by decide +kernel
theorem dX10_findWorstCorner_4 : decode cX10_findWorstCorner 4 = .ok (.getfield 115, 3) := by decide +kernel
theorem dX10_findWorstCorner_7 : decode cX10_findWorstCorner 7 = .ok (.istore_n 3, 1) := by decide +kernel
theorem dX10_findWorstCorner_8 : decode cX10_findWorstCorner 8 = .ok (.aload_n 0, 1) := by decide +kernel
theorem dX10_findWorstCorner_9 : decode cX10_findWorstCorner 9 = .ok (.getfield 53, 3) := by decide +kernel
theorem dX10_findWorstCorner_12 : decode cX10_findWorstCorner 12 = .ok (.iconst 0, 1) := by decide +kernel
theorem dX10_findWorstCorner_13 : decode cX10_findWorstCorner 13 = .ok (.aaload, 1) := by decide +kernel
theorem dX10_findWorstCorner_14 : decode cX10_findWorstCorner 14 = .ok (.astore 4, 2) := by decide +kernel
theorem dX10_findWorstCorner_16 : decode cX10_findWorstCorner 16 = .ok (.aload_n 0, 1) := by decide +kernel
theorem dX10_findWorstCorner_17 : decode cX10_findWorstCorner 17 = .ok (.getfield 53, 3) := by decide +kernel
theorem dX10_findWorstCorner_20 : decode cX10_findWorstCorner 20 = .ok (.iconst 1, 1) := by decide +kernel
theorem dX10_findWorstCorner_21 : decode cX10_findWorstCorner 21 = .ok (.aaload, 1) := by decide +kernel
theorem dX10_findWorstCorner_22 : decode cX10_findWorstCorner 22 = .ok (.astore 5, 2) := by decide +kernel
theorem dX10_findWorstCorner_24 : decode cX10_findWorstCorner 24 = .ok (.aload 4, 2) := by decide +kernel
theorem dX10_findWorstCorner_26 : decode cX10_findWorstCorner 26 = .ok (.aload_n 0, 1) := by decide +kernel
theorem dX10_findWorstCorner_27 : decode cX10_findWorstCorner 27 = .ok (.getfield 19, 3) := by decide +kernel
theorem dX10_findWorstCorner_30 : decode cX10_findWorstCorner 30 = .ok (.aload_n 0, 1) := by decide +kernel
theorem dX10_findWorstCorner_31 : decode cX10_findWorstCorner 31 = .ok (.getfield 33, 3) := by decide +kernel
theorem dX10_findWorstCorner_34 : decode cX10_findWorstCorner 34 = .ok (.iload_n 1, 1) := by decide +kernel
theorem dX10_findWorstCorner_35 : decode cX10_findWorstCorner 35 = .ok (.iload_n 2, 1) := by decide +kernel
theorem dX10_findWorstCorner_36 : decode cX10_findWorstCorner 36 = .ok (.iconst 0, 1) := by decide +kernel
theorem dX10_findWorstCorner_37 : decode cX10_findWorstCorner 37 = .ok (.invokevirtual 282, 3) := by decide +kernel
theorem dX10_findWorstCorner_40 : decode cX10_findWorstCorner 40 = .ok (.aload 5, 2) := by decide +kernel
theorem dX10_findWorstCorner_42 : decode cX10_findWorstCorner 42 = .ok (.aload_n 0, 1) := by decide +kernel
theorem dX10_findWorstCorner_43 : decode cX10_findWorstCorner 43 = .ok (.getfield 19, 3) := by decide +kernel
theorem dX10_findWorstCorner_46 : decode cX10_findWorstCorner 46 = .ok (.aload_n 0, 1) := by decide +kernel
theorem dX10_findWorstCorner_47 : decode cX10_findWorstCorner 47 = .ok (.getfield 33, 3) := by decide +kernel
theorem dX10_findWorstCorner_50 : decode cX10_findWorstCorner 50 = .ok (.iload_n 1, 1) := by decide +kernel
theorem dX10_findWorstCorner_51 : decode cX10_findWorstCorner 51 = .ok (.iload_n 2, 1) := by decide +kernel
theorem dX10_findWorstCorner_52 : decode cX10_findWorstCorner 52 = .ok (.iconst 1, 1) := by decide +kernel
theorem dX10_findWorstCorner_53 : decode cX10_findWorstCorner 53 = .ok (.iload_n 3, 1) := by decide +kernel
theorem dX10_findWorstCorner_54 : decode cX10_findWorstCorner 54 = .ok (.ishl, 1) := by decide +kernel
theorem dX10_findWorstCorner_55 : decode cX10_findWorstCorner 55 = .ok (.iconst 1, 1) := by decide +kernel
theorem dX10_findWorstCorner_56 : decode cX10_findWorstCorner 56 = .ok (.isub, 1) := by decide +kernel
theorem dX10_findWorstCorner_57 : decode cX10_findWorstCorner 57 = .ok (.invokevirtual 282, 3) := by decide +kernel
theorem dX10_findWorstCorner_60 : decode cX10_findWorstCorner 60 = .ok (.iconst (-1), 1) := by decide +kernel
theorem dX10_findWorstCorner_61 : decode cX10_findWorstCorner 61 = .ok (.istore 6, 2) := by decide +kernel
theorem dX10_findWorstCorner_63 : decode cX10_findWorstCorner 63 = .ok (.iconst 0, 1) := by decide +kernel
theorem dX10_findWorstCorner_64 : decode cX10_findWorstCorner 64 = .ok (.istore 7, 2) := by decide +kernel
theorem dX10_findWorstCorner_66 : decode cX10_findWorstCorner 66 = .ok (.iload 7, 2) := by decide +kernel
theorem dX10_findWorstCorner_68 : decode cX10_findWorstCorner 68 = .ok (.iconst 1, 1) := by decide +kernel
theorem dX10_findWorstCorner_69 : decode cX10_findWorstCorner 69 = .ok (.iload_n 3, 1) := by decide +kernel
theorem dX10_findWorstCorner_70 : decode cX10_findWorstCorner 70 = .ok (.ishl, 1) := by decide +kernel
theorem dX10_findWorstCorner_71 : decode cX10_findWorstCorner 71 = .ok (.if_icmp .ge 148, 3) := by decide +kernel
theorem dX10_findWorstCorner_74 : decode cX10_findWorstCorner 74 = .ok (.iload 7, 2) := by decide +kernel
theorem dX10_findWorstCorner_76 : decode cX10_findWorstCorner 76 = .ok (.ifCond .ne 7, 3) := by decide +kernel
theorem dX10_findWorstCorner_79 : decode cX10_findWorstCorner 79 = .ok (.iload_n 3, 1) := by decide +kernel
theorem dX10_findWorstCorner_80 : decode cX10_findWorstCorner 80 = .ok (.goto 12, 3) := by decide +kernel
theorem dX10_findWorstCorner_83 : decode cX10_findWorstCorner 83 = .ok (.iload_n 3, 1) := by decide +kernel
theorem dX10_findWorstCorner_84 : decode cX10_findWorstCorner 84 = .ok (.iconst 1, 1) := by decide +kernel
theorem dX10_findWorstCorner_85 : decode cX10_findWorstCorner 85 = .ok (.isub, 1) := by decide +kernel
theorem dX10_findWorstCorner_86 : decode cX10_findWorstCorner 86 = .ok (.iload 7, 2) := by decide +kernel
theorem dX10_findWorstCorner_88 : decode cX10_findWorstCorner 88 = .ok (.invokestatic 379, 3) := by decide +kernel
theorem dX10_findWorstCorner_91 : decode cX10_findWorstCorner 91 = .ok (.isub, 1) := by decide +kernel
theorem dX10_findWorstCorner_92 : decode cX10_findWorstCorner 92 = .ok (.istore 8, 2) := by decide +kernel
theorem dX10_findWorstCorner_94 : decode cX10_findWorstCorner 94 = .ok (.aload 4, 2) := by decide +kernel
theorem dX10_findWorstCorner_96 : decode cX10_findWorstCorner 96 = .ok (.aload 5, 2) := by decide +kernel
theorem dX10_findWorstCorner_98 : decode cX10_findWorstCorner 98 = .ok (.iload 8, 2) := by decide +kernel
theorem dX10_findWorstCorner_100 : decode cX10_findWorstCorner 100 = .ok (.iconst 0, 1) := by decide +kernel
theorem dX10_findWorstCorner_101 : decode cX10_findWorstCorner 101 = .ok (.invokestatic 384, 3) := by decide +kernel
theorem dX10_findWorstCorner_104 : decode cX10_findWorstCorner 104 = .ok (.iload 7, 2) := by decide +kernel
theorem dX10_findWorstCorner_106 : decode cX10_findWorstCorner 106 = .ok (.invokevirtual 389, 3) := by decide +kernel
theorem dX10_findWorstCorner_109 : decode cX10_findWorstCorner 109 = .ok (.aload 4, 2) := by decide +kernel
theorem dX10_findWorstCorner_111 : decode cX10_findWorstCorner 111 = .ok (.invokevirtual 286, 3) := by decide +kernel
theorem dX10_findWorstCorner_114 : decode cX10_findWorstCorner 114 = .ok (.getfield 210, 3) := by decide +kernel
theorem dX10_findWorstCorner_117 : decode cX10_findWorstCorner 117 = .ok (.ifCond .eq 5, 3) := by decide +kernel
theorem dX10_findWorstCorner_120 : decode cX10_findWorstCorner 120 = .ok (.iconst (-1), 1) := by decide +kernel
theorem dX10_findWorstCorner_121 : decode cX10_findWorstCorner 121 = .ok (.ireturn, 1) := by decide +kernel
theorem dX10_findWorstCorner_122 : decode cX10_findWorstCorner 122 = .ok (.iload_n 3, 1) := by decide +kernel
theorem dX10_findWorstCorner_123 : decode cX10_findWorstCorner 123 = .ok (.ifCond .ne 7, 3) := by decide +kernel
theorem dX10_findWorstCorner_126 : decode cX10_findWorstCorner 126 = .ok (.iconst 0, 1) := by decide +kernel
theorem dX10_findWorstCorner_127 : decode cX10_findWorstCorner 127 = .ok (.goto 13, 3) := by decide +kernel
theorem dX10_findWorstCorner_130 : decode cX10_findWorstCorner 130 = .ok (.iload 7, 2) := by decide +kernel
theorem dX10_findWorstCorner_132 : decode cX10_findWorstCorner 132 = .ok (.invokestatic 393, 3) := by decide +kernel
theorem dX10_findWorstCorner_135 : decode cX10_findWorstCorner 135 = .ok (.bipush 32, 2) := by decide +kernel
theorem dX10_findWorstCorner_137 : decode cX10_findWorstCorner 137 = .ok (.iload_n 3, 1) := by decide +kernel
theorem dX10_findWorstCorner_138 : decode cX10_findWorstCorner 138 = .ok (.isub, 1) := by decide +kernel
theorem dX10_findWorstCorner_139 : decode cX10_findWorstCorner 139 = .ok (.iushr, 1) := by decide +kernel
theorem dX10_findWorstCorner_140 : decode cX10_findWorstCorner 140 = .ok (.istore 9, 2) := by decide +kernel
theorem dX10_findWorstCorner_142 : decode cX10_findWorstCorner 142 = .ok (.aload_n 0, 1) := by decide +kernel
theorem dX10_findWorstCorner_143 : decode cX10_findWorstCorner 143 = .ok (.getfield 33, 3) := by decide +kernel
theorem dX10_findWorstCorner_146 : decode cX10_findWorstCorner 146 = .ok (.aload 4, 2) := by decide +kernel
theorem dX10_findWorstCorner_148 : decode cX10_findWorstCorner 148 = .ok (.invokevirtual 286, 3) := by decide +kernel
theorem dX10_findWorstCorner_151 : decode cX10_findWorstCorner 151 = .ok (.aload_n 0, 1) := by decide +kernel
theorem dX10_findWorstCorner_152 : decode cX10_findWorstCorner 152 = .ok (.getfield 74, 3) := by decide +kernel
theorem dX10_findWorstCorner_155 : decode cX10_findWorstCorner 155 = .ok (.invokevirtual 222, 3) := by decide +kernel
theorem dX10_findWorstCorner_158 : decode cX10_findWorstCorner 158 = .ok (.iload 6, 2) := by decide +kernel
theorem dX10_findWorstCorner_160 : decode cX10_findWorstCorner 160 = .ok (.iconst (-1), 1) := by decide +kernel
theorem dX10_findWorstCorner_161 : decode cX10_findWorstCorner 161 = .ok (.if_icmp .ne 7, 3) := by decide +kernel
theorem dX10_findWorstCorner_164 : decode cX10_findWorstCorner 164 = .ok (.iconst 1, 1) := by decide +kernel
theorem dX10_findWorstCorner_165 : decode cX10_findWorstCorner 165 = .ok (.goto 14, 3) := by decide +kernel
theorem dX10_findWorstCorner_168 : decode cX10_findWorstCorner 168 = .ok (.aload_n 0, 1) := by decide +kernel
theorem dX10_findWorstCorner_169 : decode cX10_findWorstCorner 169 = .ok (.getfield 74, 3) := by decide +kernel
theorem dX10_findWorstCorner_172 : decode cX10_findWorstCorner 172 = .ok (.aload_n 0, 1) := by decide +kernel
theorem dX10_findWorstCorner_173 : decode cX10_findWorstCorner 173 = .ok (.getfield 78, 3) := by decide +kernel
theorem dX10_findWorstCorner_176 : decode cX10_findWorstCorner 176 = .ok (.invokevirtual 256, 3) := by decide +kernel
theorem dX10_findWorstCorner_179 : decode cX10_findWorstCorner 179 = .ok (.istore 10, 2) := by decide +kernel
theorem dX10_findWorstCorner_181 : decode cX10_findWorstCorner 181 = .ok (.iload 10, 2) := by decide +kernel
theorem dX10_findWorstCorner_183 : decode cX10_findWorstCorner 183 = .ok (.ifCond .gt 15, 3) := by decide +kernel
theorem dX10_findWorstCorner_186 : decode cX10_findWorstCorner 186 = .ok (.iload 10, 2) := by decide +kernel
theorem dX10_findWorstCorner_188 : decode cX10_findWorstCorner 188 = .ok (.ifCond .ne 25, 3) := by decide +kernel
theorem dX10_findWorstCorner_191 : decode cX10_findWorstCorner 191 = .ok (.iload 9, 2) := by decide +kernel
theorem dX10_findWorstCorner_193 : decode cX10_findWorstCorner 193 = .ok (.iload 6, 2) := by decide +kernel
theorem dX10_findWorstCorner_195 : decode cX10_findWorstCorner 195 = .ok (.if_icmp .ge 18, 3) := by decide +kernel
theorem dX10_findWorstCorner_198 : decode cX10_findWorstCorner 198 = .ok (.iload 9, 2) := by decide +kernel
theorem dX10_findWorstCorner_200 : decode cX10_findWorstCorner 200 = .ok (.istore 6, 2) := by decide +kernel
theorem dX10_findWorstCorner_202 : decode cX10_findWorstCorner 202 = .ok (.aload_n 0, 1) := by decide +kernel
theorem dX10_findWorstCorner_203 : decode cX10_findWorstCorner 203 = .ok (.getfield 78, 3) := by decide +kernel
theorem dX10_findWorstCorner_206 : decode cX10_findWorstCorner 206 = .ok (.aload_n 0, 1) := by decide +kernel
theorem dX10_findWorstCorner_207 : decode cX10_findWorstCorner 207 = .ok (.getfield 74, 3) := by decide +kernel
theorem dX10_findWorstCorner_210 : decode cX10_findWorstCorner 210 = .ok (.invokevirtual 260, 3) := by decide +kernel
theorem dX10_findWorstCorner_213 : decode cX10_findWorstCorner 213 = .ok (.iinc 7 1, 3) := by decide +kernel
theorem dX10_findWorstCorner_216 : decode cX10_findWorstCorner 216 = .ok (.goto (-150), 3) := by decide +kernel
theorem dX10_findWorstCorner_219 : decode cX10_findWorstCorner 219 = .ok (.iload 6, 2) := by decide +kernel
theorem dX10_findWorstCorner_221 : decode cX10_findWorstCorner 221 = .ok (.ireturn, 1) := by decide +kernel
theorem dX10_measureGreatest_0 : decode cX10_measureGreatest 0 = .ok (.iconst 1, 1) := by decide +kernel
theorem dX10_measureGreatest_1 : decode cX10_measureGreatest 1 = .ok (.istore_n 2, 1) := by decide +kernel
theorem dX10_measureGreatest_2 : decode cX10_measureGreatest 2 = .ok (.aload_n 0, 1) := by decide +kernel
theorem dX10_measureGreatest_3 : decode cX10_measureGreatest 3 = .ok (.getfield 78, 3) := by decide +kernel
theorem dX10_measureGreatest_6 : decode cX10_measureGreatest 6 = .ok (.lconst 0, 1) := by decide +kernel
theorem dX10_measureGreatest_7 : decode cX10_measureGreatest 7 = .ok (.lconst 1, 1) := by decide +kernel
theorem dX10_measureGreatest_8 : decode cX10_measureGreatest 8 = .ok (.invokevirtual 267, 3) := by decide +kernel
theorem dX10_measureGreatest_11 : decode cX10_measureGreatest 11 = .ok (.iconst 0, 1) := by decide +kernel
theorem dX10_measureGreatest_12 : decode cX10_measureGreatest 12 = .ok (.istore_n 3, 1) := by decide +kernel
theorem dX10_measureGreatest_13 : decode cX10_measureGreatest 13 = .ok (.iload_n 3, 1) := by decide +kernel
theorem dX10_measureGreatest_14 : decode cX10_measureGreatest 14 = .ok (.iconst 4, 1) := by decide +kernel
theorem dX10_measureGreatest_15 : decode cX10_measureGreatest 15 = .ok (.if_icmp .ge 112, 3) := by decide +kernel
theorem dX10_measureGreatest_18 : decode cX10_measureGreatest 18 = .ok (.iload_n 1, 1) := by decide +kernel
theorem dX10_measureGreatest_19 : decode cX10_measureGreatest 19 = .ok (.iload_n 3, 1) := by decide +kernel
theorem dX10_measureGreatest_20 : decode cX10_measureGreatest 20 = .ok (.invokestatic 352, 3) := by decide +kernel
theorem dX10_measureGreatest_23 : decode cX10_measureGreatest 23 = .ok (.ifCond .ne 6, 3) := by decide +kernel
theorem dX10_measureGreatest_26 : decode cX10_measureGreatest 26 = .ok (.goto 95, 3) := by decide +kernel
theorem dX10_measureGreatest_29 : decode cX10_measureGreatest 29 = .ok (.aload_n 0, 1) := by decide +kernel
theorem dX10_measureGreatest_30 : decode cX10_measureGreatest 30 = .ok (.getfield 53, 3) := by decide +kernel
theorem dX10_measureGreatest_33 : decode cX10_measureGreatest 33 = .ok (.iload_n 3, 1) := by decide +kernel
theorem dX10_measureGreatest_34 : decode cX10_measureGreatest 34 = .ok (.aaload, 1) := by decide +kernel
theorem dX10_measureGreatest_35 : decode cX10_measureGreatest 35 = .ok (.aload_n 0, 1) := by decide +kernel
theorem dX10_measureGreatest_36 : decode cX10_measureGreatest 36 = .ok (.getfield 19, 3) := by decide +kernel
theorem dX10_measureGreatest_39 : decode cX10_measureGreatest 39 = .ok (.aload_n 0, 1) := by decide +kernel
theorem dX10_measureGreatest_40 : decode cX10_measureGreatest 40 = .ok (.getfield 33, 3) := by decide +kernel
theorem dX10_measureGreatest_43 : decode cX10_measureGreatest 43 = .ok (.iload_n 3, 1) := by decide +kernel
theorem dX10_measureGreatest_44 : decode cX10_measureGreatest 44 = .ok (.iconst 1, 1) := by decide +kernel
theorem dX10_measureGreatest_45 : decode cX10_measureGreatest 45 = .ok (.iadd, 1) := by decide +kernel
theorem dX10_measureGreatest_46 : decode cX10_measureGreatest 46 = .ok (.aload_n 0, 1) := by decide +kernel
theorem dX10_measureGreatest_47 : decode cX10_measureGreatest 47 = .ok (.getfield 19, 3) := by decide +kernel
theorem dX10_measureGreatest_50 : decode cX10_measureGreatest 50 = .ok (.getfield 115, 3) := by decide +kernel
theorem dX10_measureGreatest_53 : decode cX10_measureGreatest 53 = .ok (.invokevirtual 263, 3) := by decide +kernel
theorem dX10_measureGreatest_56 : decode cX10_measureGreatest 56 = .ok (.aload_n 0, 1) := by decide +kernel
theorem dX10_measureGreatest_57 : decode cX10_measureGreatest 57 = .ok (.getfield 53, 3) := by decide +kernel
theorem dX10_measureGreatest_60 : decode cX10_measureGreatest 60 = .ok (.iload_n 3, 1) := by decide +kernel
theorem dX10_measureGreatest_61 : decode cX10_measureGreatest 61 = .ok (.aaload, 1) := by decide +kernel
theorem dX10_measureGreatest_62 : decode cX10_measureGreatest 62 = .ok (.invokevirtual 286, 3) := by decide +kernel
theorem dX10_measureGreatest_65 : decode cX10_measureGreatest 65 = .ok (.getfield 210, 3) := by decide +kernel
theorem dX10_measureGreatest_68 : decode cX10_measureGreatest 68 = .ok (.ifCond .eq 8, 3) := by decide +kernel
theorem dX10_measureGreatest_71 : decode cX10_measureGreatest 71 = .ok (.iconst 0, 1) := by decide +kernel
theorem dX10_measureGreatest_72 : decode cX10_measureGreatest 72 = .ok (.istore_n 2, 1) := by decide +kernel
theorem dX10_measureGreatest_73 : decode cX10_measureGreatest 73 = .ok (.goto 48, 3) := by decide +kernel
theorem dX10_measureGreatest_76 : decode cX10_measureGreatest 76 = .ok (.aload_n 0, 1) := by decide +kernel
theorem dX10_measureGreatest_77 : decode cX10_measureGreatest 77 = .ok (.getfield 33, 3) := by decide +kernel
theorem dX10_measureGreatest_80 : decode cX10_measureGreatest 80 = .ok (.aload_n 0, 1) := by decide +kernel
theorem dX10_measureGreatest_81 : decode cX10_measureGreatest 81 = .ok (.getfield 53, 3) := by decide +kernel
theorem dX10_measureGreatest_84 : decode cX10_measureGreatest 84 = .ok (.iload_n 3, 1) := by decide +kernel
theorem dX10_measureGreatest_85 : decode cX10_measureGreatest 85 = .ok (.aaload, 1) := by decide +kernel
theorem dX10_measureGreatest_86 : decode cX10_measureGreatest 86 = .ok (.invokevirtual 286, 3) := by decide +kernel
theorem dX10_measureGreatest_89 : decode cX10_measureGreatest 89 = .ok (.aload_n 0, 1) := by decide +kernel
theorem dX10_measureGreatest_90 : decode cX10_measureGreatest 90 = .ok (.getfield 74, 3) := by decide +kernel
theorem dX10_measureGreatest_93 : decode cX10_measureGreatest 93 = .ok (.invokevirtual 222, 3) := by decide +kernel
theorem dX10_measureGreatest_96 : decode cX10_measureGreatest 96 = .ok (.aload_n 0, 1) := by decide +kernel
theorem dX10_measureGreatest_97 : decode cX10_measureGreatest 97 = .ok (.getfield 74, 3) := by decide +kernel
theorem dX10_measureGreatest_100 : decode cX10_measureGreatest 100 = .ok (.aload_n 0, 1) := by decide +kernel
theorem dX10_measureGreatest_101 : decode cX10_measureGreatest 101 = .ok (.getfield 78, 3) := by decide +kernel
theorem dX10_measureGreatest_104 : decode cX10_measureGreatest 104 = .ok (.invokevirtual 256, 3) := by decide +kernel
theorem dX10_measureGreatest_107 : decode cX10_measureGreatest 107 = .ok (.ifCond .le 14, 3) := by decide +kernel
theorem dX10_measureGreatest_110 : decode cX10_measureGreatest 110 = .ok (.aload_n 0, 1) := by decide +kernel
theorem dX10_measureGreatest_111 : decode cX10_measureGreatest 111 = .ok (.getfield 78, 3) := by decide +kernel
theorem dX10_measureGreatest_114 : decode cX10_measureGreatest 114 = .ok (.aload_n 0, 1) := by decide +kernel
theorem dX10_measureGreatest_115 : decode cX10_measureGreatest 115 = .ok (.getfield 74, 3) := by decide +kernel
theorem dX10_measureGreatest_118 : decode cX10_measureGreatest 118 = .ok (.invokevirtual 260, 3) := by decide +kernel
theorem dX10_measureGreatest_121 : decode cX10_measureGreatest 121 = .ok (.iinc 3 1, 3) := by decide +kernel
theorem dX10_measureGreatest_124 : decode cX10_measureGreatest 124 = .ok (.goto (-111), 3) := by decide +kernel
theorem dX10_measureGreatest_127 : decode cX10_measureGreatest 127 = .ok (.iload_n 2, 1) := by decide +kernel
theorem dX10_measureGreatest_128 : decode cX10_measureGreatest 128 = .ok (.ireturn, 1) := by decide +kernel
theorem dX10_isBetterWith_0 : decode cX10_isBetterWith 0 = .ok (.aload_n 0, 1) := by decide +kernel
theorem dX10_isBetterWith_1 : decode cX10_isBetterWith 1 = .ok (.getfield 81, 3) := by decide +kernel
theorem dX10_isBetterWith_4 : decode cX10_isBetterWith 4 = .ok (.lconst 0, 1) := by decide +kernel
theorem dX10_isBetterWith_5 : decode cX10_isBetterWith 5 = .ok (.lconst 1, 1) := by decide +kernel
theorem dX10_isBetterWith_6 : decode cX10_isBetterWith 6 = .ok (.invokevirtual 267, 3) := by decide +kernel
theorem dX10_isBetterWith_9 : decode cX10_isBetterWith 9 = .ok (.iload 4, 2) := by decide +kernel
theorem dX10_isBetterWith_11 : decode cX10_isBetterWith 11 = .ok (.ifCond .eq 17, 3) := by decide +kernel
theorem dX10_isBetterWith_14 : decode cX10_isBetterWith 14 = .ok (.aload_n 0, 1) := by decide +kernel
theorem dX10_isBetterWith_15 : decode cX10_isBetterWith 15 = .ok (.getfield 78, 3) := by decide +kernel
theorem dX10_isBetterWith_18 : decode cX10_isBetterWith 18 = .ok (.getfield 232, 3) := by decide +kernel
theorem dX10_isBetterWith_21 : decode cX10_isBetterWith 21 = .ok (.lconst 0, 1) := by decide +kernel
theorem dX10_isBetterWith_22 : decode cX10_isBetterWith 22 = .ok (.lcmp, 1) := by decide +kernel
theorem dX10_isBetterWith_23 : decode cX10_isBetterWith 23 = .ok (.ifCond .ne 5, 3) := by decide +kernel
theorem dX10_isBetterWith_26 : decode cX10_isBetterWith 26 = .ok (.iconst 0, 1) := by decide +kernel
theorem dX10_isBetterWith_27 : decode cX10_isBetterWith 27 = .ok (.ireturn, 1) := by decide +kernel
theorem dX10_isBetterWith_28 : decode cX10_isBetterWith 28 = .ok (.iconst 0, 1) := by decide +kernel
theorem dX10_isBetterWith_29 : decode cX10_isBetterWith 29 = .ok (.istore 5, 2) := by decide +kernel
theorem dX10_isBetterWith_31 : decode cX10_isBetterWith 31 = .ok (.iload 5, 2) := by decide +kernel
theorem dX10_isBetterWith_33 : decode cX10_isBetterWith 33 = .ok (.iconst 4, 1) := by decide +kernel
theorem dX10_isBetterWith_34 : decode cX10_isBetterWith 34 = .ok (.if_icmp .ge 114, 3) := by decide +kernel
theorem dX10_isBetterWith_37 : decode cX10_isBetterWith 37 = .ok (.iload_n 3, 1) := by decide +kernel
theorem dX10_isBetterWith_38 : decode cX10_isBetterWith 38 = .ok (.iload 5, 2) := by decide +kernel
theorem dX10_isBetterWith_40 : decode cX10_isBetterWith 40 = .ok (.invokestatic 352, 3) := by decide +kernel
theorem dX10_isBetterWith_43 : decode cX10_isBetterWith 43 = .ok (.ifCond .ne 6, 3) := by decide +kernel
theorem dX10_isBetterWith_46 : decode cX10_isBetterWith 46 = .ok (.goto 96, 3) := by decide +kernel
theorem dX10_isBetterWith_49 : decode cX10_isBetterWith 49 = .ok (.aload_n 0, 1) := by decide +kernel
theorem dX10_isBetterWith_50 : decode cX10_isBetterWith 50 = .ok (.getfield 53, 3) := by decide +kernel
theorem dX10_isBetterWith_53 : decode cX10_isBetterWith 53 = .ok (.iload 5, 2) := by decide +kernel
theorem dX10_isBetterWith_55 : decode cX10_isBetterWith 55 = .ok (.aaload, 1) := by decide +kernel
theorem dX10_isBetterWith_56 : decode cX10_isBetterWith 56 = .ok (.iload_n 1, 1) := by decide +kernel
theorem dX10_isBetterWith_57 : decode cX10_isBetterWith 57 = .ok (.aload_n 0, 1) := by decide +kernel
theorem dX10_isBetterWith_58 : decode cX10_isBetterWith 58 = .ok (.getfield 40, 3) := by decide +kernel
theorem dX10_isBetterWith_61 : decode cX10_isBetterWith 61 = .ok (.iload 5, 2) := by decide +kernel
theorem dX10_isBetterWith_63 : decode cX10_isBetterWith 63 = .ok (.iload_n 2, 1) := by decide +kernel
theorem dX10_isBetterWith_64 : decode cX10_isBetterWith 64 = .ok (.invokevirtual 319, 3) := by decide +kernel
theorem dX10_isBetterWith_67 : decode cX10_isBetterWith 67 = .ok (.iload_n 1, 1) := by decide +kernel
theorem dX10_isBetterWith_68 : decode cX10_isBetterWith 68 = .ok (.invokevirtual 298, 3) := by decide +kernel
theorem dX10_isBetterWith_71 : decode cX10_isBetterWith 71 = .ok (.astore 6, 2) := by decide +kernel
theorem dX10_isBetterWith_73 : decode cX10_isBetterWith 73 = .ok (.aload 6, 2) := by decide +kernel
theorem dX10_isBetterWith_75 : decode cX10_isBetterWith 75 = .ok (.getfield 210, 3) := by decide +kernel
theorem dX10_isBetterWith_78 : decode cX10_isBetterWith 78 = .ok (.ifCond .eq 5, 3) := by decide +kernel
theorem dX10_isBetterWith_81 : decode cX10_isBetterWith 81 = .ok (.iconst 0, 1) := by decide +kernel
theorem dX10_isBetterWith_82 : decode cX10_isBetterWith 82 = .ok (.ireturn, 1) := by decide +kernel
theorem dX10_isBetterWith_83 : decode cX10_isBetterWith 83 = .ok (.aload_n 0, 1) := by decide +kernel
theorem dX10_isBetterWith_84 : decode cX10_isBetterWith 84 = .ok (.getfield 33, 3) := by decide +kernel
theorem dX10_isBetterWith_87 : decode cX10_isBetterWith 87 = .ok (.aload 6, 2) := by decide +kernel
theorem dX10_isBetterWith_89 : decode cX10_isBetterWith 89 = .ok (.aload_n 0, 1) := by decide +kernel
theorem dX10_isBetterWith_90 : decode cX10_isBetterWith 90 = .ok (.getfield 74, 3) := by decide +kernel
theorem dX10_isBetterWith_93 : decode cX10_isBetterWith 93 = .ok (.invokevirtual 222, 3) := by decide +kernel
theorem dX10_isBetterWith_96 : decode cX10_isBetterWith 96 = .ok (.iload 4, 2) := by decide +kernel
theorem dX10_isBetterWith_98 : decode cX10_isBetterWith 98 = .ok (.ifCond .eq 19, 3) := by decide +kernel
theorem dX10_isBetterWith_101 : decode cX10_isBetterWith 101 = .ok (.aload_n 0, 1) := by decide +kernel
theorem dX10_isBetterWith_102 : decode cX10_isBetterWith 102 = .ok (.getfield 74, 3) := by decide +kernel
theorem dX10_isBetterWith_105 : decode cX10_isBetterWith 105 = .ok (.aload_n 0, 1) := by decide +kernel
theorem dX10_isBetterWith_106 : decode cX10_isBetterWith 106 = .ok (.getfield 78, 3) := by decide +kernel
theorem dX10_isBetterWith_109 : decode cX10_isBetterWith 109 = .ok (.invokevirtual 256, 3) := by decide +kernel
theorem dX10_isBetterWith_112 : decode cX10_isBetterWith 112 = .ok (.ifCond .lt 5, 3) := by decide +kernel
theorem dX10_isBetterWith_115 : decode cX10_isBetterWith 115 = .ok (.iconst 0, 1) := by decide +kernel
theorem dX10_isBetterWith_116 : decode cX10_isBetterWith 116 = .ok (.ireturn, 1) := by decide +kernel
theorem dX10_isBetterWith_117 : decode cX10_isBetterWith 117 = .ok (.aload_n 0, 1) := by decide +kernel
theorem dX10_isBetterWith_118 : decode cX10_isBetterWith 118 = .ok (.getfield 74, 3) := by decide +kernel
theorem dX10_isBetterWith_121 : decode cX10_isBetterWith 121 = .ok (.aload_n 0, 1) := by decide +kernel
theorem dX10_isBetterWith_122 : decode cX10_isBetterWith 122 = .ok (.getfield 81, 3) := by decide +kernel
theorem dX10_isBetterWith_125 : decode cX10_isBetterWith 125 = .ok (.invokevirtual 256, 3) := by decide +kernel
theorem dX10_isBetterWith_128 : decode cX10_isBetterWith 128 = .ok (.ifCond .le 14, 3) := by decide +kernel
theorem dX10_isBetterWith_131 : decode cX10_isBetterWith 131 = .ok (.aload_n 0, 1) := by decide +kernel
theorem dX10_isBetterWith_132 : decode cX10_isBetterWith 132 = .ok (.getfield 81, 3) := by decide +kernel
theorem dX10_isBetterWith_135 : decode cX10_isBetterWith 135 = .ok (.aload_n 0, 1) := by decide +kernel
theorem dX10_isBetterWith_136 : decode cX10_isBetterWith 136 = .ok (.getfield 74, 3) := by decide +kernel
theorem dX10_isBetterWith_139 : decode cX10_isBetterWith 139 = .ok (.invokevirtual 260, 3) := by decide +kernel
theorem dX10_isBetterWith_142 : decode cX10_isBetterWith 142 = .ok (.iinc 5 1, 3) := by decide +kernel
theorem dX10_isBetterWith_145 : decode cX10_isBetterWith 145 = .ok (.goto (-114), 3) := by decide +kernel
theorem dX10_isBetterWith_148 : decode cX10_isBetterWith 148 = .ok (.iconst 1, 1) := by decide +kernel
theorem dX10_isBetterWith_149 : decode cX10_isBetterWith 149 = .ok (.ireturn, 1) := by decide +kernel
theorem dX10_spareAt_0 : decode cX10_spareAt 0 = .ok (.aload_n 0, 1) := by decide +kernel
theorem dX10_spareAt_1 : decode cX10_spareAt 1 = .ok (.getfield 53, 3) := by decide +kernel
theorem dX10_spareAt_4 : decode cX10_spareAt 4 = .ok (.iconst 0, 1) := by decide +kernel
theorem dX10_spareAt_5 : decode cX10_spareAt 5 = .ok (.aaload, 1) := by decide +kernel
theorem dX10_spareAt_6 : decode cX10_spareAt 6 = .ok (.astore_n 3, 1) := by decide +kernel
theorem dX10_spareAt_7 : decode cX10_spareAt 7 = .ok (.aload_n 3, 1) := by decide +kernel
theorem dX10_spareAt_8 : decode cX10_spareAt 8 = .ok (.aload_n 0, 1) := by decide +kernel
theorem dX10_spareAt_9 : decode cX10_spareAt 9 = .ok (.getfield 19, 3) := by decide +kernel
theorem dX10_spareAt_12 : decode cX10_spareAt 12 = .ok (.aload_n 0, 1) := by decide +kernel
theorem dX10_spareAt_13 : decode cX10_spareAt 13 = .ok (.getfield 33, 3) := by decide +kernel
theorem dX10_spareAt_16 : decode cX10_spareAt 16 = .ok (.iload_n 1, 1) := by decide +kernel
theorem dX10_spareAt_17 : decode cX10_spareAt 17 = .ok (.aload_n 0, 1) := by decide +kernel
theorem dX10_spareAt_18 : decode cX10_spareAt 18 = .ok (.getfield 19, 3) := by decide +kernel
theorem dX10_spareAt_21 : decode cX10_spareAt 21 = .ok (.getfield 115, 3) := by decide +kernel
theorem dX10_spareAt_24 : decode cX10_spareAt 24 = .ok (.invokevirtual 263, 3) := by decide +kernel
theorem dX10_spareAt_27 : decode cX10_spareAt 27 = .ok (.aload_n 3, 1) := by decide +kernel
theorem dX10_spareAt_28 : decode cX10_spareAt 28 = .ok (.invokevirtual 286, 3) := by decide +kernel
theorem dX10_spareAt_31 : decode cX10_spareAt 31 = .ok (.getfield 210, 3) := by decide +kernel
theorem dX10_spareAt_34 : decode cX10_spareAt 34 = .ok (.ifCond .eq 5, 3) := by decide +kernel
theorem dX10_spareAt_37 : decode cX10_spareAt 37 = .ok (.iconst 0, 1) := by decide +kernel
theorem dX10_spareAt_38 : decode cX10_spareAt 38 = .ok (.ireturn, 1) := by decide +kernel
theorem dX10_spareAt_39 : decode cX10_spareAt 39 = .ok (.aload_n 0, 1) := by decide +kernel
theorem dX10_spareAt_40 : decode cX10_spareAt 40 = .ok (.getfield 33, 3) := by decide +kernel
theorem dX10_spareAt_43 : decode cX10_spareAt 43 = .ok (.aload_n 3, 1) := by decide +kernel
theorem dX10_spareAt_44 : decode cX10_spareAt 44 = .ok (.invokevirtual 286, 3) := by decide +kernel
theorem dX10_spareAt_47 : decode cX10_spareAt 47 = .ok (.aload_n 0, 1) := by decide +kernel
theorem dX10_spareAt_48 : decode cX10_spareAt 48 = .ok (.getfield 78, 3) := by decide +kernel
theorem dX10_spareAt_51 : decode cX10_spareAt 51 = .ok (.invokevirtual 222, 3) := by decide +kernel
theorem dX10_spareAt_54 : decode cX10_spareAt 54 = .ok (.iconst 0, 1) := by decide +kernel
theorem dX10_spareAt_55 : decode cX10_spareAt 55 = .ok (.istore 4, 2) := by decide +kernel
theorem dX10_spareAt_57 : decode cX10_spareAt 57 = .ok (.iconst 0, 1) := by decide +kernel
theorem dX10_spareAt_58 : decode cX10_spareAt 58 = .ok (.istore 5, 2) := by decide +kernel
theorem dX10_spareAt_60 : decode cX10_spareAt 60 = .ok (.iload 5, 2) := by decide +kernel
theorem dX10_spareAt_62 : decode cX10_spareAt 62 = .ok (.aload_n 0, 1) := by decide +kernel
theorem dX10_spareAt_63 : decode cX10_spareAt 63 = .ok (.getfield 19, 3) := by decide +kernel
theorem dX10_spareAt_66 : decode cX10_spareAt 66 = .ok (.getfield 115, 3) := by decide +kernel
theorem dX10_spareAt_69 : decode cX10_spareAt 69 = .ok (.if_icmp .ge 81, 3) := by decide +kernel
theorem dX10_spareAt_72 : decode cX10_spareAt 72 = .ok (.iload_n 2, 1) := by decide +kernel
theorem dX10_spareAt_73 : decode cX10_spareAt 73 = .ok (.iload 5, 2) := by decide +kernel
theorem dX10_spareAt_75 : decode cX10_spareAt 75 = .ok (.invokestatic 352, 3) := by decide +kernel
theorem dX10_spareAt_78 : decode cX10_spareAt 78 = .ok (.ifCond .ne 6, 3) := by decide +kernel
theorem dX10_spareAt_81 : decode cX10_spareAt 81 = .ok (.goto 63, 3) := by decide +kernel
theorem dX10_spareAt_84 : decode cX10_spareAt 84 = .ok (.aload_n 3, 1) := by decide +kernel
theorem dX10_spareAt_85 : decode cX10_spareAt 85 = .ok (.iload 5, 2) := by decide +kernel
theorem dX10_spareAt_87 : decode cX10_spareAt 87 = .ok (.aconst_null, 1) := by decide +kernel
theorem dX10_spareAt_88 : decode cX10_spareAt 88 = .ok (.iload 5, 2) := by decide +kernel
theorem dX10_spareAt_90 : decode cX10_spareAt 90 = .ok (.iconst 1, 1) := by decide +kernel
theorem dX10_spareAt_91 : decode cX10_spareAt 91 = .ok (.iadd, 1) := by decide +kernel
theorem dX10_spareAt_92 : decode cX10_spareAt 92 = .ok (.invokevirtual 298, 3) := by decide +kernel
theorem dX10_spareAt_95 : decode cX10_spareAt 95 = .ok (.astore 6, 2) := by decide +kernel
theorem dX10_spareAt_97 : decode cX10_spareAt 97 = .ok (.aload 6, 2) := by decide +kernel
theorem dX10_spareAt_99 : decode cX10_spareAt 99 = .ok (.getfield 210, 3) := by decide +kernel
theorem dX10_spareAt_102 : decode cX10_spareAt 102 = .ok (.ifCond .eq 6, 3) := by decide +kernel
theorem dX10_spareAt_105 : decode cX10_spareAt 105 = .ok (.goto 39, 3) := by decide +kernel
theorem dX10_spareAt_108 : decode cX10_spareAt 108 = .ok (.aload_n 0, 1) := by decide +kernel
theorem dX10_spareAt_109 : decode cX10_spareAt 109 = .ok (.getfield 33, 3) := by decide +kernel
theorem dX10_spareAt_112 : decode cX10_spareAt 112 = .ok (.aload 6, 2) := by decide +kernel
theorem dX10_spareAt_114 : decode cX10_spareAt 114 = .ok (.aload_n 0, 1) := by decide +kernel
theorem dX10_spareAt_115 : decode cX10_spareAt 115 = .ok (.getfield 74, 3) := by decide +kernel
theorem dX10_spareAt_118 : decode cX10_spareAt 118 = .ok (.invokevirtual 222, 3) := by decide +kernel
theorem dX10_spareAt_121 : decode cX10_spareAt 121 = .ok (.aload_n 0, 1) := by decide +kernel
theorem dX10_spareAt_122 : decode cX10_spareAt 122 = .ok (.getfield 74, 3) := by decide +kernel
theorem dX10_spareAt_125 : decode cX10_spareAt 125 = .ok (.aload_n 0, 1) := by decide +kernel
theorem dX10_spareAt_126 : decode cX10_spareAt 126 = .ok (.getfield 78, 3) := by decide +kernel
theorem dX10_spareAt_129 : decode cX10_spareAt 129 = .ok (.invokevirtual 256, 3) := by decide +kernel
theorem dX10_spareAt_132 : decode cX10_spareAt 132 = .ok (.ifCond .ne 12, 3) := by decide +kernel
theorem dX10_spareAt_135 : decode cX10_spareAt 135 = .ok (.iload 4, 2) := by decide +kernel
theorem dX10_spareAt_137 : decode cX10_spareAt 137 = .ok (.iconst 1, 1) := by decide +kernel
theorem dX10_spareAt_138 : decode cX10_spareAt 138 = .ok (.iload 5, 2) := by decide +kernel
theorem dX10_spareAt_140 : decode cX10_spareAt 140 = .ok (.ishl, 1) := by decide +kernel
theorem dX10_spareAt_141 : decode cX10_spareAt 141 = .ok (.ior, 1) := by decide +kernel
theorem dX10_spareAt_142 : decode cX10_spareAt 142 = .ok (.istore 4, 2) := by decide +kernel
theorem dX10_spareAt_144 : decode cX10_spareAt 144 = .ok (.iinc 5 1, 3) := by decide +kernel
theorem dX10_spareAt_147 : decode cX10_spareAt 147 = .ok (.goto (-87), 3) := by decide +kernel
theorem dX10_spareAt_150 : decode cX10_spareAt 150 = .ok (.iload 4, 2) := by decide +kernel
theorem dX10_spareAt_152 : decode cX10_spareAt 152 = .ok (.ireturn, 1) := by decide +kernel
theorem dX10_showByte_0 : decode cX10_showByte 0 = .ok (.aload_n 0, 1) := by decide +kernel
theorem dX10_showByte_1 : decode cX10_showByte 1 = .ok (.getfield 88, 3) := by decide +kernel
theorem dX10_showByte_4 : decode cX10_showByte 4 = .ok (.aload_n 0, 1) := by decide +kernel
theorem dX10_showByte_5 : decode cX10_showByte 5 = .ok (.getfield 84, 3) := by decide +kernel
theorem dX10_showByte_8 : decode cX10_showByte 8 = .ok (.arraylength, 1) := by decide +kernel
theorem dX10_showByte_9 : decode cX10_showByte 9 = .ok (.if_icmp .ge 23, 3) := by decide +kernel
theorem dX10_showByte_12 : decode cX10_showByte 12 = .ok (.aload_n 0, 1) := by decide +kernel
theorem dX10_showByte_13 : decode cX10_showByte 13 = .ok (.getfield 84, 3) := by decide +kernel
theorem dX10_showByte_16 : decode cX10_showByte 16 = .ok (.aload_n 0, 1) := by decide +kernel
theorem dX10_showByte_17 : decode cX10_showByte 17 = .ok (.getfield 88, 3) := by decide +kernel
theorem dX10_showByte_20 : decode cX10_showByte 20 = .ok (.iload_n 1, 1) := by decide +kernel
theorem dX10_showByte_21 : decode cX10_showByte 21 = .ok (.iastore, 1) := by decide +kernel
theorem dX10_showByte_22 : decode cX10_showByte 22 = .ok (.aload_n 0, 1) := by decide +kernel
theorem dX10_showByte_23 : decode cX10_showByte 23 = .ok (.dup, 1) := by decide +kernel
theorem dX10_showByte_24 : decode cX10_showByte 24 = .ok (.getfield 88, 3) := by decide +kernel
theorem dX10_showByte_27 : decode cX10_showByte 27 = .ok (.iconst 1, 1) := by decide +kernel
theorem dX10_showByte_28 : decode cX10_showByte 28 = .ok (.iadd, 1) := by decide +kernel
theorem dX10_showByte_29 : decode cX10_showByte 29 = .ok (.putfield 88, 3) := by decide +kernel
theorem dX10_showByte_32 : decode cX10_showByte 32 = .ok (.return_, 1) := by decide +kernel
theorem dX11_isIn_0 : decode cX11_isIn 0 = .ok (.lload_n 0, 1) := by decide +kernel
theorem dX11_isIn_1 : decode cX11_isIn 1 = .ok (.lload_n 2, 1) := by decide +kernel
theorem dX11_isIn_2 : decode cX11_isIn 2 = .ok (.lcmp, 1) := by decide +kernel
theorem dX11_isIn_3 : decode cX11_isIn 3 = .ok (.ifCond .lt 14, 3) := by decide +kernel
theorem dX11_isIn_6 : decode cX11_isIn 6 = .ok (.lload_n 0, 1) := by decide +kernel
theorem dX11_isIn_7 : decode cX11_isIn 7 = .ok (.lload 4, 2) := by decide +kernel
theorem dX11_isIn_9 : decode cX11_isIn 9 = .ok (.lcmp, 1) := by decide +kernel
theorem dX11_isIn_10 : decode cX11_isIn 10 = .ok (.ifCond .gt 7, 3) := by decide +kernel
theorem dX11_isIn_13 : decode cX11_isIn 13 = .ok (.iconst 1, 1) := by decide +kernel
theorem dX11_isIn_14 : decode cX11_isIn 14 = .ok (.goto 4, 3) := by decide +kernel
theorem dX11_isIn_17 : decode cX11_isIn 17 = .ok (.iconst 0, 1) := by decide +kernel
theorem dX11_isIn_18 : decode cX11_isIn 18 = .ok (.ireturn, 1) := by decide +kernel
theorem dX11_one_0 : decode cX11_one 0 = .ok (.iload_n 0, 1) := by decide +kernel
theorem dX11_one_1 : decode cX11_one 1 = .ok (.ifCond .eq 7, 3) := by decide +kernel
theorem dX11_one_4 : decode cX11_one 4 = .ok (.iconst 1, 1) := by decide +kernel
theorem dX11_one_5 : decode cX11_one 5 = .ok (.goto 4, 3) := by decide +kernel
theorem dX11_one_8 : decode cX11_one 8 = .ok (.iconst 0, 1) := by decide +kernel
theorem dX11_one_9 : decode cX11_one 9 = .ok (.ireturn, 1) := by decide +kernel
theorem dX11_has_0 : decode cX11_has 0 = .ok (.iload_n 0, 1) := by decide +kernel
theorem dX11_has_1 : decode cX11_has 1 = .ok (.iload_n 1, 1) := by decide +kernel
theorem dX11_has_2 : decode cX11_has 2 = .ok (.ishr, 1) := by decide +kernel
theorem dX11_has_3 : decode cX11_has 3 = .ok (.iconst 1, 1) := by decide +kernel
theorem dX11_has_4 : decode cX11_has 4 = .ok (.iand, 1) := by decide +kernel
theorem dX11_has_5 : decode cX11_has 5 = .ok (.iconst 1, 1) := by decide +kernel
theorem dX11_has_6 : decode cX11_has 6 = .ok (.if_icmp .ne 7, 3) := by decide +kernel
theorem dX11_has_9 : decode cX11_has 9 = .ok (.iconst 1, 1) := by decide +kernel
theorem dX11_has_10 : decode cX11_has 10 = .ok (.goto 4, 3) := by decide +kernel
theorem dX11_has_13 : decode cX11_has 13 = .ok (.iconst 0, 1) := by decide +kernel
theorem dX11_has_14 : decode cX11_has 14 = .ok (.ireturn, 1) := by decide +kernel
theorem dX11_gcd_0 : decode cX11_gcd 0 = .ok (.lload_n 0, 1) := by decide +kernel
theorem dX11_gcd_1 : decode cX11_gcd 1 = .ok (.lconst 0, 1) := by decide +kernel
theorem dX11_gcd_2 : decode cX11_gcd 2 = .ok (.lcmp, 1) := by decide +kernel
theorem dX11_gcd_3 : decode cX11_gcd 3 = .ok (.ifCond .ge 8, 3) := by decide +kernel
theorem dX11_gcd_6 : decode cX11_gcd 6 = .ok (.lload_n 0, 1) := by decide +kernel
theorem dX11_gcd_7 : decode cX11_gcd 7 = .ok (.lneg, 1) := by decide +kernel
theorem dX11_gcd_8 : decode cX11_gcd 8 = .ok (.goto 4, 3) := by decide +kernel
theorem dX11_gcd_11 : decode cX11_gcd 11 = .ok (.lload_n 0, 1) := by decide +kernel
theorem dX11_gcd_12 : decode cX11_gcd 12 = .ok (.lstore 4, 2) := by decide +kernel
theorem dX11_gcd_14 : decode cX11_gcd 14 = .ok (.lload_n 2, 1) := by decide +kernel
theorem dX11_gcd_15 : decode cX11_gcd 15 = .ok (.lconst 0, 1) := by decide +kernel
theorem dX11_gcd_16 : decode cX11_gcd 16 = .ok (.lcmp, 1) := by decide +kernel
theorem dX11_gcd_17 : decode cX11_gcd 17 = .ok (.ifCond .ge 8, 3) := by decide +kernel
theorem dX11_gcd_20 : decode cX11_gcd 20 = .ok (.lload_n 2, 1) := by decide +kernel
theorem dX11_gcd_21 : decode cX11_gcd 21 = .ok (.lneg, 1) := by decide +kernel
theorem dX11_gcd_22 : decode cX11_gcd 22 = .ok (.goto 4, 3) := by decide +kernel
theorem dX11_gcd_25 : decode cX11_gcd 25 = .ok (.lload_n 2, 1) := by decide +kernel
theorem dX11_gcd_26 : decode cX11_gcd 26 = .ok (.lstore 6, 2) := by decide +kernel
theorem dX11_gcd_28 : decode cX11_gcd 28 = .ok (.lload 6, 2) := by decide +kernel
theorem dX11_gcd_30 : decode cX11_gcd 30 = .ok (.lconst 0, 1) := by decide +kernel
theorem dX11_gcd_31 : decode cX11_gcd 31 = .ok (.lcmp, 1) := by decide +kernel
theorem dX11_gcd_32 : decode cX11_gcd 32 = .ok (.ifCond .eq 21, 3) := by decide +kernel
theorem dX11_gcd_35 : decode cX11_gcd 35 = .ok (.lload 4, 2) := by decide +kernel
theorem dX11_gcd_37 : decode cX11_gcd 37 = .ok (.lload 6, 2) := by decide +kernel
theorem dX11_gcd_39 : decode cX11_gcd 39 = .ok (.lrem, 1) := by decide +kernel
theorem dX11_gcd_40 : decode cX11_gcd 40 = .ok (.lstore 8, 2) := by decide +kernel
theorem dX11_gcd_42 : decode cX11_gcd 42 = .ok (.lload 6, 2) := by decide +kernel
theorem dX11_gcd_44 : decode cX11_gcd 44 = .ok (.lstore 4, 2) := by decide +kernel
theorem dX11_gcd_46 : decode cX11_gcd 46 = .ok (.lload 8, 2) := by decide +kernel
theorem dX11_gcd_48 : decode cX11_gcd 48 = .ok (.lstore 6, 2) := by decide +kernel
theorem dX11_gcd_50 : decode cX11_gcd 50 = .ok (.goto (-22), 3) := by decide +kernel
theorem dX11_gcd_53 : decode cX11_gcd 53 = .ok (.lload 4, 2) := by decide +kernel
theorem dX11_gcd_55 : decode cX11_gcd 55 = .ok (.lreturn, 1) := by decide +kernel
theorem dX11_init_0 : decode cX11_init 0 = .ok (.aload_n 0, 1) := by decide +kernel
theorem dX11_init_1 : decode cX11_init 1 = .ok (.invokespecial 1, 3) := by decide +kernel
theorem dX11_init_4 : decode cX11_init 4 = .ok (.aload_n 0, 1) := by decide +kernel
theorem dX11_init_5 : decode cX11_init 5 = .ok (.bipush 6, 2) := by decide +kernel
theorem dX11_init_7 : decode cX11_init 7 = .ok (.newarray .int, 2) := by decide +kernel
theorem dX11_init_9 : decode cX11_init 9 = .ok (.putfield 7, 3) := by decide +kernel
theorem dX11_init_12 : decode cX11_init 12 = .ok (.aload_n 0, 1) := by decide +kernel
theorem dX11_init_13 : decode cX11_init 13 = .ok (.bipush 6, 2) := by decide +kernel
theorem dX11_init_15 : decode cX11_init 15 = .ok (.newarray .int, 2) := by decide +kernel
theorem dX11_init_17 : decode cX11_init 17 = .ok (.putfield 13, 3) := by decide +kernel
theorem dX11_init_20 : decode cX11_init 20 = .ok (.aload_n 0, 1) := by decide +kernel
theorem dX11_init_21 : decode cX11_init 21 = .ok (.iconst 1, 1) := by decide +kernel
theorem dX11_init_22 : decode cX11_init 22 = .ok (.putfield 16, 3) := by decide +kernel
theorem dX11_init_25 : decode cX11_init 25 = .ok (.aload_n 0, 1) := by decide +kernel
theorem dX11_init_26 : decode cX11_init 26 = .ok (.bipush 25, 2) := by decide +kernel
theorem dX11_init_28 : decode cX11_init 28 = .ok (.newarray .int, 2) := by decide +kernel
theorem dX11_init_30 : decode cX11_init 30 = .ok (.putfield 20, 3) := by decide +kernel
theorem dX11_init_33 : decode cX11_init 33 = .ok (.aload_n 0, 1) := by decide +kernel
theorem dX11_init_34 : decode cX11_init 34 = .ok (.bipush 25, 2) := by decide +kernel
theorem dX11_init_36 : decode cX11_init 36 = .ok (.newarray .int, 2) := by decide +kernel
theorem dX11_init_38 : decode cX11_init 38 = .ok (.putfield 23, 3) := by decide +kernel
theorem dX11_init_41 : decode cX11_init 41 = .ok (.aload_n 0, 1) := by decide +kernel
theorem dX11_init_42 : decode cX11_init 42 = .ok (.bipush 25, 2) := by decide +kernel
theorem dX11_init_44 : decode cX11_init 44 = .ok (.newarray .int, 2) := by decide +kernel
theorem dX11_init_46 : decode cX11_init 46 = .ok (.putfield 26, 3) := by decide +kernel
theorem dX11_init_49 : decode cX11_init 49 = .ok (.aload_n 0, 1) := by decide +kernel
theorem dX11_init_50 : decode cX11_init 50 = .ok (.sipush 240, 3) := by decide +kernel
theorem dX11_init_53 : decode cX11_init 53 = .ok (.newarray .int, 2) := by decide +kernel
theorem dX11_init_55 : decode cX11_init 55 = .ok (.putfield 29, 3) := by decide +kernel
theorem dX11_init_58 : decode cX11_init 58 = .ok (.aload_n 0, 1) := by decide +kernel
theorem dX11_init_59 : decode cX11_init 59 = .ok (.sipush 240, 3) := by decide +kernel
theorem dX11_init_62 : decode cX11_init 62 = .ok (.newarray .int, 2) := by decide +kernel
theorem dX11_init_64 : decode cX11_init 64 = .ok (.putfield 32, 3) := by decide +kernel
theorem dX11_init_67 : decode cX11_init 67 = .ok (.aload_n 0, 1) := by decide +kernel
theorem dX11_init_68 : decode cX11_init 68 = .ok (.sipush 240, 3) := by decide +kernel
theorem dX11_init_71 : decode cX11_init 71 = .ok (.newarray .int, 2) := by decide +kernel
theorem dX11_init_73 : decode cX11_init 73 = .ok (.putfield 35, 3) := by decide +kernel
theorem dX11_init_76 : decode cX11_init 76 = .ok (.aload_n 0, 1) := by decide +kernel
theorem dX11_init_77 : decode cX11_init 77 = .ok (.bipush 10, 2) := by decide +kernel
theorem dX11_init_79 : decode cX11_init 79 = .ok (.newarray .int, 2) := by decide +kernel
theorem dX11_init_81 : decode cX11_init 81 = .ok (.putfield 38, 3) := by decide +kernel
theorem dX11_init_84 : decode cX11_init 84 = .ok (.aload_n 0, 1) := by decide +kernel
theorem dX11_init_85 : decode cX11_init 85 = .ok (.bipush 10, 2) := by decide +kernel
theorem dX11_init_87 : decode cX11_init 87 = .ok (.newarray .boolean, 2) := by decide +kernel
theorem dX11_init_89 : decode cX11_init 89 = .ok (.putfield 41, 3) := by decide +kernel
theorem dX11_init_92 : decode cX11_init 92 = .ok (.aload_n 0, 1) := by decide +kernel
theorem dX11_init_93 : decode cX11_init 93 = .ok (.sipush 200, 3) := by decide +kernel
theorem dX11_init_96 : decode cX11_init 96 = .ok (.newarray .int, 2) := by decide +kernel
theorem dX11_init_98 : decode cX11_init 98 = .ok (.putfield 45, 3) := by decide +kernel
theorem dX11_init_101 : decode cX11_init 101 = .ok (.aload_n 0, 1) := by decide +kernel
theorem dX11_init_102 : decode cX11_init 102 = .ok (.iconst (-1), 1) := by decide +kernel
theorem dX11_init_103 : decode cX11_init 103 = .ok (.putfield 48, 3) := by decide +kernel
theorem dX11_init_106 : decode cX11_init 106 = .ok (.aload_n 0, 1) := by decide +kernel
theorem dX11_init_107 : decode cX11_init 107 = .ok (.bipush 24, 2) := by decide +kernel
theorem dX11_init_109 : decode cX11_init 109 = .ok (.newarray .int, 2) := by decide +kernel
theorem dX11_init_111 : decode cX11_init 111 = .ok (.putfield 51, 3) := by decide +kernel
theorem dX11_init_114 : decode cX11_init 114 = .ok (.aload_n 0, 1) := by decide +kernel
theorem dX11_init_115 : decode cX11_init 115 = .ok (.bipush 24, 2) := by decide +kernel
theorem dX11_init_117 : decode cX11_init 117 = .ok (.newarray .int, 2) := by decide +kernel
theorem dX11_init_119 : decode cX11_init 119 = .ok (.putfield 54, 3) := by decide +kernel
theorem dX11_init_122 : decode cX11_init 122 = .ok (.aload_n 0, 1) := by decide +kernel
theorem dX11_init_123 : decode cX11_init 123 = .ok (.bipush 24, 2) := by decide +kernel
theorem dX11_init_125 : decode cX11_init 125 = .ok (.newarray .int, 2) := by decide +kernel
theorem dX11_init_127 : decode cX11_init 127 = .ok (.putfield 57, 3) := by decide +kernel
theorem dX11_init_130 : decode cX11_init 130 = .ok (.aload_n 0, 1) := by decide +kernel
theorem dX11_init_131 : decode cX11_init 131 = .ok (.iconst 4, 1) := by decide +kernel
theorem dX11_init_132 : decode cX11_init 132 = .ok (.newarray .int, 2) := by decide +kernel
theorem dX11_init_134 : decode cX11_init 134 = .ok (.putfield 60, 3) := by decide +kernel
theorem dX11_init_137 : decode cX11_init 137 = .ok (.aload_n 0, 1) := by decide +kernel
theorem dX11_init_138 : decode cX11_init 138 = .ok (.iconst 4, 1) := by decide +kernel
theorem dX11_init_139 : decode cX11_init 139 = .ok (.newarray .int, 2) := by decide +kernel
theorem dX11_init_141 : decode cX11_init 141 = .ok (.putfield 63, 3) := by decide +kernel
theorem dX11_init_144 : decode cX11_init 144 = .ok (.aload_n 0, 1) := by decide +kernel
theorem dX11_init_145 : decode cX11_init 145 = .ok (.bipush 64, 2) := by decide +kernel
theorem dX11_init_147 : decode cX11_init 147 = .ok (.newarray .long, 2) := by decide +kernel
theorem dX11_init_149 : decode cX11_init 149 = .ok (.putfield 66, 3) := by decide +kernel
theorem dX11_init_152 : decode cX11_init 152 = .ok (.aload_n 0, 1) := by decide +kernel
theorem dX11_init_153 : decode cX11_init 153 = .ok (.iconst 3, 1) := by decide +kernel
theorem dX11_init_154 : decode cX11_init 154 = .ok (.newarray .int, 2) := by decide +kernel
theorem dX11_init_156 : decode cX11_init 156 = .ok (.putfield 70, 3) := by decide +kernel
theorem dX11_init_159 : decode cX11_init 159 = .ok (.aload_n 0, 1) := by decide +kernel
theorem dX11_init_160 : decode cX11_init 160 = .ok (.iconst 3, 1) := by decide +kernel
theorem dX11_init_161 : decode cX11_init 161 = .ok (.newarray .int, 2) := by decide +kernel
theorem dX11_init_163 : decode cX11_init 163 = .ok (.putfield 73, 3) := by decide +kernel
theorem dX11_init_166 : decode cX11_init 166 = .ok (.aload_n 0, 1) := by decide +kernel
theorem dX11_init_167 : decode cX11_init 167 = .ok (.iconst 3, 1) := by decide +kernel
theorem dX11_init_168 : decode cX11_init 168 = .ok (.newarray .int, 2) := by decide +kernel
theorem dX11_init_170 : decode cX11_init 170 = .ok (.putfield 76, 3) := by decide +kernel
theorem dX11_init_173 : decode cX11_init 173 = .ok (.aload_n 0, 1) := by decide +kernel
theorem dX11_init_174 : decode cX11_init 174 = .ok (.iconst 3, 1) := by decide +kernel
theorem dX11_init_175 : decode cX11_init 175 = .ok (.newarray .int, 2) := by decide +kernel
theorem dX11_init_177 : decode cX11_init 177 = .ok (.putfield 79, 3) := by decide +kernel
theorem dX11_init_180 : decode cX11_init 180 = .ok (.aload_n 0, 1) := by decide +kernel
theorem dX11_init_181 : decode cX11_init 181 = .ok (.sipush 200, 3) := by decide +kernel
theorem dX11_init_184 : decode cX11_init 184 = .ok (.newarray .int, 2) := by decide +kernel
theorem dX11_init_186 : decode cX11_init 186 = .ok (.putfield 82, 3) := by decide +kernel
theorem dX11_init_189 : decode cX11_init 189 = .ok (.aload_n 0, 1) := by decide +kernel
theorem dX11_init_190 : decode cX11_init 190 = .ok (.bipush 8, 2) := by decide +kernel
theorem dX11_init_192 : decode cX11_init 192 = .ok (.newarray .long, 2) := by decide +kernel
theorem dX11_init_194 : decode cX11_init 194 = .ok (.putfield 85, 3) := by decide +kernel
theorem dX11_init_197 : decode cX11_init 197 = .ok (.aload_n 0, 1) := by decide +kernel
theorem dX11_init_198 : decode cX11_init 198 = .ok (.iconst 0, 1) := by decide +kernel
theorem dX11_init_199 : decode cX11_init 199 = .ok (.iconst 1, 1) := by decide +kernel
theorem dX11_init_200 : decode cX11_init 200 = .ok (.iconst 1, 1) := by decide +kernel
theorem dX11_init_201 : decode cX11_init 201 = .ok (.invokevirtual 88, 3) := by decide +kernel
theorem dX11_init_204 : decode cX11_init 204 = .ok (.aload_n 0, 1) := by decide +kernel
theorem dX11_init_205 : decode cX11_init 205 = .ok (.iconst 1, 1) := by decide +kernel
theorem dX11_init_206 : decode cX11_init 206 = .ok (.iconst 3, 1) := by decide +kernel
theorem dX11_init_207 : decode cX11_init 207 = .ok (.iconst 2, 1) := by decide +kernel
theorem dX11_init_208 : decode cX11_init 208 = .ok (.invokevirtual 88, 3) := by decide +kernel
theorem dX11_init_211 : decode cX11_init 211 = .ok (.aload_n 0, 1) := by decide +kernel
theorem dX11_init_212 : decode cX11_init 212 = .ok (.iconst 2, 1) := by decide +kernel
theorem dX11_init_213 : decode cX11_init 213 = .ok (.iconst 2, 1) := by decide +kernel
theorem dX11_init_214 : decode cX11_init 214 = .ok (.iconst 1, 1) := by decide +kernel
theorem dX11_init_215 : decode cX11_init 215 = .ok (.invokevirtual 88, 3) := by decide +kernel
theorem dX11_init_218 : decode cX11_init 218 = .ok (.aload_n 0, 1) := by decide +kernel
theorem dX11_init_219 : decode cX11_init 219 = .ok (.iconst 3, 1) := by decide +kernel
theorem dX11_init_220 : decode cX11_init 220 = .ok (.iconst 4, 1) := by decide +kernel
theorem dX11_init_221 : decode cX11_init 221 = .ok (.iconst 3, 1) := by decide +kernel
theorem dX11_init_222 : decode cX11_init 222 = .ok (.invokevirtual 88, 3) := by decide +kernel
theorem dX11_init_225 : decode cX11_init 225 = .ok (.aload_n 0, 1) := by decide +kernel
theorem dX11_init_226 : decode cX11_init 226 = .ok (.iconst 4, 1) := by decide +kernel
theorem dX11_init_227 : decode cX11_init 227 = .ok (.iconst 5, 1) := by decide +kernel
theorem dX11_init_228 : decode cX11_init 228 = .ok (.iconst 2, 1) := by decide +kernel
theorem dX11_init_229 : decode cX11_init 229 = .ok (.invokevirtual 88, 3) := by decide +kernel
theorem dX11_init_232 : decode cX11_init 232 = .ok (.aload_n 0, 1) := by decide +kernel
theorem dX11_init_233 : decode cX11_init 233 = .ok (.iconst 5, 1) := by decide +kernel
theorem dX11_init_234 : decode cX11_init 234 = .ok (.iconst 3, 1) := by decide +kernel
theorem dX11_init_235 : decode cX11_init 235 = .ok (.iconst 1, 1) := by decide +kernel
theorem dX11_init_236 : decode cX11_init 236 = .ok (.invokevirtual 88, 3) := by decide +kernel
theorem dX11_init_239 : decode cX11_init 239 = .ok (.return_, 1) := by decide +kernel
theorem dX11_tells_0 : decode cX11_tells 0 = .ok (.aload_n 0, 1) := by decide +kernel
theorem dX11_tells_1 : decode cX11_tells 1 = .ok (.getfield 7, 3) := by decide +kernel
theorem dX11_tells_4 : decode cX11_tells 4 = .ok (.iload_n 1, 1) := by decide +kernel
theorem dX11_tells_5 : decode cX11_tells 5 = .ok (.iload_n 2, 1) := by decide +kernel
theorem dX11_tells_6 : decode cX11_tells 6 = .ok (.iastore, 1) := by decide +kernel
theorem dX11_tells_7 : decode cX11_tells 7 = .ok (.aload_n 0, 1) := by decide +kernel
theorem dX11_tells_8 : decode cX11_tells 8 = .ok (.getfield 13, 3) := by decide +kernel
theorem dX11_tells_11 : decode cX11_tells 11 = .ok (.iload_n 1, 1) := by decide +kernel
theorem dX11_tells_12 : decode cX11_tells 12 = .ok (.iload_n 3, 1) := by decide +kernel
theorem dX11_tells_13 : decode cX11_tells 13 = .ok (.iastore, 1) := by decide +kernel
theorem dX11_tells_14 : decode cX11_tells 14 = .ok (.return_, 1) := by decide +kernel
theorem dX11_index_0 : decode cX11_index 0 = .ok (.iload_n 1, 1) := by decide +kernel
theorem dX11_index_1 : decode cX11_index 1 = .ok (.i2l, 1) := by decide +kernel
theorem dX11_index_2 : decode cX11_index 2 = .ok (.lconst 0, 1) := by decide +kernel
theorem dX11_index_3 : decode cX11_index 3 = .ok (.ldc2_w 92, 3) := by decide +kernel
theorem dX11_index_6 : decode cX11_index 6 = .ok (.invokestatic 94, 3) := by decide +kernel
theorem dX11_index_9 : decode cX11_index 9 = .ok (.ifCond .eq 27, 3) := by decide +kernel
theorem dX11_index_12 : decode cX11_index 12 = .ok (.iload_n 2, 1) := by decide +kernel
theorem dX11_index_13 : decode cX11_index 13 = .ok (.i2l, 1) := by decide +kernel
theorem dX11_index_14 : decode cX11_index 14 = .ok (.lconst 1, 1) := by decide +kernel
theorem dX11_index_15 : decode cX11_index 15 = .ok (.ldc2_w 98, 3) := by decide +kernel
theorem dX11_index_18 : decode cX11_index 18 = .ok (.invokestatic 94, 3) := by decide +kernel
theorem dX11_index_21 : decode cX11_index 21 = .ok (.ifCond .eq 15, 3) := by decide +kernel
theorem dX11_index_24 : decode cX11_index 24 = .ok (.iload_n 3, 1) := by decide +kernel
theorem dX11_index_25 : decode cX11_index 25 = .ok (.i2l, 1) := by decide +kernel
theorem dX11_index_26 : decode cX11_index 26 = .ok (.lconst 1, 1) := by decide +kernel
theorem dX11_index_27 : decode cX11_index 27 = .ok (.ldc2_w 98, 3) := by decide +kernel
theorem dX11_index_30 : decode cX11_index 30 = .ok (.invokestatic 94, 3) := by decide +kernel
theorem dX11_index_33 : decode cX11_index 33 = .ok (.ifCond .ne 5, 3) := by decide +kernel
theorem dX11_index_36 : decode cX11_index 36 = .ok (.iconst 0, 1) := by decide +kernel
theorem dX11_index_37 : decode cX11_index 37 = .ok (.ireturn, 1) := by decide +kernel
theorem dX11_index_38 : decode cX11_index 38 = .ok (.iload_n 2, 1) := by decide +kernel
theorem dX11_index_39 : decode cX11_index 39 = .ok (.i2l, 1) := by decide +kernel
theorem dX11_index_40 : decode cX11_index 40 = .ok (.iload_n 3, 1) := by decide +kernel
theorem dX11_index_41 : decode cX11_index 41 = .ok (.i2l, 1) := by decide +kernel
theorem dX11_index_42 : decode cX11_index 42 = .ok (.invokestatic 100, 3) := by decide +kernel
theorem dX11_index_45 : decode cX11_index 45 = .ok (.l2i, 1) := by decide +kernel
theorem dX11_index_46 : decode cX11_index 46 = .ok (.istore 4, 2) := by decide +kernel
theorem dX11_index_48 : decode cX11_index 48 = .ok (.aload_n 0, 1) := by decide +kernel
theorem dX11_index_49 : decode cX11_index 49 = .ok (.getfield 7, 3) := by decide +kernel
theorem dX11_index_52 : decode cX11_index 52 = .ok (.iload_n 1, 1) := by decide +kernel
theorem dX11_index_53 : decode cX11_index 53 = .ok (.iaload, 1) := by decide +kernel
theorem dX11_index_54 : decode cX11_index 54 = .ok (.iload_n 2, 1) := by decide +kernel
theorem dX11_index_55 : decode cX11_index 55 = .ok (.iload 4, 2) := by decide +kernel
theorem dX11_index_57 : decode cX11_index 57 = .ok (.idiv, 1) := by decide +kernel
theorem dX11_index_58 : decode cX11_index 58 = .ok (.if_icmp .ne 18, 3) := by decide +kernel
theorem dX11_index_61 : decode cX11_index 61 = .ok (.aload_n 0, 1) := by decide +kernel
theorem dX11_index_62 : decode cX11_index 62 = .ok (.getfield 13, 3) := by decide +kernel
theorem dX11_index_65 : decode cX11_index 65 = .ok (.iload_n 1, 1) := by decide +kernel
theorem dX11_index_66 : decode cX11_index 66 = .ok (.iaload, 1) := by decide +kernel
theorem dX11_index_67 : decode cX11_index 67 = .ok (.iload_n 3, 1) := by decide +kernel
theorem dX11_index_68 : decode cX11_index 68 = .ok (.iload 4, 2) := by decide +kernel
theorem dX11_index_70 : decode cX11_index 70 = .ok (.idiv, 1) := by decide +kernel
theorem dX11_index_71 : decode cX11_index 71 = .ok (.if_icmp .ne 5, 3) := by decide +kernel
theorem dX11_index_74 : decode cX11_index 74 = .ok (.iconst 0, 1) := by decide +kernel
theorem dX11_index_75 : decode cX11_index 75 = .ok (.ireturn, 1) := by decide +kernel
theorem dX11_index_76 : decode cX11_index 76 = .ok (.aload_n 0, 1) := by decide +kernel
theorem dX11_index_77 : decode cX11_index 77 = .ok (.iload_n 1, 1) := by decide +kernel
theorem dX11_index_78 : decode cX11_index 78 = .ok (.iload_n 2, 1) := by decide +kernel
theorem dX11_index_79 : decode cX11_index 79 = .ok (.iload 4, 2) := by decide +kernel
theorem dX11_index_81 : decode cX11_index 81 = .ok (.idiv, 1) := by decide +kernel
theorem dX11_index_82 : decode cX11_index 82 = .ok (.iload_n 3, 1) := by decide +kernel
theorem dX11_index_83 : decode cX11_index 83 = .ok (.iload 4, 2) := by decide +kernel
theorem dX11_index_85 : decode cX11_index 85 = .ok (.idiv, 1) := by decide +kernel
theorem dX11_index_86 : decode cX11_index 86 = .ok (.invokevirtual 88, 3) := by decide +kernel
theorem dX11_index_89 : decode cX11_index 89 = .ok (.iconst 1, 1) := by decide +kernel
theorem dX11_index_90 : decode cX11_index 90 = .ok (.ireturn, 1) := by decide +kernel
theorem dX11_between_0 : decode cX11_between 0 = .ok (.iload_n 1, 1) := by decide +kernel
theorem dX11_between_1 : decode cX11_between 1 = .ok (.i2l, 1) := by decide +kernel
