theorem dX11_between_2 : decode cX11_between 2 = .ok (.lconst 0, 1) := by decide +kernel
theorem dX11_between_3 : decode cX11_between 3 = .ok (.ldc2_w 92, 3) := by decide +kernel
theorem dX11_between_6 : decode cX11_between 6 = .ok (.invokestatic 94, 3) := by decide +kernel
theorem dX11_between_9 : decode cX11_between 9 = .ok (.ifCond .eq 31, 3) := by decide +kernel
theorem dX11_between_12 : decode cX11_between 12 = .ok (.iload_n 2, 1) := by decide +kernel
theorem dX11_between_13 : decode cX11_between 13 = .ok (.i2l, 1) := by decide +kernel
theorem dX11_between_14 : decode cX11_between 14 = .ok (.lconst 0, 1) := by decide +kernel
theorem dX11_between_15 : decode cX11_between 15 = .ok (.ldc2_w 92, 3) := by decide +kernel
theorem dX11_between_18 : decode cX11_between 18 = .ok (.invokestatic 94, 3) := by decide +kernel
theorem dX11_between_21 : decode cX11_between 21 = .ok (.ifCond .eq 19, 3) := by decide +kernel
theorem dX11_between_24 : decode cX11_between 24 = .ok (.iload_n 1, 1) := by decide +kernel
theorem dX11_between_25 : decode cX11_between 25 = .ok (.aload_n 0, 1) := by decide +kernel
theorem dX11_between_26 : decode cX11_between 26 = .ok (.getfield 104, 3) := by decide +kernel
theorem dX11_between_29 : decode cX11_between 29 = .ok (.if_icmp .ne 13, 3) := by decide +kernel
theorem dX11_between_32 : decode cX11_between 32 = .ok (.iload_n 2, 1) := by decide +kernel
theorem dX11_between_33 : decode cX11_between 33 = .ok (.aload_n 0, 1) := by decide +kernel
theorem dX11_between_34 : decode cX11_between 34 = .ok (.getfield 16, 3) := by decide +kernel
theorem dX11_between_37 : decode cX11_between 37 = .ok (.if_icmp .ne 5, 3) := by decide +kernel
theorem dX11_between_40 : decode cX11_between 40 = .ok (.iconst 0, 1) := by decide +kernel
theorem dX11_between_41 : decode cX11_between 41 = .ok (.ireturn, 1) := by decide +kernel
theorem dX11_between_42 : decode cX11_between 42 = .ok (.aload_n 0, 1) := by decide +kernel
theorem dX11_between_43 : decode cX11_between 43 = .ok (.iload_n 1, 1) := by decide +kernel
theorem dX11_between_44 : decode cX11_between 44 = .ok (.putfield 104, 3) := by decide +kernel
theorem dX11_between_47 : decode cX11_between 47 = .ok (.aload_n 0, 1) := by decide +kernel
theorem dX11_between_48 : decode cX11_between 48 = .ok (.iload_n 2, 1) := by decide +kernel
theorem dX11_between_49 : decode cX11_between 49 = .ok (.putfield 16, 3) := by decide +kernel
theorem dX11_between_52 : decode cX11_between 52 = .ok (.iconst 1, 1) := by decide +kernel
theorem dX11_between_53 : decode cX11_between 53 = .ok (.ireturn, 1) := by decide +kernel
theorem dX11_material_0 : decode cX11_material 0 = .ok (.iload_n 1, 1) := by decide +kernel
theorem dX11_material_1 : decode cX11_material 1 = .ok (.i2l, 1) := by decide +kernel
theorem dX11_material_2 : decode cX11_material 2 = .ok (.lconst 0, 1) := by decide +kernel
theorem dX11_material_3 : decode cX11_material 3 = .ok (.ldc2_w 92, 3) := by decide +kernel
theorem dX11_material_6 : decode cX11_material 6 = .ok (.invokestatic 94, 3) := by decide +kernel
theorem dX11_material_9 : decode cX11_material 9 = .ok (.ifCond .ne 5, 3) := by decide +kernel
theorem dX11_material_12 : decode cX11_material 12 = .ok (.iconst (-1), 1) := by decide +kernel
theorem dX11_material_13 : decode cX11_material 13 = .ok (.ireturn, 1) := by decide +kernel
theorem dX11_material_14 : decode cX11_material 14 = .ok (.iconst 0, 1) := by decide +kernel
theorem dX11_material_15 : decode cX11_material 15 = .ok (.istore_n 3, 1) := by decide +kernel
theorem dX11_material_16 : decode cX11_material 16 = .ok (.iconst 0, 1) := by decide +kernel
theorem dX11_material_17 : decode cX11_material 17 = .ok (.istore 4, 2) := by decide +kernel
theorem dX11_material_19 : decode cX11_material 19 = .ok (.iload 4, 2) := by decide +kernel
theorem dX11_material_21 : decode cX11_material 21 = .ok (.aload_n 0, 1) := by decide +kernel
theorem dX11_material_22 : decode cX11_material 22 = .ok (.getfield 107, 3) := by decide +kernel
theorem dX11_material_25 : decode cX11_material 25 = .ok (.if_icmp .ge 31, 3) := by decide +kernel
theorem dX11_material_28 : decode cX11_material 28 = .ok (.iload_n 3, 1) := by decide +kernel
theorem dX11_material_29 : decode cX11_material 29 = .ok (.aload_n 0, 1) := by decide +kernel
theorem dX11_material_30 : decode cX11_material 30 = .ok (.getfield 20, 3) := by decide +kernel
theorem dX11_material_33 : decode cX11_material 33 = .ok (.iload 4, 2) := by decide +kernel
theorem dX11_material_35 : decode cX11_material 35 = .ok (.iaload, 1) := by decide +kernel
theorem dX11_material_36 : decode cX11_material 36 = .ok (.iload_n 1, 1) := by decide +kernel
theorem dX11_material_37 : decode cX11_material 37 = .ok (.if_icmp .ne 7, 3) := by decide +kernel
theorem dX11_material_40 : decode cX11_material 40 = .ok (.iconst 1, 1) := by decide +kernel
theorem dX11_material_41 : decode cX11_material 41 = .ok (.goto 4, 3) := by decide +kernel
theorem dX11_material_44 : decode cX11_material 44 = .ok (.iconst 0, 1) := by decide +kernel
theorem dX11_material_45 : decode cX11_material 45 = .ok (.invokestatic 110, 3) := by decide +kernel
theorem dX11_material_48 : decode cX11_material 48 = .ok (.iadd, 1) := by decide +kernel
theorem dX11_material_49 : decode cX11_material 49 = .ok (.istore_n 3, 1) := by decide +kernel
theorem dX11_material_50 : decode cX11_material 50 = .ok (.iinc 4 1, 3) := by decide +kernel
theorem dX11_material_53 : decode cX11_material 53 = .ok (.goto (-34), 3) := by decide +kernel
theorem dX11_material_56 : decode cX11_material 56 = .ok (.iload_n 2, 1) := by decide +kernel
theorem dX11_material_57 : decode cX11_material 57 = .ok (.tableswitch 85 0 4 #[35, 42, 49, 66, 83], 35) := by decide +kernel
theorem dX11_material_92 : decode cX11_material 92 = .ok (.aload_n 0, 1) := by decide +kernel
theorem dX11_material_93 : decode cX11_material 93 = .ok (.getfield 7, 3) := by decide +kernel
theorem dX11_material_96 : decode cX11_material 96 = .ok (.iload_n 1, 1) := by decide +kernel
theorem dX11_material_97 : decode cX11_material 97 = .ok (.iaload, 1) := by decide +kernel
theorem dX11_material_98 : decode cX11_material 98 = .ok (.ireturn, 1) := by decide +kernel
theorem dX11_material_99 : decode cX11_material 99 = .ok (.aload_n 0, 1) := by decide +kernel
theorem dX11_material_100 : decode cX11_material 100 = .ok (.getfield 13, 3) := by decide +kernel
theorem dX11_material_103 : decode cX11_material 103 = .ok (.iload_n 1, 1) := by decide +kernel
theorem dX11_material_104 : decode cX11_material 104 = .ok (.iaload, 1) := by decide +kernel
theorem dX11_material_105 : decode cX11_material 105 = .ok (.ireturn, 1) := by decide +kernel
theorem dX11_material_106 : decode cX11_material 106 = .ok (.aload_n 0, 1) := by decide +kernel
theorem dX11_material_107 : decode cX11_material 107 = .ok (.getfield 104, 3) := by decide +kernel
theorem dX11_material_110 : decode cX11_material 110 = .ok (.iload_n 1, 1) := by decide +kernel
theorem dX11_material_111 : decode cX11_material 111 = .ok (.if_icmp .ne 7, 3) := by decide +kernel
theorem dX11_material_114 : decode cX11_material 114 = .ok (.iconst 1, 1) := by decide +kernel
theorem dX11_material_115 : decode cX11_material 115 = .ok (.goto 4, 3) := by decide +kernel
theorem dX11_material_118 : decode cX11_material 118 = .ok (.iconst 0, 1) := by decide +kernel
theorem dX11_material_119 : decode cX11_material 119 = .ok (.invokestatic 110, 3) := by decide +kernel
theorem dX11_material_122 : decode cX11_material 122 = .ok (.ireturn, 1) := by decide +kernel
theorem dX11_material_123 : decode cX11_material 123 = .ok (.aload_n 0, 1) := by decide +kernel
theorem dX11_material_124 : decode cX11_material 124 = .ok (.getfield 16, 3) := by decide +kernel
theorem dX11_material_127 : decode cX11_material 127 = .ok (.iload_n 1, 1) := by decide +kernel
theorem dX11_material_128 : decode cX11_material 128 = .ok (.if_icmp .ne 7, 3) := by decide +kernel
theorem dX11_material_131 : decode cX11_material 131 = .ok (.iconst 1, 1) := by decide +kernel
theorem dX11_material_132 : decode cX11_material 132 = .ok (.goto 4, 3) := by decide +kernel
theorem dX11_material_135 : decode cX11_material 135 = .ok (.iconst 0, 1) := by decide +kernel
theorem dX11_material_136 : decode cX11_material 136 = .ok (.invokestatic 110, 3) := by decide +kernel
theorem dX11_material_139 : decode cX11_material 139 = .ok (.ireturn, 1) := by decide +kernel
theorem dX11_material_140 : decode cX11_material 140 = .ok (.iload_n 3, 1) := by decide +kernel
theorem dX11_material_141 : decode cX11_material 141 = .ok (.ireturn, 1) := by decide +kernel
theorem dX11_material_142 : decode cX11_material 142 = .ok (.iconst (-1), 1) := by decide +kernel
theorem dX11_material_143 : decode cX11_material 143 = .ok (.ireturn, 1) := by decide +kernel
theorem dX11_keeps_0 : decode cX11_keeps 0 = .ok (.aload_n 0, 1) := by decide +kernel
theorem dX11_keeps_1 : decode cX11_keeps 1 = .ok (.getfield 114, 3) := by decide +kernel
theorem dX11_keeps_4 : decode cX11_keeps 4 = .ok (.bipush 10, 2) := by decide +kernel
theorem dX11_keeps_6 : decode cX11_keeps 6 = .ok (.if_icmp .ne 115, 3) := by decide +kernel
theorem dX11_keeps_9 : decode cX11_keeps 9 = .ok (.iconst 0, 1) := by decide +kernel
theorem dX11_keeps_10 : decode cX11_keeps 10 = .ok (.istore_n 2, 1) := by decide +kernel
theorem dX11_keeps_11 : decode cX11_keeps 11 = .ok (.iload_n 2, 1) := by decide +kernel
theorem dX11_keeps_12 : decode cX11_keeps 12 = .ok (.sipush 216, 3) := by decide +kernel
theorem dX11_keeps_15 : decode cX11_keeps 15 = .ok (.if_icmp .ge 54, 3) := by decide +kernel
theorem dX11_keeps_18 : decode cX11_keeps 18 = .ok (.aload_n 0, 1) := by decide +kernel
theorem dX11_keeps_19 : decode cX11_keeps 19 = .ok (.getfield 29, 3) := by decide +kernel
theorem dX11_keeps_22 : decode cX11_keeps 22 = .ok (.iload_n 2, 1) := by decide +kernel
theorem dX11_keeps_23 : decode cX11_keeps 23 = .ok (.aload_n 0, 1) := by decide +kernel
theorem dX11_keeps_24 : decode cX11_keeps 24 = .ok (.getfield 29, 3) := by decide +kernel
theorem dX11_keeps_27 : decode cX11_keeps 27 = .ok (.iload_n 2, 1) := by decide +kernel
theorem dX11_keeps_28 : decode cX11_keeps 28 = .ok (.bipush 24, 2) := by decide +kernel
theorem dX11_keeps_30 : decode cX11_keeps 30 = .ok (.iadd, 1) := by decide +kernel
theorem dX11_keeps_31 : decode cX11_keeps 31 = .ok (.iaload, 1) := by decide +kernel
theorem dX11_keeps_32 : decode cX11_keeps 32 = .ok (.iastore, 1) := by decide +kernel
theorem dX11_keeps_33 : decode cX11_keeps 33 = .ok (.aload_n 0, 1) := by decide +kernel
theorem dX11_keeps_34 : decode cX11_keeps 34 = .ok (.getfield 32, 3) := by decide +kernel
theorem dX11_keeps_37 : decode cX11_keeps 37 = .ok (.iload_n 2, 1) := by decide +kernel
theorem dX11_keeps_38 : decode cX11_keeps 38 = .ok (.aload_n 0, 1) := by decide +kernel
theorem dX11_keeps_39 : decode cX11_keeps 39 = .ok (.getfield 32, 3) := by decide +kernel
theorem dX11_keeps_42 : decode cX11_keeps 42 = .ok (.iload_n 2, 1) := by decide +kernel
theorem dX11_keeps_43 : decode cX11_keeps 43 = .ok (.bipush 24, 2) := by decide +kernel
theorem dX11_keeps_45 : decode cX11_keeps 45 = .ok (.iadd, 1) := by decide +kernel
theorem dX11_keeps_46 : decode cX11_keeps 46 = .ok (.iaload, 1) := by decide +kernel
theorem dX11_keeps_47 : decode cX11_keeps 47 = .ok (.iastore, 1) := by decide +kernel
theorem dX11_keeps_48 : decode cX11_keeps 48 = .ok (.aload_n 0, 1) := by decide +kernel
theorem dX11_keeps_49 : decode cX11_keeps 49 = .ok (.getfield 35, 3) := by decide +kernel
theorem dX11_keeps_52 : decode cX11_keeps 52 = .ok (.iload_n 2, 1) := by decide +kernel
theorem dX11_keeps_53 : decode cX11_keeps 53 = .ok (.aload_n 0, 1) := by decide +kernel
theorem dX11_keeps_54 : decode cX11_keeps 54 = .ok (.getfield 35, 3) := by decide +kernel
theorem dX11_keeps_57 : decode cX11_keeps 57 = .ok (.iload_n 2, 1) := by decide +kernel
theorem dX11_keeps_58 : decode cX11_keeps 58 = .ok (.bipush 24, 2) := by decide +kernel
theorem dX11_keeps_60 : decode cX11_keeps 60 = .ok (.iadd, 1) := by decide +kernel
theorem dX11_keeps_61 : decode cX11_keeps 61 = .ok (.iaload, 1) := by decide +kernel
theorem dX11_keeps_62 : decode cX11_keeps 62 = .ok (.iastore, 1) := by decide +kernel
theorem dX11_keeps_63 : decode cX11_keeps 63 = .ok (.iinc 2 1, 3) := by decide +kernel
theorem dX11_keeps_66 : decode cX11_keeps 66 = .ok (.goto (-55), 3) := by decide +kernel
theorem dX11_keeps_69 : decode cX11_keeps 69 = .ok (.iconst 0, 1) := by decide +kernel
theorem dX11_keeps_70 : decode cX11_keeps 70 = .ok (.istore_n 2, 1) := by decide +kernel
theorem dX11_keeps_71 : decode cX11_keeps 71 = .ok (.iload_n 2, 1) := by decide +kernel
theorem dX11_keeps_72 : decode cX11_keeps 72 = .ok (.bipush 9, 2) := by decide +kernel
theorem dX11_keeps_74 : decode cX11_keeps 74 = .ok (.if_icmp .ge 37, 3) := by decide +kernel
theorem dX11_keeps_77 : decode cX11_keeps 77 = .ok (.aload_n 0, 1) := by decide +kernel
theorem dX11_keeps_78 : decode cX11_keeps 78 = .ok (.getfield 38, 3) := by decide +kernel
theorem dX11_keeps_81 : decode cX11_keeps 81 = .ok (.iload_n 2, 1) := by decide +kernel
theorem dX11_keeps_82 : decode cX11_keeps 82 = .ok (.aload_n 0, 1) := by decide +kernel
theorem dX11_keeps_83 : decode cX11_keeps 83 = .ok (.getfield 38, 3) := by decide +kernel
theorem dX11_keeps_86 : decode cX11_keeps 86 = .ok (.iload_n 2, 1) := by decide +kernel
theorem dX11_keeps_87 : decode cX11_keeps 87 = .ok (.iconst 1, 1) := by decide +kernel
theorem dX11_keeps_88 : decode cX11_keeps 88 = .ok (.iadd, 1) := by decide +kernel
theorem dX11_keeps_89 : decode cX11_keeps 89 = .ok (.iaload, 1) := by decide +kernel
theorem dX11_keeps_90 : decode cX11_keeps 90 = .ok (.iastore, 1) := by decide +kernel
theorem dX11_keeps_91 : decode cX11_keeps 91 = .ok (.aload_n 0, 1) := by decide +kernel
theorem dX11_keeps_92 : decode cX11_keeps 92 = .ok (.getfield 41, 3) := by decide +kernel
theorem dX11_keeps_95 : decode cX11_keeps 95 = .ok (.iload_n 2, 1) := by decide +kernel
theorem dX11_keeps_96 : decode cX11_keeps 96 = .ok (.aload_n 0, 1) := by decide +kernel
theorem dX11_keeps_97 : decode cX11_keeps 97 = .ok (.getfield 41, 3) := by decide +kernel
theorem dX11_keeps_100 : decode cX11_keeps 100 = .ok (.iload_n 2, 1) := by decide +kernel
theorem dX11_keeps_101 : decode cX11_keeps 101 = .ok (.iconst 1, 1) := by decide +kernel
theorem dX11_keeps_102 : decode cX11_keeps 102 = .ok (.iadd, 1) := by decide +kernel
theorem dX11_keeps_103 : decode cX11_keeps 103 = .ok (.baload, 1) := by decide +kernel
theorem dX11_keeps_104 : decode cX11_keeps 104 = .ok (.bastore, 1) := by decide +kernel
theorem dX11_keeps_105 : decode cX11_keeps 105 = .ok (.iinc 2 1, 3) := by decide +kernel
theorem dX11_keeps_108 : decode cX11_keeps 108 = .ok (.goto (-37), 3) := by decide +kernel
theorem dX11_keeps_111 : decode cX11_keeps 111 = .ok (.aload_n 0, 1) := by decide +kernel
theorem dX11_keeps_112 : decode cX11_keeps 112 = .ok (.dup, 1) := by decide +kernel
theorem dX11_keeps_113 : decode cX11_keeps 113 = .ok (.getfield 114, 3) := by decide +kernel
theorem dX11_keeps_116 : decode cX11_keeps 116 = .ok (.iconst 1, 1) := by decide +kernel
theorem dX11_keeps_117 : decode cX11_keeps 117 = .ok (.isub, 1) := by decide +kernel
theorem dX11_keeps_118 : decode cX11_keeps 118 = .ok (.putfield 114, 3) := by decide +kernel
theorem dX11_keeps_121 : decode cX11_keeps 121 = .ok (.iconst 0, 1) := by decide +kernel
theorem dX11_keeps_122 : decode cX11_keeps 122 = .ok (.istore_n 2, 1) := by decide +kernel
theorem dX11_keeps_123 : decode cX11_keeps 123 = .ok (.iload_n 2, 1) := by decide +kernel
theorem dX11_keeps_124 : decode cX11_keeps 124 = .ok (.aload_n 0, 1) := by decide +kernel
theorem dX11_keeps_125 : decode cX11_keeps 125 = .ok (.getfield 107, 3) := by decide +kernel
theorem dX11_keeps_128 : decode cX11_keeps 128 = .ok (.if_icmp .ge 69, 3) := by decide +kernel
theorem dX11_keeps_131 : decode cX11_keeps 131 = .ok (.aload_n 0, 1) := by decide +kernel
theorem dX11_keeps_132 : decode cX11_keeps 132 = .ok (.getfield 29, 3) := by decide +kernel
theorem dX11_keeps_135 : decode cX11_keeps 135 = .ok (.bipush 24, 2) := by decide +kernel
theorem dX11_keeps_137 : decode cX11_keeps 137 = .ok (.aload_n 0, 1) := by decide +kernel
theorem dX11_keeps_138 : decode cX11_keeps 138 = .ok (.getfield 114, 3) := by decide +kernel
theorem dX11_keeps_141 : decode cX11_keeps 141 = .ok (.imul, 1) := by decide +kernel
theorem dX11_keeps_142 : decode cX11_keeps 142 = .ok (.iload_n 2, 1) := by decide +kernel
theorem dX11_keeps_143 : decode cX11_keeps 143 = .ok (.iadd, 1) := by decide +kernel
theorem dX11_keeps_144 : decode cX11_keeps 144 = .ok (.aload_n 0, 1) := by decide +kernel
theorem dX11_keeps_145 : decode cX11_keeps 145 = .ok (.getfield 20, 3) := by decide +kernel
theorem dX11_keeps_148 : decode cX11_keeps 148 = .ok (.iload_n 2, 1) := by decide +kernel
theorem dX11_keeps_149 : decode cX11_keeps 149 = .ok (.iaload, 1) := by decide +kernel
theorem dX11_keeps_150 : decode cX11_keeps 150 = .ok (.iastore, 1) := by decide +kernel
theorem dX11_keeps_151 : decode cX11_keeps 151 = .ok (.aload_n 0, 1) := by decide +kernel
theorem dX11_keeps_152 : decode cX11_keeps 152 = .ok (.getfield 32, 3) := by decide +kernel
theorem dX11_keeps_155 : decode cX11_keeps 155 = .ok (.bipush 24, 2) := by decide +kernel
theorem dX11_keeps_157 : decode cX11_keeps 157 = .ok (.aload_n 0, 1) := by decide +kernel
theorem dX11_keeps_158 : decode cX11_keeps 158 = .ok (.getfield 114, 3) := by decide +kernel
theorem dX11_keeps_161 : decode cX11_keeps 161 = .ok (.imul, 1) := by decide +kernel
theorem dX11_keeps_162 : decode cX11_keeps 162 = .ok (.iload_n 2, 1) := by decide +kernel
theorem dX11_keeps_163 : decode cX11_keeps 163 = .ok (.iadd, 1) := by decide +kernel
theorem dX11_keeps_164 : decode cX11_keeps 164 = .ok (.aload_n 0, 1) := by decide +kernel
theorem dX11_keeps_165 : decode cX11_keeps 165 = .ok (.getfield 23, 3) := by decide +kernel
theorem dX11_keeps_168 : decode cX11_keeps 168 = .ok (.iload_n 2, 1) := by decide +kernel
theorem dX11_keeps_169 : decode cX11_keeps 169 = .ok (.iaload, 1) := by decide +kernel
theorem dX11_keeps_170 : decode cX11_keeps 170 = .ok (.iastore, 1) := by decide +kernel
theorem dX11_keeps_171 : decode cX11_keeps 171 = .ok (.aload_n 0, 1) := by decide +kernel
theorem dX11_keeps_172 : decode cX11_keeps 172 = .ok (.getfield 35, 3) := by decide +kernel
theorem dX11_keeps_175 : decode cX11_keeps 175 = .ok (.bipush 24, 2) := by decide +kernel
theorem dX11_keeps_177 : decode cX11_keeps 177 = .ok (.aload_n 0, 1) := by decide +kernel
theorem dX11_keeps_178 : decode cX11_keeps 178 = .ok (.getfield 114, 3) := by decide +kernel
theorem dX11_keeps_181 : decode cX11_keeps 181 = .ok (.imul, 1) := by decide +kernel
theorem dX11_keeps_182 : decode cX11_keeps 182 = .ok (.iload_n 2, 1) := by decide +kernel
theorem dX11_keeps_183 : decode cX11_keeps 183 = .ok (.iadd, 1) := by decide +kernel
theorem dX11_keeps_184 : decode cX11_keeps 184 = .ok (.aload_n 0, 1) := by decide +kernel
theorem dX11_keeps_185 : decode cX11_keeps 185 = .ok (.getfield 26, 3) := by decide +kernel
theorem dX11_keeps_188 : decode cX11_keeps 188 = .ok (.iload_n 2, 1) := by decide +kernel
theorem dX11_keeps_189 : decode cX11_keeps 189 = .ok (.iaload, 1) := by decide +kernel
theorem dX11_keeps_190 : decode cX11_keeps 190 = .ok (.iastore, 1) := by decide +kernel
theorem dX11_keeps_191 : decode cX11_keeps 191 = .ok (.iinc 2 1, 3) := by decide +kernel
theorem dX11_keeps_194 : decode cX11_keeps 194 = .ok (.goto (-71), 3) := by decide +kernel
theorem dX11_keeps_197 : decode cX11_keeps 197 = .ok (.aload_n 0, 1) := by decide +kernel
theorem dX11_keeps_198 : decode cX11_keeps 198 = .ok (.getfield 38, 3) := by decide +kernel
theorem dX11_keeps_201 : decode cX11_keeps 201 = .ok (.aload_n 0, 1) := by decide +kernel
theorem dX11_keeps_202 : decode cX11_keeps 202 = .ok (.getfield 114, 3) := by decide +kernel
theorem dX11_keeps_205 : decode cX11_keeps 205 = .ok (.aload_n 0, 1) := by decide +kernel
theorem dX11_keeps_206 : decode cX11_keeps 206 = .ok (.getfield 107, 3) := by decide +kernel
theorem dX11_keeps_209 : decode cX11_keeps 209 = .ok (.iastore, 1) := by decide +kernel
theorem dX11_keeps_210 : decode cX11_keeps 210 = .ok (.aload_n 0, 1) := by decide +kernel
theorem dX11_keeps_211 : decode cX11_keeps 211 = .ok (.getfield 41, 3) := by decide +kernel
theorem dX11_keeps_214 : decode cX11_keeps 214 = .ok (.aload_n 0, 1) := by decide +kernel
theorem dX11_keeps_215 : decode cX11_keeps 215 = .ok (.getfield 114, 3) := by decide +kernel
theorem dX11_keeps_218 : decode cX11_keeps 218 = .ok (.iload_n 1, 1) := by decide +kernel
theorem dX11_keeps_219 : decode cX11_keeps 219 = .ok (.bastore, 1) := by decide +kernel
theorem dX11_keeps_220 : decode cX11_keeps 220 = .ok (.aload_n 0, 1) := by decide +kernel
theorem dX11_keeps_221 : decode cX11_keeps 221 = .ok (.dup, 1) := by decide +kernel
theorem dX11_keeps_222 : decode cX11_keeps 222 = .ok (.getfield 114, 3) := by decide +kernel
theorem dX11_keeps_225 : decode cX11_keeps 225 = .ok (.iconst 1, 1) := by decide +kernel
theorem dX11_keeps_226 : decode cX11_keeps 226 = .ok (.iadd, 1) := by decide +kernel
theorem dX11_keeps_227 : decode cX11_keeps 227 = .ok (.putfield 114, 3) := by decide +kernel
theorem dX11_keeps_230 : decode cX11_keeps 230 = .ok (.return_, 1) := by decide +kernel
theorem dX11_undo_0 : decode cX11_undo 0 = .ok (.aload_n 0, 1) := by decide +kernel
theorem dX11_undo_1 : decode cX11_undo 1 = .ok (.getfield 114, 3) := by decide +kernel
theorem dX11_undo_4 : decode cX11_undo 4 = .ok (.ifCond .ne 5, 3) := by decide +kernel
theorem dX11_undo_7 : decode cX11_undo 7 = .ok (.iconst 0, 1) := by decide +kernel
theorem dX11_undo_8 : decode cX11_undo 8 = .ok (.ireturn, 1) := by decide +kernel
theorem dX11_undo_9 : decode cX11_undo 9 = .ok (.aload_n 0, 1) := by decide +kernel
theorem dX11_undo_10 : decode cX11_undo 10 = .ok (.dup, 1) := by decide +kernel
theorem dX11_undo_11 : decode cX11_undo 11 = .ok (.getfield 114, 3) := by decide +kernel
theorem dX11_undo_14 : decode cX11_undo 14 = .ok (.iconst 1, 1) := by decide +kernel
theorem dX11_undo_15 : decode cX11_undo 15 = .ok (.isub, 1) := by decide +kernel
theorem dX11_undo_16 : decode cX11_undo 16 = .ok (.putfield 114, 3) := by decide +kernel
theorem dX11_undo_19 : decode cX11_undo 19 = .ok (.aload_n 0, 1) := by decide +kernel
theorem dX11_undo_20 : decode cX11_undo 20 = .ok (.aload_n 0, 1) := by decide +kernel
theorem dX11_undo_21 : decode cX11_undo 21 = .ok (.getfield 38, 3) := by decide +kernel
theorem dX11_undo_24 : decode cX11_undo 24 = .ok (.aload_n 0, 1) := by decide +kernel
theorem dX11_undo_25 : decode cX11_undo 25 = .ok (.getfield 114, 3) := by decide +kernel
theorem dX11_undo_28 : decode cX11_undo 28 = .ok (.iaload, 1) := by decide +kernel
theorem dX11_undo_29 : decode cX11_undo 29 = .ok (.putfield 107, 3) := by decide +kernel
theorem dX11_undo_32 : decode cX11_undo 32 = .ok (.iconst 0, 1) := by decide +kernel
theorem dX11_undo_33 : decode cX11_undo 33 = .ok (.istore_n 1, 1) := by decide +kernel
theorem dX11_undo_34 : decode cX11_undo 34 = .ok (.iload_n 1, 1) := by decide +kernel
theorem dX11_undo_35 : decode cX11_undo 35 = .ok (.aload_n 0, 1) := by decide +kernel
theorem dX11_undo_36 : decode cX11_undo 36 = .ok (.getfield 107, 3) := by decide +kernel
theorem dX11_undo_39 : decode cX11_undo 39 = .ok (.if_icmp .ge 69, 3) := by decide +kernel
theorem dX11_undo_42 : decode cX11_undo 42 = .ok (.aload_n 0, 1) := by decide +kernel
theorem dX11_undo_43 : decode cX11_undo 43 = .ok (.getfield 20, 3) := by decide +kernel
theorem dX11_undo_46 : decode cX11_undo 46 = .ok (.iload_n 1, 1) := by decide +kernel
theorem dX11_undo_47 : decode cX11_undo 47 = .ok (.aload_n 0, 1) := by decide +kernel
theorem dX11_undo_48 : decode cX11_undo 48 = .ok (.getfield 29, 3) := by decide +kernel
theorem dX11_undo_51 : decode cX11_undo 51 = .ok (.bipush 24, 2) := by decide +kernel
theorem dX11_undo_53 : decode cX11_undo 53 = .ok (.aload_n 0, 1) := by decide +kernel
theorem dX11_undo_54 : decode cX11_undo 54 = .ok (.getfield 114, 3) := by decide +kernel
theorem dX11_undo_57 : decode cX11_undo 57 = .ok (.imul, 1) := by decide +kernel
theorem dX11_undo_58 : decode cX11_undo 58 = .ok (.iload_n 1, 1) := by decide +kernel
theorem dX11_undo_59 : decode cX11_undo 59 = .ok (.iadd, 1) := by decide +kernel
theorem dX11_undo_60 : decode cX11_undo 60 = .ok (.iaload, 1) := by decide +kernel
theorem dX11_undo_61 : decode cX11_undo 61 = .ok (.iastore, 1) := by decide +kernel
theorem dX11_undo_62 : decode cX11_undo 62 = .ok (.aload_n 0, 1) := by decide +kernel
theorem dX11_undo_63 : decode cX11_undo 63 = .ok (.getfield 23, 3) := by decide +kernel
theorem dX11_undo_66 : decode cX11_undo 66 = .ok (.iload_n 1, 1) := by decide +kernel
theorem dX11_undo_67 : decode cX11_undo 67 = .ok (.aload_n 0, 1) := by decide +kernel
theorem dX11_undo_68 : decode cX11_undo 68 = .ok (.getfield 32, 3) := by decide +kernel
theorem dX11_undo_71 : decode cX11_undo 71 = .ok (.bipush 24, 2) := by decide +kernel
theorem dX11_undo_73 : decode cX11_undo 73 = .ok (.aload_n 0, 1) := by decide +kernel
theorem dX11_undo_74 : decode cX11_undo 74 = .ok (.getfield 114, 3) := by decide +kernel
theorem dX11_undo_77 : decode cX11_undo 77 = .ok (.imul, 1) := by decide +kernel
theorem dX11_undo_78 : decode cX11_undo 78 = .ok (.iload_n 1, 1) := by decide +kernel
theorem dX11_undo_79 : decode cX11_undo 79 = .ok (.iadd, 1) := by decide +kernel
theorem dX11_undo_80 : decode cX11_undo 80 = .ok (.iaload, 1) := by decide +kernel
theorem dX11_undo_81 : decode cX11_undo 81 = .ok (.iastore, 1) := by decide +kernel
theorem dX11_undo_82 : decode cX11_undo 82 = .ok (.aload_n 0, 1) := by decide +kernel
theorem dX11_undo_83 : decode cX11_undo 83 = .ok (.getfield 26, 3) := by decide +kernel
theorem dX11_undo_86 : decode cX11_undo 86 = .ok (.iload_n 1, 1) := by decide +kernel
theorem dX11_undo_87 : decode cX11_undo 87 = .ok (.aload_n 0, 1) := by decide +kernel
theorem dX11_undo_88 : decode cX11_undo 88 = .ok (.getfield 35, 3) := by decide +kernel
theorem dX11_undo_91 : decode cX11_undo 91 = .ok (.bipush 24, 2) := by decide +kernel
theorem dX11_undo_93 : decode cX11_undo 93 = .ok (.aload_n 0, 1) := by decide +kernel
theorem dX11_undo_94 : decode cX11_undo 94 = .ok (.getfield 114, 3) := by decide +kernel
theorem dX11_undo_97 : decode cX11_undo 97 = .ok (.imul, 1) := by decide +kernel
theorem dX11_undo_98 : decode cX11_undo 98 = .ok (.iload_n 1, 1) := by decide +kernel
theorem dX11_undo_99 : decode cX11_undo 99 = .ok (.iadd, 1) := by decide +kernel
theorem dX11_undo_100 : decode cX11_undo 100 = .ok (.iaload, 1) := by decide +kernel
theorem dX11_undo_101 : decode cX11_undo 101 = .ok (.iastore, 1) := by decide +kernel
theorem dX11_undo_102 : decode cX11_undo 102 = .ok (.iinc 1 1, 3) := by decide +kernel
theorem dX11_undo_105 : decode cX11_undo 105 = .ok (.goto (-71), 3) := by decide +kernel
theorem dX11_undo_108 : decode cX11_undo 108 = .ok (.aload_n 0, 1) := by decide +kernel
theorem dX11_undo_109 : decode cX11_undo 109 = .ok (.getfield 41, 3) := by decide +kernel
theorem dX11_undo_112 : decode cX11_undo 112 = .ok (.aload_n 0, 1) := by decide +kernel
theorem dX11_undo_113 : decode cX11_undo 113 = .ok (.getfield 114, 3) := by decide +kernel
theorem dX11_undo_116 : decode cX11_undo 116 = .ok (.baload, 1) := by decide +kernel
theorem dX11_undo_117 : decode cX11_undo 117 = .ok (.ifCond .eq 7, 3) := by decide +kernel
theorem dX11_undo_120 : decode cX11_undo 120 = .ok (.aload_n 0, 1) := by decide +kernel
theorem dX11_undo_121 : decode cX11_undo 121 = .ok (.invokevirtual 117, 3) := by decide +kernel
theorem dX11_undo_124 : decode cX11_undo 124 = .ok (.iconst 1, 1) := by decide +kernel
theorem dX11_undo_125 : decode cX11_undo 125 = .ok (.ireturn, 1) := by decide +kernel
theorem dX11_changesSides_0 : decode cX11_changesSides 0 = .ok (.aload_n 0, 1) := by decide +kernel
theorem dX11_changesSides_1 : decode cX11_changesSides 1 = .ok (.getfield 104, 3) := by decide +kernel
theorem dX11_changesSides_4 : decode cX11_changesSides 4 = .ok (.istore_n 1, 1) := by decide +kernel
theorem dX11_changesSides_5 : decode cX11_changesSides 5 = .ok (.aload_n 0, 1) := by decide +kernel
theorem dX11_changesSides_6 : decode cX11_changesSides 6 = .ok (.aload_n 0, 1) := by decide +kernel
theorem dX11_changesSides_7 : decode cX11_changesSides 7 = .ok (.getfield 16, 3) := by decide +kernel
theorem dX11_changesSides_10 : decode cX11_changesSides 10 = .ok (.putfield 104, 3) := by decide +kernel
theorem dX11_changesSides_13 : decode cX11_changesSides 13 = .ok (.aload_n 0, 1) := by decide +kernel
theorem dX11_changesSides_14 : decode cX11_changesSides 14 = .ok (.iload_n 1, 1) := by decide +kernel
theorem dX11_changesSides_15 : decode cX11_changesSides 15 = .ok (.putfield 16, 3) := by decide +kernel
theorem dX11_changesSides_18 : decode cX11_changesSides 18 = .ok (.return_, 1) := by decide +kernel
theorem dX11_lays_0 : decode cX11_lays 0 = .ok (.iload_n 3, 1) := by decide +kernel
theorem dX11_lays_1 : decode cX11_lays 1 = .ok (.i2l, 1) := by decide +kernel
theorem dX11_lays_2 : decode cX11_lays 2 = .ok (.iload 4, 2) := by decide +kernel
theorem dX11_lays_4 : decode cX11_lays 4 = .ok (.i2l, 1) := by decide +kernel
theorem dX11_lays_5 : decode cX11_lays 5 = .ok (.invokestatic 100, 3) := by decide +kernel
theorem dX11_lays_8 : decode cX11_lays 8 = .ok (.l2i, 1) := by decide +kernel
theorem dX11_lays_9 : decode cX11_lays 9 = .ok (.istore 5, 2) := by decide +kernel
theorem dX11_lays_11 : decode cX11_lays 11 = .ok (.aload_n 0, 1) := by decide +kernel
theorem dX11_lays_12 : decode cX11_lays 12 = .ok (.getfield 20, 3) := by decide +kernel
theorem dX11_lays_15 : decode cX11_lays 15 = .ok (.iload_n 1, 1) := by decide +kernel
theorem dX11_lays_16 : decode cX11_lays 16 = .ok (.iload_n 2, 1) := by decide +kernel
theorem dX11_lays_17 : decode cX11_lays 17 = .ok (.iastore, 1) := by decide +kernel
theorem dX11_lays_18 : decode cX11_lays 18 = .ok (.aload_n 0, 1) := by decide +kernel
theorem dX11_lays_19 : decode cX11_lays 19 = .ok (.getfield 23, 3) := by decide +kernel
theorem dX11_lays_22 : decode cX11_lays 22 = .ok (.iload_n 1, 1) := by decide +kernel
theorem dX11_lays_23 : decode cX11_lays 23 = .ok (.iload_n 3, 1) := by decide +kernel
theorem dX11_lays_24 : decode cX11_lays 24 = .ok (.iload 5, 2) := by decide +kernel
theorem dX11_lays_26 : decode cX11_lays 26 = .ok (.idiv, 1) := by decide +kernel
theorem dX11_lays_27 : decode cX11_lays 27 = .ok (.iastore, 1) := by decide +kernel
theorem dX11_lays_28 : decode cX11_lays 28 = .ok (.aload_n 0, 1) := by decide +kernel
theorem dX11_lays_29 : decode cX11_lays 29 = .ok (.getfield 26, 3) := by decide +kernel
theorem dX11_lays_32 : decode cX11_lays 32 = .ok (.iload_n 1, 1) := by decide +kernel
theorem dX11_lays_33 : decode cX11_lays 33 = .ok (.iload 4, 2) := by decide +kernel
theorem dX11_lays_35 : decode cX11_lays 35 = .ok (.iload 5, 2) := by decide +kernel
theorem dX11_lays_37 : decode cX11_lays 37 = .ok (.idiv, 1) := by decide +kernel
theorem dX11_lays_38 : decode cX11_lays 38 = .ok (.iastore, 1) := by decide +kernel
theorem dX11_lays_39 : decode cX11_lays 39 = .ok (.return_, 1) := by decide +kernel
theorem dX11_moves_0 : decode cX11_moves 0 = .ok (.aload_n 0, 1) := by decide +kernel
theorem dX11_moves_1 : decode cX11_moves 1 = .ok (.getfield 20, 3) := by decide +kernel
theorem dX11_moves_4 : decode cX11_moves 4 = .ok (.iload_n 1, 1) := by decide +kernel
theorem dX11_moves_5 : decode cX11_moves 5 = .ok (.aload_n 0, 1) := by decide +kernel
theorem dX11_moves_6 : decode cX11_moves 6 = .ok (.getfield 20, 3) := by decide +kernel
theorem dX11_moves_9 : decode cX11_moves 9 = .ok (.iload_n 2, 1) := by decide +kernel
theorem dX11_moves_10 : decode cX11_moves 10 = .ok (.iaload, 1) := by decide +kernel
theorem dX11_moves_11 : decode cX11_moves 11 = .ok (.iastore, 1) := by decide +kernel
theorem dX11_moves_12 : decode cX11_moves 12 = .ok (.aload_n 0, 1) := by decide +kernel
theorem dX11_moves_13 : decode cX11_moves 13 = .ok (.getfield 23, 3) := by decide +kernel
theorem dX11_moves_16 : decode cX11_moves 16 = .ok (.iload_n 1, 1) := by decide +kernel
theorem dX11_moves_17 : decode cX11_moves 17 = .ok (.aload_n 0, 1) := by decide +kernel
theorem dX11_moves_18 : decode cX11_moves 18 = .ok (.getfield 23, 3) := by decide +kernel
theorem dX11_moves_21 : decode cX11_moves 21 = .ok (.iload_n 2, 1) := by decide +kernel
theorem dX11_moves_22 : decode cX11_moves 22 = .ok (.iaload, 1) := by decide +kernel
theorem dX11_moves_23 : decode cX11_moves 23 = .ok (.iastore, 1) := by decide +kernel
theorem dX11_moves_24 : decode cX11_moves 24 = .ok (.aload_n 0, 1) := by decide +kernel
theorem dX11_moves_25 : decode cX11_moves 25 = .ok (.getfield 26, 3) := by decide +kernel
theorem dX11_moves_28 : decode cX11_moves 28 = .ok (.iload_n 1, 1) := by decide +kernel
theorem dX11_moves_29 : decode cX11_moves 29 = .ok (.aload_n 0, 1) := by decide +kernel
theorem dX11_moves_30 : decode cX11_moves 30 = .ok (.getfield 26, 3) := by decide +kernel
theorem dX11_moves_33 : decode cX11_moves 33 = .ok (.iload_n 2, 1) := by decide +kernel
theorem dX11_moves_34 : decode cX11_moves 34 = .ok (.iaload, 1) := by decide +kernel
theorem dX11_moves_35 : decode cX11_moves 35 = .ok (.iastore, 1) := by decide +kernel
theorem dX11_moves_36 : decode cX11_moves 36 = .ok (.return_, 1) := by decide +kernel
theorem dX11_opens_0 : decode cX11_opens 0 = .ok (.aload_n 0, 1) := by decide +kernel
theorem dX11_opens_1 : decode cX11_opens 1 = .ok (.getfield 107, 3) := by decide +kernel
theorem dX11_opens_4 : decode cX11_opens 4 = .ok (.istore_n 2, 1) := by decide +kernel
theorem dX11_opens_5 : decode cX11_opens 5 = .ok (.iload_n 2, 1) := by decide +kernel
theorem dX11_opens_6 : decode cX11_opens 6 = .ok (.iload_n 1, 1) := by decide +kernel
theorem dX11_opens_7 : decode cX11_opens 7 = .ok (.if_icmp .le 17, 3) := by decide +kernel
theorem dX11_opens_10 : decode cX11_opens 10 = .ok (.aload_n 0, 1) := by decide +kernel
theorem dX11_opens_11 : decode cX11_opens 11 = .ok (.iload_n 2, 1) := by decide +kernel
theorem dX11_opens_12 : decode cX11_opens 12 = .ok (.iload_n 2, 1) := by decide +kernel
theorem dX11_opens_13 : decode cX11_opens 13 = .ok (.iconst 1, 1) := by decide +kernel
theorem dX11_opens_14 : decode cX11_opens 14 = .ok (.isub, 1) := by decide +kernel
theorem dX11_opens_15 : decode cX11_opens 15 = .ok (.invokevirtual 120, 3) := by decide +kernel
theorem dX11_opens_18 : decode cX11_opens 18 = .ok (.iinc 2 (-1), 3) := by decide +kernel
theorem dX11_opens_21 : decode cX11_opens 21 = .ok (.goto (-16), 3) := by decide +kernel
theorem dX11_opens_24 : decode cX11_opens 24 = .ok (.aload_n 0, 1) := by decide +kernel
theorem dX11_opens_25 : decode cX11_opens 25 = .ok (.dup, 1) := by decide +kernel
theorem dX11_opens_26 : decode cX11_opens 26 = .ok (.getfield 107, 3) := by decide +kernel
theorem dX11_opens_29 : decode cX11_opens 29 = .ok (.iconst 1, 1) := by decide +kernel
theorem dX11_opens_30 : decode cX11_opens 30 = .ok (.iadd, 1) := by decide +kernel
theorem dX11_opens_31 : decode cX11_opens 31 = .ok (.putfield 107, 3) := by decide +kernel
theorem dX11_opens_34 : decode cX11_opens 34 = .ok (.return_, 1) := by decide +kernel
theorem dX11_closes_0 : decode cX11_closes 0 = .ok (.aload_n 0, 1) := by decide +kernel
theorem dX11_closes_1 : decode cX11_closes 1 = .ok (.dup, 1) := by decide +kernel
theorem dX11_closes_2 : decode cX11_closes 2 = .ok (.getfield 107, 3) := by decide +kernel
theorem dX11_closes_5 : decode cX11_closes 5 = .ok (.iconst 1, 1) := by decide +kernel
theorem dX11_closes_6 : decode cX11_closes 6 = .ok (.isub, 1) := by decide +kernel
theorem dX11_closes_7 : decode cX11_closes 7 = .ok (.putfield 107, 3) := by decide +kernel
theorem dX11_closes_10 : decode cX11_closes 10 = .ok (.iload_n 1, 1) := by decide +kernel
theorem dX11_closes_11 : decode cX11_closes 11 = .ok (.istore_n 2, 1) := by decide +kernel
theorem dX11_closes_12 : decode cX11_closes 12 = .ok (.iload_n 2, 1) := by decide +kernel
theorem dX11_closes_13 : decode cX11_closes 13 = .ok (.aload_n 0, 1) := by decide +kernel
theorem dX11_closes_14 : decode cX11_closes 14 = .ok (.getfield 107, 3) := by decide +kernel
theorem dX11_closes_17 : decode cX11_closes 17 = .ok (.if_icmp .ge 17, 3) := by decide +kernel
theorem dX11_closes_20 : decode cX11_closes 20 = .ok (.aload_n 0, 1) := by decide +kernel
theorem dX11_closes_21 : decode cX11_closes 21 = .ok (.iload_n 2, 1) := by decide +kernel
theorem dX11_closes_22 : decode cX11_closes 22 = .ok (.iload_n 2, 1) := by decide +kernel
theorem dX11_closes_23 : decode cX11_closes 23 = .ok (.iconst 1, 1) := by decide +kernel
theorem dX11_closes_24 : decode cX11_closes 24 = .ok (.iadd, 1) := by decide +kernel
theorem dX11_closes_25 : decode cX11_closes 25 = .ok (.invokevirtual 120, 3) := by decide +kernel
theorem dX11_closes_28 : decode cX11_closes 28 = .ok (.iinc 2 1, 3) := by decide +kernel
theorem dX11_closes_31 : decode cX11_closes 31 = .ok (.goto (-19), 3) := by decide +kernel
theorem dX11_closes_34 : decode cX11_closes 34 = .ok (.return_, 1) := by decide +kernel
theorem dX11_isThick_0 : decode cX11_isThick 0 = .ok (.iload_n 0, 1) := by decide +kernel
theorem dX11_isThick_1 : decode cX11_isThick 1 = .ok (.i2l, 1) := by decide +kernel
theorem dX11_isThick_2 : decode cX11_isThick 2 = .ok (.lconst 0, 1) := by decide +kernel
theorem dX11_isThick_3 : decode cX11_isThick 3 = .ok (.ldc2_w 124, 3) := by decide +kernel
theorem dX11_isThick_6 : decode cX11_isThick 6 = .ok (.invokestatic 94, 3) := by decide +kernel
theorem dX11_isThick_9 : decode cX11_isThick 9 = .ok (.ifCond .eq 15, 3) := by decide +kernel
theorem dX11_isThick_12 : decode cX11_isThick 12 = .ok (.iload_n 1, 1) := by decide +kernel
theorem dX11_isThick_13 : decode cX11_isThick 13 = .ok (.i2l, 1) := by decide +kernel
theorem dX11_isThick_14 : decode cX11_isThick 14 = .ok (.lconst 1, 1) := by decide +kernel
theorem dX11_isThick_15 : decode cX11_isThick 15 = .ok (.ldc2_w 124, 3) := by decide +kernel
theorem dX11_isThick_18 : decode cX11_isThick 18 = .ok (.invokestatic 94, 3) := by decide +kernel
theorem dX11_isThick_21 : decode cX11_isThick 21 = .ok (.ifCond .ne 12, 3) := by decide +kernel
theorem dX11_isThick_24 : decode cX11_isThick 24 = .ok (.iload_n 0, 1) := by decide +kernel
theorem dX11_isThick_25 : decode cX11_isThick 25 = .ok (.iconst 1, 1) := by decide +kernel
theorem dX11_isThick_26 : decode cX11_isThick 26 = .ok (.if_icmp .ne 11, 3) := by decide +kernel
theorem dX11_isThick_29 : decode cX11_isThick 29 = .ok (.iload_n 1, 1) := by decide +kernel
theorem dX11_isThick_30 : decode cX11_isThick 30 = .ok (.ifCond .ne 7, 3) := by decide +kernel
theorem dX11_isThick_33 : decode cX11_isThick 33 = .ok (.iconst 1, 1) := by decide +kernel
theorem dX11_isThick_34 : decode cX11_isThick 34 = .ok (.goto 4, 3) := by decide +kernel
theorem dX11_isThick_37 : decode cX11_isThick 37 = .ok (.iconst 0, 1) := by decide +kernel
theorem dX11_isThick_38 : decode cX11_isThick 38 = .ok (.ireturn, 1) := by decide +kernel
theorem dX11_put_0 : decode cX11_put 0 = .ok (.iload_n 1, 1) := by decide +kernel
theorem dX11_put_1 : decode cX11_put 1 = .ok (.i2l, 1) := by decide +kernel
theorem dX11_put_2 : decode cX11_put 2 = .ok (.lconst 0, 1) := by decide +kernel
theorem dX11_put_3 : decode cX11_put 3 = .ok (.aload_n 0, 1) := by decide +kernel
theorem dX11_put_4 : decode cX11_put 4 = .ok (.getfield 107, 3) := by decide +kernel
theorem dX11_put_7 : decode cX11_put 7 = .ok (.i2l, 1) := by decide +kernel
theorem dX11_put_8 : decode cX11_put 8 = .ok (.invokestatic 94, 3) := by decide +kernel
theorem dX11_put_11 : decode cX11_put 11 = .ok (.ifCond .eq 33, 3) := by decide +kernel
theorem dX11_put_14 : decode cX11_put 14 = .ok (.iload_n 2, 1) := by decide +kernel
theorem dX11_put_15 : decode cX11_put 15 = .ok (.i2l, 1) := by decide +kernel
theorem dX11_put_16 : decode cX11_put 16 = .ok (.lconst 0, 1) := by decide +kernel
theorem dX11_put_17 : decode cX11_put 17 = .ok (.ldc2_w 92, 3) := by decide +kernel
theorem dX11_put_20 : decode cX11_put 20 = .ok (.invokestatic 94, 3) := by decide +kernel
theorem dX11_put_23 : decode cX11_put 23 = .ok (.ifCond .eq 21, 3) := by decide +kernel
theorem dX11_put_26 : decode cX11_put 26 = .ok (.iload_n 3, 1) := by decide +kernel
theorem dX11_put_27 : decode cX11_put 27 = .ok (.iload 4, 2) := by decide +kernel
theorem dX11_put_29 : decode cX11_put 29 = .ok (.invokestatic 126, 3) := by decide +kernel
theorem dX11_put_32 : decode cX11_put 32 = .ok (.ifCond .eq 12, 3) := by decide +kernel
theorem dX11_put_35 : decode cX11_put 35 = .ok (.aload_n 0, 1) := by decide +kernel
theorem dX11_put_36 : decode cX11_put 36 = .ok (.getfield 107, 3) := by decide +kernel
theorem dX11_put_39 : decode cX11_put 39 = .ok (.bipush 24, 2) := by decide +kernel
theorem dX11_put_41 : decode cX11_put 41 = .ok (.if_icmp .ne 5, 3) := by decide +kernel
theorem dX11_put_44 : decode cX11_put 44 = .ok (.iconst (-1), 1) := by decide +kernel
theorem dX11_put_45 : decode cX11_put 45 = .ok (.ireturn, 1) := by decide +kernel
theorem dX11_put_46 : decode cX11_put 46 = .ok (.aload_n 0, 1) := by decide +kernel
theorem dX11_put_47 : decode cX11_put 47 = .ok (.iconst 0, 1) := by decide +kernel
theorem dX11_put_48 : decode cX11_put 48 = .ok (.invokevirtual 130, 3) := by decide +kernel
theorem dX11_put_51 : decode cX11_put 51 = .ok (.aload_n 0, 1) := by decide +kernel
theorem dX11_put_52 : decode cX11_put 52 = .ok (.iload_n 1, 1) := by decide +kernel
theorem dX11_put_53 : decode cX11_put 53 = .ok (.invokevirtual 134, 3) := by decide +kernel
theorem dX11_put_56 : decode cX11_put 56 = .ok (.aload_n 0, 1) := by decide +kernel
theorem dX11_put_57 : decode cX11_put 57 = .ok (.iload_n 1, 1) := by decide +kernel
theorem dX11_put_58 : decode cX11_put 58 = .ok (.iload_n 2, 1) := by decide +kernel
theorem dX11_put_59 : decode cX11_put 59 = .ok (.iload_n 3, 1) := by decide +kernel
theorem dX11_put_60 : decode cX11_put 60 = .ok (.iload 4, 2) := by decide +kernel
theorem dX11_put_62 : decode cX11_put 62 = .ok (.invokevirtual 138, 3) := by decide +kernel
theorem dX11_put_65 : decode cX11_put 65 = .ok (.aload_n 0, 1) := by decide +kernel
theorem dX11_put_66 : decode cX11_put 66 = .ok (.getfield 107, 3) := by decide +kernel
theorem dX11_put_69 : decode cX11_put 69 = .ok (.ireturn, 1) := by decide +kernel
theorem dX11_cut_0 : decode cX11_cut 0 = .ok (.iload_n 1, 1) := by decide +kernel
theorem dX11_cut_1 : decode cX11_cut 1 = .ok (.i2l, 1) := by decide +kernel
theorem dX11_cut_2 : decode cX11_cut 2 = .ok (.lconst 0, 1) := by decide +kernel
theorem dX11_cut_3 : decode cX11_cut 3 = .ok (.aload_n 0, 1) := by decide +kernel
theorem dX11_cut_4 : decode cX11_cut 4 = .ok (.getfield 107, 3) := by decide +kernel
theorem dX11_cut_7 : decode cX11_cut 7 = .ok (.iconst 1, 1) := by decide +kernel
theorem dX11_cut_8 : decode cX11_cut 8 = .ok (.isub, 1) := by decide +kernel
theorem dX11_cut_9 : decode cX11_cut 9 = .ok (.i2l, 1) := by decide +kernel
theorem dX11_cut_10 : decode cX11_cut 10 = .ok (.invokestatic 94, 3) := by decide +kernel
theorem dX11_cut_13 : decode cX11_cut 13 = .ok (.ifCond .ne 5, 3) := by decide +kernel
theorem dX11_cut_16 : decode cX11_cut 16 = .ok (.iconst (-1), 1) := by decide +kernel
theorem dX11_cut_17 : decode cX11_cut 17 = .ok (.ireturn, 1) := by decide +kernel
theorem dX11_cut_18 : decode cX11_cut 18 = .ok (.aload_n 0, 1) := by decide +kernel
theorem dX11_cut_19 : decode cX11_cut 19 = .ok (.iconst 0, 1) := by decide +kernel
theorem dX11_cut_20 : decode cX11_cut 20 = .ok (.invokevirtual 130, 3) := by decide +kernel
theorem dX11_cut_23 : decode cX11_cut 23 = .ok (.aload_n 0, 1) := by decide +kernel
theorem dX11_cut_24 : decode cX11_cut 24 = .ok (.iload_n 1, 1) := by decide +kernel
theorem dX11_cut_25 : decode cX11_cut 25 = .ok (.invokevirtual 142, 3) := by decide +kernel
theorem dX11_cut_28 : decode cX11_cut 28 = .ok (.aload_n 0, 1) := by decide +kernel
theorem dX11_cut_29 : decode cX11_cut 29 = .ok (.getfield 107, 3) := by decide +kernel
theorem dX11_cut_32 : decode cX11_cut 32 = .ok (.ireturn, 1) := by decide +kernel
theorem dX11_areAlike_0 : decode cX11_areAlike 0 = .ok (.aload_n 0, 1) := by decide +kernel
theorem dX11_areAlike_1 : decode cX11_areAlike 1 = .ok (.getfield 20, 3) := by decide +kernel
theorem dX11_areAlike_4 : decode cX11_areAlike 4 = .ok (.iload_n 1, 1) := by decide +kernel
theorem dX11_areAlike_5 : decode cX11_areAlike 5 = .ok (.iaload, 1) := by decide +kernel
theorem dX11_areAlike_6 : decode cX11_areAlike 6 = .ok (.aload_n 0, 1) := by decide +kernel
theorem dX11_areAlike_7 : decode cX11_areAlike 7 = .ok (.getfield 20, 3) := by decide +kernel
theorem dX11_areAlike_10 : decode cX11_areAlike 10 = .ok (.iload_n 2, 1) := by decide +kernel
theorem dX11_areAlike_11 : decode cX11_areAlike 11 = .ok (.iaload, 1) := by decide +kernel
theorem dX11_areAlike_12 : decode cX11_areAlike 12 = .ok (.if_icmp .ne 37, 3) := by decide +kernel
theorem dX11_areAlike_15 : decode cX11_areAlike 15 = .ok (.aload_n 0, 1) := by decide +kernel
theorem dX11_areAlike_16 : decode cX11_areAlike 16 = .ok (.getfield 23, 3) := by decide +kernel
theorem dX11_areAlike_19 : decode cX11_areAlike 19 = .ok (.iload_n 1, 1) := by decide +kernel
theorem dX11_areAlike_20 : decode cX11_areAlike 20 = .ok (.iaload, 1) := by decide +kernel
theorem dX11_areAlike_21 : decode cX11_areAlike 21 = .ok (.aload_n 0, 1) := by decide +kernel
theorem dX11_areAlike_22 : decode cX11_areAlike 22 = .ok (.getfield 23, 3) := by decide +kernel
theorem dX11_areAlike_25 : decode cX11_areAlike 25 = .ok (.iload_n 2, 1) := by decide +kernel
theorem dX11_areAlike_26 : decode cX11_areAlike 26 = .ok (.iaload, 1) := by decide +kernel
theorem dX11_areAlike_27 : decode cX11_areAlike 27 = .ok (.if_icmp .ne 22, 3) := by decide +kernel
theorem dX11_areAlike_30 : decode cX11_areAlike 30 = .ok (.aload_n 0, 1) := by decide +kernel
theorem dX11_areAlike_31 : decode cX11_areAlike 31 = .ok (.getfield 26, 3) := by decide +kernel
theorem dX11_areAlike_34 : decode cX11_areAlike 34 = .ok (.iload_n 1, 1) := by decide +kernel
theorem dX11_areAlike_35 : decode cX11_areAlike 35 = .ok (.iaload, 1) := by decide +kernel
theorem dX11_areAlike_36 : decode cX11_areAlike 36 = .ok (.aload_n 0, 1) := by decide +kernel
theorem dX11_areAlike_37 : decode cX11_areAlike 37 = .ok (.getfield 26, 3) := by decide +kernel
theorem dX11_areAlike_40 : decode cX11_areAlike 40 = .ok (.iload_n 2, 1) := by decide +kernel
theorem dX11_areAlike_41 : decode cX11_areAlike 41 = .ok (.iaload, 1) := by decide +kernel
theorem dX11_areAlike_42 : decode cX11_areAlike 42 = .ok (.if_icmp .ne 7, 3) := by decide +kernel
theorem dX11_areAlike_45 : decode cX11_areAlike 45 = .ok (.iconst 1, 1) := by decide +kernel
theorem dX11_areAlike_46 : decode cX11_areAlike 46 = .ok (.goto 4, 3) := by decide +kernel
theorem dX11_areAlike_49 : decode cX11_areAlike 49 = .ok (.iconst 0, 1) := by decide +kernel
theorem dX11_areAlike_50 : decode cX11_areAlike 50 = .ok (.ireturn, 1) := by decide +kernel
theorem dX11_isSameTurned_0 : decode cX11_isSameTurned 0 = .ok (.iconst 0, 1) := by decide +kernel
theorem dX11_isSameTurned_1 : decode cX11_isSameTurned 1 = .ok (.istore_n 1, 1) := by decide +kernel
theorem dX11_isSameTurned_2 : decode cX11_isSameTurned 2 = .ok (.iload_n 1, 1) := by decide +kernel
theorem dX11_isSameTurned_3 : decode cX11_isSameTurned 3 = .ok (.aload_n 0, 1) := by decide +kernel
theorem dX11_isSameTurned_4 : decode cX11_isSameTurned 4 = .ok (.getfield 107, 3) := by decide +kernel
theorem dX11_isSameTurned_7 : decode cX11_isSameTurned 7 = .ok (.if_icmp .ge 27, 3) := by decide +kernel
theorem dX11_isSameTurned_10 : decode cX11_isSameTurned 10 = .ok (.aload_n 0, 1) := by decide +kernel
theorem dX11_isSameTurned_11 : decode cX11_isSameTurned 11 = .ok (.iload_n 1, 1) := by decide +kernel
theorem dX11_isSameTurned_12 : decode cX11_isSameTurned 12 = .ok (.aload_n 0, 1) := by decide +kernel
theorem dX11_isSameTurned_13 : decode cX11_isSameTurned 13 = .ok (.getfield 107, 3) := by decide +kernel
theorem dX11_isSameTurned_16 : decode cX11_isSameTurned 16 = .ok (.iconst 1, 1) := by decide +kernel
theorem dX11_isSameTurned_17 : decode cX11_isSameTurned 17 = .ok (.isub, 1) := by decide +kernel
theorem dX11_isSameTurned_18 : decode cX11_isSameTurned 18 = .ok (.iload_n 1, 1) := by decide +kernel
theorem dX11_isSameTurned_19 : decode cX11_isSameTurned 19 = .ok (.isub, 1) := by decide +kernel
theorem dX11_isSameTurned_20 : decode cX11_isSameTurned 20 = .ok (.invokevirtual 145, 3) := by decide +kernel
theorem dX11_isSameTurned_23 : decode cX11_isSameTurned 23 = .ok (.ifCond .ne 5, 3) := by decide +kernel
theorem dX11_isSameTurned_26 : decode cX11_isSameTurned 26 = .ok (.iconst 0, 1) := by decide +kernel
theorem dX11_isSameTurned_27 : decode cX11_isSameTurned 27 = .ok (.ireturn, 1) := by decide +kernel
theorem dX11_isSameTurned_28 : decode cX11_isSameTurned 28 = .ok (.iinc 1 1, 3) := by decide +kernel
theorem dX11_isSameTurned_31 : decode cX11_isSameTurned 31 = .ok (.goto (-29), 3) := by decide +kernel
theorem dX11_isSameTurned_34 : decode cX11_isSameTurned 34 = .ok (.iconst 1, 1) := by decide +kernel
theorem dX11_isSameTurned_35 : decode cX11_isSameTurned 35 = .ok (.ireturn, 1) := by decide +kernel
theorem dX11_turn_0 : decode cX11_turn 0 = .ok (.aload_n 0, 1) := by decide +kernel
theorem dX11_turn_1 : decode cX11_turn 1 = .ok (.invokevirtual 148, 3) := by decide +kernel
theorem dX11_turn_4 : decode cX11_turn 4 = .ok (.ifCond .eq 16, 3) := by decide +kernel
theorem dX11_turn_7 : decode cX11_turn 7 = .ok (.aload_n 0, 1) := by decide +kernel
theorem dX11_turn_8 : decode cX11_turn 8 = .ok (.getfield 104, 3) := by decide +kernel
theorem dX11_turn_11 : decode cX11_turn 11 = .ok (.aload_n 0, 1) := by decide +kernel
theorem dX11_turn_12 : decode cX11_turn 12 = .ok (.getfield 16, 3) := by decide +kernel
theorem dX11_turn_15 : decode cX11_turn 15 = .ok (.if_icmp .ne 5, 3) := by decide +kernel
theorem dX11_turn_18 : decode cX11_turn 18 = .ok (.iconst 0, 1) := by decide +kernel
theorem dX11_turn_19 : decode cX11_turn 19 = .ok (.ireturn, 1) := by decide +kernel
theorem dX11_turn_20 : decode cX11_turn 20 = .ok (.aload_n 0, 1) := by decide +kernel
theorem dX11_turn_21 : decode cX11_turn 21 = .ok (.iconst 1, 1) := by decide +kernel
theorem dX11_turn_22 : decode cX11_turn 22 = .ok (.invokevirtual 130, 3) := by decide +kernel
theorem dX11_turn_25 : decode cX11_turn 25 = .ok (.iconst 0, 1) := by decide +kernel
theorem dX11_turn_26 : decode cX11_turn 26 = .ok (.istore_n 1, 1) := by decide +kernel
theorem dX11_turn_27 : decode cX11_turn 27 = .ok (.iconst 2, 1) := by decide +kernel
theorem dX11_turn_28 : decode cX11_turn 28 = .ok (.iload_n 1, 1) := by decide +kernel
theorem dX11_turn_29 : decode cX11_turn 29 = .ok (.imul, 1) := by decide +kernel
theorem dX11_turn_30 : decode cX11_turn 30 = .ok (.aload_n 0, 1) := by decide +kernel
theorem dX11_turn_31 : decode cX11_turn 31 = .ok (.getfield 107, 3) := by decide +kernel
theorem dX11_turn_34 : decode cX11_turn 34 = .ok (.iconst 1, 1) := by decide +kernel
theorem dX11_turn_35 : decode cX11_turn 35 = .ok (.isub, 1) := by decide +kernel
theorem dX11_turn_36 : decode cX11_turn 36 = .ok (.if_icmp .ge 43, 3) := by decide +kernel
theorem dX11_turn_39 : decode cX11_turn 39 = .ok (.aload_n 0, 1) := by decide +kernel
theorem dX11_turn_40 : decode cX11_turn 40 = .ok (.bipush 24, 2) := by decide +kernel
theorem dX11_turn_42 : decode cX11_turn 42 = .ok (.iload_n 1, 1) := by decide +kernel
theorem dX11_turn_43 : decode cX11_turn 43 = .ok (.invokevirtual 120, 3) := by decide +kernel
theorem dX11_turn_46 : decode cX11_turn 46 = .ok (.aload_n 0, 1) := by decide +kernel
theorem dX11_turn_47 : decode cX11_turn 47 = .ok (.iload_n 1, 1) := by decide +kernel
theorem dX11_turn_48 : decode cX11_turn 48 = .ok (.aload_n 0, 1) := by decide +kernel
theorem dX11_turn_49 : decode cX11_turn 49 = .ok (.getfield 107, 3) := by decide +kernel
theorem dX11_turn_52 : decode cX11_turn 52 = .ok (.iconst 1, 1) := by decide +kernel
theorem dX11_turn_53 : decode cX11_turn 53 = .ok (.isub, 1) := by decide +kernel
theorem dX11_turn_54 : decode cX11_turn 54 = .ok (.iload_n 1, 1) := by decide +kernel
theorem dX11_turn_55 : decode cX11_turn 55 = .ok (.isub, 1) := by decide +kernel
theorem dX11_turn_56 : decode cX11_turn 56 = .ok (.invokevirtual 120, 3) := by decide +kernel
theorem dX11_turn_59 : decode cX11_turn 59 = .ok (.aload_n 0, 1) := by decide +kernel
theorem dX11_turn_60 : decode cX11_turn 60 = .ok (.aload_n 0, 1) := by decide +kernel
theorem dX11_turn_61 : decode cX11_turn 61 = .ok (.getfield 107, 3) := by decide +kernel
theorem dX11_turn_64 : decode cX11_turn 64 = .ok (.iconst 1, 1) := by decide +kernel
theorem dX11_turn_65 : decode cX11_turn 65 = .ok (.isub, 1) := by decide +kernel
theorem dX11_turn_66 : decode cX11_turn 66 = .ok (.iload_n 1, 1) := by decide +kernel
theorem dX11_turn_67 : decode cX11_turn 67 = .ok (.isub, 1) := by decide +kernel
theorem dX11_turn_68 : decode cX11_turn 68 = .ok (.bipush 24, 2) := by decide +kernel
theorem dX11_turn_70 : decode cX11_turn 70 = .ok (.invokevirtual 120, 3) := by decide +kernel
theorem dX11_turn_73 : decode cX11_turn 73 = .ok (.iinc 1 1, 3) := by decide +kernel
theorem dX11_turn_76 : decode cX11_turn 76 = .ok (.goto (-49), 3) := by decide +kernel
theorem dX11_turn_79 : decode cX11_turn 79 = .ok (.aload_n 0, 1) := by decide +kernel
theorem dX11_turn_80 : decode cX11_turn 80 = .ok (.invokevirtual 117, 3) := by decide +kernel
theorem dX11_turn_83 : decode cX11_turn 83 = .ok (.iconst 1, 1) := by decide +kernel
theorem dX11_turn_84 : decode cX11_turn 84 = .ok (.ireturn, 1) := by decide +kernel
theorem dX11_merge_0 : decode cX11_merge 0 = .ok (.iload_n 1, 1) := by decide +kernel
theorem dX11_merge_1 : decode cX11_merge 1 = .ok (.i2l, 1) := by decide +kernel
theorem dX11_merge_2 : decode cX11_merge 2 = .ok (.lconst 0, 1) := by decide +kernel
theorem dX11_merge_3 : decode cX11_merge 3 = .ok (.aload_n 0, 1) := by decide +kernel
theorem dX11_merge_4 : decode cX11_merge 4 = .ok (.getfield 107, 3) := by decide +kernel
theorem dX11_merge_7 : decode cX11_merge 7 = .ok (.iconst 2, 1) := by decide +kernel
theorem dX11_merge_8 : decode cX11_merge 8 = .ok (.isub, 1) := by decide +kernel
theorem dX11_merge_9 : decode cX11_merge 9 = .ok (.i2l, 1) := by decide +kernel
theorem dX11_merge_10 : decode cX11_merge 10 = .ok (.invokestatic 94, 3) := by decide +kernel
theorem dX11_merge_13 : decode cX11_merge 13 = .ok (.ifCond .eq 20, 3) := by decide +kernel
theorem dX11_merge_16 : decode cX11_merge 16 = .ok (.aload_n 0, 1) := by decide +kernel
theorem dX11_merge_17 : decode cX11_merge 17 = .ok (.getfield 20, 3) := by decide +kernel
theorem dX11_merge_20 : decode cX11_merge 20 = .ok (.iload_n 1, 1) := by decide +kernel
theorem dX11_merge_21 : decode cX11_merge 21 = .ok (.iaload, 1) := by decide +kernel
theorem dX11_merge_22 : decode cX11_merge 22 = .ok (.aload_n 0, 1) := by decide +kernel
theorem dX11_merge_23 : decode cX11_merge 23 = .ok (.getfield 20, 3) := by decide +kernel
theorem dX11_merge_26 : decode cX11_merge 26 = .ok (.iload_n 1, 1) := by decide +kernel
theorem dX11_merge_27 : decode cX11_merge 27 = .ok (.iconst 1, 1) := by decide +kernel
theorem dX11_merge_28 : decode cX11_merge 28 = .ok (.iadd, 1) := by decide +kernel
theorem dX11_merge_29 : decode cX11_merge 29 = .ok (.iaload, 1) := by decide +kernel
theorem dX11_merge_30 : decode cX11_merge 30 = .ok (.if_icmp .eq 5, 3) := by decide +kernel
theorem dX11_merge_33 : decode cX11_merge 33 = .ok (.iconst (-1), 1) := by decide +kernel
theorem dX11_merge_34 : decode cX11_merge 34 = .ok (.ireturn, 1) := by decide +kernel
theorem dX11_merge_35 : decode cX11_merge 35 = .ok (.aload_n 0, 1) := by decide +kernel
theorem dX11_merge_36 : decode cX11_merge 36 = .ok (.getfield 23, 3) := by decide +kernel
theorem dX11_merge_39 : decode cX11_merge 39 = .ok (.iload_n 1, 1) := by decide +kernel
theorem dX11_merge_40 : decode cX11_merge 40 = .ok (.iaload, 1) := by decide +kernel
theorem dX11_merge_41 : decode cX11_merge 41 = .ok (.aload_n 0, 1) := by decide +kernel
theorem dX11_merge_42 : decode cX11_merge 42 = .ok (.getfield 26, 3) := by decide +kernel
theorem dX11_merge_45 : decode cX11_merge 45 = .ok (.iload_n 1, 1) := by decide +kernel
theorem dX11_merge_46 : decode cX11_merge 46 = .ok (.iconst 1, 1) := by decide +kernel
theorem dX11_merge_47 : decode cX11_merge 47 = .ok (.iadd, 1) := by decide +kernel
theorem dX11_merge_48 : decode cX11_merge 48 = .ok (.iaload, 1) := by decide +kernel
theorem dX11_merge_49 : decode cX11_merge 49 = .ok (.imul, 1) := by decide +kernel
theorem dX11_merge_50 : decode cX11_merge 50 = .ok (.aload_n 0, 1) := by decide +kernel
theorem dX11_merge_51 : decode cX11_merge 51 = .ok (.getfield 23, 3) := by decide +kernel
theorem dX11_merge_54 : decode cX11_merge 54 = .ok (.iload_n 1, 1) := by decide +kernel
theorem dX11_merge_55 : decode cX11_merge 55 = .ok (.iconst 1, 1) := by decide +kernel
theorem dX11_merge_56 : decode cX11_merge 56 = .ok (.iadd, 1) := by decide +kernel
theorem dX11_merge_57 : decode cX11_merge 57 = .ok (.iaload, 1) := by decide +kernel
theorem dX11_merge_58 : decode cX11_merge 58 = .ok (.aload_n 0, 1) := by decide +kernel
theorem dX11_merge_59 : decode cX11_merge 59 = .ok (.getfield 26, 3) := by decide +kernel
theorem dX11_merge_62 : decode cX11_merge 62 = .ok (.iload_n 1, 1) := by decide +kernel
theorem dX11_merge_63 : decode cX11_merge 63 = .ok (.iaload, 1) := by decide +kernel
theorem dX11_merge_64 : decode cX11_merge 64 = .ok (.imul, 1) := by decide +kernel
theorem dX11_merge_65 : decode cX11_merge 65 = .ok (.iadd, 1) := by decide +kernel
theorem dX11_merge_66 : decode cX11_merge 66 = .ok (.istore_n 2, 1) := by decide +kernel
theorem dX11_merge_67 : decode cX11_merge 67 = .ok (.aload_n 0, 1) := by decide +kernel
theorem dX11_merge_68 : decode cX11_merge 68 = .ok (.getfield 26, 3) := by decide +kernel
theorem dX11_merge_71 : decode cX11_merge 71 = .ok (.iload_n 1, 1) := by decide +kernel
theorem dX11_merge_72 : decode cX11_merge 72 = .ok (.iaload, 1) := by decide +kernel
theorem dX11_merge_73 : decode cX11_merge 73 = .ok (.aload_n 0, 1) := by decide +kernel
theorem dX11_merge_74 : decode cX11_merge 74 = .ok (.getfield 26, 3) := by decide +kernel
theorem dX11_merge_77 : decode cX11_merge 77 = .ok (.iload_n 1, 1) := by decide +kernel
theorem dX11_merge_78 : decode cX11_merge 78 = .ok (.iconst 1, 1) := by decide +kernel
theorem dX11_merge_79 : decode cX11_merge 79 = .ok (.iadd, 1) := by decide +kernel
theorem dX11_merge_80 : decode cX11_merge 80 = .ok (.iaload, 1) := by decide +kernel
theorem dX11_merge_81 : decode cX11_merge 81 = .ok (.imul, 1) := by decide +kernel
theorem dX11_merge_82 : decode cX11_merge 82 = .ok (.aload_n 0, 1) := by decide +kernel
theorem dX11_merge_83 : decode cX11_merge 83 = .ok (.getfield 23, 3) := by decide +kernel
theorem dX11_merge_86 : decode cX11_merge 86 = .ok (.iload_n 1, 1) := by decide +kernel
theorem dX11_merge_87 : decode cX11_merge 87 = .ok (.iaload, 1) := by decide +kernel
theorem dX11_merge_88 : decode cX11_merge 88 = .ok (.aload_n 0, 1) := by decide +kernel
theorem dX11_merge_89 : decode cX11_merge 89 = .ok (.getfield 23, 3) := by decide +kernel
theorem dX11_merge_92 : decode cX11_merge 92 = .ok (.iload_n 1, 1) := by decide +kernel
theorem dX11_merge_93 : decode cX11_merge 93 = .ok (.iconst 1, 1) := by decide +kernel
theorem dX11_merge_94 : decode cX11_merge 94 = .ok (.iadd, 1) := by decide +kernel
theorem dX11_merge_95 : decode cX11_merge 95 = .ok (.iaload, 1) := by decide +kernel
theorem dX11_merge_96 : decode cX11_merge 96 = .ok (.imul, 1) := by decide +kernel
theorem dX11_merge_97 : decode cX11_merge 97 = .ok (.isub, 1) := by decide +kernel
theorem dX11_merge_98 : decode cX11_merge 98 = .ok (.istore_n 3, 1) := by decide +kernel
theorem dX11_merge_99 : decode cX11_merge 99 = .ok (.iload_n 2, 1) := by decide +kernel
theorem dX11_merge_100 : decode cX11_merge 100 = .ok (.i2l, 1) := by decide +kernel
theorem dX11_merge_101 : decode cX11_merge 101 = .ok (.iload_n 3, 1) := by decide +kernel
theorem dX11_merge_102 : decode cX11_merge 102 = .ok (.i2l, 1) := by decide +kernel
theorem dX11_merge_103 : decode cX11_merge 103 = .ok (.invokestatic 100, 3) := by decide +kernel
theorem dX11_merge_106 : decode cX11_merge 106 = .ok (.l2i, 1) := by decide +kernel
theorem dX11_merge_107 : decode cX11_merge 107 = .ok (.istore 4, 2) := by decide +kernel
theorem dX11_merge_109 : decode cX11_merge 109 = .ok (.iload 4, 2) := by decide +kernel
theorem dX11_merge_111 : decode cX11_merge 111 = .ok (.ifCond .ne 5, 3) := by decide +kernel
theorem dX11_merge_114 : decode cX11_merge 114 = .ok (.iconst (-1), 1) := by decide +kernel
theorem dX11_merge_115 : decode cX11_merge 115 = .ok (.ireturn, 1) := by decide +kernel
theorem dX11_merge_116 : decode cX11_merge 116 = .ok (.iload_n 3, 1) := by decide +kernel
theorem dX11_merge_117 : decode cX11_merge 117 = .ok (.ifCond .lt 11, 3) := by decide +kernel
theorem dX11_merge_120 : decode cX11_merge 120 = .ok (.iload_n 3, 1) := by decide +kernel
theorem dX11_merge_121 : decode cX11_merge 121 = .ok (.ifCond .ne 12, 3) := by decide +kernel
theorem dX11_merge_124 : decode cX11_merge 124 = .ok (.iload_n 2, 1) := by decide +kernel
theorem dX11_merge_125 : decode cX11_merge 125 = .ok (.ifCond .ge 8, 3) := by decide +kernel
theorem dX11_merge_128 : decode cX11_merge 128 = .ok (.iload 4, 2) := by decide +kernel
theorem dX11_merge_130 : decode cX11_merge 130 = .ok (.ineg, 1) := by decide +kernel
theorem dX11_merge_131 : decode cX11_merge 131 = .ok (.istore 4, 2) := by decide +kernel
theorem dX11_merge_133 : decode cX11_merge 133 = .ok (.iload_n 2, 1) := by decide +kernel
theorem dX11_merge_134 : decode cX11_merge 134 = .ok (.iload 4, 2) := by decide +kernel
theorem dX11_merge_136 : decode cX11_merge 136 = .ok (.idiv, 1) := by decide +kernel
theorem dX11_merge_137 : decode cX11_merge 137 = .ok (.iload_n 3, 1) := by decide +kernel
theorem dX11_merge_138 : decode cX11_merge 138 = .ok (.iload 4, 2) := by decide +kernel
theorem dX11_merge_140 : decode cX11_merge 140 = .ok (.idiv, 1) := by decide +kernel
theorem dX11_merge_141 : decode cX11_merge 141 = .ok (.invokestatic 126, 3) := by decide +kernel
theorem dX11_merge_144 : decode cX11_merge 144 = .ok (.ifCond .ne 5, 3) := by decide +kernel
theorem dX11_merge_147 : decode cX11_merge 147 = .ok (.iconst (-1), 1) := by decide +kernel
theorem dX11_merge_148 : decode cX11_merge 148 = .ok (.ireturn, 1) := by decide +kernel
theorem dX11_merge_149 : decode cX11_merge 149 = .ok (.aload_n 0, 1) := by decide +kernel
theorem dX11_merge_150 : decode cX11_merge 150 = .ok (.iconst 0, 1) := by decide +kernel
theorem dX11_merge_151 : decode cX11_merge 151 = .ok (.invokevirtual 130, 3) := by decide +kernel
theorem dX11_merge_154 : decode cX11_merge 154 = .ok (.aload_n 0, 1) := by decide +kernel
theorem dX11_merge_155 : decode cX11_merge 155 = .ok (.iload_n 1, 1) := by decide +kernel
theorem dX11_merge_156 : decode cX11_merge 156 = .ok (.iconst 1, 1) := by decide +kernel
theorem dX11_merge_157 : decode cX11_merge 157 = .ok (.iadd, 1) := by decide +kernel
theorem dX11_merge_158 : decode cX11_merge 158 = .ok (.invokevirtual 142, 3) := by decide +kernel
theorem dX11_merge_161 : decode cX11_merge 161 = .ok (.aload_n 0, 1) := by decide +kernel
theorem dX11_merge_162 : decode cX11_merge 162 = .ok (.iload_n 1, 1) := by decide +kernel
theorem dX11_merge_163 : decode cX11_merge 163 = .ok (.aload_n 0, 1) := by decide +kernel
theorem dX11_merge_164 : decode cX11_merge 164 = .ok (.getfield 20, 3) := by decide +kernel
theorem dX11_merge_167 : decode cX11_merge 167 = .ok (.iload_n 1, 1) := by decide +kernel
theorem dX11_merge_168 : decode cX11_merge 168 = .ok (.iaload, 1) := by decide +kernel
theorem dX11_merge_169 : decode cX11_merge 169 = .ok (.iload_n 2, 1) := by decide +kernel
theorem dX11_merge_170 : decode cX11_merge 170 = .ok (.iload 4, 2) := by decide +kernel
theorem dX11_merge_172 : decode cX11_merge 172 = .ok (.idiv, 1) := by decide +kernel
theorem dX11_merge_173 : decode cX11_merge 173 = .ok (.iload_n 3, 1) := by decide +kernel
theorem dX11_merge_174 : decode cX11_merge 174 = .ok (.iload 4, 2) := by decide +kernel
theorem dX11_merge_176 : decode cX11_merge 176 = .ok (.idiv, 1) := by decide +kernel
theorem dX11_merge_177 : decode cX11_merge 177 = .ok (.invokevirtual 138, 3) := by decide +kernel
theorem dX11_merge_180 : decode cX11_merge 180 = .ok (.aload_n 0, 1) := by decide +kernel
theorem dX11_merge_181 : decode cX11_merge 181 = .ok (.getfield 107, 3) := by decide +kernel
theorem dX11_merge_184 : decode cX11_merge 184 = .ok (.ireturn, 1) := by decide +kernel
theorem dX11_four_0 : decode cX11_four 0 = .ok (.bipush 24, 2) := by decide +kernel
theorem dX11_four_2 : decode cX11_four 2 = .ok (.istore_n 2, 1) := by decide +kernel
theorem dX11_four_3 : decode cX11_four 3 = .ok (.iload_n 2, 1) := by decide +kernel
theorem dX11_four_4 : decode cX11_four 4 = .ok (.ifCond .lt 35, 3) := by decide +kernel
theorem dX11_four_7 : decode cX11_four 7 = .ok (.aload_n 0, 1) := by decide +kernel
theorem dX11_four_8 : decode cX11_four 8 = .ok (.getfield 45, 3) := by decide +kernel
theorem dX11_four_11 : decode cX11_four 11 = .ok (.aload_n 0, 1) := by decide +kernel
theorem dX11_four_12 : decode cX11_four 12 = .ok (.getfield 152, 3) := by decide +kernel
theorem dX11_four_15 : decode cX11_four 15 = .ok (.iload_n 1, 1) := by decide +kernel
theorem dX11_four_16 : decode cX11_four 16 = .ok (.iload_n 2, 1) := by decide +kernel
theorem dX11_four_17 : decode cX11_four 17 = .ok (.ishr, 1) := by decide +kernel
theorem dX11_four_18 : decode cX11_four 18 = .ok (.sipush 255, 3) := by decide +kernel
theorem dX11_four_21 : decode cX11_four 21 = .ok (.iand, 1) := by decide +kernel
theorem dX11_four_22 : decode cX11_four 22 = .ok (.iastore, 1) := by decide +kernel
theorem dX11_four_23 : decode cX11_four 23 = .ok (.aload_n 0, 1) := by decide +kernel
theorem dX11_four_24 : decode cX11_four 24 = .ok (.dup, 1) := by decide +kernel
theorem dX11_four_25 : decode cX11_four 25 = .ok (.getfield 152, 3) := by decide +kernel
theorem dX11_four_28 : decode cX11_four 28 = .ok (.iconst 1, 1) := by decide +kernel
theorem dX11_four_29 : decode cX11_four 29 = .ok (.iadd, 1) := by decide +kernel
theorem dX11_four_30 : decode cX11_four 30 = .ok (.putfield 152, 3) := by decide +kernel
theorem dX11_four_33 : decode cX11_four 33 = .ok (.iinc 2 (-8), 3) := by decide +kernel
theorem dX11_four_36 : decode cX11_four 36 = .ok (.goto (-33), 3) := by decide +kernel
theorem dX11_four_39 : decode cX11_four 39 = .ok (.return_, 1) := by decide +kernel
theorem dX11_feed_0 : decode cX11_feed 0 = .ok (.aload_n 0, 1) := by decide +kernel
theorem dX11_feed_1 : decode cX11_feed 1 = .ok (.getfield 152, 3) := by decide +kernel
theorem dX11_feed_4 : decode cX11_feed 4 = .ok (.bipush 20, 2) := by decide +kernel
theorem dX11_feed_6 : decode cX11_feed 6 = .ok (.iadd, 1) := by decide +kernel
theorem dX11_feed_7 : decode cX11_feed 7 = .ok (.sipush 200, 3) := by decide +kernel
theorem dX11_feed_10 : decode cX11_feed 10 = .ok (.if_icmp .le 5, 3) := by decide +kernel
theorem dX11_feed_13 : decode cX11_feed 13 = .ok (.iconst (-1), 1) := by decide +kernel
theorem dX11_feed_14 : decode cX11_feed 14 = .ok (.ireturn, 1) := by decide +kernel
theorem dX11_feed_15 : decode cX11_feed 15 = .ok (.aload_n 0, 1) := by decide +kernel
theorem dX11_feed_16 : decode cX11_feed 16 = .ok (.iload_n 1, 1) := by decide +kernel
theorem dX11_feed_17 : decode cX11_feed 17 = .ok (.invokevirtual 155, 3) := by decide +kernel
theorem dX11_feed_20 : decode cX11_feed 20 = .ok (.aload_n 0, 1) := by decide +kernel
theorem dX11_feed_21 : decode cX11_feed 21 = .ok (.iload_n 2, 1) := by decide +kernel
theorem dX11_feed_22 : decode cX11_feed 22 = .ok (.invokevirtual 155, 3) := by decide +kernel
theorem dX11_feed_25 : decode cX11_feed 25 = .ok (.aload_n 0, 1) := by decide +kernel
theorem dX11_feed_26 : decode cX11_feed 26 = .ok (.iload_n 3, 1) := by decide +kernel
theorem dX11_feed_27 : decode cX11_feed 27 = .ok (.invokevirtual 155, 3) := by decide +kernel
theorem dX11_feed_30 : decode cX11_feed 30 = .ok (.aload_n 0, 1) := by decide +kernel
theorem dX11_feed_31 : decode cX11_feed 31 = .ok (.iload 4, 2) := by decide +kernel
theorem dX11_feed_33 : decode cX11_feed 33 = .ok (.invokevirtual 155, 3) := by decide +kernel
theorem dX11_feed_36 : decode cX11_feed 36 = .ok (.aload_n 0, 1) := by decide +kernel
theorem dX11_feed_37 : decode cX11_feed 37 = .ok (.iload 5, 2) := by decide +kernel
theorem dX11_feed_39 : decode cX11_feed 39 = .ok (.invokevirtual 155, 3) := by decide +kernel
theorem dX11_feed_42 : decode cX11_feed 42 = .ok (.aload_n 0, 1) := by decide +kernel
theorem dX11_feed_43 : decode cX11_feed 43 = .ok (.getfield 152, 3) := by decide +kernel
theorem dX11_feed_46 : decode cX11_feed 46 = .ok (.ireturn, 1) := by decide +kernel
theorem dX11_end_0 : decode cX11_end 0 = .ok (.iload_n 1, 1) := by decide +kernel
theorem dX11_end_1 : decode cX11_end 1 = .ok (.i2l, 1) := by decide +kernel
theorem dX11_end_2 : decode cX11_end 2 = .ok (.lconst 0, 1) := by decide +kernel
theorem dX11_end_3 : decode cX11_end 3 = .ok (.aload_n 0, 1) := by decide +kernel
theorem dX11_end_4 : decode cX11_end 4 = .ok (.getfield 152, 3) := by decide +kernel
theorem dX11_end_7 : decode cX11_end 7 = .ok (.i2l, 1) := by decide +kernel
theorem dX11_end_8 : decode cX11_end 8 = .ok (.invokestatic 94, 3) := by decide +kernel
theorem dX11_end_11 : decode cX11_end 11 = .ok (.ifCond .ne 5, 3) := by decide +kernel
theorem dX11_end_14 : decode cX11_end 14 = .ok (.iconst 0, 1) := by decide +kernel
theorem dX11_end_15 : decode cX11_end 15 = .ok (.ireturn, 1) := by decide +kernel
theorem dX11_end_16 : decode cX11_end 16 = .ok (.aload_n 0, 1) := by decide +kernel
theorem dX11_end_17 : decode cX11_end 17 = .ok (.iload_n 1, 1) := by decide +kernel
theorem dX11_end_18 : decode cX11_end 18 = .ok (.putfield 152, 3) := by decide +kernel
theorem dX11_end_21 : decode cX11_end 21 = .ok (.iconst 1, 1) := by decide +kernel
theorem dX11_end_22 : decode cX11_end 22 = .ok (.ireturn, 1) := by decide +kernel
theorem dX11_see_0 : decode cX11_see 0 = .ok (.aload_n 0, 1) := by decide +kernel
theorem dX11_see_1 : decode cX11_see 1 = .ok (.getfield 158, 3) := by decide +kernel
theorem dX11_see_4 : decode cX11_see 4 = .ok (.aload_n 0, 1) := by decide +kernel
theorem dX11_see_5 : decode cX11_see 5 = .ok (.getfield 152, 3) := by decide +kernel
theorem dX11_see_8 : decode cX11_see 8 = .ok (.if_icmp .ge 44, 3) := by decide +kernel
theorem dX11_see_11 : decode cX11_see 11 = .ok (.aload_n 0, 1) := by decide +kernel
theorem dX11_see_12 : decode cX11_see 12 = .ok (.getfield 45, 3) := by decide +kernel
theorem dX11_see_15 : decode cX11_see 15 = .ok (.aload_n 0, 1) := by decide +kernel
theorem dX11_see_16 : decode cX11_see 16 = .ok (.getfield 158, 3) := by decide +kernel
theorem dX11_see_19 : decode cX11_see 19 = .ok (.iaload, 1) := by decide +kernel
theorem dX11_see_20 : decode cX11_see 20 = .ok (.bipush 32, 2) := by decide +kernel
theorem dX11_see_22 : decode cX11_see 22 = .ok (.if_icmp .eq 17, 3) := by decide +kernel
theorem dX11_see_25 : decode cX11_see 25 = .ok (.aload_n 0, 1) := by decide +kernel
theorem dX11_see_26 : decode cX11_see 26 = .ok (.getfield 45, 3) := by decide +kernel
theorem dX11_see_29 : decode cX11_see 29 = .ok (.aload_n 0, 1) := by decide +kernel
theorem dX11_see_30 : decode cX11_see 30 = .ok (.getfield 158, 3) := by decide +kernel
theorem dX11_see_33 : decode cX11_see 33 = .ok (.iaload, 1) := by decide +kernel
theorem dX11_see_34 : decode cX11_see 34 = .ok (.bipush 10, 2) := by decide +kernel
theorem dX11_see_36 : decode cX11_see 36 = .ok (.if_icmp .ne 16, 3) := by decide +kernel
theorem dX11_see_39 : decode cX11_see 39 = .ok (.aload_n 0, 1) := by decide +kernel
theorem dX11_see_40 : decode cX11_see 40 = .ok (.dup, 1) := by decide +kernel
theorem dX11_see_41 : decode cX11_see 41 = .ok (.getfield 158, 3) := by decide +kernel
theorem dX11_see_44 : decode cX11_see 44 = .ok (.iconst 1, 1) := by decide +kernel
theorem dX11_see_45 : decode cX11_see 45 = .ok (.iadd, 1) := by decide +kernel
theorem dX11_see_46 : decode cX11_see 46 = .ok (.putfield 158, 3) := by decide +kernel
theorem dX11_see_49 : decode cX11_see 49 = .ok (.goto (-49), 3) := by decide +kernel
theorem dX11_see_52 : decode cX11_see 52 = .ok (.aload_n 0, 1) := by decide +kernel
theorem dX11_see_53 : decode cX11_see 53 = .ok (.getfield 158, 3) := by decide +kernel
theorem dX11_see_56 : decode cX11_see 56 = .ok (.aload_n 0, 1) := by decide +kernel
theorem dX11_see_57 : decode cX11_see 57 = .ok (.getfield 152, 3) := by decide +kernel
theorem dX11_see_60 : decode cX11_see 60 = .ok (.if_icmp .ge 15, 3) := by decide +kernel
theorem dX11_see_63 : decode cX11_see 63 = .ok (.aload_n 0, 1) := by decide +kernel
theorem dX11_see_64 : decode cX11_see 64 = .ok (.getfield 45, 3) := by decide +kernel
theorem dX11_see_67 : decode cX11_see 67 = .ok (.aload_n 0, 1) := by decide +kernel
theorem dX11_see_68 : decode cX11_see 68 = .ok (.getfield 158, 3) := by decide +kernel
theorem dX11_see_71 : decode cX11_see 71 = .ok (.iaload, 1) := by decide +kernel
theorem dX11_see_72 : decode cX11_see 72 = .ok (.goto 4, 3) := by decide +kernel
theorem dX11_see_75 : decode cX11_see 75 = .ok (.iconst (-1), 1) := by decide +kernel
theorem dX11_see_76 : decode cX11_see 76 = .ok (.ireturn, 1) := by decide +kernel
theorem dX11_fails_0 : decode cX11_fails 0 = .ok (.aload_n 0, 1) := by decide +kernel
theorem dX11_fails_1 : decode cX11_fails 1 = .ok (.getfield 161, 3) := by decide +kernel
theorem dX11_fails_4 : decode cX11_fails 4 = .ok (.ifCond .eq 4, 3) := by decide +kernel
theorem dX11_fails_7 : decode cX11_fails 7 = .ok (.return_, 1) := by decide +kernel
theorem dX11_fails_8 : decode cX11_fails 8 = .ok (.aload_n 0, 1) := by decide +kernel
theorem dX11_fails_9 : decode cX11_fails 9 = .ok (.iload_n 1, 1) := by decide +kernel
theorem dX11_fails_10 : decode cX11_fails 10 = .ok (.putfield 161, 3) := by decide +kernel
theorem dX11_fails_13 : decode cX11_fails 13 = .ok (.aload_n 0, 1) := by decide +kernel
theorem dX11_fails_14 : decode cX11_fails 14 = .ok (.iload_n 2, 1) := by decide +kernel
theorem dX11_fails_15 : decode cX11_fails 15 = .ok (.putfield 164, 3) := by decide +kernel
theorem dX11_fails_18 : decode cX11_fails 18 = .ok (.return_, 1) := by decide +kernel
theorem dX11_isDigit_0 : decode cX11_isDigit 0 = .ok (.iload_n 1, 1) := by decide +kernel
theorem dX11_isDigit_1 : decode cX11_isDigit 1 = .ok (.aload_n 0, 1) := by decide +kernel
theorem dX11_isDigit_2 : decode cX11_isDigit 2 = .ok (.getfield 152, 3) := by decide +kernel
theorem dX11_isDigit_5 : decode cX11_isDigit 5 = .ok (.if_icmp .ge 26, 3) := by decide +kernel
theorem dX11_isDigit_8 : decode cX11_isDigit 8 = .ok (.aload_n 0, 1) := by decide +kernel
theorem dX11_isDigit_9 : decode cX11_isDigit 9 = .ok (.getfield 45, 3) := by decide +kernel
theorem dX11_isDigit_12 : decode cX11_isDigit 12 = .ok (.iload_n 1, 1) := by decide +kernel
theorem dX11_isDigit_13 : decode cX11_isDigit 13 = .ok (.iaload, 1) := by decide +kernel
theorem dX11_isDigit_14 : decode cX11_isDigit 14 = .ok (.i2l, 1) := by decide +kernel
theorem dX11_isDigit_15 : decode cX11_isDigit 15 = .ok (.ldc2_w 167, 3) := by decide +kernel
theorem dX11_isDigit_18 : decode cX11_isDigit 18 = .ok (.ldc2_w 169, 3) := by decide +kernel
theorem dX11_isDigit_21 : decode cX11_isDigit 21 = .ok (.invokestatic 94, 3) := by decide +kernel
theorem dX11_isDigit_24 : decode cX11_isDigit 24 = .ok (.ifCond .eq 7, 3) := by decide +kernel
theorem dX11_isDigit_27 : decode cX11_isDigit 27 = .ok (.iconst 1, 1) := by decide +kernel
theorem dX11_isDigit_28 : decode cX11_isDigit 28 = .ok (.goto 4, 3) := by decide +kernel
theorem dX11_isDigit_31 : decode cX11_isDigit 31 = .ok (.iconst 0, 1) := by decide +kernel
theorem dX11_isDigit_32 : decode cX11_isDigit 32 = .ok (.ireturn, 1) := by decide +kernel
theorem dX11_readNumber_0 : decode cX11_readNumber 0 = .ok (.aload_n 0, 1) := by decide +kernel
theorem dX11_readNumber_1 : decode cX11_readNumber 1 = .ok (.aload_n 0, 1) := by decide +kernel
theorem dX11_readNumber_2 : decode cX11_readNumber 2 = .ok (.getfield 158, 3) := by decide +kernel
theorem dX11_readNumber_5 : decode cX11_readNumber 5 = .ok (.putfield 171, 3) := by decide +kernel
theorem dX11_readNumber_8 : decode cX11_readNumber 8 = .ok (.aload_n 0, 1) := by decide +kernel
theorem dX11_readNumber_9 : decode cX11_readNumber 9 = .ok (.iconst 0, 1) := by decide +kernel
theorem dX11_readNumber_10 : decode cX11_readNumber 10 = .ok (.putfield 174, 3) := by decide +kernel
theorem dX11_readNumber_13 : decode cX11_readNumber 13 = .ok (.aload_n 0, 1) := by decide +kernel
theorem dX11_readNumber_14 : decode cX11_readNumber 14 = .ok (.aload_n 0, 1) := by decide +kernel
theorem dX11_readNumber_15 : decode cX11_readNumber 15 = .ok (.getfield 158, 3) := by decide +kernel
theorem dX11_readNumber_18 : decode cX11_readNumber 18 = .ok (.invokevirtual 177, 3) := by decide +kernel
theorem dX11_readNumber_21 : decode cX11_readNumber 21 = .ok (.ifCond .eq 45, 3) := by decide +kernel
theorem dX11_readNumber_24 : decode cX11_readNumber 24 = .ok (.aload_n 0, 1) := by decide +kernel
theorem dX11_readNumber_25 : decode cX11_readNumber 25 = .ok (.bipush 100, 2) := by decide +kernel
theorem dX11_readNumber_27 : decode cX11_readNumber 27 = .ok (.bipush 10, 2) := by decide +kernel
theorem dX11_readNumber_29 : decode cX11_readNumber 29 = .ok (.aload_n 0, 1) := by decide +kernel
theorem dX11_readNumber_30 : decode cX11_readNumber 30 = .ok (.getfield 174, 3) := by decide +kernel
theorem dX11_readNumber_33 : decode cX11_readNumber 33 = .ok (.imul, 1) := by decide +kernel
theorem dX11_readNumber_34 : decode cX11_readNumber 34 = .ok (.aload_n 0, 1) := by decide +kernel
theorem dX11_readNumber_35 : decode cX11_readNumber 35 = .ok (.getfield 45, 3) := by decide +kernel
theorem dX11_readNumber_38 : decode cX11_readNumber 38 = .ok (.aload_n 0, 1) := by decide +kernel
theorem dX11_readNumber_39 : decode cX11_readNumber 39 = .ok (.getfield 158, 3) := by decide +kernel
theorem dX11_readNumber_42 : decode cX11_readNumber 42 = .ok (.iaload, 1) := by decide +kernel
theorem dX11_readNumber_43 : decode cX11_readNumber 43 = .ok (.iadd, 1) := by decide +kernel
theorem dX11_readNumber_44 : decode cX11_readNumber 44 = .ok (.bipush 48, 2) := by decide +kernel
theorem dX11_readNumber_46 : decode cX11_readNumber 46 = .ok (.isub, 1) := by decide +kernel
theorem dX11_readNumber_47 : decode cX11_readNumber 47 = .ok (.invokestatic 181, 3) := by decide +kernel
theorem dX11_readNumber_50 : decode cX11_readNumber 50 = .ok (.putfield 174, 3) := by decide +kernel
theorem dX11_readNumber_53 : decode cX11_readNumber 53 = .ok (.aload_n 0, 1) := by decide +kernel
theorem dX11_readNumber_54 : decode cX11_readNumber 54 = .ok (.dup, 1) := by decide +kernel
theorem dX11_readNumber_55 : decode cX11_readNumber 55 = .ok (.getfield 158, 3) := by decide +kernel
theorem dX11_readNumber_58 : decode cX11_readNumber 58 = .ok (.iconst 1, 1) := by decide +kernel
theorem dX11_readNumber_59 : decode cX11_readNumber 59 = .ok (.iadd, 1) := by decide +kernel
theorem dX11_readNumber_60 : decode cX11_readNumber 60 = .ok (.putfield 158, 3) := by decide +kernel
theorem dX11_readNumber_63 : decode cX11_readNumber 63 = .ok (.goto (-50), 3) := by decide +kernel
theorem dX11_readNumber_66 : decode cX11_readNumber 66 = .ok (.return_, 1) := by decide +kernel
theorem dX11_comes_0 : decode cX11_comes 0 = .ok (.aload_n 0, 1) := by decide +kernel
theorem dX11_comes_1 : decode cX11_comes 1 = .ok (.getfield 187, 3) := by decide +kernel
theorem dX11_comes_4 : decode cX11_comes 4 = .ok (.bipush 24, 2) := by decide +kernel
theorem dX11_comes_6 : decode cX11_comes 6 = .ok (.if_icmp .ge 33, 3) := by decide +kernel
theorem dX11_comes_9 : decode cX11_comes 9 = .ok (.aload_n 0, 1) := by decide +kernel
theorem dX11_comes_10 : decode cX11_comes 10 = .ok (.getfield 51, 3) := by decide +kernel
theorem dX11_comes_13 : decode cX11_comes 13 = .ok (.aload_n 0, 1) := by decide +kernel
theorem dX11_comes_14 : decode cX11_comes 14 = .ok (.getfield 187, 3) := by decide +kernel
theorem dX11_comes_17 : decode cX11_comes 17 = .ok (.iload_n 1, 1) := by decide +kernel
theorem dX11_comes_18 : decode cX11_comes 18 = .ok (.iastore, 1) := by decide +kernel
theorem dX11_comes_19 : decode cX11_comes 19 = .ok (.aload_n 0, 1) := by decide +kernel
theorem dX11_comes_20 : decode cX11_comes 20 = .ok (.getfield 54, 3) := by decide +kernel
theorem dX11_comes_23 : decode cX11_comes 23 = .ok (.aload_n 0, 1) := by decide +kernel
theorem dX11_comes_24 : decode cX11_comes 24 = .ok (.getfield 187, 3) := by decide +kernel
theorem dX11_comes_27 : decode cX11_comes 27 = .ok (.iload_n 2, 1) := by decide +kernel
theorem dX11_comes_28 : decode cX11_comes 28 = .ok (.iastore, 1) := by decide +kernel
theorem dX11_comes_29 : decode cX11_comes 29 = .ok (.aload_n 0, 1) := by decide +kernel
theorem dX11_comes_30 : decode cX11_comes 30 = .ok (.getfield 57, 3) := by decide +kernel
theorem dX11_comes_33 : decode cX11_comes 33 = .ok (.aload_n 0, 1) := by decide +kernel
theorem dX11_comes_34 : decode cX11_comes 34 = .ok (.getfield 187, 3) := by decide +kernel
theorem dX11_comes_37 : decode cX11_comes 37 = .ok (.iload_n 3, 1) := by decide +kernel
theorem dX11_comes_38 : decode cX11_comes 38 = .ok (.iastore, 1) := by decide +kernel
theorem dX11_comes_39 : decode cX11_comes 39 = .ok (.aload_n 0, 1) := by decide +kernel
theorem dX11_comes_40 : decode cX11_comes 40 = .ok (.iconst 1, 1) := by decide +kernel
theorem dX11_comes_41 : decode cX11_comes 41 = .ok (.invokevirtual 190, 3) := by decide +kernel
theorem dX11_comes_44 : decode cX11_comes 44 = .ok (.return_, 1) := by decide +kernel
theorem dX11_counts_0 : decode cX11_counts 0 = .ok (.aload_n 0, 1) := by decide +kernel
theorem dX11_counts_1 : decode cX11_counts 1 = .ok (.ldc 193, 2) := by decide +kernel
theorem dX11_counts_3 : decode cX11_counts 3 = .ok (.aload_n 0, 1) := by decide +kernel
theorem dX11_counts_4 : decode cX11_counts 4 = .ok (.getfield 187, 3) := by decide +kernel
theorem dX11_counts_7 : decode cX11_counts 7 = .ok (.iload_n 1, 1) := by decide +kernel
theorem dX11_counts_8 : decode cX11_counts 8 = .ok (.iadd, 1) := by decide +kernel
theorem dX11_counts_9 : decode cX11_counts 9 = .ok (.invokestatic 181, 3) := by decide +kernel
theorem dX11_counts_12 : decode cX11_counts 12 = .ok (.putfield 187, 3) := by decide +kernel
theorem dX11_counts_15 : decode cX11_counts 15 = .ok (.aload_n 0, 1) := by decide +kernel
theorem dX11_counts_16 : decode cX11_counts 16 = .ok (.getfield 187, 3) := by decide +kernel
theorem dX11_counts_19 : decode cX11_counts 19 = .ok (.bipush 24, 2) := by decide +kernel
theorem dX11_counts_21 : decode cX11_counts 21 = .ok (.if_icmp .le 19, 3) := by decide +kernel
theorem dX11_counts_24 : decode cX11_counts 24 = .ok (.aload_n 0, 1) := by decide +kernel
theorem dX11_counts_25 : decode cX11_counts 25 = .ok (.getfield 194, 3) := by decide +kernel
theorem dX11_counts_28 : decode cX11_counts 28 = .ok (.iconst (-1), 1) := by decide +kernel
theorem dX11_counts_29 : decode cX11_counts 29 = .ok (.if_icmp .ne 11, 3) := by decide +kernel
theorem dX11_counts_32 : decode cX11_counts 32 = .ok (.aload_n 0, 1) := by decide +kernel
theorem dX11_counts_33 : decode cX11_counts 33 = .ok (.aload_n 0, 1) := by decide +kernel
theorem dX11_counts_34 : decode cX11_counts 34 = .ok (.getfield 197, 3) := by decide +kernel
theorem dX11_counts_37 : decode cX11_counts 37 = .ok (.putfield 194, 3) := by decide +kernel
theorem dX11_counts_40 : decode cX11_counts 40 = .ok (.return_, 1) := by decide +kernel
theorem dX11_shuts_0 : decode cX11_shuts 0 = .ok (.aload_n 0, 1) := by decide +kernel
theorem dX11_shuts_1 : decode cX11_shuts 1 = .ok (.dup, 1) := by decide +kernel
theorem dX11_shuts_2 : decode cX11_shuts 2 = .ok (.getfield 200, 3) := by decide +kernel
theorem dX11_shuts_5 : decode cX11_shuts 5 = .ok (.iconst 1, 1) := by decide +kernel
theorem dX11_shuts_6 : decode cX11_shuts 6 = .ok (.isub, 1) := by decide +kernel
theorem dX11_shuts_7 : decode cX11_shuts 7 = .ok (.putfield 200, 3) := by decide +kernel
theorem dX11_shuts_10 : decode cX11_shuts 10 = .ok (.aload_n 0, 1) := by decide +kernel
theorem dX11_shuts_11 : decode cX11_shuts 11 = .ok (.getfield 187, 3) := by decide +kernel
theorem dX11_shuts_14 : decode cX11_shuts 14 = .ok (.aload_n 0, 1) := by decide +kernel
theorem dX11_shuts_15 : decode cX11_shuts 15 = .ok (.getfield 63, 3) := by decide +kernel
theorem dX11_shuts_18 : decode cX11_shuts 18 = .ok (.aload_n 0, 1) := by decide +kernel
theorem dX11_shuts_19 : decode cX11_shuts 19 = .ok (.getfield 200, 3) := by decide +kernel
theorem dX11_shuts_22 : decode cX11_shuts 22 = .ok (.iaload, 1) := by decide +kernel
theorem dX11_shuts_23 : decode cX11_shuts 23 = .ok (.isub, 1) := by decide +kernel
theorem dX11_shuts_24 : decode cX11_shuts 24 = .ok (.istore_n 1, 1) := by decide +kernel
theorem dX11_shuts_25 : decode cX11_shuts 25 = .ok (.aload_n 0, 1) := by decide +kernel
theorem dX11_shuts_26 : decode cX11_shuts 26 = .ok (.getfield 63, 3) := by decide +kernel
theorem dX11_shuts_29 : decode cX11_shuts 29 = .ok (.aload_n 0, 1) := by decide +kernel
theorem dX11_shuts_30 : decode cX11_shuts 30 = .ok (.getfield 200, 3) := by decide +kernel
theorem dX11_shuts_33 : decode cX11_shuts 33 = .ok (.iaload, 1) := by decide +kernel
theorem dX11_shuts_34 : decode cX11_shuts 34 = .ok (.istore_n 2, 1) := by decide +kernel
theorem dX11_shuts_35 : decode cX11_shuts 35 = .ok (.iconst 1, 1) := by decide +kernel
theorem dX11_shuts_36 : decode cX11_shuts 36 = .ok (.istore_n 3, 1) := by decide +kernel
theorem dX11_shuts_37 : decode cX11_shuts 37 = .ok (.iload_n 3, 1) := by decide +kernel
theorem dX11_shuts_38 : decode cX11_shuts 38 = .ok (.aload_n 0, 1) := by decide +kernel
theorem dX11_shuts_39 : decode cX11_shuts 39 = .ok (.getfield 60, 3) := by decide +kernel
theorem dX11_shuts_42 : decode cX11_shuts 42 = .ok (.aload_n 0, 1) := by decide +kernel
theorem dX11_shuts_43 : decode cX11_shuts 43 = .ok (.getfield 200, 3) := by decide +kernel
theorem dX11_shuts_46 : decode cX11_shuts 46 = .ok (.iaload, 1) := by decide +kernel
theorem dX11_shuts_47 : decode cX11_shuts 47 = .ok (.if_icmp .ge 104, 3) := by decide +kernel
theorem dX11_shuts_50 : decode cX11_shuts 50 = .ok (.iconst 0, 1) := by decide +kernel
theorem dX11_shuts_51 : decode cX11_shuts 51 = .ok (.istore 4, 2) := by decide +kernel
theorem dX11_shuts_53 : decode cX11_shuts 53 = .ok (.iload 4, 2) := by decide +kernel
theorem dX11_shuts_55 : decode cX11_shuts 55 = .ok (.iload_n 1, 1) := by decide +kernel
theorem dX11_shuts_56 : decode cX11_shuts 56 = .ok (.if_icmp .ge 84, 3) := by decide +kernel
theorem dX11_shuts_59 : decode cX11_shuts 59 = .ok (.aload_n 0, 1) := by decide +kernel
theorem dX11_shuts_60 : decode cX11_shuts 60 = .ok (.getfield 187, 3) := by decide +kernel
theorem dX11_shuts_63 : decode cX11_shuts 63 = .ok (.iload 4, 2) := by decide +kernel
theorem dX11_shuts_65 : decode cX11_shuts 65 = .ok (.iadd, 1) := by decide +kernel
theorem dX11_shuts_66 : decode cX11_shuts 66 = .ok (.bipush 24, 2) := by decide +kernel
theorem dX11_shuts_68 : decode cX11_shuts 68 = .ok (.if_icmp .ge 72, 3) := by decide +kernel
theorem dX11_shuts_71 : decode cX11_shuts 71 = .ok (.aload_n 0, 1) := by decide +kernel
theorem dX11_shuts_72 : decode cX11_shuts 72 = .ok (.getfield 51, 3) := by decide +kernel
theorem dX11_shuts_75 : decode cX11_shuts 75 = .ok (.aload_n 0, 1) := by decide +kernel
theorem dX11_shuts_76 : decode cX11_shuts 76 = .ok (.getfield 187, 3) := by decide +kernel
theorem dX11_shuts_79 : decode cX11_shuts 79 = .ok (.iload 4, 2) := by decide +kernel
theorem dX11_shuts_81 : decode cX11_shuts 81 = .ok (.iadd, 1) := by decide +kernel
theorem dX11_shuts_82 : decode cX11_shuts 82 = .ok (.aload_n 0, 1) := by decide +kernel
theorem dX11_shuts_83 : decode cX11_shuts 83 = .ok (.getfield 51, 3) := by decide +kernel
theorem dX11_shuts_86 : decode cX11_shuts 86 = .ok (.iload_n 2, 1) := by decide +kernel
theorem dX11_shuts_87 : decode cX11_shuts 87 = .ok (.iload 4, 2) := by decide +kernel
theorem dX11_shuts_89 : decode cX11_shuts 89 = .ok (.iadd, 1) := by decide +kernel
theorem dX11_shuts_90 : decode cX11_shuts 90 = .ok (.iaload, 1) := by decide +kernel
theorem dX11_shuts_91 : decode cX11_shuts 91 = .ok (.iastore, 1) := by decide +kernel
theorem dX11_shuts_92 : decode cX11_shuts 92 = .ok (.aload_n 0, 1) := by decide +kernel
theorem dX11_shuts_93 : decode cX11_shuts 93 = .ok (.getfield 54, 3) := by decide +kernel
theorem dX11_shuts_96 : decode cX11_shuts 96 = .ok (.aload_n 0, 1) := by decide +kernel
theorem dX11_shuts_97 : decode cX11_shuts 97 = .ok (.getfield 187, 3) := by decide +kernel
theorem dX11_shuts_100 : decode cX11_shuts 100 = .ok (.iload 4, 2) := by decide +kernel
theorem dX11_shuts_102 : decode cX11_shuts 102 = .ok (.iadd, 1) := by decide +kernel
theorem dX11_shuts_103 : decode cX11_shuts 103 = .ok (.aload_n 0, 1) := by decide +kernel
theorem dX11_shuts_104 : decode cX11_shuts 104 = .ok (.getfield 54, 3) := by decide +kernel
theorem dX11_shuts_107 : decode cX11_shuts 107 = .ok (.iload_n 2, 1) := by decide +kernel
theorem dX11_shuts_108 : decode cX11_shuts 108 = .ok (.iload 4, 2) := by decide +kernel
theorem dX11_shuts_110 : decode cX11_shuts 110 = .ok (.iadd, 1) := by decide +kernel
theorem dX11_shuts_111 : decode cX11_shuts 111 = .ok (.iaload, 1) := by decide +kernel
theorem dX11_shuts_112 : decode cX11_shuts 112 = .ok (.iastore, 1) := by decide +kernel
theorem dX11_shuts_113 : decode cX11_shuts 113 = .ok (.aload_n 0, 1) := by decide +kernel
theorem dX11_shuts_114 : decode cX11_shuts 114 = .ok (.getfield 57, 3) := by decide +kernel
theorem dX11_shuts_117 : decode cX11_shuts 117 = .ok (.aload_n 0, 1) := by decide +kernel
theorem dX11_shuts_118 : decode cX11_shuts 118 = .ok (.getfield 187, 3) := by decide +kernel
theorem dX11_shuts_121 : decode cX11_shuts 121 = .ok (.iload 4, 2) := by decide +kernel
theorem dX11_shuts_123 : decode cX11_shuts 123 = .ok (.iadd, 1) := by decide +kernel
theorem dX11_shuts_124 : decode cX11_shuts 124 = .ok (.aload_n 0, 1) := by decide +kernel
theorem dX11_shuts_125 : decode cX11_shuts 125 = .ok (.getfield 57, 3) := by decide +kernel
theorem dX11_shuts_128 : decode cX11_shuts 128 = .ok (.iload_n 2, 1) := by decide +kernel
theorem dX11_shuts_129 : decode cX11_shuts 129 = .ok (.iload 4, 2) := by decide +kernel
theorem dX11_shuts_131 : decode cX11_shuts 131 = .ok (.iadd, 1) := by decide +kernel
theorem dX11_shuts_132 : decode cX11_shuts 132 = .ok (.iaload, 1) := by decide +kernel
theorem dX11_shuts_133 : decode cX11_shuts 133 = .ok (.iastore, 1) := by decide +kernel
theorem dX11_shuts_134 : decode cX11_shuts 134 = .ok (.iinc 4 1, 3) := by decide +kernel
theorem dX11_shuts_137 : decode cX11_shuts 137 = .ok (.goto (-84), 3) := by decide +kernel
theorem dX11_shuts_140 : decode cX11_shuts 140 = .ok (.aload_n 0, 1) := by decide +kernel
theorem dX11_shuts_141 : decode cX11_shuts 141 = .ok (.iload_n 1, 1) := by decide +kernel
theorem dX11_shuts_142 : decode cX11_shuts 142 = .ok (.invokevirtual 190, 3) := by decide +kernel
theorem dX11_shuts_145 : decode cX11_shuts 145 = .ok (.iinc 3 1, 3) := by decide +kernel
theorem dX11_shuts_148 : decode cX11_shuts 148 = .ok (.goto (-111), 3) := by decide +kernel
theorem dX11_shuts_151 : decode cX11_shuts 151 = .ok (.return_, 1) := by decide +kernel
theorem dX11_readBehind_0 : decode cX11_readBehind 0 = .ok (.aload_n 0, 1) := by decide +kernel
theorem dX11_readBehind_1 : decode cX11_readBehind 1 = .ok (.invokevirtual 203, 3) := by decide +kernel
theorem dX11_readBehind_4 : decode cX11_readBehind 4 = .ok (.istore_n 2, 1) := by decide +kernel
theorem dX11_readBehind_5 : decode cX11_readBehind 5 = .ok (.iload_n 2, 1) := by decide +kernel
theorem dX11_readBehind_6 : decode cX11_readBehind 6 = .ok (.bipush 104, 2) := by decide +kernel
theorem dX11_readBehind_8 : decode cX11_readBehind 8 = .ok (.if_icmp .ne 21, 3) := by decide +kernel
theorem dX11_readBehind_11 : decode cX11_readBehind 11 = .ok (.aload_n 0, 1) := by decide +kernel
theorem dX11_readBehind_12 : decode cX11_readBehind 12 = .ok (.dup, 1) := by decide +kernel
theorem dX11_readBehind_13 : decode cX11_readBehind 13 = .ok (.getfield 158, 3) := by decide +kernel
theorem dX11_readBehind_16 : decode cX11_readBehind 16 = .ok (.iconst 1, 1) := by decide +kernel
theorem dX11_readBehind_17 : decode cX11_readBehind 17 = .ok (.iadd, 1) := by decide +kernel
theorem dX11_readBehind_18 : decode cX11_readBehind 18 = .ok (.putfield 158, 3) := by decide +kernel
theorem dX11_readBehind_21 : decode cX11_readBehind 21 = .ok (.aload_n 0, 1) := by decide +kernel
theorem dX11_readBehind_22 : decode cX11_readBehind 22 = .ok (.iload_n 1, 1) := by decide +kernel
theorem dX11_readBehind_23 : decode cX11_readBehind 23 = .ok (.iconst 1, 1) := by decide +kernel
theorem dX11_readBehind_24 : decode cX11_readBehind 24 = .ok (.iconst 0, 1) := by decide +kernel
theorem dX11_readBehind_25 : decode cX11_readBehind 25 = .ok (.invokevirtual 207, 3) := by decide +kernel
theorem dX11_readBehind_28 : decode cX11_readBehind 28 = .ok (.return_, 1) := by decide +kernel
theorem dX11_readBehind_29 : decode cX11_readBehind 29 = .ok (.aload_n 0, 1) := by decide +kernel
theorem dX11_readBehind_30 : decode cX11_readBehind 30 = .ok (.aload_n 0, 1) := by decide +kernel
theorem dX11_readBehind_31 : decode cX11_readBehind 31 = .ok (.getfield 158, 3) := by decide +kernel
theorem dX11_readBehind_34 : decode cX11_readBehind 34 = .ok (.invokevirtual 177, 3) := by decide +kernel
theorem dX11_readBehind_37 : decode cX11_readBehind 37 = .ok (.ifCond .ne 11, 3) := by decide +kernel
theorem dX11_readBehind_40 : decode cX11_readBehind 40 = .ok (.aload_n 0, 1) := by decide +kernel
theorem dX11_readBehind_41 : decode cX11_readBehind 41 = .ok (.iload_n 1, 1) := by decide +kernel
theorem dX11_readBehind_42 : decode cX11_readBehind 42 = .ok (.iconst 1, 1) := by decide +kernel
theorem dX11_readBehind_43 : decode cX11_readBehind 43 = .ok (.iconst 1, 1) := by decide +kernel
theorem dX11_readBehind_44 : decode cX11_readBehind 44 = .ok (.invokevirtual 207, 3) := by decide +kernel
theorem dX11_readBehind_47 : decode cX11_readBehind 47 = .ok (.return_, 1) := by decide +kernel
theorem dX11_readBehind_48 : decode cX11_readBehind 48 = .ok (.aload_n 0, 1) := by decide +kernel
theorem dX11_readBehind_49 : decode cX11_readBehind 49 = .ok (.getfield 158, 3) := by decide +kernel
theorem dX11_readBehind_52 : decode cX11_readBehind 52 = .ok (.istore_n 3, 1) := by decide +kernel
theorem dX11_readBehind_53 : decode cX11_readBehind 53 = .ok (.aload_n 0, 1) := by decide +kernel
theorem dX11_readBehind_54 : decode cX11_readBehind 54 = .ok (.invokevirtual 210, 3) := by decide +kernel
theorem dX11_readBehind_57 : decode cX11_readBehind 57 = .ok (.aload_n 0, 1) := by decide +kernel
theorem dX11_readBehind_58 : decode cX11_readBehind 58 = .ok (.invokevirtual 203, 3) := by decide +kernel
theorem dX11_readBehind_61 : decode cX11_readBehind 61 = .ok (.bipush 47, 2) := by decide +kernel
theorem dX11_readBehind_63 : decode cX11_readBehind 63 = .ok (.if_icmp .eq 16, 3) := by decide +kernel
theorem dX11_readBehind_66 : decode cX11_readBehind 66 = .ok (.aload_n 0, 1) := by decide +kernel
theorem dX11_readBehind_67 : decode cX11_readBehind 67 = .ok (.iload_n 3, 1) := by decide +kernel
theorem dX11_readBehind_68 : decode cX11_readBehind 68 = .ok (.putfield 158, 3) := by decide +kernel
theorem dX11_readBehind_71 : decode cX11_readBehind 71 = .ok (.aload_n 0, 1) := by decide +kernel
theorem dX11_readBehind_72 : decode cX11_readBehind 72 = .ok (.iload_n 1, 1) := by decide +kernel
theorem dX11_readBehind_73 : decode cX11_readBehind 73 = .ok (.iconst 1, 1) := by decide +kernel
theorem dX11_readBehind_74 : decode cX11_readBehind 74 = .ok (.iconst 1, 1) := by decide +kernel
theorem dX11_readBehind_75 : decode cX11_readBehind 75 = .ok (.invokevirtual 207, 3) := by decide +kernel
theorem dX11_readBehind_78 : decode cX11_readBehind 78 = .ok (.return_, 1) := by decide +kernel
theorem dX11_readBehind_79 : decode cX11_readBehind 79 = .ok (.aload_n 0, 1) := by decide +kernel
theorem dX11_readBehind_80 : decode cX11_readBehind 80 = .ok (.getfield 174, 3) := by decide +kernel
theorem dX11_readBehind_83 : decode cX11_readBehind 83 = .ok (.istore 4, 2) := by decide +kernel
theorem dX11_readBehind_85 : decode cX11_readBehind 85 = .ok (.iload 4, 2) := by decide +kernel
theorem dX11_readBehind_87 : decode cX11_readBehind 87 = .ok (.bipush 6, 2) := by decide +kernel
theorem dX11_readBehind_89 : decode cX11_readBehind 89 = .ok (.if_icmp .le 13, 3) := by decide +kernel
theorem dX11_readBehind_92 : decode cX11_readBehind 92 = .ok (.aload_n 0, 1) := by decide +kernel
theorem dX11_readBehind_93 : decode cX11_readBehind 93 = .ok (.iconst 2, 1) := by decide +kernel
theorem dX11_readBehind_94 : decode cX11_readBehind 94 = .ok (.aload_n 0, 1) := by decide +kernel
theorem dX11_readBehind_95 : decode cX11_readBehind 95 = .ok (.getfield 171, 3) := by decide +kernel
theorem dX11_readBehind_98 : decode cX11_readBehind 98 = .ok (.invokevirtual 213, 3) := by decide +kernel
theorem dX11_readBehind_101 : decode cX11_readBehind 101 = .ok (.return_, 1) := by decide +kernel
theorem dX11_readBehind_102 : decode cX11_readBehind 102 = .ok (.aload_n 0, 1) := by decide +kernel
theorem dX11_readBehind_103 : decode cX11_readBehind 103 = .ok (.dup, 1) := by decide +kernel
theorem dX11_readBehind_104 : decode cX11_readBehind 104 = .ok (.getfield 158, 3) := by decide +kernel
theorem dX11_readBehind_107 : decode cX11_readBehind 107 = .ok (.iconst 1, 1) := by decide +kernel
theorem dX11_readBehind_108 : decode cX11_readBehind 108 = .ok (.iadd, 1) := by decide +kernel
theorem dX11_readBehind_109 : decode cX11_readBehind 109 = .ok (.putfield 158, 3) := by decide +kernel
theorem dX11_readBehind_112 : decode cX11_readBehind 112 = .ok (.aload_n 0, 1) := by decide +kernel
theorem dX11_readBehind_113 : decode cX11_readBehind 113 = .ok (.invokevirtual 203, 3) := by decide +kernel
theorem dX11_readBehind_116 : decode cX11_readBehind 116 = .ok (.pop, 1) := by decide +kernel
theorem dX11_readBehind_117 : decode cX11_readBehind 117 = .ok (.aload_n 0, 1) := by decide +kernel
theorem dX11_readBehind_118 : decode cX11_readBehind 118 = .ok (.aload_n 0, 1) := by decide +kernel
theorem dX11_readBehind_119 : decode cX11_readBehind 119 = .ok (.getfield 158, 3) := by decide +kernel
theorem dX11_readBehind_122 : decode cX11_readBehind 122 = .ok (.invokevirtual 177, 3) := by decide +kernel
theorem dX11_readBehind_125 : decode cX11_readBehind 125 = .ok (.ifCond .ne 13, 3) := by decide +kernel
theorem dX11_readBehind_128 : decode cX11_readBehind 128 = .ok (.aload_n 0, 1) := by decide +kernel
theorem dX11_readBehind_129 : decode cX11_readBehind 129 = .ok (.iconst 1, 1) := by decide +kernel
theorem dX11_readBehind_130 : decode cX11_readBehind 130 = .ok (.aload_n 0, 1) := by decide +kernel
theorem dX11_readBehind_131 : decode cX11_readBehind 131 = .ok (.getfield 158, 3) := by decide +kernel
theorem dX11_readBehind_134 : decode cX11_readBehind 134 = .ok (.invokevirtual 213, 3) := by decide +kernel
theorem dX11_readBehind_137 : decode cX11_readBehind 137 = .ok (.return_, 1) := by decide +kernel
theorem dX11_readBehind_138 : decode cX11_readBehind 138 = .ok (.aload_n 0, 1) := by decide +kernel
theorem dX11_readBehind_139 : decode cX11_readBehind 139 = .ok (.invokevirtual 210, 3) := by decide +kernel
theorem dX11_readBehind_142 : decode cX11_readBehind 142 = .ok (.aload_n 0, 1) := by decide +kernel
theorem dX11_readBehind_143 : decode cX11_readBehind 143 = .ok (.getfield 174, 3) := by decide +kernel
theorem dX11_readBehind_146 : decode cX11_readBehind 146 = .ok (.i2l, 1) := by decide +kernel
theorem dX11_readBehind_147 : decode cX11_readBehind 147 = .ok (.lconst 1, 1) := by decide +kernel
theorem dX11_readBehind_148 : decode cX11_readBehind 148 = .ok (.ldc2_w 124, 3) := by decide +kernel
theorem dX11_readBehind_151 : decode cX11_readBehind 151 = .ok (.invokestatic 94, 3) := by decide +kernel
theorem dX11_readBehind_154 : decode cX11_readBehind 154 = .ok (.ifCond .ne 15, 3) := by decide +kernel
theorem dX11_readBehind_157 : decode cX11_readBehind 157 = .ok (.aload_n 0, 1) := by decide +kernel
theorem dX11_readBehind_158 : decode cX11_readBehind 158 = .ok (.iconst 2, 1) := by decide +kernel
theorem dX11_readBehind_159 : decode cX11_readBehind 159 = .ok (.aload_n 0, 1) := by decide +kernel
theorem dX11_readBehind_160 : decode cX11_readBehind 160 = .ok (.getfield 171, 3) := by decide +kernel
theorem dX11_readBehind_163 : decode cX11_readBehind 163 = .ok (.invokevirtual 213, 3) := by decide +kernel
theorem dX11_readBehind_166 : decode cX11_readBehind 166 = .ok (.goto 14, 3) := by decide +kernel
theorem dX11_readBehind_169 : decode cX11_readBehind 169 = .ok (.aload_n 0, 1) := by decide +kernel
theorem dX11_readBehind_170 : decode cX11_readBehind 170 = .ok (.iload_n 1, 1) := by decide +kernel
theorem dX11_readBehind_171 : decode cX11_readBehind 171 = .ok (.iload 4, 2) := by decide +kernel
theorem dX11_readBehind_173 : decode cX11_readBehind 173 = .ok (.aload_n 0, 1) := by decide +kernel
theorem dX11_readBehind_174 : decode cX11_readBehind 174 = .ok (.getfield 174, 3) := by decide +kernel
theorem dX11_readBehind_177 : decode cX11_readBehind 177 = .ok (.invokevirtual 207, 3) := by decide +kernel
theorem dX11_readBehind_180 : decode cX11_readBehind 180 = .ok (.return_, 1) := by decide +kernel
theorem dX11_readOpen_0 : decode cX11_readOpen 0 = .ok (.aload_n 0, 1) := by decide +kernel
theorem dX11_readOpen_1 : decode cX11_readOpen 1 = .ok (.invokevirtual 210, 3) := by decide +kernel
theorem dX11_readOpen_4 : decode cX11_readOpen 4 = .ok (.aload_n 0, 1) := by decide +kernel
theorem dX11_readOpen_5 : decode cX11_readOpen 5 = .ok (.getfield 174, 3) := by decide +kernel
theorem dX11_readOpen_8 : decode cX11_readOpen 8 = .ok (.istore_n 1, 1) := by decide +kernel
theorem dX11_readOpen_9 : decode cX11_readOpen 9 = .ok (.aload_n 0, 1) := by decide +kernel
theorem dX11_readOpen_10 : decode cX11_readOpen 10 = .ok (.getfield 171, 3) := by decide +kernel
theorem dX11_readOpen_13 : decode cX11_readOpen 13 = .ok (.istore_n 2, 1) := by decide +kernel
theorem dX11_readOpen_14 : decode cX11_readOpen 14 = .ok (.aload_n 0, 1) := by decide +kernel
theorem dX11_readOpen_15 : decode cX11_readOpen 15 = .ok (.invokevirtual 203, 3) := by decide +kernel
theorem dX11_readOpen_18 : decode cX11_readOpen 18 = .ok (.bipush 40, 2) := by decide +kernel
theorem dX11_readOpen_20 : decode cX11_readOpen 20 = .ok (.if_icmp .eq 15, 3) := by decide +kernel
theorem dX11_readOpen_23 : decode cX11_readOpen 23 = .ok (.aload_n 0, 1) := by decide +kernel
theorem dX11_readOpen_24 : decode cX11_readOpen 24 = .ok (.iconst 1, 1) := by decide +kernel
theorem dX11_readOpen_25 : decode cX11_readOpen 25 = .ok (.aload_n 0, 1) := by decide +kernel
theorem dX11_readOpen_26 : decode cX11_readOpen 26 = .ok (.getfield 158, 3) := by decide +kernel
theorem dX11_readOpen_29 : decode cX11_readOpen 29 = .ok (.invokevirtual 213, 3) := by decide +kernel
theorem dX11_readOpen_32 : decode cX11_readOpen 32 = .ok (.goto 87, 3) := by decide +kernel
theorem dX11_readOpen_35 : decode cX11_readOpen 35 = .ok (.iload_n 1, 1) := by decide +kernel
theorem dX11_readOpen_36 : decode cX11_readOpen 36 = .ok (.i2l, 1) := by decide +kernel
theorem dX11_readOpen_37 : decode cX11_readOpen 37 = .ok (.lconst 1, 1) := by decide +kernel
theorem dX11_readOpen_38 : decode cX11_readOpen 38 = .ok (.ldc2_w 98, 3) := by decide +kernel
theorem dX11_readOpen_41 : decode cX11_readOpen 41 = .ok (.invokestatic 94, 3) := by decide +kernel
theorem dX11_readOpen_44 : decode cX11_readOpen 44 = .ok (.ifCond .ne 12, 3) := by decide +kernel
theorem dX11_readOpen_47 : decode cX11_readOpen 47 = .ok (.aload_n 0, 1) := by decide +kernel
theorem dX11_readOpen_48 : decode cX11_readOpen 48 = .ok (.iconst 2, 1) := by decide +kernel
theorem dX11_readOpen_49 : decode cX11_readOpen 49 = .ok (.iload_n 2, 1) := by decide +kernel
theorem dX11_readOpen_50 : decode cX11_readOpen 50 = .ok (.invokevirtual 213, 3) := by decide +kernel
theorem dX11_readOpen_53 : decode cX11_readOpen 53 = .ok (.goto 66, 3) := by decide +kernel
theorem dX11_readOpen_56 : decode cX11_readOpen 56 = .ok (.aload_n 0, 1) := by decide +kernel
theorem dX11_readOpen_57 : decode cX11_readOpen 57 = .ok (.getfield 200, 3) := by decide +kernel
theorem dX11_readOpen_60 : decode cX11_readOpen 60 = .ok (.iconst 4, 1) := by decide +kernel
theorem dX11_readOpen_61 : decode cX11_readOpen 61 = .ok (.if_icmp .ne 15, 3) := by decide +kernel
theorem dX11_readOpen_64 : decode cX11_readOpen 64 = .ok (.aload_n 0, 1) := by decide +kernel
theorem dX11_readOpen_65 : decode cX11_readOpen 65 = .ok (.iconst 3, 1) := by decide +kernel
theorem dX11_readOpen_66 : decode cX11_readOpen 66 = .ok (.aload_n 0, 1) := by decide +kernel
theorem dX11_readOpen_67 : decode cX11_readOpen 67 = .ok (.getfield 158, 3) := by decide +kernel
theorem dX11_readOpen_70 : decode cX11_readOpen 70 = .ok (.invokevirtual 213, 3) := by decide +kernel
theorem dX11_readOpen_73 : decode cX11_readOpen 73 = .ok (.goto 46, 3) := by decide +kernel
theorem dX11_readOpen_76 : decode cX11_readOpen 76 = .ok (.aload_n 0, 1) := by decide +kernel
theorem dX11_readOpen_77 : decode cX11_readOpen 77 = .ok (.dup, 1) := by decide +kernel
theorem dX11_readOpen_78 : decode cX11_readOpen 78 = .ok (.getfield 158, 3) := by decide +kernel
theorem dX11_readOpen_81 : decode cX11_readOpen 81 = .ok (.iconst 1, 1) := by decide +kernel
theorem dX11_readOpen_82 : decode cX11_readOpen 82 = .ok (.iadd, 1) := by decide +kernel
theorem dX11_readOpen_83 : decode cX11_readOpen 83 = .ok (.putfield 158, 3) := by decide +kernel
theorem dX11_readOpen_86 : decode cX11_readOpen 86 = .ok (.aload_n 0, 1) := by decide +kernel
theorem dX11_readOpen_87 : decode cX11_readOpen 87 = .ok (.getfield 60, 3) := by decide +kernel
theorem dX11_readOpen_90 : decode cX11_readOpen 90 = .ok (.aload_n 0, 1) := by decide +kernel
theorem dX11_readOpen_91 : decode cX11_readOpen 91 = .ok (.getfield 200, 3) := by decide +kernel
theorem dX11_readOpen_94 : decode cX11_readOpen 94 = .ok (.iload_n 1, 1) := by decide +kernel
theorem dX11_readOpen_95 : decode cX11_readOpen 95 = .ok (.iastore, 1) := by decide +kernel
theorem dX11_readOpen_96 : decode cX11_readOpen 96 = .ok (.aload_n 0, 1) := by decide +kernel
theorem dX11_readOpen_97 : decode cX11_readOpen 97 = .ok (.getfield 63, 3) := by decide +kernel
theorem dX11_readOpen_100 : decode cX11_readOpen 100 = .ok (.aload_n 0, 1) := by decide +kernel
theorem dX11_readOpen_101 : decode cX11_readOpen 101 = .ok (.getfield 200, 3) := by decide +kernel
theorem dX11_readOpen_104 : decode cX11_readOpen 104 = .ok (.aload_n 0, 1) := by decide +kernel
theorem dX11_readOpen_105 : decode cX11_readOpen 105 = .ok (.getfield 187, 3) := by decide +kernel
theorem dX11_readOpen_108 : decode cX11_readOpen 108 = .ok (.iastore, 1) := by decide +kernel
theorem dX11_readOpen_109 : decode cX11_readOpen 109 = .ok (.aload_n 0, 1) := by decide +kernel
theorem dX11_readOpen_110 : decode cX11_readOpen 110 = .ok (.dup, 1) := by decide +kernel
theorem dX11_readOpen_111 : decode cX11_readOpen 111 = .ok (.getfield 200, 3) := by decide +kernel
theorem dX11_readOpen_114 : decode cX11_readOpen 114 = .ok (.iconst 1, 1) := by decide +kernel
theorem dX11_readOpen_115 : decode cX11_readOpen 115 = .ok (.iadd, 1) := by decide +kernel
theorem dX11_readOpen_116 : decode cX11_readOpen 116 = .ok (.putfield 200, 3) := by decide +kernel
theorem dX11_readOpen_119 : decode cX11_readOpen 119 = .ok (.return_, 1) := by decide +kernel
theorem dX11_readItem_0 : decode cX11_readItem 0 = .ok (.aload_n 0, 1) := by decide +kernel
theorem dX11_readItem_1 : decode cX11_readItem 1 = .ok (.invokevirtual 203, 3) := by decide +kernel
theorem dX11_readItem_4 : decode cX11_readItem 4 = .ok (.istore_n 1, 1) := by decide +kernel
theorem dX11_readItem_5 : decode cX11_readItem 5 = .ok (.aload_n 0, 1) := by decide +kernel
theorem dX11_readItem_6 : decode cX11_readItem 6 = .ok (.getfield 200, 3) := by decide +kernel
theorem dX11_readItem_9 : decode cX11_readItem 9 = .ok (.ifCond .ne 11, 3) := by decide +kernel
theorem dX11_readItem_12 : decode cX11_readItem 12 = .ok (.aload_n 0, 1) := by decide +kernel
theorem dX11_readItem_13 : decode cX11_readItem 13 = .ok (.aload_n 0, 1) := by decide +kernel
theorem dX11_readItem_14 : decode cX11_readItem 14 = .ok (.getfield 158, 3) := by decide +kernel
theorem dX11_readItem_17 : decode cX11_readItem 17 = .ok (.putfield 197, 3) := by decide +kernel
theorem dX11_readItem_20 : decode cX11_readItem 20 = .ok (.iload_n 1, 1) := by decide +kernel
theorem dX11_readItem_21 : decode cX11_readItem 21 = .ok (.bipush 41, 2) := by decide +kernel
theorem dX11_readItem_23 : decode cX11_readItem 23 = .ok (.if_icmp .ne 27, 3) := by decide +kernel
theorem dX11_readItem_26 : decode cX11_readItem 26 = .ok (.aload_n 0, 1) := by decide +kernel
theorem dX11_readItem_27 : decode cX11_readItem 27 = .ok (.getfield 200, 3) := by decide +kernel
theorem dX11_readItem_30 : decode cX11_readItem 30 = .ok (.ifCond .le 20, 3) := by decide +kernel
theorem dX11_readItem_33 : decode cX11_readItem 33 = .ok (.aload_n 0, 1) := by decide +kernel
theorem dX11_readItem_34 : decode cX11_readItem 34 = .ok (.dup, 1) := by decide +kernel
theorem dX11_readItem_35 : decode cX11_readItem 35 = .ok (.getfield 158, 3) := by decide +kernel
theorem dX11_readItem_38 : decode cX11_readItem 38 = .ok (.iconst 1, 1) := by decide +kernel
theorem dX11_readItem_39 : decode cX11_readItem 39 = .ok (.iadd, 1) := by decide +kernel
theorem dX11_readItem_40 : decode cX11_readItem 40 = .ok (.putfield 158, 3) := by decide +kernel
theorem dX11_readItem_43 : decode cX11_readItem 43 = .ok (.aload_n 0, 1) := by decide +kernel
theorem dX11_readItem_44 : decode cX11_readItem 44 = .ok (.invokevirtual 216, 3) := by decide +kernel
theorem dX11_readItem_47 : decode cX11_readItem 47 = .ok (.goto 65, 3) := by decide +kernel
theorem dX11_readItem_50 : decode cX11_readItem 50 = .ok (.aload_n 0, 1) := by decide +kernel
theorem dX11_readItem_51 : decode cX11_readItem 51 = .ok (.aload_n 0, 1) := by decide +kernel
theorem dX11_readItem_52 : decode cX11_readItem 52 = .ok (.getfield 158, 3) := by decide +kernel
theorem dX11_readItem_55 : decode cX11_readItem 55 = .ok (.invokevirtual 177, 3) := by decide +kernel
theorem dX11_readItem_58 : decode cX11_readItem 58 = .ok (.ifCond .eq 10, 3) := by decide +kernel
theorem dX11_readItem_61 : decode cX11_readItem 61 = .ok (.aload_n 0, 1) := by decide +kernel
theorem dX11_readItem_62 : decode cX11_readItem 62 = .ok (.invokevirtual 219, 3) := by decide +kernel
theorem dX11_readItem_65 : decode cX11_readItem 65 = .ok (.goto 47, 3) := by decide +kernel
theorem dX11_readItem_68 : decode cX11_readItem 68 = .ok (.iload_n 1, 1) := by decide +kernel
theorem dX11_readItem_69 : decode cX11_readItem 69 = .ok (.i2l, 1) := by decide +kernel
theorem dX11_readItem_70 : decode cX11_readItem 70 = .ok (.ldc2_w 222, 3) := by decide +kernel
theorem dX11_readItem_73 : decode cX11_readItem 73 = .ok (.ldc2_w 224, 3) := by decide +kernel
theorem dX11_readItem_76 : decode cX11_readItem 76 = .ok (.invokestatic 94, 3) := by decide +kernel
theorem dX11_readItem_79 : decode cX11_readItem 79 = .ok (.ifCond .eq 24, 3) := by decide +kernel
theorem dX11_readItem_82 : decode cX11_readItem 82 = .ok (.aload_n 0, 1) := by decide +kernel
theorem dX11_readItem_83 : decode cX11_readItem 83 = .ok (.dup, 1) := by decide +kernel
theorem dX11_readItem_84 : decode cX11_readItem 84 = .ok (.getfield 158, 3) := by decide +kernel
theorem dX11_readItem_87 : decode cX11_readItem 87 = .ok (.iconst 1, 1) := by decide +kernel
theorem dX11_readItem_88 : decode cX11_readItem 88 = .ok (.iadd, 1) := by decide +kernel
theorem dX11_readItem_89 : decode cX11_readItem 89 = .ok (.putfield 158, 3) := by decide +kernel
theorem dX11_readItem_92 : decode cX11_readItem 92 = .ok (.aload_n 0, 1) := by decide +kernel
theorem dX11_readItem_93 : decode cX11_readItem 93 = .ok (.iload_n 1, 1) := by decide +kernel
theorem dX11_readItem_94 : decode cX11_readItem 94 = .ok (.bipush 65, 2) := by decide +kernel
theorem dX11_readItem_96 : decode cX11_readItem 96 = .ok (.isub, 1) := by decide +kernel
theorem dX11_readItem_97 : decode cX11_readItem 97 = .ok (.invokevirtual 226, 3) := by decide +kernel
theorem dX11_readItem_100 : decode cX11_readItem 100 = .ok (.goto 12, 3) := by decide +kernel
theorem dX11_readItem_103 : decode cX11_readItem 103 = .ok (.aload_n 0, 1) := by decide +kernel
theorem dX11_readItem_104 : decode cX11_readItem 104 = .ok (.iconst 1, 1) := by decide +kernel
theorem dX11_readItem_105 : decode cX11_readItem 105 = .ok (.aload_n 0, 1) := by decide +kernel
theorem dX11_readItem_106 : decode cX11_readItem 106 = .ok (.getfield 158, 3) := by decide +kernel
theorem dX11_readItem_109 : decode cX11_readItem 109 = .ok (.invokevirtual 213, 3) := by decide +kernel
theorem dX11_readItem_112 : decode cX11_readItem 112 = .ok (.return_, 1) := by decide +kernel
theorem dX11_stack_0 : decode cX11_stack 0 = .ok (.aload_n 0, 1) := by decide +kernel
theorem dX11_stack_1 : decode cX11_stack 1 = .ok (.iconst 0, 1) := by decide +kernel
theorem dX11_stack_2 : decode cX11_stack 2 = .ok (.putfield 158, 3) := by decide +kernel
theorem dX11_stack_5 : decode cX11_stack 5 = .ok (.aload_n 0, 1) := by decide +kernel
theorem dX11_stack_6 : decode cX11_stack 6 = .ok (.iconst 0, 1) := by decide +kernel
theorem dX11_stack_7 : decode cX11_stack 7 = .ok (.putfield 161, 3) := by decide +kernel
theorem dX11_stack_10 : decode cX11_stack 10 = .ok (.aload_n 0, 1) := by decide +kernel
theorem dX11_stack_11 : decode cX11_stack 11 = .ok (.iconst 0, 1) := by decide +kernel
theorem dX11_stack_12 : decode cX11_stack 12 = .ok (.putfield 187, 3) := by decide +kernel
theorem dX11_stack_15 : decode cX11_stack 15 = .ok (.aload_n 0, 1) := by decide +kernel
theorem dX11_stack_16 : decode cX11_stack 16 = .ok (.iconst 0, 1) := by decide +kernel
theorem dX11_stack_17 : decode cX11_stack 17 = .ok (.putfield 200, 3) := by decide +kernel
theorem dX11_stack_20 : decode cX11_stack 20 = .ok (.aload_n 0, 1) := by decide +kernel
theorem dX11_stack_21 : decode cX11_stack 21 = .ok (.iconst (-1), 1) := by decide +kernel
theorem dX11_stack_22 : decode cX11_stack 22 = .ok (.putfield 194, 3) := by decide +kernel
theorem dX11_stack_25 : decode cX11_stack 25 = .ok (.aload_n 0, 1) := by decide +kernel
theorem dX11_stack_26 : decode cX11_stack 26 = .ok (.getfield 161, 3) := by decide +kernel
theorem dX11_stack_29 : decode cX11_stack 29 = .ok (.ifCond .ne 18, 3) := by decide +kernel
theorem dX11_stack_32 : decode cX11_stack 32 = .ok (.aload_n 0, 1) := by decide +kernel
theorem dX11_stack_33 : decode cX11_stack 33 = .ok (.invokevirtual 203, 3) := by decide +kernel
theorem dX11_stack_36 : decode cX11_stack 36 = .ok (.iconst (-1), 1) := by decide +kernel
theorem dX11_stack_37 : decode cX11_stack 37 = .ok (.if_icmp .eq 10, 3) := by decide +kernel
theorem dX11_stack_40 : decode cX11_stack 40 = .ok (.aload_n 0, 1) := by decide +kernel
theorem dX11_stack_41 : decode cX11_stack 41 = .ok (.invokevirtual 229, 3) := by decide +kernel
theorem dX11_stack_44 : decode cX11_stack 44 = .ok (.goto (-19), 3) := by decide +kernel
theorem dX11_stack_47 : decode cX11_stack 47 = .ok (.aload_n 0, 1) := by decide +kernel
theorem dX11_stack_48 : decode cX11_stack 48 = .ok (.getfield 200, 3) := by decide +kernel
theorem dX11_stack_51 : decode cX11_stack 51 = .ok (.ifCond .le 12, 3) := by decide +kernel
theorem dX11_stack_54 : decode cX11_stack 54 = .ok (.aload_n 0, 1) := by decide +kernel
theorem dX11_stack_55 : decode cX11_stack 55 = .ok (.iconst 1, 1) := by decide +kernel
theorem dX11_stack_56 : decode cX11_stack 56 = .ok (.aload_n 0, 1) := by decide +kernel
theorem dX11_stack_57 : decode cX11_stack 57 = .ok (.getfield 158, 3) := by decide +kernel
theorem dX11_stack_60 : decode cX11_stack 60 = .ok (.invokevirtual 213, 3) := by decide +kernel
theorem dX11_stack_63 : decode cX11_stack 63 = .ok (.aload_n 0, 1) := by decide +kernel
theorem dX11_stack_64 : decode cX11_stack 64 = .ok (.getfield 194, 3) := by decide +kernel
theorem dX11_stack_67 : decode cX11_stack 67 = .ok (.iconst (-1), 1) := by decide +kernel
theorem dX11_stack_68 : decode cX11_stack 68 = .ok (.if_icmp .eq 12, 3) := by decide +kernel
theorem dX11_stack_71 : decode cX11_stack 71 = .ok (.aload_n 0, 1) := by decide +kernel
theorem dX11_stack_72 : decode cX11_stack 72 = .ok (.iconst 4, 1) := by decide +kernel
theorem dX11_stack_73 : decode cX11_stack 73 = .ok (.aload_n 0, 1) := by decide +kernel
theorem dX11_stack_74 : decode cX11_stack 74 = .ok (.getfield 194, 3) := by decide +kernel
theorem dX11_stack_77 : decode cX11_stack 77 = .ok (.invokevirtual 213, 3) := by decide +kernel
theorem dX11_stack_80 : decode cX11_stack 80 = .ok (.aload_n 0, 1) := by decide +kernel
theorem dX11_stack_81 : decode cX11_stack 81 = .ok (.iconst 0, 1) := by decide +kernel
theorem dX11_stack_82 : decode cX11_stack 82 = .ok (.putfield 152, 3) := by decide +kernel
theorem dX11_stack_85 : decode cX11_stack 85 = .ok (.aload_n 0, 1) := by decide +kernel
theorem dX11_stack_86 : decode cX11_stack 86 = .ok (.aload_n 0, 1) := by decide +kernel
theorem dX11_stack_87 : decode cX11_stack 87 = .ok (.getfield 161, 3) := by decide +kernel
theorem dX11_stack_90 : decode cX11_stack 90 = .ok (.putfield 232, 3) := by decide +kernel
theorem dX11_stack_93 : decode cX11_stack 93 = .ok (.aload_n 0, 1) := by decide +kernel
theorem dX11_stack_94 : decode cX11_stack 94 = .ok (.aload_n 0, 1) := by decide +kernel
