theorem dX11_stack_95 : decode cX11_stack 95 = .ok (.getfield 161, 3) := by decide +kernel
theorem dX11_stack_98 : decode cX11_stack 98 = .ok (.ifCond .ne 7, 3) := by decide +kernel
theorem dX11_stack_101 : decode cX11_stack 101 = .ok (.iconst (-1), 1) := by decide +kernel
theorem dX11_stack_102 : decode cX11_stack 102 = .ok (.goto 7, 3) := by decide +kernel
theorem dX11_stack_105 : decode cX11_stack 105 = .ok (.aload_n 0, 1) := by decide +kernel
theorem dX11_stack_106 : decode cX11_stack 106 = .ok (.getfield 164, 3) := by decide +kernel
theorem dX11_stack_109 : decode cX11_stack 109 = .ok (.putfield 48, 3) := by decide +kernel
theorem dX11_stack_112 : decode cX11_stack 112 = .ok (.aload_n 0, 1) := by decide +kernel
theorem dX11_stack_113 : decode cX11_stack 113 = .ok (.getfield 161, 3) := by decide +kernel
theorem dX11_stack_116 : decode cX11_stack 116 = .ok (.ifCond .eq 5, 3) := by decide +kernel
theorem dX11_stack_119 : decode cX11_stack 119 = .ok (.iconst (-1), 1) := by decide +kernel
theorem dX11_stack_120 : decode cX11_stack 120 = .ok (.ireturn, 1) := by decide +kernel
theorem dX11_stack_121 : decode cX11_stack 121 = .ok (.aload_n 0, 1) := by decide +kernel
theorem dX11_stack_122 : decode cX11_stack 122 = .ok (.iconst 0, 1) := by decide +kernel
theorem dX11_stack_123 : decode cX11_stack 123 = .ok (.invokevirtual 130, 3) := by decide +kernel
theorem dX11_stack_126 : decode cX11_stack 126 = .ok (.aload_n 0, 1) := by decide +kernel
theorem dX11_stack_127 : decode cX11_stack 127 = .ok (.aload_n 0, 1) := by decide +kernel
theorem dX11_stack_128 : decode cX11_stack 128 = .ok (.getfield 187, 3) := by decide +kernel
theorem dX11_stack_131 : decode cX11_stack 131 = .ok (.putfield 107, 3) := by decide +kernel
theorem dX11_stack_134 : decode cX11_stack 134 = .ok (.iconst 0, 1) := by decide +kernel
theorem dX11_stack_135 : decode cX11_stack 135 = .ok (.istore_n 1, 1) := by decide +kernel
theorem dX11_stack_136 : decode cX11_stack 136 = .ok (.iload_n 1, 1) := by decide +kernel
theorem dX11_stack_137 : decode cX11_stack 137 = .ok (.aload_n 0, 1) := by decide +kernel
theorem dX11_stack_138 : decode cX11_stack 138 = .ok (.getfield 107, 3) := by decide +kernel
theorem dX11_stack_141 : decode cX11_stack 141 = .ok (.if_icmp .ge 32, 3) := by decide +kernel
theorem dX11_stack_144 : decode cX11_stack 144 = .ok (.aload_n 0, 1) := by decide +kernel
theorem dX11_stack_145 : decode cX11_stack 145 = .ok (.iload_n 1, 1) := by decide +kernel
theorem dX11_stack_146 : decode cX11_stack 146 = .ok (.aload_n 0, 1) := by decide +kernel
theorem dX11_stack_147 : decode cX11_stack 147 = .ok (.getfield 51, 3) := by decide +kernel
theorem dX11_stack_150 : decode cX11_stack 150 = .ok (.iload_n 1, 1) := by decide +kernel
theorem dX11_stack_151 : decode cX11_stack 151 = .ok (.iaload, 1) := by decide +kernel
theorem dX11_stack_152 : decode cX11_stack 152 = .ok (.aload_n 0, 1) := by decide +kernel
theorem dX11_stack_153 : decode cX11_stack 153 = .ok (.getfield 54, 3) := by decide +kernel
theorem dX11_stack_156 : decode cX11_stack 156 = .ok (.iload_n 1, 1) := by decide +kernel
theorem dX11_stack_157 : decode cX11_stack 157 = .ok (.iaload, 1) := by decide +kernel
theorem dX11_stack_158 : decode cX11_stack 158 = .ok (.aload_n 0, 1) := by decide +kernel
theorem dX11_stack_159 : decode cX11_stack 159 = .ok (.getfield 57, 3) := by decide +kernel
theorem dX11_stack_162 : decode cX11_stack 162 = .ok (.iload_n 1, 1) := by decide +kernel
theorem dX11_stack_163 : decode cX11_stack 163 = .ok (.iaload, 1) := by decide +kernel
theorem dX11_stack_164 : decode cX11_stack 164 = .ok (.invokevirtual 138, 3) := by decide +kernel
theorem dX11_stack_167 : decode cX11_stack 167 = .ok (.iinc 1 1, 3) := by decide +kernel
theorem dX11_stack_170 : decode cX11_stack 170 = .ok (.goto (-34), 3) := by decide +kernel
theorem dX11_stack_173 : decode cX11_stack 173 = .ok (.aload_n 0, 1) := by decide +kernel
theorem dX11_stack_174 : decode cX11_stack 174 = .ok (.getfield 107, 3) := by decide +kernel
theorem dX11_stack_177 : decode cX11_stack 177 = .ok (.ireturn, 1) := by decide +kernel
theorem dX11_fault_0 : decode cX11_fault 0 = .ok (.iload_n 1, 1) := by decide +kernel
theorem dX11_fault_1 : decode cX11_fault 1 = .ok (.ifCond .ne 10, 3) := by decide +kernel
theorem dX11_fault_4 : decode cX11_fault 4 = .ok (.aload_n 0, 1) := by decide +kernel
theorem dX11_fault_5 : decode cX11_fault 5 = .ok (.getfield 232, 3) := by decide +kernel
theorem dX11_fault_8 : decode cX11_fault 8 = .ok (.goto 16, 3) := by decide +kernel
theorem dX11_fault_11 : decode cX11_fault 11 = .ok (.iload_n 1, 1) := by decide +kernel
theorem dX11_fault_12 : decode cX11_fault 12 = .ok (.iconst 1, 1) := by decide +kernel
theorem dX11_fault_13 : decode cX11_fault 13 = .ok (.if_icmp .ne 10, 3) := by decide +kernel
theorem dX11_fault_16 : decode cX11_fault 16 = .ok (.aload_n 0, 1) := by decide +kernel
theorem dX11_fault_17 : decode cX11_fault 17 = .ok (.getfield 48, 3) := by decide +kernel
theorem dX11_fault_20 : decode cX11_fault 20 = .ok (.goto 4, 3) := by decide +kernel
theorem dX11_fault_23 : decode cX11_fault 23 = .ok (.iconst (-1), 1) := by decide +kernel
theorem dX11_fault_24 : decode cX11_fault 24 = .ok (.ireturn, 1) := by decide +kernel
theorem dX11_marksAt_0 : decode cX11_marksAt 0 = .ok (.aload_n 0, 1) := by decide +kernel
theorem dX11_marksAt_1 : decode cX11_marksAt 1 = .ok (.lload_n 3, 1) := by decide +kernel
theorem dX11_marksAt_2 : decode cX11_marksAt 2 = .ok (.putfield 235, 3) := by decide +kernel
theorem dX11_marksAt_5 : decode cX11_marksAt 5 = .ok (.aload_n 0, 1) := by decide +kernel
theorem dX11_marksAt_6 : decode cX11_marksAt 6 = .ok (.lload_n 1, 1) := by decide +kernel
theorem dX11_marksAt_7 : decode cX11_marksAt 7 = .ok (.putfield 239, 3) := by decide +kernel
theorem dX11_marksAt_10 : decode cX11_marksAt 10 = .ok (.iconst 1, 1) := by decide +kernel
theorem dX11_marksAt_11 : decode cX11_marksAt 11 = .ok (.istore 6, 2) := by decide +kernel
theorem dX11_marksAt_13 : decode cX11_marksAt 13 = .ok (.iload 6, 2) := by decide +kernel
theorem dX11_marksAt_15 : decode cX11_marksAt 15 = .ok (.iload 5, 2) := by decide +kernel
theorem dX11_marksAt_17 : decode cX11_marksAt 17 = .ok (.if_icmp .ge 47, 3) := by decide +kernel
theorem dX11_marksAt_20 : decode cX11_marksAt 20 = .ok (.aload_n 0, 1) := by decide +kernel
theorem dX11_marksAt_21 : decode cX11_marksAt 21 = .ok (.getfield 235, 3) := by decide +kernel
theorem dX11_marksAt_24 : decode cX11_marksAt 24 = .ok (.lload_n 3, 1) := by decide +kernel
theorem dX11_marksAt_25 : decode cX11_marksAt 25 = .ok (.lmul, 1) := by decide +kernel
theorem dX11_marksAt_26 : decode cX11_marksAt 26 = .ok (.aload_n 0, 1) := by decide +kernel
theorem dX11_marksAt_27 : decode cX11_marksAt 27 = .ok (.getfield 239, 3) := by decide +kernel
theorem dX11_marksAt_30 : decode cX11_marksAt 30 = .ok (.lload_n 1, 1) := by decide +kernel
theorem dX11_marksAt_31 : decode cX11_marksAt 31 = .ok (.lmul, 1) := by decide +kernel
theorem dX11_marksAt_32 : decode cX11_marksAt 32 = .ok (.lsub, 1) := by decide +kernel
theorem dX11_marksAt_33 : decode cX11_marksAt 33 = .ok (.lstore 7, 2) := by decide +kernel
theorem dX11_marksAt_35 : decode cX11_marksAt 35 = .ok (.aload_n 0, 1) := by decide +kernel
theorem dX11_marksAt_36 : decode cX11_marksAt 36 = .ok (.aload_n 0, 1) := by decide +kernel
theorem dX11_marksAt_37 : decode cX11_marksAt 37 = .ok (.getfield 235, 3) := by decide +kernel
theorem dX11_marksAt_40 : decode cX11_marksAt 40 = .ok (.lload_n 1, 1) := by decide +kernel
theorem dX11_marksAt_41 : decode cX11_marksAt 41 = .ok (.lmul, 1) := by decide +kernel
theorem dX11_marksAt_42 : decode cX11_marksAt 42 = .ok (.aload_n 0, 1) := by decide +kernel
theorem dX11_marksAt_43 : decode cX11_marksAt 43 = .ok (.getfield 239, 3) := by decide +kernel
theorem dX11_marksAt_46 : decode cX11_marksAt 46 = .ok (.lload_n 3, 1) := by decide +kernel
theorem dX11_marksAt_47 : decode cX11_marksAt 47 = .ok (.lmul, 1) := by decide +kernel
theorem dX11_marksAt_48 : decode cX11_marksAt 48 = .ok (.ladd, 1) := by decide +kernel
theorem dX11_marksAt_49 : decode cX11_marksAt 49 = .ok (.putfield 239, 3) := by decide +kernel
theorem dX11_marksAt_52 : decode cX11_marksAt 52 = .ok (.aload_n 0, 1) := by decide +kernel
theorem dX11_marksAt_53 : decode cX11_marksAt 53 = .ok (.lload 7, 2) := by decide +kernel
theorem dX11_marksAt_55 : decode cX11_marksAt 55 = .ok (.putfield 235, 3) := by decide +kernel
theorem dX11_marksAt_58 : decode cX11_marksAt 58 = .ok (.iinc 6 1, 3) := by decide +kernel
theorem dX11_marksAt_61 : decode cX11_marksAt 61 = .ok (.goto (-48), 3) := by decide +kernel
theorem dX11_marksAt_64 : decode cX11_marksAt 64 = .ok (.aload_n 0, 1) := by decide +kernel
theorem dX11_marksAt_65 : decode cX11_marksAt 65 = .ok (.getfield 235, 3) := by decide +kernel
theorem dX11_marksAt_68 : decode cX11_marksAt 68 = .ok (.aload_n 0, 1) := by decide +kernel
theorem dX11_marksAt_69 : decode cX11_marksAt 69 = .ok (.getfield 239, 3) := by decide +kernel
theorem dX11_marksAt_72 : decode cX11_marksAt 72 = .ok (.invokestatic 100, 3) := by decide +kernel
theorem dX11_marksAt_75 : decode cX11_marksAt 75 = .ok (.lstore 6, 2) := by decide +kernel
theorem dX11_marksAt_77 : decode cX11_marksAt 77 = .ok (.aload_n 0, 1) := by decide +kernel
theorem dX11_marksAt_78 : decode cX11_marksAt 78 = .ok (.getfield 235, 3) := by decide +kernel
theorem dX11_marksAt_81 : decode cX11_marksAt 81 = .ok (.lconst 0, 1) := by decide +kernel
theorem dX11_marksAt_82 : decode cX11_marksAt 82 = .ok (.lcmp, 1) := by decide +kernel
theorem dX11_marksAt_83 : decode cX11_marksAt 83 = .ok (.ifCond .lt 21, 3) := by decide +kernel
theorem dX11_marksAt_86 : decode cX11_marksAt 86 = .ok (.aload_n 0, 1) := by decide +kernel
theorem dX11_marksAt_87 : decode cX11_marksAt 87 = .ok (.getfield 235, 3) := by decide +kernel
theorem dX11_marksAt_90 : decode cX11_marksAt 90 = .ok (.lconst 0, 1) := by decide +kernel
theorem dX11_marksAt_91 : decode cX11_marksAt 91 = .ok (.lcmp, 1) := by decide +kernel
theorem dX11_marksAt_92 : decode cX11_marksAt 92 = .ok (.ifCond .ne 17, 3) := by decide +kernel
theorem dX11_marksAt_95 : decode cX11_marksAt 95 = .ok (.aload_n 0, 1) := by decide +kernel
theorem dX11_marksAt_96 : decode cX11_marksAt 96 = .ok (.getfield 239, 3) := by decide +kernel
theorem dX11_marksAt_99 : decode cX11_marksAt 99 = .ok (.lconst 0, 1) := by decide +kernel
theorem dX11_marksAt_100 : decode cX11_marksAt 100 = .ok (.lcmp, 1) := by decide +kernel
theorem dX11_marksAt_101 : decode cX11_marksAt 101 = .ok (.ifCond .ge 8, 3) := by decide +kernel
theorem dX11_marksAt_104 : decode cX11_marksAt 104 = .ok (.lload 6, 2) := by decide +kernel
theorem dX11_marksAt_106 : decode cX11_marksAt 106 = .ok (.lneg, 1) := by decide +kernel
theorem dX11_marksAt_107 : decode cX11_marksAt 107 = .ok (.lstore 6, 2) := by decide +kernel
theorem dX11_marksAt_109 : decode cX11_marksAt 109 = .ok (.aload_n 0, 1) := by decide +kernel
theorem dX11_marksAt_110 : decode cX11_marksAt 110 = .ok (.dup, 1) := by decide +kernel
theorem dX11_marksAt_111 : decode cX11_marksAt 111 = .ok (.getfield 235, 3) := by decide +kernel
theorem dX11_marksAt_114 : decode cX11_marksAt 114 = .ok (.lload 6, 2) := by decide +kernel
theorem dX11_marksAt_116 : decode cX11_marksAt 116 = .ok (.ldiv, 1) := by decide +kernel
theorem dX11_marksAt_117 : decode cX11_marksAt 117 = .ok (.putfield 235, 3) := by decide +kernel
theorem dX11_marksAt_120 : decode cX11_marksAt 120 = .ok (.aload_n 0, 1) := by decide +kernel
theorem dX11_marksAt_121 : decode cX11_marksAt 121 = .ok (.dup, 1) := by decide +kernel
theorem dX11_marksAt_122 : decode cX11_marksAt 122 = .ok (.getfield 239, 3) := by decide +kernel
theorem dX11_marksAt_125 : decode cX11_marksAt 125 = .ok (.lload 6, 2) := by decide +kernel
theorem dX11_marksAt_127 : decode cX11_marksAt 127 = .ok (.ldiv, 1) := by decide +kernel
theorem dX11_marksAt_128 : decode cX11_marksAt 128 = .ok (.putfield 239, 3) := by decide +kernel
theorem dX11_marksAt_131 : decode cX11_marksAt 131 = .ok (.return_, 1) := by decide +kernel
theorem dX11_layer_0 : decode cX11_layer 0 = .ok (.iload_n 1, 1) := by decide +kernel
theorem dX11_layer_1 : decode cX11_layer 1 = .ok (.iconst (-1), 1) := by decide +kernel
theorem dX11_layer_2 : decode cX11_layer 2 = .ok (.if_icmp .ne 8, 3) := by decide +kernel
theorem dX11_layer_5 : decode cX11_layer 5 = .ok (.aload_n 0, 1) := by decide +kernel
theorem dX11_layer_6 : decode cX11_layer 6 = .ok (.getfield 107, 3) := by decide +kernel
theorem dX11_layer_9 : decode cX11_layer 9 = .ok (.ireturn, 1) := by decide +kernel
theorem dX11_layer_10 : decode cX11_layer 10 = .ok (.iload_n 1, 1) := by decide +kernel
theorem dX11_layer_11 : decode cX11_layer 11 = .ok (.i2l, 1) := by decide +kernel
theorem dX11_layer_12 : decode cX11_layer 12 = .ok (.lconst 0, 1) := by decide +kernel
theorem dX11_layer_13 : decode cX11_layer 13 = .ok (.aload_n 0, 1) := by decide +kernel
theorem dX11_layer_14 : decode cX11_layer 14 = .ok (.getfield 107, 3) := by decide +kernel
theorem dX11_layer_17 : decode cX11_layer 17 = .ok (.iconst 1, 1) := by decide +kernel
theorem dX11_layer_18 : decode cX11_layer 18 = .ok (.isub, 1) := by decide +kernel
theorem dX11_layer_19 : decode cX11_layer 19 = .ok (.i2l, 1) := by decide +kernel
theorem dX11_layer_20 : decode cX11_layer 20 = .ok (.invokestatic 94, 3) := by decide +kernel
theorem dX11_layer_23 : decode cX11_layer 23 = .ok (.ifCond .eq 15, 3) := by decide +kernel
theorem dX11_layer_26 : decode cX11_layer 26 = .ok (.iload_n 2, 1) := by decide +kernel
theorem dX11_layer_27 : decode cX11_layer 27 = .ok (.i2l, 1) := by decide +kernel
theorem dX11_layer_28 : decode cX11_layer 28 = .ok (.lconst 0, 1) := by decide +kernel
theorem dX11_layer_29 : decode cX11_layer 29 = .ok (.ldc2_w 242, 3) := by decide +kernel
theorem dX11_layer_32 : decode cX11_layer 32 = .ok (.invokestatic 94, 3) := by decide +kernel
theorem dX11_layer_35 : decode cX11_layer 35 = .ok (.ifCond .ne 7, 3) := by decide +kernel
theorem dX11_layer_38 : decode cX11_layer 38 = .ok (.sipush (-10000), 3) := by decide +kernel
theorem dX11_layer_41 : decode cX11_layer 41 = .ok (.ireturn, 1) := by decide +kernel
theorem dX11_layer_42 : decode cX11_layer 42 = .ok (.iload_n 2, 1) := by decide +kernel
theorem dX11_layer_43 : decode cX11_layer 43 = .ok (.iconst 3, 1) := by decide +kernel
theorem dX11_layer_44 : decode cX11_layer 44 = .ok (.if_icmp .ge 37, 3) := by decide +kernel
theorem dX11_layer_47 : decode cX11_layer 47 = .ok (.iload_n 2, 1) := by decide +kernel
theorem dX11_layer_48 : decode cX11_layer 48 = .ok (.ifCond .ne 12, 3) := by decide +kernel
theorem dX11_layer_51 : decode cX11_layer 51 = .ok (.aload_n 0, 1) := by decide +kernel
theorem dX11_layer_52 : decode cX11_layer 52 = .ok (.getfield 20, 3) := by decide +kernel
theorem dX11_layer_55 : decode cX11_layer 55 = .ok (.iload_n 1, 1) := by decide +kernel
theorem dX11_layer_56 : decode cX11_layer 56 = .ok (.iaload, 1) := by decide +kernel
theorem dX11_layer_57 : decode cX11_layer 57 = .ok (.goto 23, 3) := by decide +kernel
theorem dX11_layer_60 : decode cX11_layer 60 = .ok (.iload_n 2, 1) := by decide +kernel
theorem dX11_layer_61 : decode cX11_layer 61 = .ok (.iconst 1, 1) := by decide +kernel
theorem dX11_layer_62 : decode cX11_layer 62 = .ok (.if_icmp .ne 12, 3) := by decide +kernel
theorem dX11_layer_65 : decode cX11_layer 65 = .ok (.aload_n 0, 1) := by decide +kernel
theorem dX11_layer_66 : decode cX11_layer 66 = .ok (.getfield 23, 3) := by decide +kernel
theorem dX11_layer_69 : decode cX11_layer 69 = .ok (.iload_n 1, 1) := by decide +kernel
theorem dX11_layer_70 : decode cX11_layer 70 = .ok (.iaload, 1) := by decide +kernel
theorem dX11_layer_71 : decode cX11_layer 71 = .ok (.goto 9, 3) := by decide +kernel
theorem dX11_layer_74 : decode cX11_layer 74 = .ok (.aload_n 0, 1) := by decide +kernel
theorem dX11_layer_75 : decode cX11_layer 75 = .ok (.getfield 26, 3) := by decide +kernel
theorem dX11_layer_78 : decode cX11_layer 78 = .ok (.iload_n 1, 1) := by decide +kernel
theorem dX11_layer_79 : decode cX11_layer 79 = .ok (.iaload, 1) := by decide +kernel
theorem dX11_layer_80 : decode cX11_layer 80 = .ok (.ireturn, 1) := by decide +kernel
theorem dX11_layer_81 : decode cX11_layer 81 = .ok (.aload_n 0, 1) := by decide +kernel
theorem dX11_layer_82 : decode cX11_layer 82 = .ok (.aload_n 0, 1) := by decide +kernel
theorem dX11_layer_83 : decode cX11_layer 83 = .ok (.getfield 23, 3) := by decide +kernel
theorem dX11_layer_86 : decode cX11_layer 86 = .ok (.iload_n 1, 1) := by decide +kernel
theorem dX11_layer_87 : decode cX11_layer 87 = .ok (.iaload, 1) := by decide +kernel
theorem dX11_layer_88 : decode cX11_layer 88 = .ok (.i2l, 1) := by decide +kernel
theorem dX11_layer_89 : decode cX11_layer 89 = .ok (.aload_n 0, 1) := by decide +kernel
theorem dX11_layer_90 : decode cX11_layer 90 = .ok (.getfield 26, 3) := by decide +kernel
theorem dX11_layer_93 : decode cX11_layer 93 = .ok (.iload_n 1, 1) := by decide +kernel
theorem dX11_layer_94 : decode cX11_layer 94 = .ok (.iaload, 1) := by decide +kernel
theorem dX11_layer_95 : decode cX11_layer 95 = .ok (.i2l, 1) := by decide +kernel
theorem dX11_layer_96 : decode cX11_layer 96 = .ok (.iload_n 2, 1) := by decide +kernel
theorem dX11_layer_97 : decode cX11_layer 97 = .ok (.iconst 1, 1) := by decide +kernel
theorem dX11_layer_98 : decode cX11_layer 98 = .ok (.iadd, 1) := by decide +kernel
theorem dX11_layer_99 : decode cX11_layer 99 = .ok (.iconst 2, 1) := by decide +kernel
theorem dX11_layer_100 : decode cX11_layer 100 = .ok (.idiv, 1) := by decide +kernel
theorem dX11_layer_101 : decode cX11_layer 101 = .ok (.invokevirtual 244, 3) := by decide +kernel
theorem dX11_layer_104 : decode cX11_layer 104 = .ok (.iload_n 2, 1) := by decide +kernel
theorem dX11_layer_105 : decode cX11_layer 105 = .ok (.iconst 2, 1) := by decide +kernel
theorem dX11_layer_106 : decode cX11_layer 106 = .ok (.irem, 1) := by decide +kernel
theorem dX11_layer_107 : decode cX11_layer 107 = .ok (.iconst 1, 1) := by decide +kernel
theorem dX11_layer_108 : decode cX11_layer 108 = .ok (.if_icmp .ne 10, 3) := by decide +kernel
theorem dX11_layer_111 : decode cX11_layer 111 = .ok (.aload_n 0, 1) := by decide +kernel
theorem dX11_layer_112 : decode cX11_layer 112 = .ok (.getfield 239, 3) := by decide +kernel
theorem dX11_layer_115 : decode cX11_layer 115 = .ok (.goto 7, 3) := by decide +kernel
theorem dX11_layer_118 : decode cX11_layer 118 = .ok (.aload_n 0, 1) := by decide +kernel
theorem dX11_layer_119 : decode cX11_layer 119 = .ok (.getfield 235, 3) := by decide +kernel
theorem dX11_layer_122 : decode cX11_layer 122 = .ok (.l2i, 1) := by decide +kernel
theorem dX11_layer_123 : decode cX11_layer 123 = .ok (.ireturn, 1) := by decide +kernel
theorem dX11_begins_0 : decode cX11_begins 0 = .ok (.aload_n 0, 1) := by decide +kernel
theorem dX11_begins_1 : decode cX11_begins 1 = .ok (.lconst 1, 1) := by decide +kernel
theorem dX11_begins_2 : decode cX11_begins 2 = .ok (.putfield 248, 3) := by decide +kernel
theorem dX11_begins_5 : decode cX11_begins 5 = .ok (.aload_n 0, 1) := by decide +kernel
theorem dX11_begins_6 : decode cX11_begins 6 = .ok (.lconst 0, 1) := by decide +kernel
theorem dX11_begins_7 : decode cX11_begins 7 = .ok (.putfield 251, 3) := by decide +kernel
theorem dX11_begins_10 : decode cX11_begins 10 = .ok (.aload_n 0, 1) := by decide +kernel
theorem dX11_begins_11 : decode cX11_begins 11 = .ok (.lconst 0, 1) := by decide +kernel
theorem dX11_begins_12 : decode cX11_begins 12 = .ok (.putfield 254, 3) := by decide +kernel
theorem dX11_begins_15 : decode cX11_begins 15 = .ok (.aload_n 0, 1) := by decide +kernel
theorem dX11_begins_16 : decode cX11_begins 16 = .ok (.lconst 1, 1) := by decide +kernel
theorem dX11_begins_17 : decode cX11_begins 17 = .ok (.putfield 257, 3) := by decide +kernel
theorem dX11_begins_20 : decode cX11_begins 20 = .ok (.aload_n 0, 1) := by decide +kernel
theorem dX11_begins_21 : decode cX11_begins 21 = .ok (.iconst 1, 1) := by decide +kernel
theorem dX11_begins_22 : decode cX11_begins 22 = .ok (.putfield 260, 3) := by decide +kernel
theorem dX11_begins_25 : decode cX11_begins 25 = .ok (.return_, 1) := by decide +kernel
theorem dX11_isTooFine_0 : decode cX11_isTooFine 0 = .ok (.lload_n 0, 1) := by decide +kernel
theorem dX11_isTooFine_1 : decode cX11_isTooFine 1 = .ok (.ldc2_w 264, 3) := by decide +kernel
theorem dX11_isTooFine_4 : decode cX11_isTooFine 4 = .ok (.ldc2_w 266, 3) := by decide +kernel
theorem dX11_isTooFine_7 : decode cX11_isTooFine 7 = .ok (.invokestatic 94, 3) := by decide +kernel
theorem dX11_isTooFine_10 : decode cX11_isTooFine 10 = .ok (.ifCond .eq 44, 3) := by decide +kernel
theorem dX11_isTooFine_13 : decode cX11_isTooFine 13 = .ok (.lload_n 2, 1) := by decide +kernel
theorem dX11_isTooFine_14 : decode cX11_isTooFine 14 = .ok (.ldc2_w 264, 3) := by decide +kernel
theorem dX11_isTooFine_17 : decode cX11_isTooFine 17 = .ok (.ldc2_w 266, 3) := by decide +kernel
theorem dX11_isTooFine_20 : decode cX11_isTooFine 20 = .ok (.invokestatic 94, 3) := by decide +kernel
theorem dX11_isTooFine_23 : decode cX11_isTooFine 23 = .ok (.ifCond .eq 31, 3) := by decide +kernel
theorem dX11_isTooFine_26 : decode cX11_isTooFine 26 = .ok (.lload 4, 2) := by decide +kernel
theorem dX11_isTooFine_28 : decode cX11_isTooFine 28 = .ok (.ldc2_w 264, 3) := by decide +kernel
theorem dX11_isTooFine_31 : decode cX11_isTooFine 31 = .ok (.ldc2_w 266, 3) := by decide +kernel
theorem dX11_isTooFine_34 : decode cX11_isTooFine 34 = .ok (.invokestatic 94, 3) := by decide +kernel
theorem dX11_isTooFine_37 : decode cX11_isTooFine 37 = .ok (.ifCond .eq 17, 3) := by decide +kernel
theorem dX11_isTooFine_40 : decode cX11_isTooFine 40 = .ok (.lload 6, 2) := by decide +kernel
theorem dX11_isTooFine_42 : decode cX11_isTooFine 42 = .ok (.ldc2_w 264, 3) := by decide +kernel
theorem dX11_isTooFine_45 : decode cX11_isTooFine 45 = .ok (.ldc2_w 266, 3) := by decide +kernel
theorem dX11_isTooFine_48 : decode cX11_isTooFine 48 = .ok (.invokestatic 94, 3) := by decide +kernel
theorem dX11_isTooFine_51 : decode cX11_isTooFine 51 = .ok (.ifCond .ne 7, 3) := by decide +kernel
theorem dX11_isTooFine_54 : decode cX11_isTooFine 54 = .ok (.iconst 1, 1) := by decide +kernel
theorem dX11_isTooFine_55 : decode cX11_isTooFine 55 = .ok (.goto 4, 3) := by decide +kernel
theorem dX11_isTooFine_58 : decode cX11_isTooFine 58 = .ok (.iconst 0, 1) := by decide +kernel
theorem dX11_isTooFine_59 : decode cX11_isTooFine 59 = .ok (.ireturn, 1) := by decide +kernel
theorem dX11_adds_0 : decode cX11_adds 0 = .ok (.aload_n 0, 1) := by decide +kernel
theorem dX11_adds_1 : decode cX11_adds 1 = .ok (.getfield 260, 3) := by decide +kernel
theorem dX11_adds_4 : decode cX11_adds 4 = .ok (.ifCond .ne 4, 3) := by decide +kernel
theorem dX11_adds_7 : decode cX11_adds 7 = .ok (.return_, 1) := by decide +kernel
theorem dX11_adds_8 : decode cX11_adds 8 = .ok (.aload_n 0, 1) := by decide +kernel
theorem dX11_adds_9 : decode cX11_adds 9 = .ok (.lload_n 2, 1) := by decide +kernel
theorem dX11_adds_10 : decode cX11_adds 10 = .ok (.lload 4, 2) := by decide +kernel
theorem dX11_adds_12 : decode cX11_adds 12 = .ok (.iload 6, 2) := by decide +kernel
theorem dX11_adds_14 : decode cX11_adds 14 = .ok (.invokevirtual 244, 3) := by decide +kernel
theorem dX11_adds_17 : decode cX11_adds 17 = .ok (.aload_n 0, 1) := by decide +kernel
theorem dX11_adds_18 : decode cX11_adds 18 = .ok (.getfield 7, 3) := by decide +kernel
theorem dX11_adds_21 : decode cX11_adds 21 = .ok (.iload_n 1, 1) := by decide +kernel
theorem dX11_adds_22 : decode cX11_adds 22 = .ok (.iaload, 1) := by decide +kernel
theorem dX11_adds_23 : decode cX11_adds 23 = .ok (.i2l, 1) := by decide +kernel
theorem dX11_adds_24 : decode cX11_adds 24 = .ok (.lstore 7, 2) := by decide +kernel
theorem dX11_adds_26 : decode cX11_adds 26 = .ok (.aload_n 0, 1) := by decide +kernel
theorem dX11_adds_27 : decode cX11_adds 27 = .ok (.getfield 13, 3) := by decide +kernel
theorem dX11_adds_30 : decode cX11_adds 30 = .ok (.iload_n 1, 1) := by decide +kernel
theorem dX11_adds_31 : decode cX11_adds 31 = .ok (.iaload, 1) := by decide +kernel
theorem dX11_adds_32 : decode cX11_adds 32 = .ok (.i2l, 1) := by decide +kernel
theorem dX11_adds_33 : decode cX11_adds 33 = .ok (.lstore 9, 2) := by decide +kernel
theorem dX11_adds_35 : decode cX11_adds 35 = .ok (.lload 7, 2) := by decide +kernel
theorem dX11_adds_37 : decode cX11_adds 37 = .ok (.lload 9, 2) := by decide +kernel
theorem dX11_adds_39 : decode cX11_adds 39 = .ok (.lmul, 1) := by decide +kernel
theorem dX11_adds_40 : decode cX11_adds 40 = .ok (.aload_n 0, 1) := by decide +kernel
theorem dX11_adds_41 : decode cX11_adds 41 = .ok (.getfield 235, 3) := by decide +kernel
theorem dX11_adds_44 : decode cX11_adds 44 = .ok (.aload_n 0, 1) := by decide +kernel
theorem dX11_adds_45 : decode cX11_adds 45 = .ok (.getfield 235, 3) := by decide +kernel
theorem dX11_adds_48 : decode cX11_adds 48 = .ok (.lmul, 1) := by decide +kernel
theorem dX11_adds_49 : decode cX11_adds 49 = .ok (.aload_n 0, 1) := by decide +kernel
theorem dX11_adds_50 : decode cX11_adds 50 = .ok (.getfield 239, 3) := by decide +kernel
theorem dX11_adds_53 : decode cX11_adds 53 = .ok (.aload_n 0, 1) := by decide +kernel
theorem dX11_adds_54 : decode cX11_adds 54 = .ok (.getfield 239, 3) := by decide +kernel
theorem dX11_adds_57 : decode cX11_adds 57 = .ok (.lmul, 1) := by decide +kernel
theorem dX11_adds_58 : decode cX11_adds 58 = .ok (.lsub, 1) := by decide +kernel
theorem dX11_adds_59 : decode cX11_adds 59 = .ok (.lmul, 1) := by decide +kernel
theorem dX11_adds_60 : decode cX11_adds 60 = .ok (.lstore 11, 2) := by decide +kernel
theorem dX11_adds_62 : decode cX11_adds 62 = .ok (.ldc2_w 268, 3) := by decide +kernel
theorem dX11_adds_65 : decode cX11_adds 65 = .ok (.lload 9, 2) := by decide +kernel
theorem dX11_adds_67 : decode cX11_adds 67 = .ok (.lmul, 1) := by decide +kernel
theorem dX11_adds_68 : decode cX11_adds 68 = .ok (.lload 9, 2) := by decide +kernel
theorem dX11_adds_70 : decode cX11_adds 70 = .ok (.lmul, 1) := by decide +kernel
theorem dX11_adds_71 : decode cX11_adds 71 = .ok (.aload_n 0, 1) := by decide +kernel
theorem dX11_adds_72 : decode cX11_adds 72 = .ok (.getfield 239, 3) := by decide +kernel
theorem dX11_adds_75 : decode cX11_adds 75 = .ok (.lmul, 1) := by decide +kernel
theorem dX11_adds_76 : decode cX11_adds 76 = .ok (.aload_n 0, 1) := by decide +kernel
theorem dX11_adds_77 : decode cX11_adds 77 = .ok (.getfield 235, 3) := by decide +kernel
theorem dX11_adds_80 : decode cX11_adds 80 = .ok (.lmul, 1) := by decide +kernel
theorem dX11_adds_81 : decode cX11_adds 81 = .ok (.lstore 13, 2) := by decide +kernel
theorem dX11_adds_83 : decode cX11_adds 83 = .ok (.ldc2_w 268, 3) := by decide +kernel
theorem dX11_adds_86 : decode cX11_adds 86 = .ok (.lload 7, 2) := by decide +kernel
theorem dX11_adds_88 : decode cX11_adds 88 = .ok (.lmul, 1) := by decide +kernel
theorem dX11_adds_89 : decode cX11_adds 89 = .ok (.lload 7, 2) := by decide +kernel
theorem dX11_adds_91 : decode cX11_adds 91 = .ok (.lmul, 1) := by decide +kernel
theorem dX11_adds_92 : decode cX11_adds 92 = .ok (.aload_n 0, 1) := by decide +kernel
theorem dX11_adds_93 : decode cX11_adds 93 = .ok (.getfield 239, 3) := by decide +kernel
theorem dX11_adds_96 : decode cX11_adds 96 = .ok (.lmul, 1) := by decide +kernel
theorem dX11_adds_97 : decode cX11_adds 97 = .ok (.aload_n 0, 1) := by decide +kernel
theorem dX11_adds_98 : decode cX11_adds 98 = .ok (.getfield 235, 3) := by decide +kernel
theorem dX11_adds_101 : decode cX11_adds 101 = .ok (.lmul, 1) := by decide +kernel
theorem dX11_adds_102 : decode cX11_adds 102 = .ok (.lstore 15, 2) := by decide +kernel
theorem dX11_adds_104 : decode cX11_adds 104 = .ok (.lload 11, 2) := by decide +kernel
theorem dX11_adds_106 : decode cX11_adds 106 = .ok (.lload 13, 2) := by decide +kernel
theorem dX11_adds_108 : decode cX11_adds 108 = .ok (.lload 15, 2) := by decide +kernel
theorem dX11_adds_110 : decode cX11_adds 110 = .ok (.invokestatic 100, 3) := by decide +kernel
theorem dX11_adds_113 : decode cX11_adds 113 = .ok (.invokestatic 100, 3) := by decide +kernel
theorem dX11_adds_116 : decode cX11_adds 116 = .ok (.lstore 17, 2) := by decide +kernel
theorem dX11_adds_118 : decode cX11_adds 118 = .ok (.lload 11, 2) := by decide +kernel
theorem dX11_adds_120 : decode cX11_adds 120 = .ok (.lload 17, 2) := by decide +kernel
theorem dX11_adds_122 : decode cX11_adds 122 = .ok (.ldiv, 1) := by decide +kernel
theorem dX11_adds_123 : decode cX11_adds 123 = .ok (.lstore 11, 2) := by decide +kernel
theorem dX11_adds_125 : decode cX11_adds 125 = .ok (.lload 13, 2) := by decide +kernel
theorem dX11_adds_127 : decode cX11_adds 127 = .ok (.lload 17, 2) := by decide +kernel
theorem dX11_adds_129 : decode cX11_adds 129 = .ok (.ldiv, 1) := by decide +kernel
theorem dX11_adds_130 : decode cX11_adds 130 = .ok (.lstore 13, 2) := by decide +kernel
theorem dX11_adds_132 : decode cX11_adds 132 = .ok (.lload 15, 2) := by decide +kernel
theorem dX11_adds_134 : decode cX11_adds 134 = .ok (.lload 17, 2) := by decide +kernel
theorem dX11_adds_136 : decode cX11_adds 136 = .ok (.ldiv, 1) := by decide +kernel
theorem dX11_adds_137 : decode cX11_adds 137 = .ok (.lstore 15, 2) := by decide +kernel
theorem dX11_adds_139 : decode cX11_adds 139 = .ok (.lload 11, 2) := by decide +kernel
theorem dX11_adds_141 : decode cX11_adds 141 = .ok (.lload 13, 2) := by decide +kernel
theorem dX11_adds_143 : decode cX11_adds 143 = .ok (.lload 15, 2) := by decide +kernel
theorem dX11_adds_145 : decode cX11_adds 145 = .ok (.lload 11, 2) := by decide +kernel
theorem dX11_adds_147 : decode cX11_adds 147 = .ok (.invokestatic 270, 3) := by decide +kernel
theorem dX11_adds_150 : decode cX11_adds 150 = .ok (.ifCond .eq 9, 3) := by decide +kernel
theorem dX11_adds_153 : decode cX11_adds 153 = .ok (.aload_n 0, 1) := by decide +kernel
theorem dX11_adds_154 : decode cX11_adds 154 = .ok (.iconst 0, 1) := by decide +kernel
theorem dX11_adds_155 : decode cX11_adds 155 = .ok (.putfield 260, 3) := by decide +kernel
theorem dX11_adds_158 : decode cX11_adds 158 = .ok (.return_, 1) := by decide +kernel
theorem dX11_adds_159 : decode cX11_adds 159 = .ok (.aload_n 0, 1) := by decide +kernel
theorem dX11_adds_160 : decode cX11_adds 160 = .ok (.getfield 248, 3) := by decide +kernel
theorem dX11_adds_163 : decode cX11_adds 163 = .ok (.lload 11, 2) := by decide +kernel
theorem dX11_adds_165 : decode cX11_adds 165 = .ok (.lmul, 1) := by decide +kernel
theorem dX11_adds_166 : decode cX11_adds 166 = .ok (.aload_n 0, 1) := by decide +kernel
theorem dX11_adds_167 : decode cX11_adds 167 = .ok (.getfield 251, 3) := by decide +kernel
theorem dX11_adds_170 : decode cX11_adds 170 = .ok (.lload 15, 2) := by decide +kernel
theorem dX11_adds_172 : decode cX11_adds 172 = .ok (.lmul, 1) := by decide +kernel
theorem dX11_adds_173 : decode cX11_adds 173 = .ok (.lsub, 1) := by decide +kernel
theorem dX11_adds_174 : decode cX11_adds 174 = .ok (.lstore 19, 2) := by decide +kernel
theorem dX11_adds_176 : decode cX11_adds 176 = .ok (.aload_n 0, 1) := by decide +kernel
theorem dX11_adds_177 : decode cX11_adds 177 = .ok (.getfield 248, 3) := by decide +kernel
theorem dX11_adds_180 : decode cX11_adds 180 = .ok (.lload 13, 2) := by decide +kernel
theorem dX11_adds_182 : decode cX11_adds 182 = .ok (.lmul, 1) := by decide +kernel
theorem dX11_adds_183 : decode cX11_adds 183 = .ok (.aload_n 0, 1) := by decide +kernel
theorem dX11_adds_184 : decode cX11_adds 184 = .ok (.getfield 251, 3) := by decide +kernel
theorem dX11_adds_187 : decode cX11_adds 187 = .ok (.lload 11, 2) := by decide +kernel
theorem dX11_adds_189 : decode cX11_adds 189 = .ok (.lmul, 1) := by decide +kernel
theorem dX11_adds_190 : decode cX11_adds 190 = .ok (.ladd, 1) := by decide +kernel
theorem dX11_adds_191 : decode cX11_adds 191 = .ok (.lstore 21, 2) := by decide +kernel
theorem dX11_adds_193 : decode cX11_adds 193 = .ok (.aload_n 0, 1) := by decide +kernel
theorem dX11_adds_194 : decode cX11_adds 194 = .ok (.getfield 254, 3) := by decide +kernel
theorem dX11_adds_197 : decode cX11_adds 197 = .ok (.lload 11, 2) := by decide +kernel
theorem dX11_adds_199 : decode cX11_adds 199 = .ok (.lmul, 1) := by decide +kernel
theorem dX11_adds_200 : decode cX11_adds 200 = .ok (.aload_n 0, 1) := by decide +kernel
theorem dX11_adds_201 : decode cX11_adds 201 = .ok (.getfield 257, 3) := by decide +kernel
theorem dX11_adds_204 : decode cX11_adds 204 = .ok (.lload 15, 2) := by decide +kernel
theorem dX11_adds_206 : decode cX11_adds 206 = .ok (.lmul, 1) := by decide +kernel
theorem dX11_adds_207 : decode cX11_adds 207 = .ok (.ladd, 1) := by decide +kernel
theorem dX11_adds_208 : decode cX11_adds 208 = .ok (.lstore 23, 2) := by decide +kernel
theorem dX11_adds_210 : decode cX11_adds 210 = .ok (.aload_n 0, 1) := by decide +kernel
theorem dX11_adds_211 : decode cX11_adds 211 = .ok (.getfield 257, 3) := by decide +kernel
theorem dX11_adds_214 : decode cX11_adds 214 = .ok (.lload 11, 2) := by decide +kernel
theorem dX11_adds_216 : decode cX11_adds 216 = .ok (.lmul, 1) := by decide +kernel
theorem dX11_adds_217 : decode cX11_adds 217 = .ok (.aload_n 0, 1) := by decide +kernel
theorem dX11_adds_218 : decode cX11_adds 218 = .ok (.getfield 254, 3) := by decide +kernel
theorem dX11_adds_221 : decode cX11_adds 221 = .ok (.lload 13, 2) := by decide +kernel
theorem dX11_adds_223 : decode cX11_adds 223 = .ok (.lmul, 1) := by decide +kernel
theorem dX11_adds_224 : decode cX11_adds 224 = .ok (.lsub, 1) := by decide +kernel
theorem dX11_adds_225 : decode cX11_adds 225 = .ok (.lstore 25, 2) := by decide +kernel
theorem dX11_adds_227 : decode cX11_adds 227 = .ok (.lload 19, 2) := by decide +kernel
theorem dX11_adds_229 : decode cX11_adds 229 = .ok (.lload 21, 2) := by decide +kernel
theorem dX11_adds_231 : decode cX11_adds 231 = .ok (.invokestatic 100, 3) := by decide +kernel
theorem dX11_adds_234 : decode cX11_adds 234 = .ok (.lload 23, 2) := by decide +kernel
theorem dX11_adds_236 : decode cX11_adds 236 = .ok (.lload 25, 2) := by decide +kernel
theorem dX11_adds_238 : decode cX11_adds 238 = .ok (.invokestatic 100, 3) := by decide +kernel
theorem dX11_adds_241 : decode cX11_adds 241 = .ok (.invokestatic 100, 3) := by decide +kernel
theorem dX11_adds_244 : decode cX11_adds 244 = .ok (.lstore 17, 2) := by decide +kernel
theorem dX11_adds_246 : decode cX11_adds 246 = .ok (.aload_n 0, 1) := by decide +kernel
theorem dX11_adds_247 : decode cX11_adds 247 = .ok (.lload 19, 2) := by decide +kernel
theorem dX11_adds_249 : decode cX11_adds 249 = .ok (.lload 17, 2) := by decide +kernel
theorem dX11_adds_251 : decode cX11_adds 251 = .ok (.ldiv, 1) := by decide +kernel
theorem dX11_adds_252 : decode cX11_adds 252 = .ok (.putfield 248, 3) := by decide +kernel
theorem dX11_adds_255 : decode cX11_adds 255 = .ok (.aload_n 0, 1) := by decide +kernel
theorem dX11_adds_256 : decode cX11_adds 256 = .ok (.lload 21, 2) := by decide +kernel
theorem dX11_adds_258 : decode cX11_adds 258 = .ok (.lload 17, 2) := by decide +kernel
theorem dX11_adds_260 : decode cX11_adds 260 = .ok (.ldiv, 1) := by decide +kernel
theorem dX11_adds_261 : decode cX11_adds 261 = .ok (.putfield 251, 3) := by decide +kernel
theorem dX11_adds_264 : decode cX11_adds 264 = .ok (.aload_n 0, 1) := by decide +kernel
theorem dX11_adds_265 : decode cX11_adds 265 = .ok (.lload 23, 2) := by decide +kernel
theorem dX11_adds_267 : decode cX11_adds 267 = .ok (.lload 17, 2) := by decide +kernel
theorem dX11_adds_269 : decode cX11_adds 269 = .ok (.ldiv, 1) := by decide +kernel
theorem dX11_adds_270 : decode cX11_adds 270 = .ok (.putfield 254, 3) := by decide +kernel
theorem dX11_adds_273 : decode cX11_adds 273 = .ok (.aload_n 0, 1) := by decide +kernel
theorem dX11_adds_274 : decode cX11_adds 274 = .ok (.lload 25, 2) := by decide +kernel
theorem dX11_adds_276 : decode cX11_adds 276 = .ok (.lload 17, 2) := by decide +kernel
theorem dX11_adds_278 : decode cX11_adds 278 = .ok (.ldiv, 1) := by decide +kernel
theorem dX11_adds_279 : decode cX11_adds 279 = .ok (.putfield 257, 3) := by decide +kernel
theorem dX11_adds_282 : decode cX11_adds 282 = .ok (.aload_n 0, 1) := by decide +kernel
theorem dX11_adds_283 : decode cX11_adds 283 = .ok (.aload_n 0, 1) := by decide +kernel
theorem dX11_adds_284 : decode cX11_adds 284 = .ok (.getfield 248, 3) := by decide +kernel
theorem dX11_adds_287 : decode cX11_adds 287 = .ok (.aload_n 0, 1) := by decide +kernel
theorem dX11_adds_288 : decode cX11_adds 288 = .ok (.getfield 251, 3) := by decide +kernel
theorem dX11_adds_291 : decode cX11_adds 291 = .ok (.aload_n 0, 1) := by decide +kernel
theorem dX11_adds_292 : decode cX11_adds 292 = .ok (.getfield 254, 3) := by decide +kernel
theorem dX11_adds_295 : decode cX11_adds 295 = .ok (.aload_n 0, 1) := by decide +kernel
theorem dX11_adds_296 : decode cX11_adds 296 = .ok (.getfield 257, 3) := by decide +kernel
theorem dX11_adds_299 : decode cX11_adds 299 = .ok (.invokestatic 270, 3) := by decide +kernel
theorem dX11_adds_302 : decode cX11_adds 302 = .ok (.ifCond .ne 7, 3) := by decide +kernel
theorem dX11_adds_305 : decode cX11_adds 305 = .ok (.iconst 1, 1) := by decide +kernel
theorem dX11_adds_306 : decode cX11_adds 306 = .ok (.goto 4, 3) := by decide +kernel
theorem dX11_adds_309 : decode cX11_adds 309 = .ok (.iconst 0, 1) := by decide +kernel
theorem dX11_adds_310 : decode cX11_adds 310 = .ok (.putfield 260, 3) := by decide +kernel
theorem dX11_adds_313 : decode cX11_adds 313 = .ok (.return_, 1) := by decide +kernel
theorem dX11_rows_0 : decode cX11_rows 0 = .ok (.aload_n 0, 1) := by decide +kernel
theorem dX11_rows_1 : decode cX11_rows 1 = .ok (.invokevirtual 274, 3) := by decide +kernel
theorem dX11_rows_4 : decode cX11_rows 4 = .ok (.iconst 0, 1) := by decide +kernel
theorem dX11_rows_5 : decode cX11_rows 5 = .ok (.istore_n 3, 1) := by decide +kernel
theorem dX11_rows_6 : decode cX11_rows 6 = .ok (.iload_n 3, 1) := by decide +kernel
theorem dX11_rows_7 : decode cX11_rows 7 = .ok (.iload_n 1, 1) := by decide +kernel
theorem dX11_rows_8 : decode cX11_rows 8 = .ok (.if_icmp .ge 34, 3) := by decide +kernel
theorem dX11_rows_11 : decode cX11_rows 11 = .ok (.aload_n 0, 1) := by decide +kernel
theorem dX11_rows_12 : decode cX11_rows 12 = .ok (.aload_n 0, 1) := by decide +kernel
theorem dX11_rows_13 : decode cX11_rows 13 = .ok (.getfield 20, 3) := by decide +kernel
theorem dX11_rows_16 : decode cX11_rows 16 = .ok (.iload_n 3, 1) := by decide +kernel
theorem dX11_rows_17 : decode cX11_rows 17 = .ok (.iaload, 1) := by decide +kernel
theorem dX11_rows_18 : decode cX11_rows 18 = .ok (.aload_n 0, 1) := by decide +kernel
theorem dX11_rows_19 : decode cX11_rows 19 = .ok (.getfield 23, 3) := by decide +kernel
theorem dX11_rows_22 : decode cX11_rows 22 = .ok (.iload_n 3, 1) := by decide +kernel
theorem dX11_rows_23 : decode cX11_rows 23 = .ok (.iaload, 1) := by decide +kernel
theorem dX11_rows_24 : decode cX11_rows 24 = .ok (.i2l, 1) := by decide +kernel
theorem dX11_rows_25 : decode cX11_rows 25 = .ok (.aload_n 0, 1) := by decide +kernel
theorem dX11_rows_26 : decode cX11_rows 26 = .ok (.getfield 26, 3) := by decide +kernel
theorem dX11_rows_29 : decode cX11_rows 29 = .ok (.iload_n 3, 1) := by decide +kernel
theorem dX11_rows_30 : decode cX11_rows 30 = .ok (.iaload, 1) := by decide +kernel
theorem dX11_rows_31 : decode cX11_rows 31 = .ok (.i2l, 1) := by decide +kernel
theorem dX11_rows_32 : decode cX11_rows 32 = .ok (.iload_n 2, 1) := by decide +kernel
theorem dX11_rows_33 : decode cX11_rows 33 = .ok (.invokevirtual 277, 3) := by decide +kernel
theorem dX11_rows_36 : decode cX11_rows 36 = .ok (.iinc 3 1, 3) := by decide +kernel
theorem dX11_rows_39 : decode cX11_rows 39 = .ok (.goto (-33), 3) := by decide +kernel
theorem dX11_rows_42 : decode cX11_rows 42 = .ok (.return_, 1) := by decide +kernel
theorem dX11_lights_0 : decode cX11_lights 0 = .ok (.aload_n 0, 1) := by decide +kernel
theorem dX11_lights_1 : decode cX11_lights 1 = .ok (.getfield 7, 3) := by decide +kernel
theorem dX11_lights_4 : decode cX11_lights 4 = .ok (.aload_n 0, 1) := by decide +kernel
theorem dX11_lights_5 : decode cX11_lights 5 = .ok (.getfield 104, 3) := by decide +kernel
theorem dX11_lights_8 : decode cX11_lights 8 = .ok (.iaload, 1) := by decide +kernel
theorem dX11_lights_9 : decode cX11_lights 9 = .ok (.i2l, 1) := by decide +kernel
theorem dX11_lights_10 : decode cX11_lights 10 = .ok (.lstore_n 1, 1) := by decide +kernel
theorem dX11_lights_11 : decode cX11_lights 11 = .ok (.aload_n 0, 1) := by decide +kernel
theorem dX11_lights_12 : decode cX11_lights 12 = .ok (.getfield 13, 3) := by decide +kernel
theorem dX11_lights_15 : decode cX11_lights 15 = .ok (.aload_n 0, 1) := by decide +kernel
theorem dX11_lights_16 : decode cX11_lights 16 = .ok (.getfield 104, 3) := by decide +kernel
theorem dX11_lights_19 : decode cX11_lights 19 = .ok (.iaload, 1) := by decide +kernel
theorem dX11_lights_20 : decode cX11_lights 20 = .ok (.i2l, 1) := by decide +kernel
theorem dX11_lights_21 : decode cX11_lights 21 = .ok (.lstore_n 3, 1) := by decide +kernel
theorem dX11_lights_22 : decode cX11_lights 22 = .ok (.aload_n 0, 1) := by decide +kernel
theorem dX11_lights_23 : decode cX11_lights 23 = .ok (.getfield 7, 3) := by decide +kernel
theorem dX11_lights_26 : decode cX11_lights 26 = .ok (.aload_n 0, 1) := by decide +kernel
theorem dX11_lights_27 : decode cX11_lights 27 = .ok (.getfield 16, 3) := by decide +kernel
theorem dX11_lights_30 : decode cX11_lights 30 = .ok (.iaload, 1) := by decide +kernel
theorem dX11_lights_31 : decode cX11_lights 31 = .ok (.i2l, 1) := by decide +kernel
theorem dX11_lights_32 : decode cX11_lights 32 = .ok (.lstore 5, 2) := by decide +kernel
theorem dX11_lights_34 : decode cX11_lights 34 = .ok (.aload_n 0, 1) := by decide +kernel
theorem dX11_lights_35 : decode cX11_lights 35 = .ok (.getfield 13, 3) := by decide +kernel
theorem dX11_lights_38 : decode cX11_lights 38 = .ok (.aload_n 0, 1) := by decide +kernel
theorem dX11_lights_39 : decode cX11_lights 39 = .ok (.getfield 16, 3) := by decide +kernel
theorem dX11_lights_42 : decode cX11_lights 42 = .ok (.iaload, 1) := by decide +kernel
theorem dX11_lights_43 : decode cX11_lights 43 = .ok (.i2l, 1) := by decide +kernel
theorem dX11_lights_44 : decode cX11_lights 44 = .ok (.lstore 7, 2) := by decide +kernel
theorem dX11_lights_46 : decode cX11_lights 46 = .ok (.lload_n 1, 1) := by decide +kernel
theorem dX11_lights_47 : decode cX11_lights 47 = .ok (.lload 7, 2) := by decide +kernel
theorem dX11_lights_49 : decode cX11_lights 49 = .ok (.lmul, 1) := by decide +kernel
theorem dX11_lights_50 : decode cX11_lights 50 = .ok (.aload_n 0, 1) := by decide +kernel
theorem dX11_lights_51 : decode cX11_lights 51 = .ok (.getfield 248, 3) := by decide +kernel
theorem dX11_lights_54 : decode cX11_lights 54 = .ok (.lmul, 1) := by decide +kernel
theorem dX11_lights_55 : decode cX11_lights 55 = .ok (.lload_n 3, 1) := by decide +kernel
theorem dX11_lights_56 : decode cX11_lights 56 = .ok (.lload 5, 2) := by decide +kernel
theorem dX11_lights_58 : decode cX11_lights 58 = .ok (.lmul, 1) := by decide +kernel
theorem dX11_lights_59 : decode cX11_lights 59 = .ok (.aload_n 0, 1) := by decide +kernel
theorem dX11_lights_60 : decode cX11_lights 60 = .ok (.getfield 257, 3) := by decide +kernel
theorem dX11_lights_63 : decode cX11_lights 63 = .ok (.lmul, 1) := by decide +kernel
theorem dX11_lights_64 : decode cX11_lights 64 = .ok (.lsub, 1) := by decide +kernel
theorem dX11_lights_65 : decode cX11_lights 65 = .ok (.lstore 9, 2) := by decide +kernel
theorem dX11_lights_67 : decode cX11_lights 67 = .ok (.lload_n 1, 1) := by decide +kernel
theorem dX11_lights_68 : decode cX11_lights 68 = .ok (.lload 5, 2) := by decide +kernel
theorem dX11_lights_70 : decode cX11_lights 70 = .ok (.lmul, 1) := by decide +kernel
theorem dX11_lights_71 : decode cX11_lights 71 = .ok (.aload_n 0, 1) := by decide +kernel
theorem dX11_lights_72 : decode cX11_lights 72 = .ok (.getfield 251, 3) := by decide +kernel
theorem dX11_lights_75 : decode cX11_lights 75 = .ok (.lmul, 1) := by decide +kernel
theorem dX11_lights_76 : decode cX11_lights 76 = .ok (.lload_n 3, 1) := by decide +kernel
theorem dX11_lights_77 : decode cX11_lights 77 = .ok (.lload 7, 2) := by decide +kernel
theorem dX11_lights_79 : decode cX11_lights 79 = .ok (.lmul, 1) := by decide +kernel
theorem dX11_lights_80 : decode cX11_lights 80 = .ok (.aload_n 0, 1) := by decide +kernel
theorem dX11_lights_81 : decode cX11_lights 81 = .ok (.getfield 254, 3) := by decide +kernel
theorem dX11_lights_84 : decode cX11_lights 84 = .ok (.lmul, 1) := by decide +kernel
theorem dX11_lights_85 : decode cX11_lights 85 = .ok (.lsub, 1) := by decide +kernel
theorem dX11_lights_86 : decode cX11_lights 86 = .ok (.lstore 11, 2) := by decide +kernel
theorem dX11_lights_88 : decode cX11_lights 88 = .ok (.lload_n 1, 1) := by decide +kernel
theorem dX11_lights_89 : decode cX11_lights 89 = .ok (.lload 7, 2) := by decide +kernel
theorem dX11_lights_91 : decode cX11_lights 91 = .ok (.lmul, 1) := by decide +kernel
theorem dX11_lights_92 : decode cX11_lights 92 = .ok (.aload_n 0, 1) := by decide +kernel
theorem dX11_lights_93 : decode cX11_lights 93 = .ok (.getfield 248, 3) := by decide +kernel
theorem dX11_lights_96 : decode cX11_lights 96 = .ok (.lmul, 1) := by decide +kernel
theorem dX11_lights_97 : decode cX11_lights 97 = .ok (.lload_n 3, 1) := by decide +kernel
theorem dX11_lights_98 : decode cX11_lights 98 = .ok (.lload 5, 2) := by decide +kernel
theorem dX11_lights_100 : decode cX11_lights 100 = .ok (.lmul, 1) := by decide +kernel
theorem dX11_lights_101 : decode cX11_lights 101 = .ok (.aload_n 0, 1) := by decide +kernel
theorem dX11_lights_102 : decode cX11_lights 102 = .ok (.getfield 257, 3) := by decide +kernel
theorem dX11_lights_105 : decode cX11_lights 105 = .ok (.lmul, 1) := by decide +kernel
theorem dX11_lights_106 : decode cX11_lights 106 = .ok (.ladd, 1) := by decide +kernel
theorem dX11_lights_107 : decode cX11_lights 107 = .ok (.lstore 13, 2) := by decide +kernel
theorem dX11_lights_109 : decode cX11_lights 109 = .ok (.lload_n 1, 1) := by decide +kernel
theorem dX11_lights_110 : decode cX11_lights 110 = .ok (.lload 5, 2) := by decide +kernel
theorem dX11_lights_112 : decode cX11_lights 112 = .ok (.lmul, 1) := by decide +kernel
theorem dX11_lights_113 : decode cX11_lights 113 = .ok (.aload_n 0, 1) := by decide +kernel
theorem dX11_lights_114 : decode cX11_lights 114 = .ok (.getfield 251, 3) := by decide +kernel
theorem dX11_lights_117 : decode cX11_lights 117 = .ok (.lmul, 1) := by decide +kernel
theorem dX11_lights_118 : decode cX11_lights 118 = .ok (.lload_n 3, 1) := by decide +kernel
theorem dX11_lights_119 : decode cX11_lights 119 = .ok (.lload 7, 2) := by decide +kernel
theorem dX11_lights_121 : decode cX11_lights 121 = .ok (.lmul, 1) := by decide +kernel
theorem dX11_lights_122 : decode cX11_lights 122 = .ok (.aload_n 0, 1) := by decide +kernel
theorem dX11_lights_123 : decode cX11_lights 123 = .ok (.getfield 254, 3) := by decide +kernel
theorem dX11_lights_126 : decode cX11_lights 126 = .ok (.lmul, 1) := by decide +kernel
theorem dX11_lights_127 : decode cX11_lights 127 = .ok (.ladd, 1) := by decide +kernel
theorem dX11_lights_128 : decode cX11_lights 128 = .ok (.lstore 15, 2) := by decide +kernel
theorem dX11_lights_130 : decode cX11_lights 130 = .ok (.lload 9, 2) := by decide +kernel
theorem dX11_lights_132 : decode cX11_lights 132 = .ok (.lload 9, 2) := by decide +kernel
theorem dX11_lights_134 : decode cX11_lights 134 = .ok (.lmul, 1) := by decide +kernel
theorem dX11_lights_135 : decode cX11_lights 135 = .ok (.lload 11, 2) := by decide +kernel
theorem dX11_lights_137 : decode cX11_lights 137 = .ok (.lload 11, 2) := by decide +kernel
theorem dX11_lights_139 : decode cX11_lights 139 = .ok (.lmul, 1) := by decide +kernel
theorem dX11_lights_140 : decode cX11_lights 140 = .ok (.ladd, 1) := by decide +kernel
theorem dX11_lights_141 : decode cX11_lights 141 = .ok (.lstore 17, 2) := by decide +kernel
theorem dX11_lights_143 : decode cX11_lights 143 = .ok (.lload 13, 2) := by decide +kernel
theorem dX11_lights_145 : decode cX11_lights 145 = .ok (.lload 13, 2) := by decide +kernel
theorem dX11_lights_147 : decode cX11_lights 147 = .ok (.lmul, 1) := by decide +kernel
theorem dX11_lights_148 : decode cX11_lights 148 = .ok (.lload 15, 2) := by decide +kernel
theorem dX11_lights_150 : decode cX11_lights 150 = .ok (.lload 15, 2) := by decide +kernel
theorem dX11_lights_152 : decode cX11_lights 152 = .ok (.lmul, 1) := by decide +kernel
theorem dX11_lights_153 : decode cX11_lights 153 = .ok (.ladd, 1) := by decide +kernel
theorem dX11_lights_154 : decode cX11_lights 154 = .ok (.lstore 19, 2) := by decide +kernel
theorem dX11_lights_156 : decode cX11_lights 156 = .ok (.ldc2_w 281, 3) := by decide +kernel
theorem dX11_lights_159 : decode cX11_lights 159 = .ok (.lload_n 1, 1) := by decide +kernel
theorem dX11_lights_160 : decode cX11_lights 160 = .ok (.lmul, 1) := by decide +kernel
theorem dX11_lights_161 : decode cX11_lights 161 = .ok (.lload_n 3, 1) := by decide +kernel
theorem dX11_lights_162 : decode cX11_lights 162 = .ok (.lmul, 1) := by decide +kernel
theorem dX11_lights_163 : decode cX11_lights 163 = .ok (.lload 5, 2) := by decide +kernel
theorem dX11_lights_165 : decode cX11_lights 165 = .ok (.lmul, 1) := by decide +kernel
theorem dX11_lights_166 : decode cX11_lights 166 = .ok (.lload 7, 2) := by decide +kernel
theorem dX11_lights_168 : decode cX11_lights 168 = .ok (.lmul, 1) := by decide +kernel
theorem dX11_lights_169 : decode cX11_lights 169 = .ok (.aload_n 0, 1) := by decide +kernel
theorem dX11_lights_170 : decode cX11_lights 170 = .ok (.getfield 248, 3) := by decide +kernel
theorem dX11_lights_173 : decode cX11_lights 173 = .ok (.aload_n 0, 1) := by decide +kernel
theorem dX11_lights_174 : decode cX11_lights 174 = .ok (.getfield 257, 3) := by decide +kernel
theorem dX11_lights_177 : decode cX11_lights 177 = .ok (.lmul, 1) := by decide +kernel
theorem dX11_lights_178 : decode cX11_lights 178 = .ok (.aload_n 0, 1) := by decide +kernel
theorem dX11_lights_179 : decode cX11_lights 179 = .ok (.getfield 251, 3) := by decide +kernel
theorem dX11_lights_182 : decode cX11_lights 182 = .ok (.aload_n 0, 1) := by decide +kernel
theorem dX11_lights_183 : decode cX11_lights 183 = .ok (.getfield 254, 3) := by decide +kernel
theorem dX11_lights_186 : decode cX11_lights 186 = .ok (.lmul, 1) := by decide +kernel
theorem dX11_lights_187 : decode cX11_lights 187 = .ok (.ladd, 1) := by decide +kernel
theorem dX11_lights_188 : decode cX11_lights 188 = .ok (.lmul, 1) := by decide +kernel
theorem dX11_lights_189 : decode cX11_lights 189 = .ok (.lstore 21, 2) := by decide +kernel
theorem dX11_lights_191 : decode cX11_lights 191 = .ok (.lload 17, 2) := by decide +kernel
theorem dX11_lights_193 : decode cX11_lights 193 = .ok (.lload 19, 2) := by decide +kernel
theorem dX11_lights_195 : decode cX11_lights 195 = .ok (.invokestatic 100, 3) := by decide +kernel
theorem dX11_lights_198 : decode cX11_lights 198 = .ok (.lstore 23, 2) := by decide +kernel
theorem dX11_lights_200 : decode cX11_lights 200 = .ok (.aload_n 0, 1) := by decide +kernel
theorem dX11_lights_201 : decode cX11_lights 201 = .ok (.lload 17, 2) := by decide +kernel
theorem dX11_lights_203 : decode cX11_lights 203 = .ok (.lload 23, 2) := by decide +kernel
theorem dX11_lights_205 : decode cX11_lights 205 = .ok (.ldiv, 1) := by decide +kernel
theorem dX11_lights_206 : decode cX11_lights 206 = .ok (.putfield 283, 3) := by decide +kernel
theorem dX11_lights_209 : decode cX11_lights 209 = .ok (.aload_n 0, 1) := by decide +kernel
theorem dX11_lights_210 : decode cX11_lights 210 = .ok (.lload 19, 2) := by decide +kernel
theorem dX11_lights_212 : decode cX11_lights 212 = .ok (.lload 23, 2) := by decide +kernel
theorem dX11_lights_214 : decode cX11_lights 214 = .ok (.ldiv, 1) := by decide +kernel
theorem dX11_lights_215 : decode cX11_lights 215 = .ok (.putfield 286, 3) := by decide +kernel
theorem dX11_lights_218 : decode cX11_lights 218 = .ok (.lload 21, 2) := by decide +kernel
theorem dX11_lights_220 : decode cX11_lights 220 = .ok (.lload 19, 2) := by decide +kernel
theorem dX11_lights_222 : decode cX11_lights 222 = .ok (.invokestatic 100, 3) := by decide +kernel
theorem dX11_lights_225 : decode cX11_lights 225 = .ok (.lstore 23, 2) := by decide +kernel
theorem dX11_lights_227 : decode cX11_lights 227 = .ok (.aload_n 0, 1) := by decide +kernel
theorem dX11_lights_228 : decode cX11_lights 228 = .ok (.lload 21, 2) := by decide +kernel
theorem dX11_lights_230 : decode cX11_lights 230 = .ok (.lload 23, 2) := by decide +kernel
theorem dX11_lights_232 : decode cX11_lights 232 = .ok (.ldiv, 1) := by decide +kernel
theorem dX11_lights_233 : decode cX11_lights 233 = .ok (.putfield 289, 3) := by decide +kernel
theorem dX11_lights_236 : decode cX11_lights 236 = .ok (.aload_n 0, 1) := by decide +kernel
theorem dX11_lights_237 : decode cX11_lights 237 = .ok (.lload 19, 2) := by decide +kernel
theorem dX11_lights_239 : decode cX11_lights 239 = .ok (.lload 23, 2) := by decide +kernel
theorem dX11_lights_241 : decode cX11_lights 241 = .ok (.ldiv, 1) := by decide +kernel
theorem dX11_lights_242 : decode cX11_lights 242 = .ok (.putfield 292, 3) := by decide +kernel
theorem dX11_lights_245 : decode cX11_lights 245 = .ok (.return_, 1) := by decide +kernel
theorem dX11_shines_0 : decode cX11_shines 0 = .ok (.aload_n 0, 1) := by decide +kernel
theorem dX11_shines_1 : decode cX11_shines 1 = .ok (.iload_n 1, 1) := by decide +kernel
theorem dX11_shines_2 : decode cX11_shines 2 = .ok (.iload_n 2, 1) := by decide +kernel
theorem dX11_shines_3 : decode cX11_shines 3 = .ok (.invokevirtual 295, 3) := by decide +kernel
theorem dX11_shines_6 : decode cX11_shines 6 = .ok (.aload_n 0, 1) := by decide +kernel
theorem dX11_shines_7 : decode cX11_shines 7 = .ok (.getfield 260, 3) := by decide +kernel
theorem dX11_shines_10 : decode cX11_shines 10 = .ok (.ifCond .eq 7, 3) := by decide +kernel
theorem dX11_shines_13 : decode cX11_shines 13 = .ok (.aload_n 0, 1) := by decide +kernel
theorem dX11_shines_14 : decode cX11_shines 14 = .ok (.invokevirtual 298, 3) := by decide +kernel
theorem dX11_shines_17 : decode cX11_shines 17 = .ok (.aload_n 0, 1) := by decide +kernel
theorem dX11_shines_18 : decode cX11_shines 18 = .ok (.getfield 260, 3) := by decide +kernel
theorem dX11_shines_21 : decode cX11_shines 21 = .ok (.ireturn, 1) := by decide +kernel
theorem dX11_isLess_0 : decode cX11_isLess 0 = .ok (.lload_n 0, 1) := by decide +kernel
theorem dX11_isLess_1 : decode cX11_isLess 1 = .ok (.lstore 8, 2) := by decide +kernel
theorem dX11_isLess_3 : decode cX11_isLess 3 = .ok (.lload_n 2, 1) := by decide +kernel
theorem dX11_isLess_4 : decode cX11_isLess 4 = .ok (.lstore 10, 2) := by decide +kernel
theorem dX11_isLess_6 : decode cX11_isLess 6 = .ok (.lload 4, 2) := by decide +kernel
theorem dX11_isLess_8 : decode cX11_isLess 8 = .ok (.lstore 12, 2) := by decide +kernel
theorem dX11_isLess_10 : decode cX11_isLess 10 = .ok (.lload 6, 2) := by decide +kernel
theorem dX11_isLess_12 : decode cX11_isLess 12 = .ok (.lstore 14, 2) := by decide +kernel
theorem dX11_isLess_14 : decode cX11_isLess 14 = .ok (.iconst 0, 1) := by decide +kernel
theorem dX11_isLess_15 : decode cX11_isLess 15 = .ok (.istore 16, 2) := by decide +kernel
theorem dX11_isLess_17 : decode cX11_isLess 17 = .ok (.lload 8, 2) := by decide +kernel
theorem dX11_isLess_19 : decode cX11_isLess 19 = .ok (.lload 10, 2) := by decide +kernel
theorem dX11_isLess_21 : decode cX11_isLess 21 = .ok (.ldiv, 1) := by decide +kernel
theorem dX11_isLess_22 : decode cX11_isLess 22 = .ok (.lstore 17, 2) := by decide +kernel
theorem dX11_isLess_24 : decode cX11_isLess 24 = .ok (.lload 12, 2) := by decide +kernel
theorem dX11_isLess_26 : decode cX11_isLess 26 = .ok (.lload 14, 2) := by decide +kernel
theorem dX11_isLess_28 : decode cX11_isLess 28 = .ok (.ldiv, 1) := by decide +kernel
theorem dX11_isLess_29 : decode cX11_isLess 29 = .ok (.lstore 19, 2) := by decide +kernel
theorem dX11_isLess_31 : decode cX11_isLess 31 = .ok (.lload 17, 2) := by decide +kernel
theorem dX11_isLess_33 : decode cX11_isLess 33 = .ok (.lload 19, 2) := by decide +kernel
theorem dX11_isLess_35 : decode cX11_isLess 35 = .ok (.lcmp, 1) := by decide +kernel
theorem dX11_isLess_36 : decode cX11_isLess 36 = .ok (.ifCond .eq 38, 3) := by decide +kernel
theorem dX11_isLess_39 : decode cX11_isLess 39 = .ok (.iload 16, 2) := by decide +kernel
theorem dX11_isLess_41 : decode cX11_isLess 41 = .ok (.ifCond .eq 19, 3) := by decide +kernel
theorem dX11_isLess_44 : decode cX11_isLess 44 = .ok (.lload 17, 2) := by decide +kernel
theorem dX11_isLess_46 : decode cX11_isLess 46 = .ok (.lload 19, 2) := by decide +kernel
theorem dX11_isLess_48 : decode cX11_isLess 48 = .ok (.lcmp, 1) := by decide +kernel
theorem dX11_isLess_49 : decode cX11_isLess 49 = .ok (.ifCond .le 7, 3) := by decide +kernel
theorem dX11_isLess_52 : decode cX11_isLess 52 = .ok (.iconst 1, 1) := by decide +kernel
theorem dX11_isLess_53 : decode cX11_isLess 53 = .ok (.goto 20, 3) := by decide +kernel
theorem dX11_isLess_56 : decode cX11_isLess 56 = .ok (.iconst 0, 1) := by decide +kernel
theorem dX11_isLess_57 : decode cX11_isLess 57 = .ok (.goto 16, 3) := by decide +kernel
theorem dX11_isLess_60 : decode cX11_isLess 60 = .ok (.lload 17, 2) := by decide +kernel
theorem dX11_isLess_62 : decode cX11_isLess 62 = .ok (.lload 19, 2) := by decide +kernel
theorem dX11_isLess_64 : decode cX11_isLess 64 = .ok (.lcmp, 1) := by decide +kernel
theorem dX11_isLess_65 : decode cX11_isLess 65 = .ok (.ifCond .ge 7, 3) := by decide +kernel
theorem dX11_isLess_68 : decode cX11_isLess 68 = .ok (.iconst 1, 1) := by decide +kernel
theorem dX11_isLess_69 : decode cX11_isLess 69 = .ok (.goto 4, 3) := by decide +kernel
theorem dX11_isLess_72 : decode cX11_isLess 72 = .ok (.iconst 0, 1) := by decide +kernel
theorem dX11_isLess_73 : decode cX11_isLess 73 = .ok (.ireturn, 1) := by decide +kernel
theorem dX11_isLess_74 : decode cX11_isLess 74 = .ok (.lload 8, 2) := by decide +kernel
theorem dX11_isLess_76 : decode cX11_isLess 76 = .ok (.lload 17, 2) := by decide +kernel
theorem dX11_isLess_78 : decode cX11_isLess 78 = .ok (.lload 10, 2) := by decide +kernel
theorem dX11_isLess_80 : decode cX11_isLess 80 = .ok (.lmul, 1) := by decide +kernel
theorem dX11_isLess_81 : decode cX11_isLess 81 = .ok (.lsub, 1) := by decide +kernel
theorem dX11_isLess_82 : decode cX11_isLess 82 = .ok (.lstore 8, 2) := by decide +kernel
theorem dX11_isLess_84 : decode cX11_isLess 84 = .ok (.lload 12, 2) := by decide +kernel
theorem dX11_isLess_86 : decode cX11_isLess 86 = .ok (.lload 19, 2) := by decide +kernel
theorem dX11_isLess_88 : decode cX11_isLess 88 = .ok (.lload 14, 2) := by decide +kernel
theorem dX11_isLess_90 : decode cX11_isLess 90 = .ok (.lmul, 1) := by decide +kernel
theorem dX11_isLess_91 : decode cX11_isLess 91 = .ok (.lsub, 1) := by decide +kernel
theorem dX11_isLess_92 : decode cX11_isLess 92 = .ok (.lstore 12, 2) := by decide +kernel
theorem dX11_isLess_94 : decode cX11_isLess 94 = .ok (.lload 8, 2) := by decide +kernel
theorem dX11_isLess_96 : decode cX11_isLess 96 = .ok (.lconst 0, 1) := by decide +kernel
theorem dX11_isLess_97 : decode cX11_isLess 97 = .ok (.lcmp, 1) := by decide +kernel
theorem dX11_isLess_98 : decode cX11_isLess 98 = .ok (.ifCond .eq 10, 3) := by decide +kernel
theorem dX11_isLess_101 : decode cX11_isLess 101 = .ok (.lload 12, 2) := by decide +kernel
theorem dX11_isLess_103 : decode cX11_isLess 103 = .ok (.lconst 0, 1) := by decide +kernel
theorem dX11_isLess_104 : decode cX11_isLess 104 = .ok (.lcmp, 1) := by decide +kernel
theorem dX11_isLess_105 : decode cX11_isLess 105 = .ok (.ifCond .ne 50, 3) := by decide +kernel
theorem dX11_isLess_108 : decode cX11_isLess 108 = .ok (.iload 16, 2) := by decide +kernel
theorem dX11_isLess_110 : decode cX11_isLess 110 = .ok (.ifCond .eq 25, 3) := by decide +kernel
theorem dX11_isLess_113 : decode cX11_isLess 113 = .ok (.lload 8, 2) := by decide +kernel
theorem dX11_isLess_115 : decode cX11_isLess 115 = .ok (.lconst 0, 1) := by decide +kernel
theorem dX11_isLess_116 : decode cX11_isLess 116 = .ok (.lcmp, 1) := by decide +kernel
theorem dX11_isLess_117 : decode cX11_isLess 117 = .ok (.ifCond .eq 14, 3) := by decide +kernel
theorem dX11_isLess_120 : decode cX11_isLess 120 = .ok (.lload 12, 2) := by decide +kernel
theorem dX11_isLess_122 : decode cX11_isLess 122 = .ok (.lconst 0, 1) := by decide +kernel
theorem dX11_isLess_123 : decode cX11_isLess 123 = .ok (.lcmp, 1) := by decide +kernel
theorem dX11_isLess_124 : decode cX11_isLess 124 = .ok (.ifCond .ne 7, 3) := by decide +kernel
theorem dX11_isLess_127 : decode cX11_isLess 127 = .ok (.iconst 1, 1) := by decide +kernel
theorem dX11_isLess_128 : decode cX11_isLess 128 = .ok (.goto 26, 3) := by decide +kernel
theorem dX11_isLess_131 : decode cX11_isLess 131 = .ok (.iconst 0, 1) := by decide +kernel
theorem dX11_isLess_132 : decode cX11_isLess 132 = .ok (.goto 22, 3) := by decide +kernel
theorem dX11_isLess_135 : decode cX11_isLess 135 = .ok (.lload 8, 2) := by decide +kernel
theorem dX11_isLess_137 : decode cX11_isLess 137 = .ok (.lconst 0, 1) := by decide +kernel
theorem dX11_isLess_138 : decode cX11_isLess 138 = .ok (.lcmp, 1) := by decide +kernel
theorem dX11_isLess_139 : decode cX11_isLess 139 = .ok (.ifCond .ne 14, 3) := by decide +kernel
theorem dX11_isLess_142 : decode cX11_isLess 142 = .ok (.lload 12, 2) := by decide +kernel
theorem dX11_isLess_144 : decode cX11_isLess 144 = .ok (.lconst 0, 1) := by decide +kernel
theorem dX11_isLess_145 : decode cX11_isLess 145 = .ok (.lcmp, 1) := by decide +kernel
theorem dX11_isLess_146 : decode cX11_isLess 146 = .ok (.ifCond .eq 7, 3) := by decide +kernel
theorem dX11_isLess_149 : decode cX11_isLess 149 = .ok (.iconst 1, 1) := by decide +kernel
theorem dX11_isLess_150 : decode cX11_isLess 150 = .ok (.goto 4, 3) := by decide +kernel
theorem dX11_isLess_153 : decode cX11_isLess 153 = .ok (.iconst 0, 1) := by decide +kernel
theorem dX11_isLess_154 : decode cX11_isLess 154 = .ok (.ireturn, 1) := by decide +kernel
theorem dX11_isLess_155 : decode cX11_isLess 155 = .ok (.lload 8, 2) := by decide +kernel
theorem dX11_isLess_157 : decode cX11_isLess 157 = .ok (.lstore 21, 2) := by decide +kernel
theorem dX11_isLess_159 : decode cX11_isLess 159 = .ok (.lload 10, 2) := by decide +kernel
theorem dX11_isLess_161 : decode cX11_isLess 161 = .ok (.lstore 8, 2) := by decide +kernel
theorem dX11_isLess_163 : decode cX11_isLess 163 = .ok (.lload 21, 2) := by decide +kernel
theorem dX11_isLess_165 : decode cX11_isLess 165 = .ok (.lstore 10, 2) := by decide +kernel
theorem dX11_isLess_167 : decode cX11_isLess 167 = .ok (.lload 12, 2) := by decide +kernel
theorem dX11_isLess_169 : decode cX11_isLess 169 = .ok (.lstore 21, 2) := by decide +kernel
theorem dX11_isLess_171 : decode cX11_isLess 171 = .ok (.lload 14, 2) := by decide +kernel
theorem dX11_isLess_173 : decode cX11_isLess 173 = .ok (.lstore 12, 2) := by decide +kernel
theorem dX11_isLess_175 : decode cX11_isLess 175 = .ok (.lload 21, 2) := by decide +kernel
theorem dX11_isLess_177 : decode cX11_isLess 177 = .ok (.lstore 14, 2) := by decide +kernel
theorem dX11_isLess_179 : decode cX11_isLess 179 = .ok (.iload 16, 2) := by decide +kernel
theorem dX11_isLess_181 : decode cX11_isLess 181 = .ok (.ifCond .ne 7, 3) := by decide +kernel
theorem dX11_isLess_184 : decode cX11_isLess 184 = .ok (.iconst 1, 1) := by decide +kernel
theorem dX11_isLess_185 : decode cX11_isLess 185 = .ok (.goto 4, 3) := by decide +kernel
theorem dX11_isLess_188 : decode cX11_isLess 188 = .ok (.iconst 0, 1) := by decide +kernel
theorem dX11_isLess_189 : decode cX11_isLess 189 = .ok (.istore 16, 2) := by decide +kernel
theorem dX11_isLess_191 : decode cX11_isLess 191 = .ok (.goto (-174), 3) := by decide +kernel
theorem dX11_isMark_0 : decode cX11_isMark 0 = .ok (.iload_n 1, 1) := by decide +kernel
theorem dX11_isMark_1 : decode cX11_isMark 1 = .ok (.i2l, 1) := by decide +kernel
theorem dX11_isMark_2 : decode cX11_isMark 2 = .ok (.lconst 1, 1) := by decide +kernel
theorem dX11_isMark_3 : decode cX11_isMark 3 = .ok (.ldc2_w 281, 3) := by decide +kernel
theorem dX11_isMark_6 : decode cX11_isMark 6 = .ok (.invokestatic 94, 3) := by decide +kernel
theorem dX11_isMark_9 : decode cX11_isMark 9 = .ok (.ireturn, 1) := by decide +kernel
theorem dX11_manyOf_0 : decode cX11_manyOf 0 = .ok (.iload_n 1, 1) := by decide +kernel
theorem dX11_manyOf_1 : decode cX11_manyOf 1 = .ok (.iconst (-1), 1) := by decide +kernel
theorem dX11_manyOf_2 : decode cX11_manyOf 2 = .ok (.if_icmp .ne 10, 3) := by decide +kernel
theorem dX11_manyOf_5 : decode cX11_manyOf 5 = .ok (.aload_n 0, 1) := by decide +kernel
theorem dX11_manyOf_6 : decode cX11_manyOf 6 = .ok (.getfield 107, 3) := by decide +kernel
theorem dX11_manyOf_9 : decode cX11_manyOf 9 = .ok (.goto 4, 3) := by decide +kernel
theorem dX11_manyOf_12 : decode cX11_manyOf 12 = .ok (.iload_n 1, 1) := by decide +kernel
theorem dX11_manyOf_13 : decode cX11_manyOf 13 = .ok (.ireturn, 1) := by decide +kernel
theorem dX11_matrix_0 : decode cX11_matrix 0 = .ok (.iload_n 1, 1) := by decide +kernel
theorem dX11_matrix_1 : decode cX11_matrix 1 = .ok (.i2l, 1) := by decide +kernel
theorem dX11_matrix_2 : decode cX11_matrix 2 = .ok (.ldc2_w 301, 3) := by decide +kernel
theorem dX11_matrix_5 : decode cX11_matrix 5 = .ok (.aload_n 0, 1) := by decide +kernel
theorem dX11_matrix_6 : decode cX11_matrix 6 = .ok (.getfield 107, 3) := by decide +kernel
theorem dX11_matrix_9 : decode cX11_matrix 9 = .ok (.i2l, 1) := by decide +kernel
theorem dX11_matrix_10 : decode cX11_matrix 10 = .ok (.invokestatic 94, 3) := by decide +kernel
theorem dX11_matrix_13 : decode cX11_matrix 13 = .ok (.ifCond .eq 23, 3) := by decide +kernel
theorem dX11_matrix_16 : decode cX11_matrix 16 = .ok (.aload_n 0, 1) := by decide +kernel
theorem dX11_matrix_17 : decode cX11_matrix 17 = .ok (.iload_n 2, 1) := by decide +kernel
theorem dX11_matrix_18 : decode cX11_matrix 18 = .ok (.invokevirtual 303, 3) := by decide +kernel
theorem dX11_matrix_21 : decode cX11_matrix 21 = .ok (.ifCond .eq 15, 3) := by decide +kernel
theorem dX11_matrix_24 : decode cX11_matrix 24 = .ok (.iload_n 3, 1) := by decide +kernel
theorem dX11_matrix_25 : decode cX11_matrix 25 = .ok (.i2l, 1) := by decide +kernel
theorem dX11_matrix_26 : decode cX11_matrix 26 = .ok (.lconst 0, 1) := by decide +kernel
theorem dX11_matrix_27 : decode cX11_matrix 27 = .ok (.ldc2_w 306, 3) := by decide +kernel
theorem dX11_matrix_30 : decode cX11_matrix 30 = .ok (.invokestatic 94, 3) := by decide +kernel
theorem dX11_matrix_33 : decode cX11_matrix 33 = .ok (.ifCond .ne 7, 3) := by decide +kernel
theorem dX11_matrix_36 : decode cX11_matrix 36 = .ok (.ldc_w 308, 3) := by decide +kernel
theorem dX11_matrix_39 : decode cX11_matrix 39 = .ok (.ireturn, 1) := by decide +kernel
theorem dX11_matrix_40 : decode cX11_matrix 40 = .ok (.aload_n 0, 1) := by decide +kernel
theorem dX11_matrix_41 : decode cX11_matrix 41 = .ok (.aload_n 0, 1) := by decide +kernel
theorem dX11_matrix_42 : decode cX11_matrix 42 = .ok (.iload_n 1, 1) := by decide +kernel
theorem dX11_matrix_43 : decode cX11_matrix 43 = .ok (.invokevirtual 309, 3) := by decide +kernel
theorem dX11_matrix_46 : decode cX11_matrix 46 = .ok (.iload_n 2, 1) := by decide +kernel
theorem dX11_matrix_47 : decode cX11_matrix 47 = .ok (.invokevirtual 295, 3) := by decide +kernel
theorem dX11_matrix_50 : decode cX11_matrix 50 = .ok (.aload_n 0, 1) := by decide +kernel
theorem dX11_matrix_51 : decode cX11_matrix 51 = .ok (.getfield 260, 3) := by decide +kernel
theorem dX11_matrix_54 : decode cX11_matrix 54 = .ok (.ifCond .ne 7, 3) := by decide +kernel
theorem dX11_matrix_57 : decode cX11_matrix 57 = .ok (.ldc_w 308, 3) := by decide +kernel
theorem dX11_matrix_60 : decode cX11_matrix 60 = .ok (.ireturn, 1) := by decide +kernel
theorem dX11_matrix_61 : decode cX11_matrix 61 = .ok (.iload_n 3, 1) := by decide +kernel
theorem dX11_matrix_62 : decode cX11_matrix 62 = .ok (.ifCond .ne 10, 3) := by decide +kernel
theorem dX11_matrix_65 : decode cX11_matrix 65 = .ok (.aload_n 0, 1) := by decide +kernel
theorem dX11_matrix_66 : decode cX11_matrix 66 = .ok (.getfield 248, 3) := by decide +kernel
theorem dX11_matrix_69 : decode cX11_matrix 69 = .ok (.goto 31, 3) := by decide +kernel
theorem dX11_matrix_72 : decode cX11_matrix 72 = .ok (.iload_n 3, 1) := by decide +kernel
theorem dX11_matrix_73 : decode cX11_matrix 73 = .ok (.iconst 1, 1) := by decide +kernel
theorem dX11_matrix_74 : decode cX11_matrix 74 = .ok (.if_icmp .ne 10, 3) := by decide +kernel
theorem dX11_matrix_77 : decode cX11_matrix 77 = .ok (.aload_n 0, 1) := by decide +kernel
theorem dX11_matrix_78 : decode cX11_matrix 78 = .ok (.getfield 251, 3) := by decide +kernel
theorem dX11_matrix_81 : decode cX11_matrix 81 = .ok (.goto 19, 3) := by decide +kernel
theorem dX11_matrix_84 : decode cX11_matrix 84 = .ok (.iload_n 3, 1) := by decide +kernel
theorem dX11_matrix_85 : decode cX11_matrix 85 = .ok (.iconst 2, 1) := by decide +kernel
theorem dX11_matrix_86 : decode cX11_matrix 86 = .ok (.if_icmp .ne 10, 3) := by decide +kernel
theorem dX11_matrix_89 : decode cX11_matrix 89 = .ok (.aload_n 0, 1) := by decide +kernel
theorem dX11_matrix_90 : decode cX11_matrix 90 = .ok (.getfield 254, 3) := by decide +kernel
theorem dX11_matrix_93 : decode cX11_matrix 93 = .ok (.goto 7, 3) := by decide +kernel
theorem dX11_matrix_96 : decode cX11_matrix 96 = .ok (.aload_n 0, 1) := by decide +kernel
theorem dX11_matrix_97 : decode cX11_matrix 97 = .ok (.getfield 257, 3) := by decide +kernel
theorem dX11_matrix_100 : decode cX11_matrix 100 = .ok (.l2i, 1) := by decide +kernel
theorem dX11_matrix_101 : decode cX11_matrix 101 = .ok (.ireturn, 1) := by decide +kernel
theorem dX11_lightOf_0 : decode cX11_lightOf 0 = .ok (.iload_n 1, 1) := by decide +kernel
theorem dX11_lightOf_1 : decode cX11_lightOf 1 = .ok (.ifCond .ne 10, 3) := by decide +kernel
theorem dX11_lightOf_4 : decode cX11_lightOf 4 = .ok (.aload_n 0, 1) := by decide +kernel
theorem dX11_lightOf_5 : decode cX11_lightOf 5 = .ok (.getfield 283, 3) := by decide +kernel
theorem dX11_lightOf_8 : decode cX11_lightOf 8 = .ok (.goto 31, 3) := by decide +kernel
theorem dX11_lightOf_11 : decode cX11_lightOf 11 = .ok (.iload_n 1, 1) := by decide +kernel
theorem dX11_lightOf_12 : decode cX11_lightOf 12 = .ok (.iconst 1, 1) := by decide +kernel
theorem dX11_lightOf_13 : decode cX11_lightOf 13 = .ok (.if_icmp .ne 10, 3) := by decide +kernel
theorem dX11_lightOf_16 : decode cX11_lightOf 16 = .ok (.aload_n 0, 1) := by decide +kernel
theorem dX11_lightOf_17 : decode cX11_lightOf 17 = .ok (.getfield 286, 3) := by decide +kernel
theorem dX11_lightOf_20 : decode cX11_lightOf 20 = .ok (.goto 19, 3) := by decide +kernel
theorem dX11_lightOf_23 : decode cX11_lightOf 23 = .ok (.iload_n 1, 1) := by decide +kernel
theorem dX11_lightOf_24 : decode cX11_lightOf 24 = .ok (.iconst 2, 1) := by decide +kernel
theorem dX11_lightOf_25 : decode cX11_lightOf 25 = .ok (.if_icmp .ne 10, 3) := by decide +kernel
theorem dX11_lightOf_28 : decode cX11_lightOf 28 = .ok (.aload_n 0, 1) := by decide +kernel
theorem dX11_lightOf_29 : decode cX11_lightOf 29 = .ok (.getfield 289, 3) := by decide +kernel
theorem dX11_lightOf_32 : decode cX11_lightOf 32 = .ok (.goto 7, 3) := by decide +kernel
theorem dX11_lightOf_35 : decode cX11_lightOf 35 = .ok (.aload_n 0, 1) := by decide +kernel
theorem dX11_lightOf_36 : decode cX11_lightOf 36 = .ok (.getfield 292, 3) := by decide +kernel
theorem dX11_lightOf_39 : decode cX11_lightOf 39 = .ok (.lreturn, 1) := by decide +kernel
theorem dX11_light_0 : decode cX11_light 0 = .ok (.iload_n 1, 1) := by decide +kernel
theorem dX11_light_1 : decode cX11_light 1 = .ok (.i2l, 1) := by decide +kernel
theorem dX11_light_2 : decode cX11_light 2 = .ok (.ldc2_w 301, 3) := by decide +kernel
theorem dX11_light_5 : decode cX11_light 5 = .ok (.aload_n 0, 1) := by decide +kernel
theorem dX11_light_6 : decode cX11_light 6 = .ok (.getfield 107, 3) := by decide +kernel
theorem dX11_light_9 : decode cX11_light 9 = .ok (.i2l, 1) := by decide +kernel
theorem dX11_light_10 : decode cX11_light 10 = .ok (.invokestatic 94, 3) := by decide +kernel
theorem dX11_light_13 : decode cX11_light 13 = .ok (.ifCond .eq 23, 3) := by decide +kernel
theorem dX11_light_16 : decode cX11_light 16 = .ok (.aload_n 0, 1) := by decide +kernel
theorem dX11_light_17 : decode cX11_light 17 = .ok (.iload_n 2, 1) := by decide +kernel
theorem dX11_light_18 : decode cX11_light 18 = .ok (.invokevirtual 303, 3) := by decide +kernel
theorem dX11_light_21 : decode cX11_light 21 = .ok (.ifCond .eq 15, 3) := by decide +kernel
theorem dX11_light_24 : decode cX11_light 24 = .ok (.iload_n 3, 1) := by decide +kernel
theorem dX11_light_25 : decode cX11_light 25 = .ok (.i2l, 1) := by decide +kernel
theorem dX11_light_26 : decode cX11_light 26 = .ok (.lconst 0, 1) := by decide +kernel
theorem dX11_light_27 : decode cX11_light 27 = .ok (.ldc2_w 306, 3) := by decide +kernel
theorem dX11_light_30 : decode cX11_light 30 = .ok (.invokestatic 94, 3) := by decide +kernel
theorem dX11_light_33 : decode cX11_light 33 = .ok (.ifCond .ne 7, 3) := by decide +kernel
theorem dX11_light_36 : decode cX11_light 36 = .ok (.ldc2_w 313, 3) := by decide +kernel
theorem dX11_light_39 : decode cX11_light 39 = .ok (.lreturn, 1) := by decide +kernel
theorem dX11_light_40 : decode cX11_light 40 = .ok (.aload_n 0, 1) := by decide +kernel
theorem dX11_light_41 : decode cX11_light 41 = .ok (.aload_n 0, 1) := by decide +kernel
theorem dX11_light_42 : decode cX11_light 42 = .ok (.iload_n 1, 1) := by decide +kernel
theorem dX11_light_43 : decode cX11_light 43 = .ok (.invokevirtual 309, 3) := by decide +kernel
theorem dX11_light_46 : decode cX11_light 46 = .ok (.iload_n 2, 1) := by decide +kernel
theorem dX11_light_47 : decode cX11_light 47 = .ok (.invokevirtual 315, 3) := by decide +kernel
theorem dX11_light_50 : decode cX11_light 50 = .ok (.ifCond .eq 11, 3) := by decide +kernel
theorem dX11_light_53 : decode cX11_light 53 = .ok (.aload_n 0, 1) := by decide +kernel
theorem dX11_light_54 : decode cX11_light 54 = .ok (.iload_n 3, 1) := by decide +kernel
theorem dX11_light_55 : decode cX11_light 55 = .ok (.invokevirtual 318, 3) := by decide +kernel
theorem dX11_light_58 : decode cX11_light 58 = .ok (.goto 6, 3) := by decide +kernel
theorem dX11_light_61 : decode cX11_light 61 = .ok (.ldc2_w 301, 3) := by decide +kernel
theorem dX11_light_64 : decode cX11_light 64 = .ok (.lreturn, 1) := by decide +kernel
theorem dX11_share_0 : decode cX11_share 0 = .ok (.aload_n 0, 1) := by decide +kernel
theorem dX11_share_1 : decode cX11_share 1 = .ok (.iload_n 1, 1) := by decide +kernel
theorem dX11_share_2 : decode cX11_share 2 = .ok (.invokevirtual 303, 3) := by decide +kernel
theorem dX11_share_5 : decode cX11_share 5 = .ok (.ifCond .ne 6, 3) := by decide +kernel
theorem dX11_share_8 : decode cX11_share 8 = .ok (.bipush (-2), 2) := by decide +kernel
theorem dX11_share_10 : decode cX11_share 10 = .ok (.ireturn, 1) := by decide +kernel
theorem dX11_share_11 : decode cX11_share 11 = .ok (.aload_n 0, 1) := by decide +kernel
theorem dX11_share_12 : decode cX11_share 12 = .ok (.aload_n 0, 1) := by decide +kernel
theorem dX11_share_13 : decode cX11_share 13 = .ok (.getfield 107, 3) := by decide +kernel
theorem dX11_share_16 : decode cX11_share 16 = .ok (.iload_n 1, 1) := by decide +kernel
theorem dX11_share_17 : decode cX11_share 17 = .ok (.invokevirtual 315, 3) := by decide +kernel
theorem dX11_share_20 : decode cX11_share 20 = .ok (.ifCond .eq 20, 3) := by decide +kernel
theorem dX11_share_23 : decode cX11_share 23 = .ok (.aload_n 0, 1) := by decide +kernel
theorem dX11_share_24 : decode cX11_share 24 = .ok (.getfield 283, 3) := by decide +kernel
theorem dX11_share_27 : decode cX11_share 27 = .ok (.l2f, 1) := by decide +kernel
theorem dX11_share_28 : decode cX11_share 28 = .ok (.aload_n 0, 1) := by decide +kernel
theorem dX11_share_29 : decode cX11_share 29 = .ok (.getfield 286, 3) := by decide +kernel
theorem dX11_share_32 : decode cX11_share 32 = .ok (.l2f, 1) := by decide +kernel
theorem dX11_share_33 : decode cX11_share 33 = .ok (.fdiv, 1) := by decide +kernel
theorem dX11_share_34 : decode cX11_share 34 = .ok (.invokestatic 322, 3) := by decide +kernel
theorem dX11_share_37 : decode cX11_share 37 = .ok (.goto 4, 3) := by decide +kernel
theorem dX11_share_40 : decode cX11_share 40 = .ok (.iconst (-1), 1) := by decide +kernel
theorem dX11_share_41 : decode cX11_share 41 = .ok (.ireturn, 1) := by decide +kernel
theorem dX11_through_0 : decode cX11_through 0 = .ok (.aload_n 0, 1) := by decide +kernel
theorem dX11_through_1 : decode cX11_through 1 = .ok (.iload_n 1, 1) := by decide +kernel
theorem dX11_through_2 : decode cX11_through 2 = .ok (.invokevirtual 303, 3) := by decide +kernel
theorem dX11_through_5 : decode cX11_through 5 = .ok (.ifCond .ne 7, 3) := by decide +kernel
theorem dX11_through_8 : decode cX11_through 8 = .ok (.ldc2_w 313, 3) := by decide +kernel
theorem dX11_through_11 : decode cX11_through 11 = .ok (.lreturn, 1) := by decide +kernel
theorem dX11_through_12 : decode cX11_through 12 = .ok (.aload_n 0, 1) := by decide +kernel
theorem dX11_through_13 : decode cX11_through 13 = .ok (.aload_n 0, 1) := by decide +kernel
theorem dX11_through_14 : decode cX11_through 14 = .ok (.getfield 107, 3) := by decide +kernel
theorem dX11_through_17 : decode cX11_through 17 = .ok (.iload_n 1, 1) := by decide +kernel
theorem dX11_through_18 : decode cX11_through 18 = .ok (.invokevirtual 315, 3) := by decide +kernel
theorem dX11_through_21 : decode cX11_through 21 = .ok (.ifCond .eq 20, 3) := by decide +kernel
theorem dX11_through_24 : decode cX11_through 24 = .ok (.aload_n 0, 1) := by decide +kernel
theorem dX11_through_25 : decode cX11_through 25 = .ok (.getfield 289, 3) := by decide +kernel
theorem dX11_through_28 : decode cX11_through 28 = .ok (.l2d, 1) := by decide +kernel
theorem dX11_through_29 : decode cX11_through 29 = .ok (.aload_n 0, 1) := by decide +kernel
theorem dX11_through_30 : decode cX11_through 30 = .ok (.getfield 292, 3) := by decide +kernel
theorem dX11_through_33 : decode cX11_through 33 = .ok (.l2d, 1) := by decide +kernel
theorem dX11_through_34 : decode cX11_through 34 = .ok (.ddiv, 1) := by decide +kernel
theorem dX11_through_35 : decode cX11_through 35 = .ok (.invokestatic 328, 3) := by decide +kernel
theorem dX11_through_38 : decode cX11_through 38 = .ok (.goto 6, 3) := by decide +kernel
theorem dX11_through_41 : decode cX11_through 41 = .ok (.ldc2_w 301, 3) := by decide +kernel
theorem dX11_through_44 : decode cX11_through 44 = .ok (.lreturn, 1) := by decide +kernel
theorem dX11_admittance_0 : decode cX11_admittance 0 = .ok (.iload_n 1, 1) := by decide +kernel
theorem dX11_admittance_1 : decode cX11_admittance 1 = .ok (.i2l, 1) := by decide +kernel
theorem dX11_admittance_2 : decode cX11_admittance 2 = .ok (.ldc2_w 301, 3) := by decide +kernel
theorem dX11_admittance_5 : decode cX11_admittance 5 = .ok (.aload_n 0, 1) := by decide +kernel
theorem dX11_admittance_6 : decode cX11_admittance 6 = .ok (.getfield 107, 3) := by decide +kernel
theorem dX11_admittance_9 : decode cX11_admittance 9 = .ok (.i2l, 1) := by decide +kernel
theorem dX11_admittance_10 : decode cX11_admittance 10 = .ok (.invokestatic 94, 3) := by decide +kernel
theorem dX11_admittance_13 : decode cX11_admittance 13 = .ok (.ifCond .eq 23, 3) := by decide +kernel
theorem dX11_admittance_16 : decode cX11_admittance 16 = .ok (.aload_n 0, 1) := by decide +kernel
theorem dX11_admittance_17 : decode cX11_admittance 17 = .ok (.iload_n 2, 1) := by decide +kernel
theorem dX11_admittance_18 : decode cX11_admittance 18 = .ok (.invokevirtual 303, 3) := by decide +kernel
theorem dX11_admittance_21 : decode cX11_admittance 21 = .ok (.ifCond .eq 15, 3) := by decide +kernel
theorem dX11_admittance_24 : decode cX11_admittance 24 = .ok (.iload_n 3, 1) := by decide +kernel
theorem dX11_admittance_25 : decode cX11_admittance 25 = .ok (.i2l, 1) := by decide +kernel
theorem dX11_admittance_26 : decode cX11_admittance 26 = .ok (.lconst 0, 1) := by decide +kernel
theorem dX11_admittance_27 : decode cX11_admittance 27 = .ok (.ldc2_w 306, 3) := by decide +kernel
theorem dX11_admittance_30 : decode cX11_admittance 30 = .ok (.invokestatic 94, 3) := by decide +kernel
theorem dX11_admittance_33 : decode cX11_admittance 33 = .ok (.ifCond .ne 7, 3) := by decide +kernel
theorem dX11_admittance_36 : decode cX11_admittance 36 = .ok (.ldc2_w 336, 3) := by decide +kernel
theorem dX11_admittance_39 : decode cX11_admittance 39 = .ok (.lreturn, 1) := by decide +kernel
theorem dX11_admittance_40 : decode cX11_admittance 40 = .ok (.aload_n 0, 1) := by decide +kernel
theorem dX11_admittance_41 : decode cX11_admittance 41 = .ok (.aload_n 0, 1) := by decide +kernel
theorem dX11_admittance_42 : decode cX11_admittance 42 = .ok (.iload_n 1, 1) := by decide +kernel
theorem dX11_admittance_43 : decode cX11_admittance 43 = .ok (.invokevirtual 309, 3) := by decide +kernel
theorem dX11_admittance_46 : decode cX11_admittance 46 = .ok (.iload_n 2, 1) := by decide +kernel
theorem dX11_admittance_47 : decode cX11_admittance 47 = .ok (.invokevirtual 295, 3) := by decide +kernel
theorem dX11_admittance_50 : decode cX11_admittance 50 = .ok (.aload_n 0, 1) := by decide +kernel
theorem dX11_admittance_51 : decode cX11_admittance 51 = .ok (.getfield 260, 3) := by decide +kernel
theorem dX11_admittance_54 : decode cX11_admittance 54 = .ok (.ifCond .ne 7, 3) := by decide +kernel
theorem dX11_admittance_57 : decode cX11_admittance 57 = .ok (.ldc2_w 336, 3) := by decide +kernel
theorem dX11_admittance_60 : decode cX11_admittance 60 = .ok (.lreturn, 1) := by decide +kernel
theorem dX11_admittance_61 : decode cX11_admittance 61 = .ok (.aload_n 0, 1) := by decide +kernel
theorem dX11_admittance_62 : decode cX11_admittance 62 = .ok (.getfield 7, 3) := by decide +kernel
theorem dX11_admittance_65 : decode cX11_admittance 65 = .ok (.aload_n 0, 1) := by decide +kernel
theorem dX11_admittance_66 : decode cX11_admittance 66 = .ok (.getfield 16, 3) := by decide +kernel
theorem dX11_admittance_69 : decode cX11_admittance 69 = .ok (.iaload, 1) := by decide +kernel
theorem dX11_admittance_70 : decode cX11_admittance 70 = .ok (.i2l, 1) := by decide +kernel
theorem dX11_admittance_71 : decode cX11_admittance 71 = .ok (.lstore 4, 2) := by decide +kernel
theorem dX11_admittance_73 : decode cX11_admittance 73 = .ok (.aload_n 0, 1) := by decide +kernel
theorem dX11_admittance_74 : decode cX11_admittance 74 = .ok (.getfield 13, 3) := by decide +kernel
theorem dX11_admittance_77 : decode cX11_admittance 77 = .ok (.aload_n 0, 1) := by decide +kernel
theorem dX11_admittance_78 : decode cX11_admittance 78 = .ok (.getfield 16, 3) := by decide +kernel
theorem dX11_admittance_81 : decode cX11_admittance 81 = .ok (.iaload, 1) := by decide +kernel
theorem dX11_admittance_82 : decode cX11_admittance 82 = .ok (.i2l, 1) := by decide +kernel
theorem dX11_admittance_83 : decode cX11_admittance 83 = .ok (.lstore 6, 2) := by decide +kernel
theorem dX11_admittance_85 : decode cX11_admittance 85 = .ok (.lload 6, 2) := by decide +kernel
theorem dX11_admittance_87 : decode cX11_admittance 87 = .ok (.aload_n 0, 1) := by decide +kernel
theorem dX11_admittance_88 : decode cX11_admittance 88 = .ok (.getfield 248, 3) := by decide +kernel
theorem dX11_admittance_91 : decode cX11_admittance 91 = .ok (.lmul, 1) := by decide +kernel
theorem dX11_admittance_92 : decode cX11_admittance 92 = .ok (.lload 6, 2) := by decide +kernel
theorem dX11_admittance_94 : decode cX11_admittance 94 = .ok (.lmul, 1) := by decide +kernel
theorem dX11_admittance_95 : decode cX11_admittance 95 = .ok (.aload_n 0, 1) := by decide +kernel
theorem dX11_admittance_96 : decode cX11_admittance 96 = .ok (.getfield 248, 3) := by decide +kernel
theorem dX11_admittance_99 : decode cX11_admittance 99 = .ok (.lmul, 1) := by decide +kernel
theorem dX11_admittance_100 : decode cX11_admittance 100 = .ok (.lload 4, 2) := by decide +kernel
theorem dX11_admittance_102 : decode cX11_admittance 102 = .ok (.aload_n 0, 1) := by decide +kernel
theorem dX11_admittance_103 : decode cX11_admittance 103 = .ok (.getfield 251, 3) := by decide +kernel
theorem dX11_admittance_106 : decode cX11_admittance 106 = .ok (.lmul, 1) := by decide +kernel
theorem dX11_admittance_107 : decode cX11_admittance 107 = .ok (.lload 4, 2) := by decide +kernel
theorem dX11_admittance_109 : decode cX11_admittance 109 = .ok (.lmul, 1) := by decide +kernel
theorem dX11_admittance_110 : decode cX11_admittance 110 = .ok (.aload_n 0, 1) := by decide +kernel
theorem dX11_admittance_111 : decode cX11_admittance 111 = .ok (.getfield 251, 3) := by decide +kernel
theorem dX11_admittance_114 : decode cX11_admittance 114 = .ok (.lmul, 1) := by decide +kernel
theorem dX11_admittance_115 : decode cX11_admittance 115 = .ok (.ladd, 1) := by decide +kernel
theorem dX11_admittance_116 : decode cX11_admittance 116 = .ok (.lstore 8, 2) := by decide +kernel
theorem dX11_admittance_118 : decode cX11_admittance 118 = .ok (.iload_n 3, 1) := by decide +kernel
theorem dX11_admittance_119 : decode cX11_admittance 119 = .ok (.iconst 2, 1) := by decide +kernel
theorem dX11_admittance_120 : decode cX11_admittance 120 = .ok (.if_icmp .ge 37, 3) := by decide +kernel
theorem dX11_admittance_123 : decode cX11_admittance 123 = .ok (.lload 6, 2) := by decide +kernel
theorem dX11_admittance_125 : decode cX11_admittance 125 = .ok (.aload_n 0, 1) := by decide +kernel
theorem dX11_admittance_126 : decode cX11_admittance 126 = .ok (.getfield 248, 3) := by decide +kernel
theorem dX11_admittance_129 : decode cX11_admittance 129 = .ok (.lmul, 1) := by decide +kernel
theorem dX11_admittance_130 : decode cX11_admittance 130 = .ok (.lload 4, 2) := by decide +kernel
theorem dX11_admittance_132 : decode cX11_admittance 132 = .ok (.lmul, 1) := by decide +kernel
theorem dX11_admittance_133 : decode cX11_admittance 133 = .ok (.aload_n 0, 1) := by decide +kernel
theorem dX11_admittance_134 : decode cX11_admittance 134 = .ok (.getfield 257, 3) := by decide +kernel
theorem dX11_admittance_137 : decode cX11_admittance 137 = .ok (.lmul, 1) := by decide +kernel
theorem dX11_admittance_138 : decode cX11_admittance 138 = .ok (.lload 4, 2) := by decide +kernel
theorem dX11_admittance_140 : decode cX11_admittance 140 = .ok (.aload_n 0, 1) := by decide +kernel
theorem dX11_admittance_141 : decode cX11_admittance 141 = .ok (.getfield 251, 3) := by decide +kernel
theorem dX11_admittance_144 : decode cX11_admittance 144 = .ok (.lmul, 1) := by decide +kernel
theorem dX11_admittance_145 : decode cX11_admittance 145 = .ok (.lload 6, 2) := by decide +kernel
theorem dX11_admittance_147 : decode cX11_admittance 147 = .ok (.lmul, 1) := by decide +kernel
theorem dX11_admittance_148 : decode cX11_admittance 148 = .ok (.aload_n 0, 1) := by decide +kernel
theorem dX11_admittance_149 : decode cX11_admittance 149 = .ok (.getfield 254, 3) := by decide +kernel
theorem dX11_admittance_152 : decode cX11_admittance 152 = .ok (.lmul, 1) := by decide +kernel
theorem dX11_admittance_153 : decode cX11_admittance 153 = .ok (.ladd, 1) := by decide +kernel
theorem dX11_admittance_154 : decode cX11_admittance 154 = .ok (.goto 34, 3) := by decide +kernel
theorem dX11_admittance_157 : decode cX11_admittance 157 = .ok (.lload 6, 2) := by decide +kernel
theorem dX11_admittance_159 : decode cX11_admittance 159 = .ok (.aload_n 0, 1) := by decide +kernel
theorem dX11_admittance_160 : decode cX11_admittance 160 = .ok (.getfield 248, 3) := by decide +kernel
theorem dX11_admittance_163 : decode cX11_admittance 163 = .ok (.lmul, 1) := by decide +kernel
theorem dX11_admittance_164 : decode cX11_admittance 164 = .ok (.lload 6, 2) := by decide +kernel
theorem dX11_admittance_166 : decode cX11_admittance 166 = .ok (.lmul, 1) := by decide +kernel
theorem dX11_admittance_167 : decode cX11_admittance 167 = .ok (.aload_n 0, 1) := by decide +kernel
theorem dX11_admittance_168 : decode cX11_admittance 168 = .ok (.getfield 254, 3) := by decide +kernel
theorem dX11_admittance_171 : decode cX11_admittance 171 = .ok (.lmul, 1) := by decide +kernel
theorem dX11_admittance_172 : decode cX11_admittance 172 = .ok (.lload 4, 2) := by decide +kernel
theorem dX11_admittance_174 : decode cX11_admittance 174 = .ok (.aload_n 0, 1) := by decide +kernel
theorem dX11_admittance_175 : decode cX11_admittance 175 = .ok (.getfield 251, 3) := by decide +kernel
theorem dX11_admittance_178 : decode cX11_admittance 178 = .ok (.lmul, 1) := by decide +kernel
theorem dX11_admittance_179 : decode cX11_admittance 179 = .ok (.lload 4, 2) := by decide +kernel
theorem dX11_admittance_181 : decode cX11_admittance 181 = .ok (.lmul, 1) := by decide +kernel
theorem dX11_admittance_182 : decode cX11_admittance 182 = .ok (.aload_n 0, 1) := by decide +kernel
theorem dX11_admittance_183 : decode cX11_admittance 183 = .ok (.getfield 257, 3) := by decide +kernel
theorem dX11_admittance_186 : decode cX11_admittance 186 = .ok (.lmul, 1) := by decide +kernel
theorem dX11_admittance_187 : decode cX11_admittance 187 = .ok (.lsub, 1) := by decide +kernel
theorem dX11_admittance_188 : decode cX11_admittance 188 = .ok (.lstore 10, 2) := by decide +kernel
theorem dX11_admittance_190 : decode cX11_admittance 190 = .ok (.lload 10, 2) := by decide +kernel
theorem dX11_admittance_192 : decode cX11_admittance 192 = .ok (.lload 8, 2) := by decide +kernel
theorem dX11_admittance_194 : decode cX11_admittance 194 = .ok (.invokestatic 100, 3) := by decide +kernel
theorem dX11_admittance_197 : decode cX11_admittance 197 = .ok (.lstore 12, 2) := by decide +kernel
theorem dX11_admittance_199 : decode cX11_admittance 199 = .ok (.iload_n 3, 1) := by decide +kernel
theorem dX11_admittance_200 : decode cX11_admittance 200 = .ok (.iconst 2, 1) := by decide +kernel
theorem dX11_admittance_201 : decode cX11_admittance 201 = .ok (.irem, 1) := by decide +kernel
theorem dX11_admittance_202 : decode cX11_admittance 202 = .ok (.ifCond .ne 11, 3) := by decide +kernel
theorem dX11_admittance_205 : decode cX11_admittance 205 = .ok (.lload 10, 2) := by decide +kernel
theorem dX11_admittance_207 : decode cX11_admittance 207 = .ok (.lload 12, 2) := by decide +kernel
theorem dX11_admittance_209 : decode cX11_admittance 209 = .ok (.ldiv, 1) := by decide +kernel
theorem dX11_admittance_210 : decode cX11_admittance 210 = .ok (.goto 8, 3) := by decide +kernel
theorem dX11_admittance_213 : decode cX11_admittance 213 = .ok (.lload 8, 2) := by decide +kernel
theorem dX11_admittance_215 : decode cX11_admittance 215 = .ok (.lload 12, 2) := by decide +kernel
theorem dX11_admittance_217 : decode cX11_admittance 217 = .ok (.ldiv, 1) := by decide +kernel
theorem dX11_admittance_218 : decode cX11_admittance 218 = .ok (.lreturn, 1) := by decide +kernel
theorem dX11_marks_0 : decode cX11_marks 0 = .ok (.iload_n 1, 1) := by decide +kernel
theorem dX11_marks_1 : decode cX11_marks 1 = .ok (.i2l, 1) := by decide +kernel
theorem dX11_marks_2 : decode cX11_marks 2 = .ok (.lconst 0, 1) := by decide +kernel
theorem dX11_marks_3 : decode cX11_marks 3 = .ok (.ldc2_w 268, 3) := by decide +kernel
theorem dX11_marks_6 : decode cX11_marks 6 = .ok (.invokestatic 94, 3) := by decide +kernel
theorem dX11_marks_9 : decode cX11_marks 9 = .ok (.ifCond .ne 5, 3) := by decide +kernel
theorem dX11_marks_12 : decode cX11_marks 12 = .ok (.iconst (-1), 1) := by decide +kernel
theorem dX11_marks_13 : decode cX11_marks 13 = .ok (.ireturn, 1) := by decide +kernel
theorem dX11_marks_14 : decode cX11_marks 14 = .ok (.iconst 0, 1) := by decide +kernel
theorem dX11_marks_15 : decode cX11_marks 15 = .ok (.istore_n 2, 1) := by decide +kernel
theorem dX11_marks_16 : decode cX11_marks 16 = .ok (.iconst 1, 1) := by decide +kernel
theorem dX11_marks_17 : decode cX11_marks 17 = .ok (.istore_n 3, 1) := by decide +kernel
theorem dX11_marks_18 : decode cX11_marks 18 = .ok (.iload_n 3, 1) := by decide +kernel
theorem dX11_marks_19 : decode cX11_marks 19 = .ok (.iconst 4, 1) := by decide +kernel
theorem dX11_marks_20 : decode cX11_marks 20 = .ok (.if_icmp .gt 66, 3) := by decide +kernel
theorem dX11_marks_23 : decode cX11_marks 23 = .ok (.aload_n 0, 1) := by decide +kernel
theorem dX11_marks_24 : decode cX11_marks 24 = .ok (.aload_n 0, 1) := by decide +kernel
theorem dX11_marks_25 : decode cX11_marks 25 = .ok (.getfield 107, 3) := by decide +kernel
theorem dX11_marks_28 : decode cX11_marks 28 = .ok (.iload_n 3, 1) := by decide +kernel
theorem dX11_marks_29 : decode cX11_marks 29 = .ok (.invokevirtual 315, 3) := by decide +kernel
theorem dX11_marks_32 : decode cX11_marks 32 = .ok (.istore 4, 2) := by decide +kernel
theorem dX11_marks_34 : decode cX11_marks 34 = .ok (.iload_n 1, 1) := by decide +kernel
theorem dX11_marks_35 : decode cX11_marks 35 = .ok (.iconst 2, 1) := by decide +kernel
theorem dX11_marks_36 : decode cX11_marks 36 = .ok (.if_icmp .ne 11, 3) := by decide +kernel
theorem dX11_marks_39 : decode cX11_marks 39 = .ok (.iload 4, 2) := by decide +kernel
theorem dX11_marks_41 : decode cX11_marks 41 = .ok (.ifCond .ne 39, 3) := by decide +kernel
theorem dX11_marks_44 : decode cX11_marks 44 = .ok (.goto 28, 3) := by decide +kernel
theorem dX11_marks_47 : decode cX11_marks 47 = .ok (.iload 4, 2) := by decide +kernel
theorem dX11_marks_49 : decode cX11_marks 49 = .ok (.ifCond .eq 31, 3) := by decide +kernel
theorem dX11_marks_52 : decode cX11_marks 52 = .ok (.iload_n 1, 1) := by decide +kernel
theorem dX11_marks_53 : decode cX11_marks 53 = .ok (.ifCond .ne 10, 3) := by decide +kernel
theorem dX11_marks_56 : decode cX11_marks 56 = .ok (.aload_n 0, 1) := by decide +kernel
theorem dX11_marks_57 : decode cX11_marks 57 = .ok (.getfield 283, 3) := by decide +kernel
theorem dX11_marks_60 : decode cX11_marks 60 = .ok (.goto 7, 3) := by decide +kernel
theorem dX11_marks_63 : decode cX11_marks 63 = .ok (.aload_n 0, 1) := by decide +kernel
theorem dX11_marks_64 : decode cX11_marks 64 = .ok (.getfield 289, 3) := by decide +kernel
theorem dX11_marks_67 : decode cX11_marks 67 = .ok (.lconst 0, 1) := by decide +kernel
theorem dX11_marks_68 : decode cX11_marks 68 = .ok (.lcmp, 1) := by decide +kernel
theorem dX11_marks_69 : decode cX11_marks 69 = .ok (.ifCond .ne 11, 3) := by decide +kernel
theorem dX11_marks_72 : decode cX11_marks 72 = .ok (.iload_n 2, 1) := by decide +kernel
theorem dX11_marks_73 : decode cX11_marks 73 = .ok (.iconst 1, 1) := by decide +kernel
theorem dX11_marks_74 : decode cX11_marks 74 = .ok (.iload_n 3, 1) := by decide +kernel
theorem dX11_marks_75 : decode cX11_marks 75 = .ok (.iconst 1, 1) := by decide +kernel
theorem dX11_marks_76 : decode cX11_marks 76 = .ok (.isub, 1) := by decide +kernel
theorem dX11_marks_77 : decode cX11_marks 77 = .ok (.ishl, 1) := by decide +kernel
theorem dX11_marks_78 : decode cX11_marks 78 = .ok (.ior, 1) := by decide +kernel
theorem dX11_marks_79 : decode cX11_marks 79 = .ok (.istore_n 2, 1) := by decide +kernel
theorem dX11_marks_80 : decode cX11_marks 80 = .ok (.iinc 3 1, 3) := by decide +kernel
theorem dX11_marks_83 : decode cX11_marks 83 = .ok (.goto (-65), 3) := by decide +kernel
theorem dX11_marks_86 : decode cX11_marks 86 = .ok (.iload_n 2, 1) := by decide +kernel
theorem dX11_marks_87 : decode cX11_marks 87 = .ok (.ireturn, 1) := by decide +kernel
theorem dX11_extreme_0 : decode cX11_extreme 0 = .ok (.iload_n 1, 1) := by decide +kernel
theorem dX11_extreme_1 : decode cX11_extreme 1 = .ok (.i2l, 1) := by decide +kernel
theorem dX11_extreme_2 : decode cX11_extreme 2 = .ok (.lconst 0, 1) := by decide +kernel
theorem dX11_extreme_3 : decode cX11_extreme 3 = .ok (.lconst 1, 1) := by decide +kernel
theorem dX11_extreme_4 : decode cX11_extreme 4 = .ok (.invokestatic 94, 3) := by decide +kernel
theorem dX11_extreme_7 : decode cX11_extreme 7 = .ok (.ifCond .ne 5, 3) := by decide +kernel
theorem dX11_extreme_10 : decode cX11_extreme 10 = .ok (.iconst (-1), 1) := by decide +kernel
theorem dX11_extreme_11 : decode cX11_extreme 11 = .ok (.ireturn, 1) := by decide +kernel
theorem dX11_extreme_12 : decode cX11_extreme 12 = .ok (.iconst (-1), 1) := by decide +kernel
theorem dX11_extreme_13 : decode cX11_extreme 13 = .ok (.istore_n 2, 1) := by decide +kernel
theorem dX11_extreme_14 : decode cX11_extreme 14 = .ok (.lconst 0, 1) := by decide +kernel
theorem dX11_extreme_15 : decode cX11_extreme 15 = .ok (.lstore_n 3, 1) := by decide +kernel
theorem dX11_extreme_16 : decode cX11_extreme 16 = .ok (.lconst 1, 1) := by decide +kernel
theorem dX11_extreme_17 : decode cX11_extreme 17 = .ok (.lstore 5, 2) := by decide +kernel
theorem dX11_extreme_19 : decode cX11_extreme 19 = .ok (.iconst 1, 1) := by decide +kernel
theorem dX11_extreme_20 : decode cX11_extreme 20 = .ok (.istore 7, 2) := by decide +kernel
theorem dX11_extreme_22 : decode cX11_extreme 22 = .ok (.iload 7, 2) := by decide +kernel
theorem dX11_extreme_24 : decode cX11_extreme 24 = .ok (.iconst 4, 1) := by decide +kernel
theorem dX11_extreme_25 : decode cX11_extreme 25 = .ok (.if_icmp .gt 88, 3) := by decide +kernel
theorem dX11_extreme_28 : decode cX11_extreme 28 = .ok (.aload_n 0, 1) := by decide +kernel
theorem dX11_extreme_29 : decode cX11_extreme 29 = .ok (.aload_n 0, 1) := by decide +kernel
theorem dX11_extreme_30 : decode cX11_extreme 30 = .ok (.getfield 107, 3) := by decide +kernel
theorem dX11_extreme_33 : decode cX11_extreme 33 = .ok (.iload 7, 2) := by decide +kernel
theorem dX11_extreme_35 : decode cX11_extreme 35 = .ok (.invokevirtual 315, 3) := by decide +kernel
theorem dX11_extreme_38 : decode cX11_extreme 38 = .ok (.ifCond .ne 6, 3) := by decide +kernel
theorem dX11_extreme_41 : decode cX11_extreme 41 = .ok (.goto 66, 3) := by decide +kernel
theorem dX11_extreme_44 : decode cX11_extreme 44 = .ok (.iload_n 2, 1) := by decide +kernel
theorem dX11_extreme_45 : decode cX11_extreme 45 = .ok (.iconst (-1), 1) := by decide +kernel
theorem dX11_extreme_46 : decode cX11_extreme 46 = .ok (.if_icmp .eq 47, 3) := by decide +kernel
theorem dX11_extreme_49 : decode cX11_extreme 49 = .ok (.iload_n 1, 1) := by decide +kernel
theorem dX11_extreme_50 : decode cX11_extreme 50 = .ok (.ifCond .ne 23, 3) := by decide +kernel
theorem dX11_extreme_53 : decode cX11_extreme 53 = .ok (.aload_n 0, 1) := by decide +kernel
theorem dX11_extreme_54 : decode cX11_extreme 54 = .ok (.getfield 283, 3) := by decide +kernel
theorem dX11_extreme_57 : decode cX11_extreme 57 = .ok (.aload_n 0, 1) := by decide +kernel
theorem dX11_extreme_58 : decode cX11_extreme 58 = .ok (.getfield 286, 3) := by decide +kernel
theorem dX11_extreme_61 : decode cX11_extreme 61 = .ok (.lload_n 3, 1) := by decide +kernel
theorem dX11_extreme_62 : decode cX11_extreme 62 = .ok (.lload 5, 2) := by decide +kernel
theorem dX11_extreme_64 : decode cX11_extreme 64 = .ok (.invokestatic 338, 3) := by decide +kernel
theorem dX11_extreme_67 : decode cX11_extreme 67 = .ok (.ifCond .eq 40, 3) := by decide +kernel
theorem dX11_extreme_70 : decode cX11_extreme 70 = .ok (.goto 23, 3) := by decide +kernel
theorem dX11_extreme_73 : decode cX11_extreme 73 = .ok (.lload_n 3, 1) := by decide +kernel
theorem dX11_extreme_74 : decode cX11_extreme 74 = .ok (.lload 5, 2) := by decide +kernel
theorem dX11_extreme_76 : decode cX11_extreme 76 = .ok (.aload_n 0, 1) := by decide +kernel
theorem dX11_extreme_77 : decode cX11_extreme 77 = .ok (.getfield 283, 3) := by decide +kernel
theorem dX11_extreme_80 : decode cX11_extreme 80 = .ok (.aload_n 0, 1) := by decide +kernel
theorem dX11_extreme_81 : decode cX11_extreme 81 = .ok (.getfield 286, 3) := by decide +kernel
theorem dX11_extreme_84 : decode cX11_extreme 84 = .ok (.invokestatic 338, 3) := by decide +kernel
theorem dX11_extreme_87 : decode cX11_extreme 87 = .ok (.ifCond .ne 6, 3) := by decide +kernel
theorem dX11_extreme_90 : decode cX11_extreme 90 = .ok (.goto 17, 3) := by decide +kernel
theorem dX11_extreme_93 : decode cX11_extreme 93 = .ok (.iload 7, 2) := by decide +kernel
theorem dX11_extreme_95 : decode cX11_extreme 95 = .ok (.istore_n 2, 1) := by decide +kernel
theorem dX11_extreme_96 : decode cX11_extreme 96 = .ok (.aload_n 0, 1) := by decide +kernel
theorem dX11_extreme_97 : decode cX11_extreme 97 = .ok (.getfield 283, 3) := by decide +kernel
theorem dX11_extreme_100 : decode cX11_extreme 100 = .ok (.lstore_n 3, 1) := by decide +kernel
theorem dX11_extreme_101 : decode cX11_extreme 101 = .ok (.aload_n 0, 1) := by decide +kernel
theorem dX11_extreme_102 : decode cX11_extreme 102 = .ok (.getfield 286, 3) := by decide +kernel
theorem dX11_extreme_105 : decode cX11_extreme 105 = .ok (.lstore 5, 2) := by decide +kernel
theorem dX11_extreme_107 : decode cX11_extreme 107 = .ok (.iinc 7 1, 3) := by decide +kernel
theorem dX11_extreme_110 : decode cX11_extreme 110 = .ok (.goto (-88), 3) := by decide +kernel
theorem dX11_extreme_113 : decode cX11_extreme 113 = .ok (.iload_n 2, 1) := by decide +kernel
theorem dX11_extreme_114 : decode cX11_extreme 114 = .ok (.ireturn, 1) := by decide +kernel
theorem dX11_below_0 : decode cX11_below 0 = .ok (.aload_n 0, 1) := by decide +kernel
theorem dX11_below_1 : decode cX11_below 1 = .ok (.iload_n 1, 1) := by decide +kernel
theorem dX11_below_2 : decode cX11_below 2 = .ok (.invokevirtual 303, 3) := by decide +kernel
theorem dX11_below_5 : decode cX11_below 5 = .ok (.ifCond .eq 27, 3) := by decide +kernel
theorem dX11_below_8 : decode cX11_below 8 = .ok (.iload_n 2, 1) := by decide +kernel
theorem dX11_below_9 : decode cX11_below 9 = .ok (.i2l, 1) := by decide +kernel
theorem dX11_below_10 : decode cX11_below 10 = .ok (.lconst 0, 1) := by decide +kernel
theorem dX11_below_11 : decode cX11_below 11 = .ok (.ldc2_w 341, 3) := by decide +kernel
theorem dX11_below_14 : decode cX11_below 14 = .ok (.invokestatic 94, 3) := by decide +kernel
theorem dX11_below_17 : decode cX11_below 17 = .ok (.ifCond .eq 15, 3) := by decide +kernel
theorem dX11_below_20 : decode cX11_below 20 = .ok (.iload_n 3, 1) := by decide +kernel
theorem dX11_below_21 : decode cX11_below 21 = .ok (.i2l, 1) := by decide +kernel
theorem dX11_below_22 : decode cX11_below 22 = .ok (.lconst 1, 1) := by decide +kernel
theorem dX11_below_23 : decode cX11_below 23 = .ok (.ldc2_w 341, 3) := by decide +kernel
theorem dX11_below_26 : decode cX11_below 26 = .ok (.invokestatic 94, 3) := by decide +kernel
theorem dX11_below_29 : decode cX11_below 29 = .ok (.ifCond .ne 5, 3) := by decide +kernel
theorem dX11_below_32 : decode cX11_below 32 = .ok (.iconst (-1), 1) := by decide +kernel
theorem dX11_below_33 : decode cX11_below 33 = .ok (.ireturn, 1) := by decide +kernel
theorem dX11_below_34 : decode cX11_below 34 = .ok (.iconst 0, 1) := by decide +kernel
theorem dX11_below_35 : decode cX11_below 35 = .ok (.istore 4, 2) := by decide +kernel
theorem dX11_below_37 : decode cX11_below 37 = .ok (.iconst 0, 1) := by decide +kernel
theorem dX11_below_38 : decode cX11_below 38 = .ok (.istore 5, 2) := by decide +kernel
theorem dX11_below_40 : decode cX11_below 40 = .ok (.iload 5, 2) := by decide +kernel
theorem dX11_below_42 : decode cX11_below 42 = .ok (.aload_n 0, 1) := by decide +kernel
theorem dX11_below_43 : decode cX11_below 43 = .ok (.getfield 107, 3) := by decide +kernel
theorem dX11_below_46 : decode cX11_below 46 = .ok (.if_icmp .gt 50, 3) := by decide +kernel
theorem dX11_below_49 : decode cX11_below 49 = .ok (.iload 4, 2) := by decide +kernel
theorem dX11_below_51 : decode cX11_below 51 = .ok (.aload_n 0, 1) := by decide +kernel
theorem dX11_below_52 : decode cX11_below 52 = .ok (.iload 5, 2) := by decide +kernel
theorem dX11_below_54 : decode cX11_below 54 = .ok (.iload_n 1, 1) := by decide +kernel
theorem dX11_below_55 : decode cX11_below 55 = .ok (.invokevirtual 315, 3) := by decide +kernel
theorem dX11_below_58 : decode cX11_below 58 = .ok (.ifCond .eq 25, 3) := by decide +kernel
theorem dX11_below_61 : decode cX11_below 61 = .ok (.iload_n 2, 1) := by decide +kernel
theorem dX11_below_62 : decode cX11_below 62 = .ok (.i2l, 1) := by decide +kernel
theorem dX11_below_63 : decode cX11_below 63 = .ok (.iload_n 3, 1) := by decide +kernel
theorem dX11_below_64 : decode cX11_below 64 = .ok (.i2l, 1) := by decide +kernel
theorem dX11_below_65 : decode cX11_below 65 = .ok (.aload_n 0, 1) := by decide +kernel
theorem dX11_below_66 : decode cX11_below 66 = .ok (.getfield 283, 3) := by decide +kernel
theorem dX11_below_69 : decode cX11_below 69 = .ok (.aload_n 0, 1) := by decide +kernel
theorem dX11_below_70 : decode cX11_below 70 = .ok (.getfield 286, 3) := by decide +kernel
theorem dX11_below_73 : decode cX11_below 73 = .ok (.invokestatic 338, 3) := by decide +kernel
theorem dX11_below_76 : decode cX11_below 76 = .ok (.ifCond .ne 7, 3) := by decide +kernel
theorem dX11_below_79 : decode cX11_below 79 = .ok (.iconst 1, 1) := by decide +kernel
theorem dX11_below_80 : decode cX11_below 80 = .ok (.goto 4, 3) := by decide +kernel
theorem dX11_below_83 : decode cX11_below 83 = .ok (.iconst 0, 1) := by decide +kernel
theorem dX11_below_84 : decode cX11_below 84 = .ok (.invokestatic 110, 3) := by decide +kernel
theorem dX11_below_87 : decode cX11_below 87 = .ok (.iadd, 1) := by decide +kernel
theorem dX11_below_88 : decode cX11_below 88 = .ok (.istore 4, 2) := by decide +kernel
theorem dX11_below_90 : decode cX11_below 90 = .ok (.iinc 5 1, 3) := by decide +kernel
theorem dX11_below_93 : decode cX11_below 93 = .ok (.goto (-53), 3) := by decide +kernel
theorem dX11_below_96 : decode cX11_below 96 = .ok (.iload 4, 2) := by decide +kernel
theorem dX11_below_98 : decode cX11_below 98 = .ok (.ireturn, 1) := by decide +kernel
theorem dX11_slips_0 : decode cX11_slips 0 = .ok (.aload_n 0, 1) := by decide +kernel
theorem dX11_slips_1 : decode cX11_slips 1 = .ok (.invokevirtual 274, 3) := by decide +kernel
theorem dX11_slips_4 : decode cX11_slips 4 = .ok (.iconst 0, 1) := by decide +kernel
theorem dX11_slips_5 : decode cX11_slips 5 = .ok (.istore 5, 2) := by decide +kernel
theorem dX11_slips_7 : decode cX11_slips 7 = .ok (.iload 5, 2) := by decide +kernel
theorem dX11_slips_9 : decode cX11_slips 9 = .ok (.aload_n 0, 1) := by decide +kernel
theorem dX11_slips_10 : decode cX11_slips 10 = .ok (.getfield 107, 3) := by decide +kernel
theorem dX11_slips_13 : decode cX11_slips 13 = .ok (.if_icmp .ge 118, 3) := by decide +kernel
theorem dX11_slips_16 : decode cX11_slips 16 = .ok (.aload_n 0, 1) := by decide +kernel
theorem dX11_slips_17 : decode cX11_slips 17 = .ok (.getfield 23, 3) := by decide +kernel
theorem dX11_slips_20 : decode cX11_slips 20 = .ok (.iload 5, 2) := by decide +kernel
theorem dX11_slips_22 : decode cX11_slips 22 = .ok (.iaload, 1) := by decide +kernel
theorem dX11_slips_23 : decode cX11_slips 23 = .ok (.i2l, 1) := by decide +kernel
theorem dX11_slips_24 : decode cX11_slips 24 = .ok (.lstore 6, 2) := by decide +kernel
theorem dX11_slips_26 : decode cX11_slips 26 = .ok (.aload_n 0, 1) := by decide +kernel
theorem dX11_slips_27 : decode cX11_slips 27 = .ok (.getfield 26, 3) := by decide +kernel
theorem dX11_slips_30 : decode cX11_slips 30 = .ok (.iload 5, 2) := by decide +kernel
theorem dX11_slips_32 : decode cX11_slips 32 = .ok (.iaload, 1) := by decide +kernel
theorem dX11_slips_33 : decode cX11_slips 33 = .ok (.i2l, 1) := by decide +kernel
theorem dX11_slips_34 : decode cX11_slips 34 = .ok (.lstore 8, 2) := by decide +kernel
theorem dX11_slips_36 : decode cX11_slips 36 = .ok (.iload_n 3, 1) := by decide +kernel
theorem dX11_slips_37 : decode cX11_slips 37 = .ok (.iload 5, 2) := by decide +kernel
theorem dX11_slips_39 : decode cX11_slips 39 = .ok (.invokestatic 343, 3) := by decide +kernel
theorem dX11_slips_42 : decode cX11_slips 42 = .ok (.ifCond .eq 52, 3) := by decide +kernel
theorem dX11_slips_45 : decode cX11_slips 45 = .ok (.lload 8, 2) := by decide +kernel
theorem dX11_slips_47 : decode cX11_slips 47 = .ok (.lconst 0, 1) := by decide +kernel
theorem dX11_slips_48 : decode cX11_slips 48 = .ok (.lcmp, 1) := by decide +kernel
theorem dX11_slips_49 : decode cX11_slips 49 = .ok (.ifCond .le 45, 3) := by decide +kernel
theorem dX11_slips_52 : decode cX11_slips 52 = .ok (.iload 4, 2) := by decide +kernel
theorem dX11_slips_54 : decode cX11_slips 54 = .ok (.iload 5, 2) := by decide +kernel
theorem dX11_slips_56 : decode cX11_slips 56 = .ok (.invokestatic 343, 3) := by decide +kernel
theorem dX11_slips_59 : decode cX11_slips 59 = .ok (.ifCond .eq 14, 3) := by decide +kernel
theorem dX11_slips_62 : decode cX11_slips 62 = .ok (.lload 6, 2) := by decide +kernel
theorem dX11_slips_64 : decode cX11_slips 64 = .ok (.iload_n 2, 1) := by decide +kernel
theorem dX11_slips_65 : decode cX11_slips 65 = .ok (.i2l, 1) := by decide +kernel
theorem dX11_slips_66 : decode cX11_slips 66 = .ok (.lmul, 1) := by decide +kernel
theorem dX11_slips_67 : decode cX11_slips 67 = .ok (.lload 8, 2) := by decide +kernel
theorem dX11_slips_69 : decode cX11_slips 69 = .ok (.ladd, 1) := by decide +kernel
theorem dX11_slips_70 : decode cX11_slips 70 = .ok (.goto 15, 3) := by decide +kernel
theorem dX11_slips_73 : decode cX11_slips 73 = .ok (.lconst 0, 1) := by decide +kernel
theorem dX11_slips_74 : decode cX11_slips 74 = .ok (.lload 6, 2) := by decide +kernel
theorem dX11_slips_76 : decode cX11_slips 76 = .ok (.iload_n 2, 1) := by decide +kernel
theorem dX11_slips_77 : decode cX11_slips 77 = .ok (.i2l, 1) := by decide +kernel
theorem dX11_slips_78 : decode cX11_slips 78 = .ok (.lmul, 1) := by decide +kernel
theorem dX11_slips_79 : decode cX11_slips 79 = .ok (.lload 8, 2) := by decide +kernel
theorem dX11_slips_81 : decode cX11_slips 81 = .ok (.lsub, 1) := by decide +kernel
theorem dX11_slips_82 : decode cX11_slips 82 = .ok (.invokestatic 346, 3) := by decide +kernel
theorem dX11_slips_85 : decode cX11_slips 85 = .ok (.lstore 6, 2) := by decide +kernel
theorem dX11_slips_87 : decode cX11_slips 87 = .ok (.lload 8, 2) := by decide +kernel
theorem dX11_slips_89 : decode cX11_slips 89 = .ok (.iload_n 2, 1) := by decide +kernel
theorem dX11_slips_90 : decode cX11_slips 90 = .ok (.i2l, 1) := by decide +kernel
theorem dX11_slips_91 : decode cX11_slips 91 = .ok (.lmul, 1) := by decide +kernel
theorem dX11_slips_92 : decode cX11_slips 92 = .ok (.lstore 8, 2) := by decide +kernel
theorem dX11_slips_94 : decode cX11_slips 94 = .ok (.lload 6, 2) := by decide +kernel
theorem dX11_slips_96 : decode cX11_slips 96 = .ok (.lload 8, 2) := by decide +kernel
theorem dX11_slips_98 : decode cX11_slips 98 = .ok (.invokestatic 100, 3) := by decide +kernel
theorem dX11_slips_101 : decode cX11_slips 101 = .ok (.lstore 10, 2) := by decide +kernel
theorem dX11_slips_103 : decode cX11_slips 103 = .ok (.aload_n 0, 1) := by decide +kernel
theorem dX11_slips_104 : decode cX11_slips 104 = .ok (.aload_n 0, 1) := by decide +kernel
theorem dX11_slips_105 : decode cX11_slips 105 = .ok (.getfield 20, 3) := by decide +kernel
theorem dX11_slips_108 : decode cX11_slips 108 = .ok (.iload 5, 2) := by decide +kernel
theorem dX11_slips_110 : decode cX11_slips 110 = .ok (.iaload, 1) := by decide +kernel
theorem dX11_slips_111 : decode cX11_slips 111 = .ok (.lload 6, 2) := by decide +kernel
theorem dX11_slips_113 : decode cX11_slips 113 = .ok (.lload 10, 2) := by decide +kernel
theorem dX11_slips_115 : decode cX11_slips 115 = .ok (.ldiv, 1) := by decide +kernel
theorem dX11_slips_116 : decode cX11_slips 116 = .ok (.lload 8, 2) := by decide +kernel
theorem dX11_slips_118 : decode cX11_slips 118 = .ok (.lload 10, 2) := by decide +kernel
theorem dX11_slips_120 : decode cX11_slips 120 = .ok (.ldiv, 1) := by decide +kernel
theorem dX11_slips_121 : decode cX11_slips 121 = .ok (.iload_n 1, 1) := by decide +kernel
theorem dX11_slips_122 : decode cX11_slips 122 = .ok (.invokevirtual 277, 3) := by decide +kernel
theorem dX11_slips_125 : decode cX11_slips 125 = .ok (.iinc 5 1, 3) := by decide +kernel
theorem dX11_slips_128 : decode cX11_slips 128 = .ok (.goto (-121), 3) := by decide +kernel
theorem dX11_slips_131 : decode cX11_slips 131 = .ok (.aload_n 0, 1) := by decide +kernel
theorem dX11_slips_132 : decode cX11_slips 132 = .ok (.getfield 260, 3) := by decide +kernel
theorem dX11_slips_135 : decode cX11_slips 135 = .ok (.ifCond .eq 7, 3) := by decide +kernel
theorem dX11_slips_138 : decode cX11_slips 138 = .ok (.aload_n 0, 1) := by decide +kernel
theorem dX11_slips_139 : decode cX11_slips 139 = .ok (.invokevirtual 298, 3) := by decide +kernel
theorem dX11_slips_142 : decode cX11_slips 142 = .ok (.aload_n 0, 1) := by decide +kernel
theorem dX11_slips_143 : decode cX11_slips 143 = .ok (.getfield 260, 3) := by decide +kernel
theorem dX11_slips_146 : decode cX11_slips 146 = .ok (.ireturn, 1) := by decide +kernel
theorem dX11_canSlip_0 : decode cX11_canSlip 0 = .ok (.aload_n 0, 1) := by decide +kernel
theorem dX11_canSlip_1 : decode cX11_canSlip 1 = .ok (.iload_n 1, 1) := by decide +kernel
theorem dX11_canSlip_2 : decode cX11_canSlip 2 = .ok (.invokevirtual 303, 3) := by decide +kernel
theorem dX11_canSlip_5 : decode cX11_canSlip 5 = .ok (.ifCond .eq 21, 3) := by decide +kernel
theorem dX11_canSlip_8 : decode cX11_canSlip 8 = .ok (.iload_n 2, 1) := by decide +kernel
theorem dX11_canSlip_9 : decode cX11_canSlip 9 = .ok (.i2l, 1) := by decide +kernel
theorem dX11_canSlip_10 : decode cX11_canSlip 10 = .ok (.ldc2_w 268, 3) := by decide +kernel
theorem dX11_canSlip_13 : decode cX11_canSlip 13 = .ok (.ldc2_w 349, 3) := by decide +kernel
theorem dX11_canSlip_16 : decode cX11_canSlip 16 = .ok (.invokestatic 94, 3) := by decide +kernel
theorem dX11_canSlip_19 : decode cX11_canSlip 19 = .ok (.ifCond .eq 7, 3) := by decide +kernel
theorem dX11_canSlip_22 : decode cX11_canSlip 22 = .ok (.iconst 1, 1) := by decide +kernel
theorem dX11_canSlip_23 : decode cX11_canSlip 23 = .ok (.goto 4, 3) := by decide +kernel
theorem dX11_canSlip_26 : decode cX11_canSlip 26 = .ok (.iconst 0, 1) := by decide +kernel
theorem dX11_canSlip_27 : decode cX11_canSlip 27 = .ok (.ireturn, 1) := by decide +kernel
theorem dX11_worst_0 : decode cX11_worst 0 = .ok (.aload_n 0, 1) := by decide +kernel
theorem dX11_worst_1 : decode cX11_worst 1 = .ok (.iload_n 1, 1) := by decide +kernel
theorem dX11_worst_2 : decode cX11_worst 2 = .ok (.iload_n 2, 1) := by decide +kernel
theorem dX11_worst_3 : decode cX11_worst 3 = .ok (.invokevirtual 351, 3) := by decide +kernel
theorem dX11_worst_6 : decode cX11_worst 6 = .ok (.ifCond .eq 24, 3) := by decide +kernel
theorem dX11_worst_9 : decode cX11_worst 9 = .ok (.aload_n 0, 1) := by decide +kernel
theorem dX11_worst_10 : decode cX11_worst 10 = .ok (.getfield 107, 3) := by decide +kernel
theorem dX11_worst_13 : decode cX11_worst 13 = .ok (.bipush 8, 2) := by decide +kernel
theorem dX11_worst_15 : decode cX11_worst 15 = .ok (.if_icmp .gt 15, 3) := by decide +kernel
theorem dX11_worst_18 : decode cX11_worst 18 = .ok (.iload_n 3, 1) := by decide +kernel
theorem dX11_worst_19 : decode cX11_worst 19 = .ok (.i2l, 1) := by decide +kernel
theorem dX11_worst_20 : decode cX11_worst 20 = .ok (.lconst 0, 1) := by decide +kernel
theorem dX11_worst_21 : decode cX11_worst 21 = .ok (.ldc2_w 268, 3) := by decide +kernel
theorem dX11_worst_24 : decode cX11_worst 24 = .ok (.invokestatic 94, 3) := by decide +kernel
theorem dX11_worst_27 : decode cX11_worst 27 = .ok (.ifCond .ne 7, 3) := by decide +kernel
theorem dX11_worst_30 : decode cX11_worst 30 = .ok (.ldc2_w 313, 3) := by decide +kernel
theorem dX11_worst_33 : decode cX11_worst 33 = .ok (.lreturn, 1) := by decide +kernel
theorem dX11_worst_34 : decode cX11_worst 34 = .ok (.iconst (-1), 1) := by decide +kernel
theorem dX11_worst_35 : decode cX11_worst 35 = .ok (.istore 4, 2) := by decide +kernel
theorem dX11_worst_37 : decode cX11_worst 37 = .ok (.lconst 0, 1) := by decide +kernel
theorem dX11_worst_38 : decode cX11_worst 38 = .ok (.lstore 5, 2) := by decide +kernel
theorem dX11_worst_40 : decode cX11_worst 40 = .ok (.lconst 1, 1) := by decide +kernel
theorem dX11_worst_41 : decode cX11_worst 41 = .ok (.lstore 7, 2) := by decide +kernel
theorem dX11_worst_43 : decode cX11_worst 43 = .ok (.iconst 0, 1) := by decide +kernel
theorem dX11_worst_44 : decode cX11_worst 44 = .ok (.istore 9, 2) := by decide +kernel
theorem dX11_worst_46 : decode cX11_worst 46 = .ok (.iload 9, 2) := by decide +kernel
theorem dX11_worst_48 : decode cX11_worst 48 = .ok (.iconst 1, 1) := by decide +kernel
theorem dX11_worst_49 : decode cX11_worst 49 = .ok (.aload_n 0, 1) := by decide +kernel
theorem dX11_worst_50 : decode cX11_worst 50 = .ok (.getfield 107, 3) := by decide +kernel
theorem dX11_worst_53 : decode cX11_worst 53 = .ok (.ishl, 1) := by decide +kernel
theorem dX11_worst_54 : decode cX11_worst 54 = .ok (.if_icmp .ge 75, 3) := by decide +kernel
theorem dX11_worst_57 : decode cX11_worst 57 = .ok (.aload_n 0, 1) := by decide +kernel
theorem dX11_worst_58 : decode cX11_worst 58 = .ok (.iload_n 1, 1) := by decide +kernel
theorem dX11_worst_59 : decode cX11_worst 59 = .ok (.iload_n 2, 1) := by decide +kernel
theorem dX11_worst_60 : decode cX11_worst 60 = .ok (.iconst 1, 1) := by decide +kernel
theorem dX11_worst_61 : decode cX11_worst 61 = .ok (.aload_n 0, 1) := by decide +kernel
theorem dX11_worst_62 : decode cX11_worst 62 = .ok (.getfield 107, 3) := by decide +kernel
