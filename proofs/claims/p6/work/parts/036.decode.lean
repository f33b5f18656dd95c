theorem dX11_worst_65 : decode cX11_worst 65 = .ok (.ishl, 1) := by decide +kernel
theorem dX11_worst_66 : decode cX11_worst 66 = .ok (.iconst 1, 1) := by decide +kernel
theorem dX11_worst_67 : decode cX11_worst 67 = .ok (.isub, 1) := by decide +kernel
theorem dX11_worst_68 : decode cX11_worst 68 = .ok (.iload 9, 2) := by decide +kernel
theorem dX11_worst_70 : decode cX11_worst 70 = .ok (.invokevirtual 354, 3) := by decide +kernel
theorem dX11_worst_73 : decode cX11_worst 73 = .ok (.ifCond .ne 7, 3) := by decide +kernel
theorem dX11_worst_76 : decode cX11_worst 76 = .ok (.ldc2_w 301, 3) := by decide +kernel
theorem dX11_worst_79 : decode cX11_worst 79 = .ok (.lreturn, 1) := by decide +kernel
theorem dX11_worst_80 : decode cX11_worst 80 = .ok (.iload 4, 2) := by decide +kernel
theorem dX11_worst_82 : decode cX11_worst 82 = .ok (.iconst (-1), 1) := by decide +kernel
theorem dX11_worst_83 : decode cX11_worst 83 = .ok (.if_icmp .eq 24, 3) := by decide +kernel
theorem dX11_worst_86 : decode cX11_worst 86 = .ok (.lload 5, 2) := by decide +kernel
theorem dX11_worst_88 : decode cX11_worst 88 = .ok (.lload 7, 2) := by decide +kernel
theorem dX11_worst_90 : decode cX11_worst 90 = .ok (.aload_n 0, 1) := by decide +kernel
theorem dX11_worst_91 : decode cX11_worst 91 = .ok (.getfield 283, 3) := by decide +kernel
theorem dX11_worst_94 : decode cX11_worst 94 = .ok (.aload_n 0, 1) := by decide +kernel
theorem dX11_worst_95 : decode cX11_worst 95 = .ok (.getfield 286, 3) := by decide +kernel
theorem dX11_worst_98 : decode cX11_worst 98 = .ok (.invokestatic 338, 3) := by decide +kernel
theorem dX11_worst_101 : decode cX11_worst 101 = .ok (.ifCond .ne 6, 3) := by decide +kernel
theorem dX11_worst_104 : decode cX11_worst 104 = .ok (.goto 19, 3) := by decide +kernel
theorem dX11_worst_107 : decode cX11_worst 107 = .ok (.iload 9, 2) := by decide +kernel
theorem dX11_worst_109 : decode cX11_worst 109 = .ok (.istore 4, 2) := by decide +kernel
theorem dX11_worst_111 : decode cX11_worst 111 = .ok (.aload_n 0, 1) := by decide +kernel
theorem dX11_worst_112 : decode cX11_worst 112 = .ok (.getfield 283, 3) := by decide +kernel
theorem dX11_worst_115 : decode cX11_worst 115 = .ok (.lstore 5, 2) := by decide +kernel
theorem dX11_worst_117 : decode cX11_worst 117 = .ok (.aload_n 0, 1) := by decide +kernel
theorem dX11_worst_118 : decode cX11_worst 118 = .ok (.getfield 286, 3) := by decide +kernel
theorem dX11_worst_121 : decode cX11_worst 121 = .ok (.lstore 7, 2) := by decide +kernel
theorem dX11_worst_123 : decode cX11_worst 123 = .ok (.iinc 9 1, 3) := by decide +kernel
theorem dX11_worst_126 : decode cX11_worst 126 = .ok (.goto (-80), 3) := by decide +kernel
theorem dX11_worst_129 : decode cX11_worst 129 = .ok (.iload_n 3, 1) := by decide +kernel
theorem dX11_worst_130 : decode cX11_worst 130 = .ok (.ifCond .ne 9, 3) := by decide +kernel
theorem dX11_worst_133 : decode cX11_worst 133 = .ok (.iload 4, 2) := by decide +kernel
theorem dX11_worst_135 : decode cX11_worst 135 = .ok (.i2l, 1) := by decide +kernel
theorem dX11_worst_136 : decode cX11_worst 136 = .ok (.goto 15, 3) := by decide +kernel
theorem dX11_worst_139 : decode cX11_worst 139 = .ok (.iload_n 3, 1) := by decide +kernel
theorem dX11_worst_140 : decode cX11_worst 140 = .ok (.iconst 1, 1) := by decide +kernel
theorem dX11_worst_141 : decode cX11_worst 141 = .ok (.if_icmp .ne 8, 3) := by decide +kernel
theorem dX11_worst_144 : decode cX11_worst 144 = .ok (.lload 5, 2) := by decide +kernel
theorem dX11_worst_146 : decode cX11_worst 146 = .ok (.goto 5, 3) := by decide +kernel
theorem dX11_worst_149 : decode cX11_worst 149 = .ok (.lload 7, 2) := by decide +kernel
theorem dX11_worst_151 : decode cX11_worst 151 = .ok (.lreturn, 1) := by decide +kernel
theorem dX11_corner_0 : decode cX11_corner 0 = .ok (.aload_n 0, 1) := by decide +kernel
theorem dX11_corner_1 : decode cX11_corner 1 = .ok (.iload_n 1, 1) := by decide +kernel
theorem dX11_corner_2 : decode cX11_corner 2 = .ok (.iload_n 2, 1) := by decide +kernel
theorem dX11_corner_3 : decode cX11_corner 3 = .ok (.invokevirtual 351, 3) := by decide +kernel
theorem dX11_corner_6 : decode cX11_corner 6 = .ok (.ifCond .eq 41, 3) := by decide +kernel
theorem dX11_corner_9 : decode cX11_corner 9 = .ok (.aload_n 0, 1) := by decide +kernel
theorem dX11_corner_10 : decode cX11_corner 10 = .ok (.getfield 107, 3) := by decide +kernel
theorem dX11_corner_13 : decode cX11_corner 13 = .ok (.bipush 8, 2) := by decide +kernel
theorem dX11_corner_15 : decode cX11_corner 15 = .ok (.if_icmp .gt 32, 3) := by decide +kernel
theorem dX11_corner_18 : decode cX11_corner 18 = .ok (.iload_n 3, 1) := by decide +kernel
theorem dX11_corner_19 : decode cX11_corner 19 = .ok (.i2l, 1) := by decide +kernel
theorem dX11_corner_20 : decode cX11_corner 20 = .ok (.lconst 0, 1) := by decide +kernel
theorem dX11_corner_21 : decode cX11_corner 21 = .ok (.iconst 1, 1) := by decide +kernel
theorem dX11_corner_22 : decode cX11_corner 22 = .ok (.aload_n 0, 1) := by decide +kernel
theorem dX11_corner_23 : decode cX11_corner 23 = .ok (.getfield 107, 3) := by decide +kernel
theorem dX11_corner_26 : decode cX11_corner 26 = .ok (.ishl, 1) := by decide +kernel
theorem dX11_corner_27 : decode cX11_corner 27 = .ok (.iconst 1, 1) := by decide +kernel
theorem dX11_corner_28 : decode cX11_corner 28 = .ok (.isub, 1) := by decide +kernel
theorem dX11_corner_29 : decode cX11_corner 29 = .ok (.i2l, 1) := by decide +kernel
theorem dX11_corner_30 : decode cX11_corner 30 = .ok (.invokestatic 94, 3) := by decide +kernel
theorem dX11_corner_33 : decode cX11_corner 33 = .ok (.ifCond .eq 14, 3) := by decide +kernel
theorem dX11_corner_36 : decode cX11_corner 36 = .ok (.iload 4, 2) := by decide +kernel
theorem dX11_corner_38 : decode cX11_corner 38 = .ok (.i2l, 1) := by decide +kernel
theorem dX11_corner_39 : decode cX11_corner 39 = .ok (.lconst 0, 1) := by decide +kernel
theorem dX11_corner_40 : decode cX11_corner 40 = .ok (.lconst 1, 1) := by decide +kernel
theorem dX11_corner_41 : decode cX11_corner 41 = .ok (.invokestatic 94, 3) := by decide +kernel
theorem dX11_corner_44 : decode cX11_corner 44 = .ok (.ifCond .ne 7, 3) := by decide +kernel
theorem dX11_corner_47 : decode cX11_corner 47 = .ok (.ldc2_w 313, 3) := by decide +kernel
theorem dX11_corner_50 : decode cX11_corner 50 = .ok (.lreturn, 1) := by decide +kernel
theorem dX11_corner_51 : decode cX11_corner 51 = .ok (.aload_n 0, 1) := by decide +kernel
theorem dX11_corner_52 : decode cX11_corner 52 = .ok (.iload_n 1, 1) := by decide +kernel
theorem dX11_corner_53 : decode cX11_corner 53 = .ok (.iload_n 2, 1) := by decide +kernel
theorem dX11_corner_54 : decode cX11_corner 54 = .ok (.iconst 1, 1) := by decide +kernel
theorem dX11_corner_55 : decode cX11_corner 55 = .ok (.aload_n 0, 1) := by decide +kernel
theorem dX11_corner_56 : decode cX11_corner 56 = .ok (.getfield 107, 3) := by decide +kernel
theorem dX11_corner_59 : decode cX11_corner 59 = .ok (.ishl, 1) := by decide +kernel
theorem dX11_corner_60 : decode cX11_corner 60 = .ok (.iconst 1, 1) := by decide +kernel
theorem dX11_corner_61 : decode cX11_corner 61 = .ok (.isub, 1) := by decide +kernel
theorem dX11_corner_62 : decode cX11_corner 62 = .ok (.iload_n 3, 1) := by decide +kernel
theorem dX11_corner_63 : decode cX11_corner 63 = .ok (.invokevirtual 354, 3) := by decide +kernel
theorem dX11_corner_66 : decode cX11_corner 66 = .ok (.ifCond .eq 12, 3) := by decide +kernel
theorem dX11_corner_69 : decode cX11_corner 69 = .ok (.aload_n 0, 1) := by decide +kernel
theorem dX11_corner_70 : decode cX11_corner 70 = .ok (.iload 4, 2) := by decide +kernel
theorem dX11_corner_72 : decode cX11_corner 72 = .ok (.invokevirtual 318, 3) := by decide +kernel
theorem dX11_corner_75 : decode cX11_corner 75 = .ok (.goto 6, 3) := by decide +kernel
theorem dX11_corner_78 : decode cX11_corner 78 = .ok (.ldc2_w 301, 3) := by decide +kernel
theorem dX11_corner_81 : decode cX11_corner 81 = .ok (.lreturn, 1) := by decide +kernel
theorem dX11_tender_0 : decode cX11_tender 0 = .ok (.aload_n 0, 1) := by decide +kernel
theorem dX11_tender_1 : decode cX11_tender 1 = .ok (.iload_n 1, 1) := by decide +kernel
theorem dX11_tender_2 : decode cX11_tender 2 = .ok (.iload_n 2, 1) := by decide +kernel
theorem dX11_tender_3 : decode cX11_tender 3 = .ok (.invokevirtual 351, 3) := by decide +kernel
theorem dX11_tender_6 : decode cX11_tender 6 = .ok (.ifCond .ne 6, 3) := by decide +kernel
theorem dX11_tender_9 : decode cX11_tender 9 = .ok (.bipush (-2), 2) := by decide +kernel
theorem dX11_tender_11 : decode cX11_tender 11 = .ok (.ireturn, 1) := by decide +kernel
theorem dX11_tender_12 : decode cX11_tender 12 = .ok (.aload_n 0, 1) := by decide +kernel
theorem dX11_tender_13 : decode cX11_tender 13 = .ok (.aload_n 0, 1) := by decide +kernel
theorem dX11_tender_14 : decode cX11_tender 14 = .ok (.getfield 107, 3) := by decide +kernel
theorem dX11_tender_17 : decode cX11_tender 17 = .ok (.iload_n 1, 1) := by decide +kernel
theorem dX11_tender_18 : decode cX11_tender 18 = .ok (.invokevirtual 315, 3) := by decide +kernel
theorem dX11_tender_21 : decode cX11_tender 21 = .ok (.ifCond .ne 5, 3) := by decide +kernel
theorem dX11_tender_24 : decode cX11_tender 24 = .ok (.iconst (-1), 1) := by decide +kernel
theorem dX11_tender_25 : decode cX11_tender 25 = .ok (.ireturn, 1) := by decide +kernel
theorem dX11_tender_26 : decode cX11_tender 26 = .ok (.aload_n 0, 1) := by decide +kernel
theorem dX11_tender_27 : decode cX11_tender 27 = .ok (.getfield 283, 3) := by decide +kernel
theorem dX11_tender_30 : decode cX11_tender 30 = .ok (.lstore_n 3, 1) := by decide +kernel
theorem dX11_tender_31 : decode cX11_tender 31 = .ok (.aload_n 0, 1) := by decide +kernel
theorem dX11_tender_32 : decode cX11_tender 32 = .ok (.getfield 286, 3) := by decide +kernel
theorem dX11_tender_35 : decode cX11_tender 35 = .ok (.lstore 5, 2) := by decide +kernel
theorem dX11_tender_37 : decode cX11_tender 37 = .ok (.iconst (-1), 1) := by decide +kernel
theorem dX11_tender_38 : decode cX11_tender 38 = .ok (.istore 7, 2) := by decide +kernel
theorem dX11_tender_40 : decode cX11_tender 40 = .ok (.iconst 0, 1) := by decide +kernel
theorem dX11_tender_41 : decode cX11_tender 41 = .ok (.istore 8, 2) := by decide +kernel
theorem dX11_tender_43 : decode cX11_tender 43 = .ok (.iload 8, 2) := by decide +kernel
theorem dX11_tender_45 : decode cX11_tender 45 = .ok (.iconst 2, 1) := by decide +kernel
theorem dX11_tender_46 : decode cX11_tender 46 = .ok (.aload_n 0, 1) := by decide +kernel
theorem dX11_tender_47 : decode cX11_tender 47 = .ok (.getfield 107, 3) := by decide +kernel
theorem dX11_tender_50 : decode cX11_tender 50 = .ok (.imul, 1) := by decide +kernel
theorem dX11_tender_51 : decode cX11_tender 51 = .ok (.if_icmp .ge 72, 3) := by decide +kernel
theorem dX11_tender_54 : decode cX11_tender 54 = .ok (.aload_n 0, 1) := by decide +kernel
theorem dX11_tender_55 : decode cX11_tender 55 = .ok (.iload_n 1, 1) := by decide +kernel
theorem dX11_tender_56 : decode cX11_tender 56 = .ok (.iload_n 2, 1) := by decide +kernel
theorem dX11_tender_57 : decode cX11_tender 57 = .ok (.iconst 1, 1) := by decide +kernel
theorem dX11_tender_58 : decode cX11_tender 58 = .ok (.iload 8, 2) := by decide +kernel
theorem dX11_tender_60 : decode cX11_tender 60 = .ok (.iconst 2, 1) := by decide +kernel
theorem dX11_tender_61 : decode cX11_tender 61 = .ok (.idiv, 1) := by decide +kernel
theorem dX11_tender_62 : decode cX11_tender 62 = .ok (.ishl, 1) := by decide +kernel
theorem dX11_tender_63 : decode cX11_tender 63 = .ok (.iload 8, 2) := by decide +kernel
theorem dX11_tender_65 : decode cX11_tender 65 = .ok (.iconst 2, 1) := by decide +kernel
theorem dX11_tender_66 : decode cX11_tender 66 = .ok (.irem, 1) := by decide +kernel
theorem dX11_tender_67 : decode cX11_tender 67 = .ok (.iload 8, 2) := by decide +kernel
theorem dX11_tender_69 : decode cX11_tender 69 = .ok (.iconst 2, 1) := by decide +kernel
theorem dX11_tender_70 : decode cX11_tender 70 = .ok (.idiv, 1) := by decide +kernel
theorem dX11_tender_71 : decode cX11_tender 71 = .ok (.ishl, 1) := by decide +kernel
theorem dX11_tender_72 : decode cX11_tender 72 = .ok (.invokevirtual 354, 3) := by decide +kernel
theorem dX11_tender_75 : decode cX11_tender 75 = .ok (.ifCond .ne 5, 3) := by decide +kernel
theorem dX11_tender_78 : decode cX11_tender 78 = .ok (.iconst (-1), 1) := by decide +kernel
theorem dX11_tender_79 : decode cX11_tender 79 = .ok (.ireturn, 1) := by decide +kernel
theorem dX11_tender_80 : decode cX11_tender 80 = .ok (.lload_n 3, 1) := by decide +kernel
theorem dX11_tender_81 : decode cX11_tender 81 = .ok (.lload 5, 2) := by decide +kernel
theorem dX11_tender_83 : decode cX11_tender 83 = .ok (.aload_n 0, 1) := by decide +kernel
theorem dX11_tender_84 : decode cX11_tender 84 = .ok (.getfield 283, 3) := by decide +kernel
theorem dX11_tender_87 : decode cX11_tender 87 = .ok (.aload_n 0, 1) := by decide +kernel
theorem dX11_tender_88 : decode cX11_tender 88 = .ok (.getfield 286, 3) := by decide +kernel
theorem dX11_tender_91 : decode cX11_tender 91 = .ok (.invokestatic 338, 3) := by decide +kernel
theorem dX11_tender_94 : decode cX11_tender 94 = .ok (.ifCond .ne 6, 3) := by decide +kernel
theorem dX11_tender_97 : decode cX11_tender 97 = .ok (.goto 20, 3) := by decide +kernel
theorem dX11_tender_100 : decode cX11_tender 100 = .ok (.iload 8, 2) := by decide +kernel
theorem dX11_tender_102 : decode cX11_tender 102 = .ok (.iconst 2, 1) := by decide +kernel
theorem dX11_tender_103 : decode cX11_tender 103 = .ok (.idiv, 1) := by decide +kernel
theorem dX11_tender_104 : decode cX11_tender 104 = .ok (.istore 7, 2) := by decide +kernel
theorem dX11_tender_106 : decode cX11_tender 106 = .ok (.aload_n 0, 1) := by decide +kernel
theorem dX11_tender_107 : decode cX11_tender 107 = .ok (.getfield 283, 3) := by decide +kernel
theorem dX11_tender_110 : decode cX11_tender 110 = .ok (.lstore_n 3, 1) := by decide +kernel
theorem dX11_tender_111 : decode cX11_tender 111 = .ok (.aload_n 0, 1) := by decide +kernel
theorem dX11_tender_112 : decode cX11_tender 112 = .ok (.getfield 286, 3) := by decide +kernel
theorem dX11_tender_115 : decode cX11_tender 115 = .ok (.lstore 5, 2) := by decide +kernel
theorem dX11_tender_117 : decode cX11_tender 117 = .ok (.iinc 8 1, 3) := by decide +kernel
theorem dX11_tender_120 : decode cX11_tender 120 = .ok (.goto (-77), 3) := by decide +kernel
theorem dX11_tender_123 : decode cX11_tender 123 = .ok (.iload 7, 2) := by decide +kernel
theorem dX11_tender_125 : decode cX11_tender 125 = .ok (.ireturn, 1) := by decide +kernel
theorem dX11_thickUp_0 : decode cX11_thickUp 0 = .ok (.iload_n 0, 1) := by decide +kernel
theorem dX11_thickUp_1 : decode cX11_thickUp 1 = .ok (.iconst 2, 1) := by decide +kernel
theorem dX11_thickUp_2 : decode cX11_thickUp 2 = .ok (.if_icmp .eq 8, 3) := by decide +kernel
theorem dX11_thickUp_5 : decode cX11_thickUp 5 = .ok (.iload_n 0, 1) := by decide +kernel
theorem dX11_thickUp_6 : decode cX11_thickUp 6 = .ok (.iconst 5, 1) := by decide +kernel
theorem dX11_thickUp_7 : decode cX11_thickUp 7 = .ok (.if_icmp .ne 7, 3) := by decide +kernel
theorem dX11_thickUp_10 : decode cX11_thickUp 10 = .ok (.iconst 2, 1) := by decide +kernel
theorem dX11_thickUp_11 : decode cX11_thickUp 11 = .ok (.goto 19, 3) := by decide +kernel
theorem dX11_thickUp_14 : decode cX11_thickUp 14 = .ok (.iload_n 0, 1) := by decide +kernel
theorem dX11_thickUp_15 : decode cX11_thickUp 15 = .ok (.iconst 4, 1) := by decide +kernel
theorem dX11_thickUp_16 : decode cX11_thickUp 16 = .ok (.if_icmp .eq 9, 3) := by decide +kernel
theorem dX11_thickUp_19 : decode cX11_thickUp 19 = .ok (.iload_n 0, 1) := by decide +kernel
theorem dX11_thickUp_20 : decode cX11_thickUp 20 = .ok (.bipush 6, 2) := by decide +kernel
theorem dX11_thickUp_22 : decode cX11_thickUp 22 = .ok (.if_icmp .ne 7, 3) := by decide +kernel
theorem dX11_thickUp_25 : decode cX11_thickUp 25 = .ok (.iconst 3, 1) := by decide +kernel
theorem dX11_thickUp_26 : decode cX11_thickUp 26 = .ok (.goto 4, 3) := by decide +kernel
theorem dX11_thickUp_29 : decode cX11_thickUp 29 = .ok (.iconst 1, 1) := by decide +kernel
theorem dX11_thickUp_30 : decode cX11_thickUp 30 = .ok (.ireturn, 1) := by decide +kernel
theorem dX11_thickBy_0 : decode cX11_thickBy 0 = .ok (.iload_n 0, 1) := by decide +kernel
theorem dX11_thickBy_1 : decode cX11_thickBy 1 = .ok (.iconst 1, 1) := by decide +kernel
theorem dX11_thickBy_2 : decode cX11_thickBy 2 = .ok (.if_icmp .eq 9, 3) := by decide +kernel
theorem dX11_thickBy_5 : decode cX11_thickBy 5 = .ok (.iload_n 0, 1) := by decide +kernel
theorem dX11_thickBy_6 : decode cX11_thickBy 6 = .ok (.bipush 6, 2) := by decide +kernel
theorem dX11_thickBy_8 : decode cX11_thickBy 8 = .ok (.if_icmp .ne 7, 3) := by decide +kernel
theorem dX11_thickBy_11 : decode cX11_thickBy 11 = .ok (.iconst 2, 1) := by decide +kernel
theorem dX11_thickBy_12 : decode cX11_thickBy 12 = .ok (.goto 18, 3) := by decide +kernel
theorem dX11_thickBy_15 : decode cX11_thickBy 15 = .ok (.iload_n 0, 1) := by decide +kernel
theorem dX11_thickBy_16 : decode cX11_thickBy 16 = .ok (.iconst 3, 1) := by decide +kernel
theorem dX11_thickBy_17 : decode cX11_thickBy 17 = .ok (.if_icmp .eq 8, 3) := by decide +kernel
theorem dX11_thickBy_20 : decode cX11_thickBy 20 = .ok (.iload_n 0, 1) := by decide +kernel
theorem dX11_thickBy_21 : decode cX11_thickBy 21 = .ok (.iconst 5, 1) := by decide +kernel
theorem dX11_thickBy_22 : decode cX11_thickBy 22 = .ok (.if_icmp .ne 7, 3) := by decide +kernel
theorem dX11_thickBy_25 : decode cX11_thickBy 25 = .ok (.iconst 3, 1) := by decide +kernel
theorem dX11_thickBy_26 : decode cX11_thickBy 26 = .ok (.goto 4, 3) := by decide +kernel
theorem dX11_thickBy_29 : decode cX11_thickBy 29 = .ok (.iconst 1, 1) := by decide +kernel
theorem dX11_thickBy_30 : decode cX11_thickBy 30 = .ok (.ireturn, 1) := by decide +kernel
theorem dX11_areSets_0 : decode cX11_areSets 0 = .ok (.iload_n 0, 1) := by decide +kernel
theorem dX11_areSets_1 : decode cX11_areSets 1 = .ok (.i2l, 1) := by decide +kernel
theorem dX11_areSets_2 : decode cX11_areSets 2 = .ok (.lconst 1, 1) := by decide +kernel
theorem dX11_areSets_3 : decode cX11_areSets 3 = .ok (.ldc2_w 358, 3) := by decide +kernel
theorem dX11_areSets_6 : decode cX11_areSets 6 = .ok (.invokestatic 94, 3) := by decide +kernel
theorem dX11_areSets_9 : decode cX11_areSets 9 = .ok (.ifCond .eq 31, 3) := by decide +kernel
theorem dX11_areSets_12 : decode cX11_areSets 12 = .ok (.iload_n 1, 1) := by decide +kernel
theorem dX11_areSets_13 : decode cX11_areSets 13 = .ok (.i2l, 1) := by decide +kernel
theorem dX11_areSets_14 : decode cX11_areSets 14 = .ok (.lconst 1, 1) := by decide +kernel
theorem dX11_areSets_15 : decode cX11_areSets 15 = .ok (.ldc2_w 360, 3) := by decide +kernel
theorem dX11_areSets_18 : decode cX11_areSets 18 = .ok (.invokestatic 94, 3) := by decide +kernel
theorem dX11_areSets_21 : decode cX11_areSets 21 = .ok (.ifCond .eq 19, 3) := by decide +kernel
theorem dX11_areSets_24 : decode cX11_areSets 24 = .ok (.iload_n 2, 1) := by decide +kernel
theorem dX11_areSets_25 : decode cX11_areSets 25 = .ok (.i2l, 1) := by decide +kernel
theorem dX11_areSets_26 : decode cX11_areSets 26 = .ok (.lconst 1, 1) := by decide +kernel
theorem dX11_areSets_27 : decode cX11_areSets 27 = .ok (.ldc2_w 362, 3) := by decide +kernel
theorem dX11_areSets_30 : decode cX11_areSets 30 = .ok (.invokestatic 94, 3) := by decide +kernel
theorem dX11_areSets_33 : decode cX11_areSets 33 = .ok (.ifCond .eq 7, 3) := by decide +kernel
theorem dX11_areSets_36 : decode cX11_areSets 36 = .ok (.iconst 1, 1) := by decide +kernel
theorem dX11_areSets_37 : decode cX11_areSets 37 = .ok (.goto 4, 3) := by decide +kernel
theorem dX11_areSets_40 : decode cX11_areSets 40 = .ok (.iconst 0, 1) := by decide +kernel
theorem dX11_areSets_41 : decode cX11_areSets 41 = .ok (.ireturn, 1) := by decide +kernel
theorem dX11_takes_0 : decode cX11_takes 0 = .ok (.bipush 16, 2) := by decide +kernel
theorem dX11_takes_2 : decode cX11_takes 2 = .ok (.iload_n 1, 1) := by decide +kernel
theorem dX11_takes_3 : decode cX11_takes 3 = .ok (.imul, 1) := by decide +kernel
theorem dX11_takes_4 : decode cX11_takes 4 = .ok (.iconst 4, 1) := by decide +kernel
theorem dX11_takes_5 : decode cX11_takes 5 = .ok (.iload_n 2, 1) := by decide +kernel
theorem dX11_takes_6 : decode cX11_takes 6 = .ok (.iconst 1, 1) := by decide +kernel
theorem dX11_takes_7 : decode cX11_takes 7 = .ok (.isub, 1) := by decide +kernel
theorem dX11_takes_8 : decode cX11_takes 8 = .ok (.imul, 1) := by decide +kernel
theorem dX11_takes_9 : decode cX11_takes 9 = .ok (.iadd, 1) := by decide +kernel
theorem dX11_takes_10 : decode cX11_takes 10 = .ok (.istore_n 3, 1) := by decide +kernel
theorem dX11_takes_11 : decode cX11_takes 11 = .ok (.aload_n 0, 1) := by decide +kernel
theorem dX11_takes_12 : decode cX11_takes 12 = .ok (.aload_n 0, 1) := by decide +kernel
theorem dX11_takes_13 : decode cX11_takes 13 = .ok (.getfield 66, 3) := by decide +kernel
theorem dX11_takes_16 : decode cX11_takes 16 = .ok (.iload_n 3, 1) := by decide +kernel
theorem dX11_takes_17 : decode cX11_takes 17 = .ok (.laload, 1) := by decide +kernel
theorem dX11_takes_18 : decode cX11_takes 18 = .ok (.putfield 248, 3) := by decide +kernel
theorem dX11_takes_21 : decode cX11_takes 21 = .ok (.aload_n 0, 1) := by decide +kernel
theorem dX11_takes_22 : decode cX11_takes 22 = .ok (.aload_n 0, 1) := by decide +kernel
theorem dX11_takes_23 : decode cX11_takes 23 = .ok (.getfield 66, 3) := by decide +kernel
theorem dX11_takes_26 : decode cX11_takes 26 = .ok (.iload_n 3, 1) := by decide +kernel
theorem dX11_takes_27 : decode cX11_takes 27 = .ok (.iconst 1, 1) := by decide +kernel
theorem dX11_takes_28 : decode cX11_takes 28 = .ok (.iadd, 1) := by decide +kernel
theorem dX11_takes_29 : decode cX11_takes 29 = .ok (.laload, 1) := by decide +kernel
theorem dX11_takes_30 : decode cX11_takes 30 = .ok (.putfield 251, 3) := by decide +kernel
theorem dX11_takes_33 : decode cX11_takes 33 = .ok (.aload_n 0, 1) := by decide +kernel
theorem dX11_takes_34 : decode cX11_takes 34 = .ok (.aload_n 0, 1) := by decide +kernel
theorem dX11_takes_35 : decode cX11_takes 35 = .ok (.getfield 66, 3) := by decide +kernel
theorem dX11_takes_38 : decode cX11_takes 38 = .ok (.iload_n 3, 1) := by decide +kernel
theorem dX11_takes_39 : decode cX11_takes 39 = .ok (.iconst 2, 1) := by decide +kernel
theorem dX11_takes_40 : decode cX11_takes 40 = .ok (.iadd, 1) := by decide +kernel
theorem dX11_takes_41 : decode cX11_takes 41 = .ok (.laload, 1) := by decide +kernel
theorem dX11_takes_42 : decode cX11_takes 42 = .ok (.putfield 254, 3) := by decide +kernel
theorem dX11_takes_45 : decode cX11_takes 45 = .ok (.aload_n 0, 1) := by decide +kernel
theorem dX11_takes_46 : decode cX11_takes 46 = .ok (.aload_n 0, 1) := by decide +kernel
theorem dX11_takes_47 : decode cX11_takes 47 = .ok (.getfield 66, 3) := by decide +kernel
theorem dX11_takes_50 : decode cX11_takes 50 = .ok (.iload_n 3, 1) := by decide +kernel
theorem dX11_takes_51 : decode cX11_takes 51 = .ok (.iconst 3, 1) := by decide +kernel
theorem dX11_takes_52 : decode cX11_takes 52 = .ok (.iadd, 1) := by decide +kernel
theorem dX11_takes_53 : decode cX11_takes 53 = .ok (.laload, 1) := by decide +kernel
theorem dX11_takes_54 : decode cX11_takes 54 = .ok (.putfield 257, 3) := by decide +kernel
theorem dX11_takes_57 : decode cX11_takes 57 = .ok (.aload_n 0, 1) := by decide +kernel
theorem dX11_takes_58 : decode cX11_takes 58 = .ok (.iconst 1, 1) := by decide +kernel
theorem dX11_takes_59 : decode cX11_takes 59 = .ok (.putfield 260, 3) := by decide +kernel
theorem dX11_takes_62 : decode cX11_takes 62 = .ok (.return_, 1) := by decide +kernel
theorem dX11_notes_0 : decode cX11_notes 0 = .ok (.bipush 16, 2) := by decide +kernel
theorem dX11_notes_2 : decode cX11_notes 2 = .ok (.iload_n 1, 1) := by decide +kernel
theorem dX11_notes_3 : decode cX11_notes 3 = .ok (.imul, 1) := by decide +kernel
theorem dX11_notes_4 : decode cX11_notes 4 = .ok (.iconst 4, 1) := by decide +kernel
theorem dX11_notes_5 : decode cX11_notes 5 = .ok (.iload_n 2, 1) := by decide +kernel
theorem dX11_notes_6 : decode cX11_notes 6 = .ok (.iconst 1, 1) := by decide +kernel
theorem dX11_notes_7 : decode cX11_notes 7 = .ok (.isub, 1) := by decide +kernel
theorem dX11_notes_8 : decode cX11_notes 8 = .ok (.imul, 1) := by decide +kernel
theorem dX11_notes_9 : decode cX11_notes 9 = .ok (.iadd, 1) := by decide +kernel
theorem dX11_notes_10 : decode cX11_notes 10 = .ok (.istore_n 3, 1) := by decide +kernel
theorem dX11_notes_11 : decode cX11_notes 11 = .ok (.aload_n 0, 1) := by decide +kernel
theorem dX11_notes_12 : decode cX11_notes 12 = .ok (.getfield 66, 3) := by decide +kernel
theorem dX11_notes_15 : decode cX11_notes 15 = .ok (.iload_n 3, 1) := by decide +kernel
theorem dX11_notes_16 : decode cX11_notes 16 = .ok (.aload_n 0, 1) := by decide +kernel
theorem dX11_notes_17 : decode cX11_notes 17 = .ok (.getfield 248, 3) := by decide +kernel
theorem dX11_notes_20 : decode cX11_notes 20 = .ok (.lastore, 1) := by decide +kernel
theorem dX11_notes_21 : decode cX11_notes 21 = .ok (.aload_n 0, 1) := by decide +kernel
theorem dX11_notes_22 : decode cX11_notes 22 = .ok (.getfield 66, 3) := by decide +kernel
theorem dX11_notes_25 : decode cX11_notes 25 = .ok (.iload_n 3, 1) := by decide +kernel
theorem dX11_notes_26 : decode cX11_notes 26 = .ok (.iconst 1, 1) := by decide +kernel
theorem dX11_notes_27 : decode cX11_notes 27 = .ok (.iadd, 1) := by decide +kernel
theorem dX11_notes_28 : decode cX11_notes 28 = .ok (.aload_n 0, 1) := by decide +kernel
theorem dX11_notes_29 : decode cX11_notes 29 = .ok (.getfield 251, 3) := by decide +kernel
theorem dX11_notes_32 : decode cX11_notes 32 = .ok (.lastore, 1) := by decide +kernel
theorem dX11_notes_33 : decode cX11_notes 33 = .ok (.aload_n 0, 1) := by decide +kernel
theorem dX11_notes_34 : decode cX11_notes 34 = .ok (.getfield 66, 3) := by decide +kernel
theorem dX11_notes_37 : decode cX11_notes 37 = .ok (.iload_n 3, 1) := by decide +kernel
theorem dX11_notes_38 : decode cX11_notes 38 = .ok (.iconst 2, 1) := by decide +kernel
theorem dX11_notes_39 : decode cX11_notes 39 = .ok (.iadd, 1) := by decide +kernel
theorem dX11_notes_40 : decode cX11_notes 40 = .ok (.aload_n 0, 1) := by decide +kernel
theorem dX11_notes_41 : decode cX11_notes 41 = .ok (.getfield 254, 3) := by decide +kernel
theorem dX11_notes_44 : decode cX11_notes 44 = .ok (.lastore, 1) := by decide +kernel
theorem dX11_notes_45 : decode cX11_notes 45 = .ok (.aload_n 0, 1) := by decide +kernel
theorem dX11_notes_46 : decode cX11_notes 46 = .ok (.getfield 66, 3) := by decide +kernel
theorem dX11_notes_49 : decode cX11_notes 49 = .ok (.iload_n 3, 1) := by decide +kernel
theorem dX11_notes_50 : decode cX11_notes 50 = .ok (.iconst 3, 1) := by decide +kernel
theorem dX11_notes_51 : decode cX11_notes 51 = .ok (.iadd, 1) := by decide +kernel
theorem dX11_notes_52 : decode cX11_notes 52 = .ok (.aload_n 0, 1) := by decide +kernel
theorem dX11_notes_53 : decode cX11_notes 53 = .ok (.getfield 257, 3) := by decide +kernel
theorem dX11_notes_56 : decode cX11_notes 56 = .ok (.lastore, 1) := by decide +kernel
theorem dX11_notes_57 : decode cX11_notes 57 = .ok (.return_, 1) := by decide +kernel
theorem dX11_triesOne_0 : decode cX11_triesOne 0 = .ok (.iconst 2, 1) := by decide +kernel
theorem dX11_triesOne_1 : decode cX11_triesOne 1 = .ok (.istore 4, 2) := by decide +kernel
theorem dX11_triesOne_3 : decode cX11_triesOne 3 = .ok (.iconst 1, 1) := by decide +kernel
theorem dX11_triesOne_4 : decode cX11_triesOne 4 = .ok (.istore 5, 2) := by decide +kernel
theorem dX11_triesOne_6 : decode cX11_triesOne 6 = .ok (.iload 5, 2) := by decide +kernel
theorem dX11_triesOne_8 : decode cX11_triesOne 8 = .ok (.iconst 4, 1) := by decide +kernel
theorem dX11_triesOne_9 : decode cX11_triesOne 9 = .ok (.if_icmp .gt 84, 3) := by decide +kernel
theorem dX11_triesOne_12 : decode cX11_triesOne 12 = .ok (.aload_n 0, 1) := by decide +kernel
theorem dX11_triesOne_13 : decode cX11_triesOne 13 = .ok (.getfield 364, 3) := by decide +kernel
theorem dX11_triesOne_16 : decode cX11_triesOne 16 = .ok (.iload 5, 2) := by decide +kernel
theorem dX11_triesOne_18 : decode cX11_triesOne 18 = .ok (.iconst 1, 1) := by decide +kernel
theorem dX11_triesOne_19 : decode cX11_triesOne 19 = .ok (.isub, 1) := by decide +kernel
theorem dX11_triesOne_20 : decode cX11_triesOne 20 = .ok (.invokestatic 343, 3) := by decide +kernel
theorem dX11_triesOne_23 : decode cX11_triesOne 23 = .ok (.ifCond .ne 6, 3) := by decide +kernel
theorem dX11_triesOne_26 : decode cX11_triesOne 26 = .ok (.goto 61, 3) := by decide +kernel
theorem dX11_triesOne_29 : decode cX11_triesOne 29 = .ok (.aload_n 0, 1) := by decide +kernel
theorem dX11_triesOne_30 : decode cX11_triesOne 30 = .ok (.iload_n 1, 1) := by decide +kernel
theorem dX11_triesOne_31 : decode cX11_triesOne 31 = .ok (.iload 5, 2) := by decide +kernel
theorem dX11_triesOne_33 : decode cX11_triesOne 33 = .ok (.invokevirtual 367, 3) := by decide +kernel
theorem dX11_triesOne_36 : decode cX11_triesOne 36 = .ok (.aload_n 0, 1) := by decide +kernel
theorem dX11_triesOne_37 : decode cX11_triesOne 37 = .ok (.iload_n 2, 1) := by decide +kernel
theorem dX11_triesOne_38 : decode cX11_triesOne 38 = .ok (.iload_n 3, 1) := by decide +kernel
theorem dX11_triesOne_39 : decode cX11_triesOne 39 = .ok (.invokestatic 370, 3) := by decide +kernel
theorem dX11_triesOne_42 : decode cX11_triesOne 42 = .ok (.i2l, 1) := by decide +kernel
theorem dX11_triesOne_43 : decode cX11_triesOne 43 = .ok (.iload_n 3, 1) := by decide +kernel
theorem dX11_triesOne_44 : decode cX11_triesOne 44 = .ok (.invokestatic 373, 3) := by decide +kernel
theorem dX11_triesOne_47 : decode cX11_triesOne 47 = .ok (.i2l, 1) := by decide +kernel
theorem dX11_triesOne_48 : decode cX11_triesOne 48 = .ok (.iload 5, 2) := by decide +kernel
theorem dX11_triesOne_50 : decode cX11_triesOne 50 = .ok (.invokevirtual 277, 3) := by decide +kernel
theorem dX11_triesOne_53 : decode cX11_triesOne 53 = .ok (.aload_n 0, 1) := by decide +kernel
theorem dX11_triesOne_54 : decode cX11_triesOne 54 = .ok (.getfield 260, 3) := by decide +kernel
theorem dX11_triesOne_57 : decode cX11_triesOne 57 = .ok (.ifCond .ne 5, 3) := by decide +kernel
theorem dX11_triesOne_60 : decode cX11_triesOne 60 = .ok (.iconst 0, 1) := by decide +kernel
theorem dX11_triesOne_61 : decode cX11_triesOne 61 = .ok (.ireturn, 1) := by decide +kernel
theorem dX11_triesOne_62 : decode cX11_triesOne 62 = .ok (.aload_n 0, 1) := by decide +kernel
theorem dX11_triesOne_63 : decode cX11_triesOne 63 = .ok (.invokevirtual 298, 3) := by decide +kernel
theorem dX11_triesOne_66 : decode cX11_triesOne 66 = .ok (.aload_n 0, 1) := by decide +kernel
theorem dX11_triesOne_67 : decode cX11_triesOne 67 = .ok (.getfield 283, 3) := by decide +kernel
theorem dX11_triesOne_70 : decode cX11_triesOne 70 = .ok (.lconst 0, 1) := by decide +kernel
theorem dX11_triesOne_71 : decode cX11_triesOne 71 = .ok (.lcmp, 1) := by decide +kernel
theorem dX11_triesOne_72 : decode cX11_triesOne 72 = .ok (.ifCond .eq 6, 3) := by decide +kernel
theorem dX11_triesOne_75 : decode cX11_triesOne 75 = .ok (.iconst 1, 1) := by decide +kernel
theorem dX11_triesOne_76 : decode cX11_triesOne 76 = .ok (.istore 4, 2) := by decide +kernel
theorem dX11_triesOne_78 : decode cX11_triesOne 78 = .ok (.aload_n 0, 1) := by decide +kernel
theorem dX11_triesOne_79 : decode cX11_triesOne 79 = .ok (.iload_n 1, 1) := by decide +kernel
theorem dX11_triesOne_80 : decode cX11_triesOne 80 = .ok (.iconst 1, 1) := by decide +kernel
theorem dX11_triesOne_81 : decode cX11_triesOne 81 = .ok (.iadd, 1) := by decide +kernel
theorem dX11_triesOne_82 : decode cX11_triesOne 82 = .ok (.iload 5, 2) := by decide +kernel
theorem dX11_triesOne_84 : decode cX11_triesOne 84 = .ok (.invokevirtual 376, 3) := by decide +kernel
theorem dX11_triesOne_87 : decode cX11_triesOne 87 = .ok (.iinc 5 1, 3) := by decide +kernel
theorem dX11_triesOne_90 : decode cX11_triesOne 90 = .ok (.goto (-84), 3) := by decide +kernel
theorem dX11_triesOne_93 : decode cX11_triesOne 93 = .ok (.iload 4, 2) := by decide +kernel
theorem dX11_triesOne_95 : decode cX11_triesOne 95 = .ok (.ireturn, 1) := by decide +kernel
theorem dX11_waysOn_0 : decode cX11_waysOn 0 = .ok (.iconst 0, 1) := by decide +kernel
theorem dX11_waysOn_1 : decode cX11_waysOn 1 = .ok (.istore_n 3, 1) := by decide +kernel
theorem dX11_waysOn_2 : decode cX11_waysOn 2 = .ok (.iconst 0, 1) := by decide +kernel
theorem dX11_waysOn_3 : decode cX11_waysOn 3 = .ok (.istore 4, 2) := by decide +kernel
theorem dX11_waysOn_5 : decode cX11_waysOn 5 = .ok (.iload 4, 2) := by decide +kernel
theorem dX11_waysOn_7 : decode cX11_waysOn 7 = .ok (.bipush 6, 2) := by decide +kernel
theorem dX11_waysOn_9 : decode cX11_waysOn 9 = .ok (.if_icmp .ge 143, 3) := by decide +kernel
theorem dX11_waysOn_12 : decode cX11_waysOn 12 = .ok (.aload_n 0, 1) := by decide +kernel
theorem dX11_waysOn_13 : decode cX11_waysOn 13 = .ok (.getfield 379, 3) := by decide +kernel
theorem dX11_waysOn_16 : decode cX11_waysOn 16 = .ok (.iload 4, 2) := by decide +kernel
theorem dX11_waysOn_18 : decode cX11_waysOn 18 = .ok (.invokestatic 343, 3) := by decide +kernel
theorem dX11_waysOn_21 : decode cX11_waysOn 21 = .ok (.ifCond .eq 125, 3) := by decide +kernel
theorem dX11_waysOn_24 : decode cX11_waysOn 24 = .ok (.iload_n 1, 1) := by decide +kernel
theorem dX11_waysOn_25 : decode cX11_waysOn 25 = .ok (.ifCond .le 19, 3) := by decide +kernel
theorem dX11_waysOn_28 : decode cX11_waysOn 28 = .ok (.aload_n 0, 1) := by decide +kernel
theorem dX11_waysOn_29 : decode cX11_waysOn 29 = .ok (.getfield 70, 3) := by decide +kernel
theorem dX11_waysOn_32 : decode cX11_waysOn 32 = .ok (.iload_n 1, 1) := by decide +kernel
theorem dX11_waysOn_33 : decode cX11_waysOn 33 = .ok (.iconst 1, 1) := by decide +kernel
theorem dX11_waysOn_34 : decode cX11_waysOn 34 = .ok (.isub, 1) := by decide +kernel
theorem dX11_waysOn_35 : decode cX11_waysOn 35 = .ok (.iaload, 1) := by decide +kernel
theorem dX11_waysOn_36 : decode cX11_waysOn 36 = .ok (.iload 4, 2) := by decide +kernel
theorem dX11_waysOn_38 : decode cX11_waysOn 38 = .ok (.if_icmp .ne 6, 3) := by decide +kernel
theorem dX11_waysOn_41 : decode cX11_waysOn 41 = .ok (.goto 105, 3) := by decide +kernel
theorem dX11_waysOn_44 : decode cX11_waysOn 44 = .ok (.iconst 0, 1) := by decide +kernel
theorem dX11_waysOn_45 : decode cX11_waysOn 45 = .ok (.istore 5, 2) := by decide +kernel
theorem dX11_waysOn_47 : decode cX11_waysOn 47 = .ok (.iload 5, 2) := by decide +kernel
theorem dX11_waysOn_49 : decode cX11_waysOn 49 = .ok (.bipush 7, 2) := by decide +kernel
theorem dX11_waysOn_51 : decode cX11_waysOn 51 = .ok (.if_icmp .ge 95, 3) := by decide +kernel
theorem dX11_waysOn_54 : decode cX11_waysOn 54 = .ok (.aload_n 0, 1) := by decide +kernel
theorem dX11_waysOn_55 : decode cX11_waysOn 55 = .ok (.getfield 382, 3) := by decide +kernel
theorem dX11_waysOn_58 : decode cX11_waysOn 58 = .ok (.iload 5, 2) := by decide +kernel
theorem dX11_waysOn_60 : decode cX11_waysOn 60 = .ok (.invokestatic 343, 3) := by decide +kernel
theorem dX11_waysOn_63 : decode cX11_waysOn 63 = .ok (.ifCond .eq 15, 3) := by decide +kernel
theorem dX11_waysOn_66 : decode cX11_waysOn 66 = .ok (.aload_n 0, 1) := by decide +kernel
theorem dX11_waysOn_67 : decode cX11_waysOn 67 = .ok (.iload_n 1, 1) := by decide +kernel
theorem dX11_waysOn_68 : decode cX11_waysOn 68 = .ok (.iload 4, 2) := by decide +kernel
theorem dX11_waysOn_70 : decode cX11_waysOn 70 = .ok (.iload 5, 2) := by decide +kernel
theorem dX11_waysOn_72 : decode cX11_waysOn 72 = .ok (.invokevirtual 385, 3) := by decide +kernel
theorem dX11_waysOn_75 : decode cX11_waysOn 75 = .ok (.goto 4, 3) := by decide +kernel
theorem dX11_waysOn_78 : decode cX11_waysOn 78 = .ok (.iconst 0, 1) := by decide +kernel
theorem dX11_waysOn_79 : decode cX11_waysOn 79 = .ok (.istore 6, 2) := by decide +kernel
theorem dX11_waysOn_81 : decode cX11_waysOn 81 = .ok (.iload 6, 2) := by decide +kernel
theorem dX11_waysOn_83 : decode cX11_waysOn 83 = .ok (.ifCond .ne 6, 3) := by decide +kernel
theorem dX11_waysOn_86 : decode cX11_waysOn 86 = .ok (.goto 54, 3) := by decide +kernel
theorem dX11_waysOn_89 : decode cX11_waysOn 89 = .ok (.aload_n 0, 1) := by decide +kernel
theorem dX11_waysOn_90 : decode cX11_waysOn 90 = .ok (.getfield 70, 3) := by decide +kernel
theorem dX11_waysOn_93 : decode cX11_waysOn 93 = .ok (.iload_n 1, 1) := by decide +kernel
theorem dX11_waysOn_94 : decode cX11_waysOn 94 = .ok (.iload 4, 2) := by decide +kernel
theorem dX11_waysOn_96 : decode cX11_waysOn 96 = .ok (.iastore, 1) := by decide +kernel
theorem dX11_waysOn_97 : decode cX11_waysOn 97 = .ok (.aload_n 0, 1) := by decide +kernel
theorem dX11_waysOn_98 : decode cX11_waysOn 98 = .ok (.getfield 73, 3) := by decide +kernel
theorem dX11_waysOn_101 : decode cX11_waysOn 101 = .ok (.iload_n 1, 1) := by decide +kernel
theorem dX11_waysOn_102 : decode cX11_waysOn 102 = .ok (.iload 5, 2) := by decide +kernel
theorem dX11_waysOn_104 : decode cX11_waysOn 104 = .ok (.iastore, 1) := by decide +kernel
theorem dX11_waysOn_105 : decode cX11_waysOn 105 = .ok (.iload_n 1, 1) := by decide +kernel
theorem dX11_waysOn_106 : decode cX11_waysOn 106 = .ok (.iconst 1, 1) := by decide +kernel
theorem dX11_waysOn_107 : decode cX11_waysOn 107 = .ok (.iadd, 1) := by decide +kernel
theorem dX11_waysOn_108 : decode cX11_waysOn 108 = .ok (.iload_n 2, 1) := by decide +kernel
theorem dX11_waysOn_109 : decode cX11_waysOn 109 = .ok (.if_icmp .ge 17, 3) := by decide +kernel
theorem dX11_waysOn_112 : decode cX11_waysOn 112 = .ok (.iload_n 3, 1) := by decide +kernel
theorem dX11_waysOn_113 : decode cX11_waysOn 113 = .ok (.aload_n 0, 1) := by decide +kernel
theorem dX11_waysOn_114 : decode cX11_waysOn 114 = .ok (.iload_n 1, 1) := by decide +kernel
theorem dX11_waysOn_115 : decode cX11_waysOn 115 = .ok (.iconst 1, 1) := by decide +kernel
theorem dX11_waysOn_116 : decode cX11_waysOn 116 = .ok (.iadd, 1) := by decide +kernel
theorem dX11_waysOn_117 : decode cX11_waysOn 117 = .ok (.iload_n 2, 1) := by decide +kernel
theorem dX11_waysOn_118 : decode cX11_waysOn 118 = .ok (.invokevirtual 389, 3) := by decide +kernel
theorem dX11_waysOn_121 : decode cX11_waysOn 121 = .ok (.iadd, 1) := by decide +kernel
theorem dX11_waysOn_122 : decode cX11_waysOn 122 = .ok (.istore_n 3, 1) := by decide +kernel
theorem dX11_waysOn_123 : decode cX11_waysOn 123 = .ok (.goto 17, 3) := by decide +kernel
theorem dX11_waysOn_126 : decode cX11_waysOn 126 = .ok (.iload 6, 2) := by decide +kernel
theorem dX11_waysOn_128 : decode cX11_waysOn 128 = .ok (.iconst 2, 1) := by decide +kernel
theorem dX11_waysOn_129 : decode cX11_waysOn 129 = .ok (.if_icmp .ne 11, 3) := by decide +kernel
theorem dX11_waysOn_132 : decode cX11_waysOn 132 = .ok (.iload_n 3, 1) := by decide +kernel
theorem dX11_waysOn_133 : decode cX11_waysOn 133 = .ok (.aload_n 0, 1) := by decide +kernel
theorem dX11_waysOn_134 : decode cX11_waysOn 134 = .ok (.iload_n 2, 1) := by decide +kernel
theorem dX11_waysOn_135 : decode cX11_waysOn 135 = .ok (.invokevirtual 392, 3) := by decide +kernel
theorem dX11_waysOn_138 : decode cX11_waysOn 138 = .ok (.iadd, 1) := by decide +kernel
theorem dX11_waysOn_139 : decode cX11_waysOn 139 = .ok (.istore_n 3, 1) := by decide +kernel
theorem dX11_waysOn_140 : decode cX11_waysOn 140 = .ok (.iinc 5 1, 3) := by decide +kernel
theorem dX11_waysOn_143 : decode cX11_waysOn 143 = .ok (.goto (-96), 3) := by decide +kernel
theorem dX11_waysOn_146 : decode cX11_waysOn 146 = .ok (.iinc 4 1, 3) := by decide +kernel
theorem dX11_waysOn_149 : decode cX11_waysOn 149 = .ok (.goto (-144), 3) := by decide +kernel
theorem dX11_waysOn_152 : decode cX11_waysOn 152 = .ok (.iload_n 3, 1) := by decide +kernel
theorem dX11_waysOn_153 : decode cX11_waysOn 153 = .ok (.ireturn, 1) := by decide +kernel
theorem dX11_finds_0 : decode cX11_finds 0 = .ok (.iconst 0, 1) := by decide +kernel
theorem dX11_finds_1 : decode cX11_finds 1 = .ok (.istore_n 2, 1) := by decide +kernel
theorem dX11_finds_2 : decode cX11_finds 2 = .ok (.iload_n 2, 1) := by decide +kernel
theorem dX11_finds_3 : decode cX11_finds 3 = .ok (.iload_n 1, 1) := by decide +kernel
theorem dX11_finds_4 : decode cX11_finds 4 = .ok (.if_icmp .ge 40, 3) := by decide +kernel
theorem dX11_finds_7 : decode cX11_finds 7 = .ok (.aload_n 0, 1) := by decide +kernel
theorem dX11_finds_8 : decode cX11_finds 8 = .ok (.getfield 395, 3) := by decide +kernel
theorem dX11_finds_11 : decode cX11_finds 11 = .ok (.ifCond .ne 33, 3) := by decide +kernel
theorem dX11_finds_14 : decode cX11_finds 14 = .ok (.aload_n 0, 1) := by decide +kernel
theorem dX11_finds_15 : decode cX11_finds 15 = .ok (.getfield 76, 3) := by decide +kernel
theorem dX11_finds_18 : decode cX11_finds 18 = .ok (.iload_n 2, 1) := by decide +kernel
theorem dX11_finds_19 : decode cX11_finds 19 = .ok (.aload_n 0, 1) := by decide +kernel
theorem dX11_finds_20 : decode cX11_finds 20 = .ok (.getfield 70, 3) := by decide +kernel
theorem dX11_finds_23 : decode cX11_finds 23 = .ok (.iload_n 2, 1) := by decide +kernel
theorem dX11_finds_24 : decode cX11_finds 24 = .ok (.iaload, 1) := by decide +kernel
theorem dX11_finds_25 : decode cX11_finds 25 = .ok (.iastore, 1) := by decide +kernel
theorem dX11_finds_26 : decode cX11_finds 26 = .ok (.aload_n 0, 1) := by decide +kernel
theorem dX11_finds_27 : decode cX11_finds 27 = .ok (.getfield 79, 3) := by decide +kernel
theorem dX11_finds_30 : decode cX11_finds 30 = .ok (.iload_n 2, 1) := by decide +kernel
theorem dX11_finds_31 : decode cX11_finds 31 = .ok (.aload_n 0, 1) := by decide +kernel
theorem dX11_finds_32 : decode cX11_finds 32 = .ok (.getfield 73, 3) := by decide +kernel
theorem dX11_finds_35 : decode cX11_finds 35 = .ok (.iload_n 2, 1) := by decide +kernel
theorem dX11_finds_36 : decode cX11_finds 36 = .ok (.iaload, 1) := by decide +kernel
theorem dX11_finds_37 : decode cX11_finds 37 = .ok (.iastore, 1) := by decide +kernel
theorem dX11_finds_38 : decode cX11_finds 38 = .ok (.iinc 2 1, 3) := by decide +kernel
theorem dX11_finds_41 : decode cX11_finds 41 = .ok (.goto (-39), 3) := by decide +kernel
theorem dX11_finds_44 : decode cX11_finds 44 = .ok (.aload_n 0, 1) := by decide +kernel
theorem dX11_finds_45 : decode cX11_finds 45 = .ok (.iconst 1, 1) := by decide +kernel
theorem dX11_finds_46 : decode cX11_finds 46 = .ok (.putfield 395, 3) := by decide +kernel
theorem dX11_finds_49 : decode cX11_finds 49 = .ok (.iconst 1, 1) := by decide +kernel
theorem dX11_finds_50 : decode cX11_finds 50 = .ok (.ireturn, 1) := by decide +kernel
theorem dX11_waysOf_0 : decode cX11_waysOf 0 = .ok (.aload_n 0, 1) := by decide +kernel
theorem dX11_waysOf_1 : decode cX11_waysOf 1 = .ok (.iload_n 1, 1) := by decide +kernel
theorem dX11_waysOf_2 : decode cX11_waysOf 2 = .ok (.putfield 364, 3) := by decide +kernel
theorem dX11_waysOf_5 : decode cX11_waysOf 5 = .ok (.aload_n 0, 1) := by decide +kernel
theorem dX11_waysOf_6 : decode cX11_waysOf 6 = .ok (.iload_n 2, 1) := by decide +kernel
theorem dX11_waysOf_7 : decode cX11_waysOf 7 = .ok (.putfield 379, 3) := by decide +kernel
theorem dX11_waysOf_10 : decode cX11_waysOf 10 = .ok (.aload_n 0, 1) := by decide +kernel
theorem dX11_waysOf_11 : decode cX11_waysOf 11 = .ok (.iload_n 3, 1) := by decide +kernel
theorem dX11_waysOf_12 : decode cX11_waysOf 12 = .ok (.putfield 382, 3) := by decide +kernel
theorem dX11_waysOf_15 : decode cX11_waysOf 15 = .ok (.aload_n 0, 1) := by decide +kernel
theorem dX11_waysOf_16 : decode cX11_waysOf 16 = .ok (.iconst 0, 1) := by decide +kernel
theorem dX11_waysOf_17 : decode cX11_waysOf 17 = .ok (.putfield 395, 3) := by decide +kernel
theorem dX11_waysOf_20 : decode cX11_waysOf 20 = .ok (.aload_n 0, 1) := by decide +kernel
theorem dX11_waysOf_21 : decode cX11_waysOf 21 = .ok (.invokevirtual 274, 3) := by decide +kernel
theorem dX11_waysOf_24 : decode cX11_waysOf 24 = .ok (.iconst 1, 1) := by decide +kernel
theorem dX11_waysOf_25 : decode cX11_waysOf 25 = .ok (.istore 5, 2) := by decide +kernel
theorem dX11_waysOf_27 : decode cX11_waysOf 27 = .ok (.iload 5, 2) := by decide +kernel
theorem dX11_waysOf_29 : decode cX11_waysOf 29 = .ok (.iconst 4, 1) := by decide +kernel
theorem dX11_waysOf_30 : decode cX11_waysOf 30 = .ok (.if_icmp .gt 16, 3) := by decide +kernel
theorem dX11_waysOf_33 : decode cX11_waysOf 33 = .ok (.aload_n 0, 1) := by decide +kernel
theorem dX11_waysOf_34 : decode cX11_waysOf 34 = .ok (.iconst 0, 1) := by decide +kernel
theorem dX11_waysOf_35 : decode cX11_waysOf 35 = .ok (.iload 5, 2) := by decide +kernel
theorem dX11_waysOf_37 : decode cX11_waysOf 37 = .ok (.invokevirtual 376, 3) := by decide +kernel
theorem dX11_waysOf_40 : decode cX11_waysOf 40 = .ok (.iinc 5 1, 3) := by decide +kernel
theorem dX11_waysOf_43 : decode cX11_waysOf 43 = .ok (.goto (-16), 3) := by decide +kernel
theorem dX11_waysOf_46 : decode cX11_waysOf 46 = .ok (.aload_n 0, 1) := by decide +kernel
theorem dX11_waysOf_47 : decode cX11_waysOf 47 = .ok (.iconst 0, 1) := by decide +kernel
theorem dX11_waysOf_48 : decode cX11_waysOf 48 = .ok (.iload 4, 2) := by decide +kernel
theorem dX11_waysOf_50 : decode cX11_waysOf 50 = .ok (.invokevirtual 389, 3) := by decide +kernel
theorem dX11_waysOf_53 : decode cX11_waysOf 53 = .ok (.ireturn, 1) := by decide +kernel
theorem dX11_wanted_0 : decode cX11_wanted 0 = .ok (.iload_n 1, 1) := by decide +kernel
theorem dX11_wanted_1 : decode cX11_wanted 1 = .ok (.iload_n 2, 1) := by decide +kernel
theorem dX11_wanted_2 : decode cX11_wanted 2 = .ok (.iload_n 3, 1) := by decide +kernel
theorem dX11_wanted_3 : decode cX11_wanted 3 = .ok (.invokestatic 398, 3) := by decide +kernel
theorem dX11_wanted_6 : decode cX11_wanted 6 = .ok (.ifCond .eq 16, 3) := by decide +kernel
theorem dX11_wanted_9 : decode cX11_wanted 9 = .ok (.iload 4, 2) := by decide +kernel
theorem dX11_wanted_11 : decode cX11_wanted 11 = .ok (.i2l, 1) := by decide +kernel
theorem dX11_wanted_12 : decode cX11_wanted 12 = .ok (.lconst 1, 1) := by decide +kernel
theorem dX11_wanted_13 : decode cX11_wanted 13 = .ok (.ldc2_w 306, 3) := by decide +kernel
theorem dX11_wanted_16 : decode cX11_wanted 16 = .ok (.invokestatic 94, 3) := by decide +kernel
theorem dX11_wanted_19 : decode cX11_wanted 19 = .ok (.ifCond .ne 6, 3) := by decide +kernel
theorem dX11_wanted_22 : decode cX11_wanted 22 = .ok (.bipush (-2), 2) := by decide +kernel
theorem dX11_wanted_24 : decode cX11_wanted 24 = .ok (.ireturn, 1) := by decide +kernel
theorem dX11_wanted_25 : decode cX11_wanted 25 = .ok (.iconst 1, 1) := by decide +kernel
theorem dX11_wanted_26 : decode cX11_wanted 26 = .ok (.istore 5, 2) := by decide +kernel
theorem dX11_wanted_28 : decode cX11_wanted 28 = .ok (.iload 5, 2) := by decide +kernel
theorem dX11_wanted_30 : decode cX11_wanted 30 = .ok (.iload 4, 2) := by decide +kernel
theorem dX11_wanted_32 : decode cX11_wanted 32 = .ok (.if_icmp .gt 87, 3) := by decide +kernel
theorem dX11_wanted_35 : decode cX11_wanted 35 = .ok (.aload_n 0, 1) := by decide +kernel
theorem dX11_wanted_36 : decode cX11_wanted 36 = .ok (.iload_n 1, 1) := by decide +kernel
theorem dX11_wanted_37 : decode cX11_wanted 37 = .ok (.iload_n 2, 1) := by decide +kernel
theorem dX11_wanted_38 : decode cX11_wanted 38 = .ok (.iload_n 3, 1) := by decide +kernel
theorem dX11_wanted_39 : decode cX11_wanted 39 = .ok (.iload 5, 2) := by decide +kernel
theorem dX11_wanted_41 : decode cX11_wanted 41 = .ok (.invokevirtual 402, 3) := by decide +kernel
theorem dX11_wanted_44 : decode cX11_wanted 44 = .ok (.ifCond .ne 6, 3) := by decide +kernel
theorem dX11_wanted_47 : decode cX11_wanted 47 = .ok (.goto 66, 3) := by decide +kernel
theorem dX11_wanted_50 : decode cX11_wanted 50 = .ok (.aload_n 0, 1) := by decide +kernel
theorem dX11_wanted_51 : decode cX11_wanted 51 = .ok (.iconst 0, 1) := by decide +kernel
theorem dX11_wanted_52 : decode cX11_wanted 52 = .ok (.invokevirtual 130, 3) := by decide +kernel
theorem dX11_wanted_55 : decode cX11_wanted 55 = .ok (.aload_n 0, 1) := by decide +kernel
theorem dX11_wanted_56 : decode cX11_wanted 56 = .ok (.iload 5, 2) := by decide +kernel
theorem dX11_wanted_58 : decode cX11_wanted 58 = .ok (.putfield 107, 3) := by decide +kernel
theorem dX11_wanted_61 : decode cX11_wanted 61 = .ok (.iconst 0, 1) := by decide +kernel
theorem dX11_wanted_62 : decode cX11_wanted 62 = .ok (.istore 6, 2) := by decide +kernel
theorem dX11_wanted_64 : decode cX11_wanted 64 = .ok (.iload 6, 2) := by decide +kernel
theorem dX11_wanted_66 : decode cX11_wanted 66 = .ok (.iload 5, 2) := by decide +kernel
theorem dX11_wanted_68 : decode cX11_wanted 68 = .ok (.if_icmp .ge 42, 3) := by decide +kernel
theorem dX11_wanted_71 : decode cX11_wanted 71 = .ok (.aload_n 0, 1) := by decide +kernel
theorem dX11_wanted_72 : decode cX11_wanted 72 = .ok (.iload 6, 2) := by decide +kernel
theorem dX11_wanted_74 : decode cX11_wanted 74 = .ok (.aload_n 0, 1) := by decide +kernel
theorem dX11_wanted_75 : decode cX11_wanted 75 = .ok (.getfield 76, 3) := by decide +kernel
theorem dX11_wanted_78 : decode cX11_wanted 78 = .ok (.iload 6, 2) := by decide +kernel
theorem dX11_wanted_80 : decode cX11_wanted 80 = .ok (.iaload, 1) := by decide +kernel
theorem dX11_wanted_81 : decode cX11_wanted 81 = .ok (.aload_n 0, 1) := by decide +kernel
theorem dX11_wanted_82 : decode cX11_wanted 82 = .ok (.getfield 79, 3) := by decide +kernel
theorem dX11_wanted_85 : decode cX11_wanted 85 = .ok (.iload 6, 2) := by decide +kernel
theorem dX11_wanted_87 : decode cX11_wanted 87 = .ok (.iaload, 1) := by decide +kernel
theorem dX11_wanted_88 : decode cX11_wanted 88 = .ok (.invokestatic 370, 3) := by decide +kernel
theorem dX11_wanted_91 : decode cX11_wanted 91 = .ok (.aload_n 0, 1) := by decide +kernel
theorem dX11_wanted_92 : decode cX11_wanted 92 = .ok (.getfield 79, 3) := by decide +kernel
theorem dX11_wanted_95 : decode cX11_wanted 95 = .ok (.iload 6, 2) := by decide +kernel
theorem dX11_wanted_97 : decode cX11_wanted 97 = .ok (.iaload, 1) := by decide +kernel
theorem dX11_wanted_98 : decode cX11_wanted 98 = .ok (.invokestatic 373, 3) := by decide +kernel
theorem dX11_wanted_101 : decode cX11_wanted 101 = .ok (.invokevirtual 138, 3) := by decide +kernel
theorem dX11_wanted_104 : decode cX11_wanted 104 = .ok (.iinc 6 1, 3) := by decide +kernel
theorem dX11_wanted_107 : decode cX11_wanted 107 = .ok (.goto (-43), 3) := by decide +kernel
theorem dX11_wanted_110 : decode cX11_wanted 110 = .ok (.iload 5, 2) := by decide +kernel
theorem dX11_wanted_112 : decode cX11_wanted 112 = .ok (.ireturn, 1) := by decide +kernel
theorem dX11_wanted_113 : decode cX11_wanted 113 = .ok (.iinc 5 1, 3) := by decide +kernel
theorem dX11_wanted_116 : decode cX11_wanted 116 = .ok (.goto (-88), 3) := by decide +kernel
theorem dX11_wanted_119 : decode cX11_wanted 119 = .ok (.iconst (-1), 1) := by decide +kernel
theorem dX11_wanted_120 : decode cX11_wanted 120 = .ok (.ireturn, 1) := by decide +kernel
theorem dX11_ways_0 : decode cX11_ways 0 = .ok (.iload_n 1, 1) := by decide +kernel
theorem dX11_ways_1 : decode cX11_ways 1 = .ok (.iload_n 2, 1) := by decide +kernel
theorem dX11_ways_2 : decode cX11_ways 2 = .ok (.iload_n 3, 1) := by decide +kernel
theorem dX11_ways_3 : decode cX11_ways 3 = .ok (.invokestatic 398, 3) := by decide +kernel
theorem dX11_ways_6 : decode cX11_ways 6 = .ok (.ifCond .eq 28, 3) := by decide +kernel
theorem dX11_ways_9 : decode cX11_ways 9 = .ok (.iload 4, 2) := by decide +kernel
theorem dX11_ways_11 : decode cX11_ways 11 = .ok (.i2l, 1) := by decide +kernel
theorem dX11_ways_12 : decode cX11_ways 12 = .ok (.lconst 1, 1) := by decide +kernel
theorem dX11_ways_13 : decode cX11_ways 13 = .ok (.ldc2_w 306, 3) := by decide +kernel
theorem dX11_ways_16 : decode cX11_ways 16 = .ok (.invokestatic 94, 3) := by decide +kernel
theorem dX11_ways_19 : decode cX11_ways 19 = .ok (.ifCond .eq 15, 3) := by decide +kernel
theorem dX11_ways_22 : decode cX11_ways 22 = .ok (.aload_n 0, 1) := by decide +kernel
theorem dX11_ways_23 : decode cX11_ways 23 = .ok (.iload_n 1, 1) := by decide +kernel
theorem dX11_ways_24 : decode cX11_ways 24 = .ok (.iload_n 2, 1) := by decide +kernel
theorem dX11_ways_25 : decode cX11_ways 25 = .ok (.iload_n 3, 1) := by decide +kernel
theorem dX11_ways_26 : decode cX11_ways 26 = .ok (.iload 4, 2) := by decide +kernel
theorem dX11_ways_28 : decode cX11_ways 28 = .ok (.invokevirtual 402, 3) := by decide +kernel
theorem dX11_ways_31 : decode cX11_ways 31 = .ok (.goto 5, 3) := by decide +kernel
theorem dX11_ways_34 : decode cX11_ways 34 = .ok (.bipush (-2), 2) := by decide +kernel
theorem dX11_ways_36 : decode cX11_ways 36 = .ok (.ireturn, 1) := by decide +kernel
theorem dX11_tune_0 : decode cX11_tune 0 = .ok (.iload_n 1, 1) := by decide +kernel
theorem dX11_tune_1 : decode cX11_tune 1 = .ok (.i2l, 1) := by decide +kernel
theorem dX11_tune_2 : decode cX11_tune 2 = .ok (.lconst 0, 1) := by decide +kernel
theorem dX11_tune_3 : decode cX11_tune 3 = .ok (.aload_n 0, 1) := by decide +kernel
theorem dX11_tune_4 : decode cX11_tune 4 = .ok (.getfield 107, 3) := by decide +kernel
theorem dX11_tune_7 : decode cX11_tune 7 = .ok (.iconst 1, 1) := by decide +kernel
theorem dX11_tune_8 : decode cX11_tune 8 = .ok (.isub, 1) := by decide +kernel
theorem dX11_tune_9 : decode cX11_tune 9 = .ok (.i2l, 1) := by decide +kernel
theorem dX11_tune_10 : decode cX11_tune 10 = .ok (.invokestatic 94, 3) := by decide +kernel
theorem dX11_tune_13 : decode cX11_tune 13 = .ok (.ifCond .eq 11, 3) := by decide +kernel
theorem dX11_tune_16 : decode cX11_tune 16 = .ok (.aload_n 0, 1) := by decide +kernel
theorem dX11_tune_17 : decode cX11_tune 17 = .ok (.iload_n 2, 1) := by decide +kernel
theorem dX11_tune_18 : decode cX11_tune 18 = .ok (.invokevirtual 303, 3) := by decide +kernel
theorem dX11_tune_21 : decode cX11_tune 21 = .ok (.ifCond .ne 6, 3) := by decide +kernel
theorem dX11_tune_24 : decode cX11_tune 24 = .ok (.bipush (-2), 2) := by decide +kernel
theorem dX11_tune_26 : decode cX11_tune 26 = .ok (.ireturn, 1) := by decide +kernel
theorem dX11_tune_27 : decode cX11_tune 27 = .ok (.aload_n 0, 1) := by decide +kernel
theorem dX11_tune_28 : decode cX11_tune 28 = .ok (.getfield 23, 3) := by decide +kernel
theorem dX11_tune_31 : decode cX11_tune 31 = .ok (.iload_n 1, 1) := by decide +kernel
theorem dX11_tune_32 : decode cX11_tune 32 = .ok (.iaload, 1) := by decide +kernel
theorem dX11_tune_33 : decode cX11_tune 33 = .ok (.istore_n 3, 1) := by decide +kernel
theorem dX11_tune_34 : decode cX11_tune 34 = .ok (.aload_n 0, 1) := by decide +kernel
theorem dX11_tune_35 : decode cX11_tune 35 = .ok (.getfield 26, 3) := by decide +kernel
theorem dX11_tune_38 : decode cX11_tune 38 = .ok (.iload_n 1, 1) := by decide +kernel
theorem dX11_tune_39 : decode cX11_tune 39 = .ok (.iaload, 1) := by decide +kernel
theorem dX11_tune_40 : decode cX11_tune 40 = .ok (.istore 4, 2) := by decide +kernel
theorem dX11_tune_42 : decode cX11_tune 42 = .ok (.iconst (-1), 1) := by decide +kernel
theorem dX11_tune_43 : decode cX11_tune 43 = .ok (.istore 5, 2) := by decide +kernel
theorem dX11_tune_45 : decode cX11_tune 45 = .ok (.lconst 0, 1) := by decide +kernel
theorem dX11_tune_46 : decode cX11_tune 46 = .ok (.lstore 6, 2) := by decide +kernel
theorem dX11_tune_48 : decode cX11_tune 48 = .ok (.lconst 1, 1) := by decide +kernel
theorem dX11_tune_49 : decode cX11_tune 49 = .ok (.lstore 8, 2) := by decide +kernel
theorem dX11_tune_51 : decode cX11_tune 51 = .ok (.iconst 0, 1) := by decide +kernel
theorem dX11_tune_52 : decode cX11_tune 52 = .ok (.istore 10, 2) := by decide +kernel
theorem dX11_tune_54 : decode cX11_tune 54 = .ok (.iload 10, 2) := by decide +kernel
theorem dX11_tune_56 : decode cX11_tune 56 = .ok (.bipush 7, 2) := by decide +kernel
theorem dX11_tune_58 : decode cX11_tune 58 = .ok (.if_icmp .ge 86, 3) := by decide +kernel
theorem dX11_tune_61 : decode cX11_tune 61 = .ok (.aload_n 0, 1) := by decide +kernel
theorem dX11_tune_62 : decode cX11_tune 62 = .ok (.getfield 23, 3) := by decide +kernel
theorem dX11_tune_65 : decode cX11_tune 65 = .ok (.iload_n 1, 1) := by decide +kernel
theorem dX11_tune_66 : decode cX11_tune 66 = .ok (.iload 10, 2) := by decide +kernel
theorem dX11_tune_68 : decode cX11_tune 68 = .ok (.invokestatic 370, 3) := by decide +kernel
theorem dX11_tune_71 : decode cX11_tune 71 = .ok (.iastore, 1) := by decide +kernel
theorem dX11_tune_72 : decode cX11_tune 72 = .ok (.aload_n 0, 1) := by decide +kernel
theorem dX11_tune_73 : decode cX11_tune 73 = .ok (.getfield 26, 3) := by decide +kernel
theorem dX11_tune_76 : decode cX11_tune 76 = .ok (.iload_n 1, 1) := by decide +kernel
theorem dX11_tune_77 : decode cX11_tune 77 = .ok (.iload 10, 2) := by decide +kernel
theorem dX11_tune_79 : decode cX11_tune 79 = .ok (.invokestatic 373, 3) := by decide +kernel
theorem dX11_tune_82 : decode cX11_tune 82 = .ok (.iastore, 1) := by decide +kernel
theorem dX11_tune_83 : decode cX11_tune 83 = .ok (.aload_n 0, 1) := by decide +kernel
theorem dX11_tune_84 : decode cX11_tune 84 = .ok (.aload_n 0, 1) := by decide +kernel
theorem dX11_tune_85 : decode cX11_tune 85 = .ok (.getfield 107, 3) := by decide +kernel
theorem dX11_tune_88 : decode cX11_tune 88 = .ok (.iload_n 2, 1) := by decide +kernel
theorem dX11_tune_89 : decode cX11_tune 89 = .ok (.invokevirtual 315, 3) := by decide +kernel
theorem dX11_tune_92 : decode cX11_tune 92 = .ok (.ifCond .eq 46, 3) := by decide +kernel
theorem dX11_tune_95 : decode cX11_tune 95 = .ok (.iload 5, 2) := by decide +kernel
theorem dX11_tune_97 : decode cX11_tune 97 = .ok (.iconst (-1), 1) := by decide +kernel
theorem dX11_tune_98 : decode cX11_tune 98 = .ok (.if_icmp .eq 24, 3) := by decide +kernel
theorem dX11_tune_101 : decode cX11_tune 101 = .ok (.aload_n 0, 1) := by decide +kernel
theorem dX11_tune_102 : decode cX11_tune 102 = .ok (.getfield 283, 3) := by decide +kernel
theorem dX11_tune_105 : decode cX11_tune 105 = .ok (.aload_n 0, 1) := by decide +kernel
theorem dX11_tune_106 : decode cX11_tune 106 = .ok (.getfield 286, 3) := by decide +kernel
theorem dX11_tune_109 : decode cX11_tune 109 = .ok (.lload 6, 2) := by decide +kernel
theorem dX11_tune_111 : decode cX11_tune 111 = .ok (.lload 8, 2) := by decide +kernel
theorem dX11_tune_113 : decode cX11_tune 113 = .ok (.invokestatic 338, 3) := by decide +kernel
theorem dX11_tune_116 : decode cX11_tune 116 = .ok (.ifCond .ne 6, 3) := by decide +kernel
theorem dX11_tune_119 : decode cX11_tune 119 = .ok (.goto 19, 3) := by decide +kernel
theorem dX11_tune_122 : decode cX11_tune 122 = .ok (.iload 10, 2) := by decide +kernel
theorem dX11_tune_124 : decode cX11_tune 124 = .ok (.istore 5, 2) := by decide +kernel
theorem dX11_tune_126 : decode cX11_tune 126 = .ok (.aload_n 0, 1) := by decide +kernel
theorem dX11_tune_127 : decode cX11_tune 127 = .ok (.getfield 283, 3) := by decide +kernel
theorem dX11_tune_130 : decode cX11_tune 130 = .ok (.lstore 6, 2) := by decide +kernel
theorem dX11_tune_132 : decode cX11_tune 132 = .ok (.aload_n 0, 1) := by decide +kernel
theorem dX11_tune_133 : decode cX11_tune 133 = .ok (.getfield 286, 3) := by decide +kernel
theorem dX11_tune_136 : decode cX11_tune 136 = .ok (.lstore 8, 2) := by decide +kernel
theorem dX11_tune_138 : decode cX11_tune 138 = .ok (.iinc 10 1, 3) := by decide +kernel
theorem dX11_tune_141 : decode cX11_tune 141 = .ok (.goto (-87), 3) := by decide +kernel
theorem dX11_tune_144 : decode cX11_tune 144 = .ok (.aload_n 0, 1) := by decide +kernel
theorem dX11_tune_145 : decode cX11_tune 145 = .ok (.getfield 23, 3) := by decide +kernel
theorem dX11_tune_148 : decode cX11_tune 148 = .ok (.iload_n 1, 1) := by decide +kernel
theorem dX11_tune_149 : decode cX11_tune 149 = .ok (.iload_n 3, 1) := by decide +kernel
theorem dX11_tune_150 : decode cX11_tune 150 = .ok (.iastore, 1) := by decide +kernel
theorem dX11_tune_151 : decode cX11_tune 151 = .ok (.aload_n 0, 1) := by decide +kernel
theorem dX11_tune_152 : decode cX11_tune 152 = .ok (.getfield 26, 3) := by decide +kernel
theorem dX11_tune_155 : decode cX11_tune 155 = .ok (.iload_n 1, 1) := by decide +kernel
theorem dX11_tune_156 : decode cX11_tune 156 = .ok (.iload 4, 2) := by decide +kernel
theorem dX11_tune_158 : decode cX11_tune 158 = .ok (.iastore, 1) := by decide +kernel
theorem dX11_tune_159 : decode cX11_tune 159 = .ok (.iload 5, 2) := by decide +kernel
theorem dX11_tune_161 : decode cX11_tune 161 = .ok (.iconst (-1), 1) := by decide +kernel
theorem dX11_tune_162 : decode cX11_tune 162 = .ok (.if_icmp .ne 5, 3) := by decide +kernel
theorem dX11_tune_165 : decode cX11_tune 165 = .ok (.iconst (-1), 1) := by decide +kernel
theorem dX11_tune_166 : decode cX11_tune 166 = .ok (.ireturn, 1) := by decide +kernel
theorem dX11_tune_167 : decode cX11_tune 167 = .ok (.aload_n 0, 1) := by decide +kernel
theorem dX11_tune_168 : decode cX11_tune 168 = .ok (.iconst 0, 1) := by decide +kernel
theorem dX11_tune_169 : decode cX11_tune 169 = .ok (.invokevirtual 130, 3) := by decide +kernel
theorem dX11_tune_172 : decode cX11_tune 172 = .ok (.aload_n 0, 1) := by decide +kernel
theorem dX11_tune_173 : decode cX11_tune 173 = .ok (.getfield 23, 3) := by decide +kernel
theorem dX11_tune_176 : decode cX11_tune 176 = .ok (.iload_n 1, 1) := by decide +kernel
theorem dX11_tune_177 : decode cX11_tune 177 = .ok (.iload 5, 2) := by decide +kernel
theorem dX11_tune_179 : decode cX11_tune 179 = .ok (.invokestatic 370, 3) := by decide +kernel
theorem dX11_tune_182 : decode cX11_tune 182 = .ok (.iastore, 1) := by decide +kernel
theorem dX11_tune_183 : decode cX11_tune 183 = .ok (.aload_n 0, 1) := by decide +kernel
theorem dX11_tune_184 : decode cX11_tune 184 = .ok (.getfield 26, 3) := by decide +kernel
theorem dX11_tune_187 : decode cX11_tune 187 = .ok (.iload_n 1, 1) := by decide +kernel
theorem dX11_tune_188 : decode cX11_tune 188 = .ok (.iload 5, 2) := by decide +kernel
theorem dX11_tune_190 : decode cX11_tune 190 = .ok (.invokestatic 373, 3) := by decide +kernel
theorem dX11_tune_193 : decode cX11_tune 193 = .ok (.iastore, 1) := by decide +kernel
theorem dX11_tune_194 : decode cX11_tune 194 = .ok (.iload 5, 2) := by decide +kernel
theorem dX11_tune_196 : decode cX11_tune 196 = .ok (.ireturn, 1) := by decide +kernel
theorem dX11_lightsAll_0 : decode cX11_lightsAll 0 = .ok (.aload_n 0, 1) := by decide +kernel
theorem dX11_lightsAll_1 : decode cX11_lightsAll 1 = .ok (.lconst 0, 1) := by decide +kernel
theorem dX11_lightsAll_2 : decode cX11_lightsAll 2 = .ok (.putfield 406, 3) := by decide +kernel
theorem dX11_lightsAll_5 : decode cX11_lightsAll 5 = .ok (.aload_n 0, 1) := by decide +kernel
theorem dX11_lightsAll_6 : decode cX11_lightsAll 6 = .ok (.lconst 1, 1) := by decide +kernel
theorem dX11_lightsAll_7 : decode cX11_lightsAll 7 = .ok (.putfield 409, 3) := by decide +kernel
theorem dX11_lightsAll_10 : decode cX11_lightsAll 10 = .ok (.iconst 1, 1) := by decide +kernel
theorem dX11_lightsAll_11 : decode cX11_lightsAll 11 = .ok (.istore_n 2, 1) := by decide +kernel
theorem dX11_lightsAll_12 : decode cX11_lightsAll 12 = .ok (.iload_n 2, 1) := by decide +kernel
theorem dX11_lightsAll_13 : decode cX11_lightsAll 13 = .ok (.iconst 4, 1) := by decide +kernel
theorem dX11_lightsAll_14 : decode cX11_lightsAll 14 = .ok (.if_icmp .gt 77, 3) := by decide +kernel
theorem dX11_lightsAll_17 : decode cX11_lightsAll 17 = .ok (.iload_n 1, 1) := by decide +kernel
theorem dX11_lightsAll_18 : decode cX11_lightsAll 18 = .ok (.iload_n 2, 1) := by decide +kernel
theorem dX11_lightsAll_19 : decode cX11_lightsAll 19 = .ok (.iconst 1, 1) := by decide +kernel
theorem dX11_lightsAll_20 : decode cX11_lightsAll 20 = .ok (.isub, 1) := by decide +kernel
theorem dX11_lightsAll_21 : decode cX11_lightsAll 21 = .ok (.invokestatic 343, 3) := by decide +kernel
theorem dX11_lightsAll_24 : decode cX11_lightsAll 24 = .ok (.ifCond .ne 6, 3) := by decide +kernel
theorem dX11_lightsAll_27 : decode cX11_lightsAll 27 = .ok (.goto 58, 3) := by decide +kernel
theorem dX11_lightsAll_30 : decode cX11_lightsAll 30 = .ok (.aload_n 0, 1) := by decide +kernel
theorem dX11_lightsAll_31 : decode cX11_lightsAll 31 = .ok (.aload_n 0, 1) := by decide +kernel
theorem dX11_lightsAll_32 : decode cX11_lightsAll 32 = .ok (.getfield 107, 3) := by decide +kernel
theorem dX11_lightsAll_35 : decode cX11_lightsAll 35 = .ok (.iload_n 2, 1) := by decide +kernel
theorem dX11_lightsAll_36 : decode cX11_lightsAll 36 = .ok (.invokevirtual 315, 3) := by decide +kernel
theorem dX11_lightsAll_39 : decode cX11_lightsAll 39 = .ok (.ifCond .ne 5, 3) := by decide +kernel
theorem dX11_lightsAll_42 : decode cX11_lightsAll 42 = .ok (.iconst 0, 1) := by decide +kernel
theorem dX11_lightsAll_43 : decode cX11_lightsAll 43 = .ok (.ireturn, 1) := by decide +kernel
theorem dX11_lightsAll_44 : decode cX11_lightsAll 44 = .ok (.aload_n 0, 1) := by decide +kernel
theorem dX11_lightsAll_45 : decode cX11_lightsAll 45 = .ok (.getfield 406, 3) := by decide +kernel
theorem dX11_lightsAll_48 : decode cX11_lightsAll 48 = .ok (.aload_n 0, 1) := by decide +kernel
theorem dX11_lightsAll_49 : decode cX11_lightsAll 49 = .ok (.getfield 409, 3) := by decide +kernel
theorem dX11_lightsAll_52 : decode cX11_lightsAll 52 = .ok (.aload_n 0, 1) := by decide +kernel
theorem dX11_lightsAll_53 : decode cX11_lightsAll 53 = .ok (.getfield 283, 3) := by decide +kernel
theorem dX11_lightsAll_56 : decode cX11_lightsAll 56 = .ok (.aload_n 0, 1) := by decide +kernel
theorem dX11_lightsAll_57 : decode cX11_lightsAll 57 = .ok (.getfield 286, 3) := by decide +kernel
theorem dX11_lightsAll_60 : decode cX11_lightsAll 60 = .ok (.invokestatic 338, 3) := by decide +kernel
theorem dX11_lightsAll_63 : decode cX11_lightsAll 63 = .ok (.ifCond .ne 6, 3) := by decide +kernel
theorem dX11_lightsAll_66 : decode cX11_lightsAll 66 = .ok (.goto 19, 3) := by decide +kernel
theorem dX11_lightsAll_69 : decode cX11_lightsAll 69 = .ok (.aload_n 0, 1) := by decide +kernel
theorem dX11_lightsAll_70 : decode cX11_lightsAll 70 = .ok (.aload_n 0, 1) := by decide +kernel
theorem dX11_lightsAll_71 : decode cX11_lightsAll 71 = .ok (.getfield 283, 3) := by decide +kernel
theorem dX11_lightsAll_74 : decode cX11_lightsAll 74 = .ok (.putfield 406, 3) := by decide +kernel
theorem dX11_lightsAll_77 : decode cX11_lightsAll 77 = .ok (.aload_n 0, 1) := by decide +kernel
theorem dX11_lightsAll_78 : decode cX11_lightsAll 78 = .ok (.aload_n 0, 1) := by decide +kernel
theorem dX11_lightsAll_79 : decode cX11_lightsAll 79 = .ok (.getfield 286, 3) := by decide +kernel
theorem dX11_lightsAll_82 : decode cX11_lightsAll 82 = .ok (.putfield 409, 3) := by decide +kernel
theorem dX11_lightsAll_85 : decode cX11_lightsAll 85 = .ok (.iinc 2 1, 3) := by decide +kernel
theorem dX11_lightsAll_88 : decode cX11_lightsAll 88 = .ok (.goto (-76), 3) := by decide +kernel
theorem dX11_lightsAll_91 : decode cX11_lightsAll 91 = .ok (.iconst 1, 1) := by decide +kernel
theorem dX11_lightsAll_92 : decode cX11_lightsAll 92 = .ok (.ireturn, 1) := by decide +kernel
theorem dX11_add_0 : decode cX11_add 0 = .ok (.iload_n 1, 1) := by decide +kernel
theorem dX11_add_1 : decode cX11_add 1 = .ok (.iload_n 2, 1) := by decide +kernel
theorem dX11_add_2 : decode cX11_add 2 = .ok (.iload_n 3, 1) := by decide +kernel
theorem dX11_add_3 : decode cX11_add 3 = .ok (.invokestatic 398, 3) := by decide +kernel
theorem dX11_add_6 : decode cX11_add 6 = .ok (.ifCond .ne 6, 3) := by decide +kernel
theorem dX11_add_9 : decode cX11_add 9 = .ok (.bipush (-2), 2) := by decide +kernel
theorem dX11_add_11 : decode cX11_add 11 = .ok (.ireturn, 1) := by decide +kernel
theorem dX11_add_12 : decode cX11_add 12 = .ok (.aload_n 0, 1) := by decide +kernel
theorem dX11_add_13 : decode cX11_add 13 = .ok (.getfield 107, 3) := by decide +kernel
theorem dX11_add_16 : decode cX11_add 16 = .ok (.bipush 24, 2) := by decide +kernel
theorem dX11_add_18 : decode cX11_add 18 = .ok (.if_icmp .ne 5, 3) := by decide +kernel
theorem dX11_add_21 : decode cX11_add 21 = .ok (.iconst (-1), 1) := by decide +kernel
theorem dX11_add_22 : decode cX11_add 22 = .ok (.ireturn, 1) := by decide +kernel
theorem dX11_add_23 : decode cX11_add 23 = .ok (.aload_n 0, 1) := by decide +kernel
theorem dX11_add_24 : decode cX11_add 24 = .ok (.iload_n 1, 1) := by decide +kernel
theorem dX11_add_25 : decode cX11_add 25 = .ok (.invokevirtual 412, 3) := by decide +kernel
theorem dX11_add_28 : decode cX11_add 28 = .ok (.ifCond .ne 7, 3) := by decide +kernel
theorem dX11_add_31 : decode cX11_add 31 = .ok (.iconst 1, 1) := by decide +kernel
theorem dX11_add_32 : decode cX11_add 32 = .ok (.goto 4, 3) := by decide +kernel
theorem dX11_add_35 : decode cX11_add 35 = .ok (.iconst 0, 1) := by decide +kernel
theorem dX11_add_36 : decode cX11_add 36 = .ok (.istore 4, 2) := by decide +kernel
theorem dX11_add_38 : decode cX11_add 38 = .ok (.aload_n 0, 1) := by decide +kernel
theorem dX11_add_39 : decode cX11_add 39 = .ok (.getfield 406, 3) := by decide +kernel
theorem dX11_add_42 : decode cX11_add 42 = .ok (.lstore 5, 2) := by decide +kernel
theorem dX11_add_44 : decode cX11_add 44 = .ok (.aload_n 0, 1) := by decide +kernel
theorem dX11_add_45 : decode cX11_add 45 = .ok (.getfield 409, 3) := by decide +kernel
theorem dX11_add_48 : decode cX11_add 48 = .ok (.lstore 7, 2) := by decide +kernel
theorem dX11_add_50 : decode cX11_add 50 = .ok (.iconst (-1), 1) := by decide +kernel
theorem dX11_add_51 : decode cX11_add 51 = .ok (.istore 9, 2) := by decide +kernel
theorem dX11_add_53 : decode cX11_add 53 = .ok (.iconst 0, 1) := by decide +kernel
theorem dX11_add_54 : decode cX11_add 54 = .ok (.istore 10, 2) := by decide +kernel
theorem dX11_add_56 : decode cX11_add 56 = .ok (.iload 10, 2) := by decide +kernel
theorem dX11_add_58 : decode cX11_add 58 = .ok (.aload_n 0, 1) := by decide +kernel
theorem dX11_add_59 : decode cX11_add 59 = .ok (.getfield 107, 3) := by decide +kernel
theorem dX11_add_62 : decode cX11_add 62 = .ok (.iconst 1, 1) := by decide +kernel
theorem dX11_add_63 : decode cX11_add 63 = .ok (.iadd, 1) := by decide +kernel
theorem dX11_add_64 : decode cX11_add 64 = .ok (.bipush 6, 2) := by decide +kernel
theorem dX11_add_66 : decode cX11_add 66 = .ok (.imul, 1) := by decide +kernel
theorem dX11_add_67 : decode cX11_add 67 = .ok (.bipush 7, 2) := by decide +kernel
theorem dX11_add_69 : decode cX11_add 69 = .ok (.imul, 1) := by decide +kernel
theorem dX11_add_70 : decode cX11_add 70 = .ok (.if_icmp .ge 149, 3) := by decide +kernel
theorem dX11_add_73 : decode cX11_add 73 = .ok (.iload 10, 2) := by decide +kernel
theorem dX11_add_75 : decode cX11_add 75 = .ok (.bipush 42, 2) := by decide +kernel
theorem dX11_add_77 : decode cX11_add 77 = .ok (.idiv, 1) := by decide +kernel
theorem dX11_add_78 : decode cX11_add 78 = .ok (.istore 11, 2) := by decide +kernel
theorem dX11_add_80 : decode cX11_add 80 = .ok (.iload 10, 2) := by decide +kernel
theorem dX11_add_82 : decode cX11_add 82 = .ok (.bipush 7, 2) := by decide +kernel
theorem dX11_add_84 : decode cX11_add 84 = .ok (.idiv, 1) := by decide +kernel
theorem dX11_add_85 : decode cX11_add 85 = .ok (.bipush 6, 2) := by decide +kernel
theorem dX11_add_87 : decode cX11_add 87 = .ok (.irem, 1) := by decide +kernel
theorem dX11_add_88 : decode cX11_add 88 = .ok (.istore 12, 2) := by decide +kernel
theorem dX11_add_90 : decode cX11_add 90 = .ok (.iload 10, 2) := by decide +kernel
theorem dX11_add_92 : decode cX11_add 92 = .ok (.bipush 7, 2) := by decide +kernel
theorem dX11_add_94 : decode cX11_add 94 = .ok (.irem, 1) := by decide +kernel
theorem dX11_add_95 : decode cX11_add 95 = .ok (.istore 13, 2) := by decide +kernel
theorem dX11_add_97 : decode cX11_add 97 = .ok (.iload_n 2, 1) := by decide +kernel
theorem dX11_add_98 : decode cX11_add 98 = .ok (.iload 12, 2) := by decide +kernel
theorem dX11_add_100 : decode cX11_add 100 = .ok (.invokestatic 343, 3) := by decide +kernel
theorem dX11_add_103 : decode cX11_add 103 = .ok (.ifCond .eq 110, 3) := by decide +kernel
theorem dX11_add_106 : decode cX11_add 106 = .ok (.iload_n 3, 1) := by decide +kernel
theorem dX11_add_107 : decode cX11_add 107 = .ok (.iload 13, 2) := by decide +kernel
theorem dX11_add_109 : decode cX11_add 109 = .ok (.invokestatic 343, 3) := by decide +kernel
theorem dX11_add_112 : decode cX11_add 112 = .ok (.ifCond .ne 6, 3) := by decide +kernel
theorem dX11_add_115 : decode cX11_add 115 = .ok (.goto 98, 3) := by decide +kernel
theorem dX11_add_118 : decode cX11_add 118 = .ok (.aload_n 0, 1) := by decide +kernel
theorem dX11_add_119 : decode cX11_add 119 = .ok (.iload 11, 2) := by decide +kernel
theorem dX11_add_121 : decode cX11_add 121 = .ok (.invokevirtual 134, 3) := by decide +kernel
theorem dX11_add_124 : decode cX11_add 124 = .ok (.aload_n 0, 1) := by decide +kernel
theorem dX11_add_125 : decode cX11_add 125 = .ok (.iload 11, 2) := by decide +kernel
theorem dX11_add_127 : decode cX11_add 127 = .ok (.iload 12, 2) := by decide +kernel
theorem dX11_add_129 : decode cX11_add 129 = .ok (.iload 13, 2) := by decide +kernel
theorem dX11_add_131 : decode cX11_add 131 = .ok (.invokestatic 370, 3) := by decide +kernel
theorem dX11_add_134 : decode cX11_add 134 = .ok (.iload 13, 2) := by decide +kernel
theorem dX11_add_136 : decode cX11_add 136 = .ok (.invokestatic 373, 3) := by decide +kernel
theorem dX11_add_139 : decode cX11_add 139 = .ok (.invokevirtual 138, 3) := by decide +kernel
theorem dX11_add_142 : decode cX11_add 142 = .ok (.aload_n 0, 1) := by decide +kernel
theorem dX11_add_143 : decode cX11_add 143 = .ok (.iload_n 1, 1) := by decide +kernel
theorem dX11_add_144 : decode cX11_add 144 = .ok (.invokevirtual 412, 3) := by decide +kernel
theorem dX11_add_147 : decode cX11_add 147 = .ok (.ifCond .eq 30, 3) := by decide +kernel
theorem dX11_add_150 : decode cX11_add 150 = .ok (.iload 4, 2) := by decide +kernel
theorem dX11_add_152 : decode cX11_add 152 = .ok (.ifCond .ne 21, 3) := by decide +kernel
theorem dX11_add_155 : decode cX11_add 155 = .ok (.aload_n 0, 1) := by decide +kernel
theorem dX11_add_156 : decode cX11_add 156 = .ok (.getfield 406, 3) := by decide +kernel
theorem dX11_add_159 : decode cX11_add 159 = .ok (.aload_n 0, 1) := by decide +kernel
theorem dX11_add_160 : decode cX11_add 160 = .ok (.getfield 409, 3) := by decide +kernel
theorem dX11_add_163 : decode cX11_add 163 = .ok (.lload 5, 2) := by decide +kernel
theorem dX11_add_165 : decode cX11_add 165 = .ok (.lload 7, 2) := by decide +kernel
theorem dX11_add_167 : decode cX11_add 167 = .ok (.invokestatic 338, 3) := by decide +kernel
theorem dX11_add_170 : decode cX11_add 170 = .ok (.ifCond .eq 7, 3) := by decide +kernel
theorem dX11_add_173 : decode cX11_add 173 = .ok (.iconst 1, 1) := by decide +kernel
theorem dX11_add_174 : decode cX11_add 174 = .ok (.goto 4, 3) := by decide +kernel
theorem dX11_add_177 : decode cX11_add 177 = .ok (.iconst 0, 1) := by decide +kernel
theorem dX11_add_178 : decode cX11_add 178 = .ok (.istore 14, 2) := by decide +kernel
theorem dX11_add_180 : decode cX11_add 180 = .ok (.aload_n 0, 1) := by decide +kernel
theorem dX11_add_181 : decode cX11_add 181 = .ok (.iload 11, 2) := by decide +kernel
theorem dX11_add_183 : decode cX11_add 183 = .ok (.invokevirtual 142, 3) := by decide +kernel
theorem dX11_add_186 : decode cX11_add 186 = .ok (.iload 14, 2) := by decide +kernel
theorem dX11_add_188 : decode cX11_add 188 = .ok (.ifCond .ne 6, 3) := by decide +kernel
theorem dX11_add_191 : decode cX11_add 191 = .ok (.goto 22, 3) := by decide +kernel
theorem dX11_add_194 : decode cX11_add 194 = .ok (.iconst 0, 1) := by decide +kernel
theorem dX11_add_195 : decode cX11_add 195 = .ok (.istore 4, 2) := by decide +kernel
theorem dX11_add_197 : decode cX11_add 197 = .ok (.iload 10, 2) := by decide +kernel
theorem dX11_add_199 : decode cX11_add 199 = .ok (.istore 9, 2) := by decide +kernel
theorem dX11_add_201 : decode cX11_add 201 = .ok (.aload_n 0, 1) := by decide +kernel
theorem dX11_add_202 : decode cX11_add 202 = .ok (.getfield 406, 3) := by decide +kernel
theorem dX11_add_205 : decode cX11_add 205 = .ok (.lstore 5, 2) := by decide +kernel
theorem dX11_add_207 : decode cX11_add 207 = .ok (.aload_n 0, 1) := by decide +kernel
theorem dX11_add_208 : decode cX11_add 208 = .ok (.getfield 409, 3) := by decide +kernel
theorem dX11_add_211 : decode cX11_add 211 = .ok (.lstore 7, 2) := by decide +kernel
theorem dX11_add_213 : decode cX11_add 213 = .ok (.iinc 10 1, 3) := by decide +kernel
theorem dX11_add_216 : decode cX11_add 216 = .ok (.goto (-160), 3) := by decide +kernel
theorem dX11_add_219 : decode cX11_add 219 = .ok (.iload 9, 2) := by decide +kernel
theorem dX11_add_221 : decode cX11_add 221 = .ok (.iconst (-1), 1) := by decide +kernel
theorem dX11_add_222 : decode cX11_add 222 = .ok (.if_icmp .ne 5, 3) := by decide +kernel
theorem dX11_add_225 : decode cX11_add 225 = .ok (.iconst (-1), 1) := by decide +kernel
theorem dX11_add_226 : decode cX11_add 226 = .ok (.ireturn, 1) := by decide +kernel
theorem dX11_add_227 : decode cX11_add 227 = .ok (.iload 9, 2) := by decide +kernel
theorem dX11_add_229 : decode cX11_add 229 = .ok (.bipush 42, 2) := by decide +kernel
theorem dX11_add_231 : decode cX11_add 231 = .ok (.idiv, 1) := by decide +kernel
theorem dX11_add_232 : decode cX11_add 232 = .ok (.istore 10, 2) := by decide +kernel
theorem dX11_add_234 : decode cX11_add 234 = .ok (.aload_n 0, 1) := by decide +kernel
theorem dX11_add_235 : decode cX11_add 235 = .ok (.iconst 0, 1) := by decide +kernel
theorem dX11_add_236 : decode cX11_add 236 = .ok (.invokevirtual 130, 3) := by decide +kernel
theorem dX11_add_239 : decode cX11_add 239 = .ok (.aload_n 0, 1) := by decide +kernel
theorem dX11_add_240 : decode cX11_add 240 = .ok (.iload 10, 2) := by decide +kernel
theorem dX11_add_242 : decode cX11_add 242 = .ok (.invokevirtual 134, 3) := by decide +kernel
theorem dX11_add_245 : decode cX11_add 245 = .ok (.aload_n 0, 1) := by decide +kernel
theorem dX11_add_246 : decode cX11_add 246 = .ok (.iload 10, 2) := by decide +kernel
theorem dX11_add_248 : decode cX11_add 248 = .ok (.iload 9, 2) := by decide +kernel
theorem dX11_add_250 : decode cX11_add 250 = .ok (.bipush 7, 2) := by decide +kernel
theorem dX11_add_252 : decode cX11_add 252 = .ok (.idiv, 1) := by decide +kernel
theorem dX11_add_253 : decode cX11_add 253 = .ok (.bipush 6, 2) := by decide +kernel
theorem dX11_add_255 : decode cX11_add 255 = .ok (.irem, 1) := by decide +kernel
theorem dX11_add_256 : decode cX11_add 256 = .ok (.iload 9, 2) := by decide +kernel
theorem dX11_add_258 : decode cX11_add 258 = .ok (.bipush 7, 2) := by decide +kernel
theorem dX11_add_260 : decode cX11_add 260 = .ok (.irem, 1) := by decide +kernel
theorem dX11_add_261 : decode cX11_add 261 = .ok (.invokestatic 370, 3) := by decide +kernel
theorem dX11_add_264 : decode cX11_add 264 = .ok (.iload 9, 2) := by decide +kernel
theorem dX11_add_266 : decode cX11_add 266 = .ok (.bipush 7, 2) := by decide +kernel
theorem dX11_add_268 : decode cX11_add 268 = .ok (.irem, 1) := by decide +kernel
theorem dX11_add_269 : decode cX11_add 269 = .ok (.invokestatic 373, 3) := by decide +kernel
theorem dX11_add_272 : decode cX11_add 272 = .ok (.invokevirtual 138, 3) := by decide +kernel
theorem dX11_add_275 : decode cX11_add 275 = .ok (.iload 10, 2) := by decide +kernel
theorem dX11_add_277 : decode cX11_add 277 = .ok (.ireturn, 1) := by decide +kernel
theorem dX11_period_0 : decode cX11_period 0 = .ok (.iload_n 1, 1) := by decide +kernel
theorem dX11_period_1 : decode cX11_period 1 = .ok (.i2l, 1) := by decide +kernel
theorem dX11_period_2 : decode cX11_period 2 = .ok (.lconst 0, 1) := by decide +kernel
theorem dX11_period_3 : decode cX11_period 3 = .ok (.lconst 1, 1) := by decide +kernel
theorem dX11_period_4 : decode cX11_period 4 = .ok (.invokestatic 94, 3) := by decide +kernel
theorem dX11_period_7 : decode cX11_period 7 = .ok (.ifCond .ne 5, 3) := by decide +kernel
theorem dX11_period_10 : decode cX11_period 10 = .ok (.iconst (-1), 1) := by decide +kernel
theorem dX11_period_11 : decode cX11_period 11 = .ok (.ireturn, 1) := by decide +kernel
theorem dX11_period_12 : decode cX11_period 12 = .ok (.iconst 1, 1) := by decide +kernel
theorem dX11_period_13 : decode cX11_period 13 = .ok (.istore_n 2, 1) := by decide +kernel
theorem dX11_period_14 : decode cX11_period 14 = .ok (.iload_n 2, 1) := by decide +kernel
theorem dX11_period_15 : decode cX11_period 15 = .ok (.aload_n 0, 1) := by decide +kernel
theorem dX11_period_16 : decode cX11_period 16 = .ok (.getfield 107, 3) := by decide +kernel
theorem dX11_period_19 : decode cX11_period 19 = .ok (.if_icmp .gt 76, 3) := by decide +kernel
theorem dX11_period_22 : decode cX11_period 22 = .ok (.aload_n 0, 1) := by decide +kernel
theorem dX11_period_23 : decode cX11_period 23 = .ok (.getfield 107, 3) := by decide +kernel
theorem dX11_period_26 : decode cX11_period 26 = .ok (.iload_n 2, 1) := by decide +kernel
theorem dX11_period_27 : decode cX11_period 27 = .ok (.irem, 1) := by decide +kernel
theorem dX11_period_28 : decode cX11_period 28 = .ok (.ifCond .ne 7, 3) := by decide +kernel
theorem dX11_period_31 : decode cX11_period 31 = .ok (.iconst 1, 1) := by decide +kernel
theorem dX11_period_32 : decode cX11_period 32 = .ok (.goto 4, 3) := by decide +kernel
theorem dX11_period_35 : decode cX11_period 35 = .ok (.iconst 0, 1) := by decide +kernel
theorem dX11_period_36 : decode cX11_period 36 = .ok (.istore_n 3, 1) := by decide +kernel
theorem dX11_period_37 : decode cX11_period 37 = .ok (.iload_n 2, 1) := by decide +kernel
theorem dX11_period_38 : decode cX11_period 38 = .ok (.istore 4, 2) := by decide +kernel
theorem dX11_period_40 : decode cX11_period 40 = .ok (.iload 4, 2) := by decide +kernel
theorem dX11_period_42 : decode cX11_period 42 = .ok (.aload_n 0, 1) := by decide +kernel
theorem dX11_period_43 : decode cX11_period 43 = .ok (.getfield 107, 3) := by decide +kernel
theorem dX11_period_46 : decode cX11_period 46 = .ok (.if_icmp .ge 24, 3) := by decide +kernel
theorem dX11_period_49 : decode cX11_period 49 = .ok (.iload_n 3, 1) := by decide +kernel
theorem dX11_period_50 : decode cX11_period 50 = .ok (.ifCond .eq 20, 3) := by decide +kernel
theorem dX11_period_53 : decode cX11_period 53 = .ok (.aload_n 0, 1) := by decide +kernel
theorem dX11_period_54 : decode cX11_period 54 = .ok (.iload 4, 2) := by decide +kernel
theorem dX11_period_56 : decode cX11_period 56 = .ok (.iload 4, 2) := by decide +kernel
theorem dX11_period_58 : decode cX11_period 58 = .ok (.iload_n 2, 1) := by decide +kernel
theorem dX11_period_59 : decode cX11_period 59 = .ok (.isub, 1) := by decide +kernel
theorem dX11_period_60 : decode cX11_period 60 = .ok (.invokevirtual 145, 3) := by decide +kernel
theorem dX11_period_63 : decode cX11_period 63 = .ok (.istore_n 3, 1) := by decide +kernel
theorem dX11_period_64 : decode cX11_period 64 = .ok (.iinc 4 1, 3) := by decide +kernel
theorem dX11_period_67 : decode cX11_period 67 = .ok (.goto (-27), 3) := by decide +kernel
theorem dX11_period_70 : decode cX11_period 70 = .ok (.iload_n 3, 1) := by decide +kernel
theorem dX11_period_71 : decode cX11_period 71 = .ok (.ifCond .eq 18, 3) := by decide +kernel
theorem dX11_period_74 : decode cX11_period 74 = .ok (.iload_n 1, 1) := by decide +kernel
theorem dX11_period_75 : decode cX11_period 75 = .ok (.ifCond .ne 7, 3) := by decide +kernel
theorem dX11_period_78 : decode cX11_period 78 = .ok (.iload_n 2, 1) := by decide +kernel
theorem dX11_period_79 : decode cX11_period 79 = .ok (.goto 9, 3) := by decide +kernel
theorem dX11_period_82 : decode cX11_period 82 = .ok (.aload_n 0, 1) := by decide +kernel
theorem dX11_period_83 : decode cX11_period 83 = .ok (.getfield 107, 3) := by decide +kernel
theorem dX11_period_86 : decode cX11_period 86 = .ok (.iload_n 2, 1) := by decide +kernel
theorem dX11_period_87 : decode cX11_period 87 = .ok (.idiv, 1) := by decide +kernel
theorem dX11_period_88 : decode cX11_period 88 = .ok (.ireturn, 1) := by decide +kernel
theorem dX11_period_89 : decode cX11_period 89 = .ok (.iinc 2 1, 3) := by decide +kernel
theorem dX11_period_92 : decode cX11_period 92 = .ok (.goto (-78), 3) := by decide +kernel
theorem dX11_period_95 : decode cX11_period 95 = .ok (.iconst 0, 1) := by decide +kernel
theorem dX11_period_96 : decode cX11_period 96 = .ok (.ireturn, 1) := by decide +kernel
theorem dX11_says_0 : decode cX11_says 0 = .ok (.aload_n 0, 1) := by decide +kernel
theorem dX11_says_1 : decode cX11_says 1 = .ok (.getfield 82, 3) := by decide +kernel
theorem dX11_says_4 : decode cX11_says 4 = .ok (.aload_n 0, 1) := by decide +kernel
theorem dX11_says_5 : decode cX11_says 5 = .ok (.getfield 415, 3) := by decide +kernel
theorem dX11_says_8 : decode cX11_says 8 = .ok (.iload_n 1, 1) := by decide +kernel
theorem dX11_says_9 : decode cX11_says 9 = .ok (.iastore, 1) := by decide +kernel
theorem dX11_says_10 : decode cX11_says 10 = .ok (.aload_n 0, 1) := by decide +kernel
theorem dX11_says_11 : decode cX11_says 11 = .ok (.dup, 1) := by decide +kernel
theorem dX11_says_12 : decode cX11_says 12 = .ok (.getfield 415, 3) := by decide +kernel
theorem dX11_says_15 : decode cX11_says 15 = .ok (.iconst 1, 1) := by decide +kernel
theorem dX11_says_16 : decode cX11_says 16 = .ok (.iadd, 1) := by decide +kernel
theorem dX11_says_17 : decode cX11_says 17 = .ok (.putfield 415, 3) := by decide +kernel
theorem dX11_says_20 : decode cX11_says 20 = .ok (.return_, 1) := by decide +kernel
theorem dX11_show_0 : decode cX11_show 0 = .ok (.aload_n 0, 1) := by decide +kernel
theorem dX11_show_1 : decode cX11_show 1 = .ok (.iconst 0, 1) := by decide +kernel
theorem dX11_show_2 : decode cX11_show 2 = .ok (.putfield 415, 3) := by decide +kernel
theorem dX11_show_5 : decode cX11_show 5 = .ok (.iconst 0, 1) := by decide +kernel
theorem dX11_show_6 : decode cX11_show 6 = .ok (.istore_n 1, 1) := by decide +kernel
theorem dX11_show_7 : decode cX11_show 7 = .ok (.iload_n 1, 1) := by decide +kernel
theorem dX11_show_8 : decode cX11_show 8 = .ok (.aload_n 0, 1) := by decide +kernel
theorem dX11_show_9 : decode cX11_show 9 = .ok (.getfield 107, 3) := by decide +kernel
theorem dX11_show_12 : decode cX11_show 12 = .ok (.if_icmp .ge 92, 3) := by decide +kernel
theorem dX11_show_15 : decode cX11_show 15 = .ok (.aload_n 0, 1) := by decide +kernel
theorem dX11_show_16 : decode cX11_show 16 = .ok (.bipush 65, 2) := by decide +kernel
theorem dX11_show_18 : decode cX11_show 18 = .ok (.aload_n 0, 1) := by decide +kernel
theorem dX11_show_19 : decode cX11_show 19 = .ok (.getfield 20, 3) := by decide +kernel
theorem dX11_show_22 : decode cX11_show 22 = .ok (.iload_n 1, 1) := by decide +kernel
theorem dX11_show_23 : decode cX11_show 23 = .ok (.iaload, 1) := by decide +kernel
theorem dX11_show_24 : decode cX11_show 24 = .ok (.iadd, 1) := by decide +kernel
theorem dX11_show_25 : decode cX11_show 25 = .ok (.invokevirtual 418, 3) := by decide +kernel
theorem dX11_show_28 : decode cX11_show 28 = .ok (.aload_n 0, 1) := by decide +kernel
theorem dX11_show_29 : decode cX11_show 29 = .ok (.getfield 26, 3) := by decide +kernel
theorem dX11_show_32 : decode cX11_show 32 = .ok (.iload_n 1, 1) := by decide +kernel
theorem dX11_show_33 : decode cX11_show 33 = .ok (.iaload, 1) := by decide +kernel
theorem dX11_show_34 : decode cX11_show 34 = .ok (.ifCond .ne 12, 3) := by decide +kernel
theorem dX11_show_37 : decode cX11_show 37 = .ok (.aload_n 0, 1) := by decide +kernel
theorem dX11_show_38 : decode cX11_show 38 = .ok (.bipush 104, 2) := by decide +kernel
theorem dX11_show_40 : decode cX11_show 40 = .ok (.invokevirtual 418, 3) := by decide +kernel
theorem dX11_show_43 : decode cX11_show 43 = .ok (.goto 55, 3) := by decide +kernel
theorem dX11_show_46 : decode cX11_show 46 = .ok (.aload_n 0, 1) := by decide +kernel
theorem dX11_show_47 : decode cX11_show 47 = .ok (.getfield 23, 3) := by decide +kernel
theorem dX11_show_50 : decode cX11_show 50 = .ok (.iload_n 1, 1) := by decide +kernel
theorem dX11_show_51 : decode cX11_show 51 = .ok (.iaload, 1) := by decide +kernel
theorem dX11_show_52 : decode cX11_show 52 = .ok (.iconst 1, 1) := by decide +kernel
theorem dX11_show_53 : decode cX11_show 53 = .ok (.if_icmp .ne 13, 3) := by decide +kernel
theorem dX11_show_56 : decode cX11_show 56 = .ok (.aload_n 0, 1) := by decide +kernel
theorem dX11_show_57 : decode cX11_show 57 = .ok (.getfield 26, 3) := by decide +kernel
theorem dX11_show_60 : decode cX11_show 60 = .ok (.iload_n 1, 1) := by decide +kernel
theorem dX11_show_61 : decode cX11_show 61 = .ok (.iaload, 1) := by decide +kernel
theorem dX11_show_62 : decode cX11_show 62 = .ok (.iconst 1, 1) := by decide +kernel
theorem dX11_show_63 : decode cX11_show 63 = .ok (.if_icmp .eq 35, 3) := by decide +kernel
theorem dX11_show_66 : decode cX11_show 66 = .ok (.aload_n 0, 1) := by decide +kernel
theorem dX11_show_67 : decode cX11_show 67 = .ok (.bipush 48, 2) := by decide +kernel
theorem dX11_show_69 : decode cX11_show 69 = .ok (.aload_n 0, 1) := by decide +kernel
theorem dX11_show_70 : decode cX11_show 70 = .ok (.getfield 23, 3) := by decide +kernel
theorem dX11_show_73 : decode cX11_show 73 = .ok (.iload_n 1, 1) := by decide +kernel
theorem dX11_show_74 : decode cX11_show 74 = .ok (.iaload, 1) := by decide +kernel
theorem dX11_show_75 : decode cX11_show 75 = .ok (.iadd, 1) := by decide +kernel
theorem dX11_show_76 : decode cX11_show 76 = .ok (.invokevirtual 418, 3) := by decide +kernel
theorem dX11_show_79 : decode cX11_show 79 = .ok (.aload_n 0, 1) := by decide +kernel
theorem dX11_show_80 : decode cX11_show 80 = .ok (.bipush 47, 2) := by decide +kernel
theorem dX11_show_82 : decode cX11_show 82 = .ok (.invokevirtual 418, 3) := by decide +kernel
theorem dX11_show_85 : decode cX11_show 85 = .ok (.aload_n 0, 1) := by decide +kernel
theorem dX11_show_86 : decode cX11_show 86 = .ok (.bipush 48, 2) := by decide +kernel
theorem dX11_show_88 : decode cX11_show 88 = .ok (.aload_n 0, 1) := by decide +kernel
theorem dX11_show_89 : decode cX11_show 89 = .ok (.getfield 26, 3) := by decide +kernel
theorem dX11_show_92 : decode cX11_show 92 = .ok (.iload_n 1, 1) := by decide +kernel
theorem dX11_show_93 : decode cX11_show 93 = .ok (.iaload, 1) := by decide +kernel
theorem dX11_show_94 : decode cX11_show 94 = .ok (.iadd, 1) := by decide +kernel
theorem dX11_show_95 : decode cX11_show 95 = .ok (.invokevirtual 418, 3) := by decide +kernel
theorem dX11_show_98 : decode cX11_show 98 = .ok (.iinc 1 1, 3) := by decide +kernel
theorem dX11_show_101 : decode cX11_show 101 = .ok (.goto (-94), 3) := by decide +kernel
theorem dX11_show_104 : decode cX11_show 104 = .ok (.aload_n 0, 1) := by decide +kernel
theorem dX11_show_105 : decode cX11_show 105 = .ok (.getfield 415, 3) := by decide +kernel
theorem dX11_show_108 : decode cX11_show 108 = .ok (.ireturn, 1) := by decide +kernel
theorem dX11_out_0 : decode cX11_out 0 = .ok (.iload_n 1, 1) := by decide +kernel
theorem dX11_out_1 : decode cX11_out 1 = .ok (.i2l, 1) := by decide +kernel
theorem dX11_out_2 : decode cX11_out 2 = .ok (.lconst 0, 1) := by decide +kernel
theorem dX11_out_3 : decode cX11_out 3 = .ok (.aload_n 0, 1) := by decide +kernel
theorem dX11_out_4 : decode cX11_out 4 = .ok (.getfield 415, 3) := by decide +kernel
theorem dX11_out_7 : decode cX11_out 7 = .ok (.iconst 1, 1) := by decide +kernel
theorem dX11_out_8 : decode cX11_out 8 = .ok (.isub, 1) := by decide +kernel
theorem dX11_out_9 : decode cX11_out 9 = .ok (.i2l, 1) := by decide +kernel
theorem dX11_out_10 : decode cX11_out 10 = .ok (.invokestatic 94, 3) := by decide +kernel
theorem dX11_out_13 : decode cX11_out 13 = .ok (.ifCond .eq 12, 3) := by decide +kernel
theorem dX11_out_16 : decode cX11_out 16 = .ok (.aload_n 0, 1) := by decide +kernel
theorem dX11_out_17 : decode cX11_out 17 = .ok (.getfield 82, 3) := by decide +kernel
theorem dX11_out_20 : decode cX11_out 20 = .ok (.iload_n 1, 1) := by decide +kernel
theorem dX11_out_21 : decode cX11_out 21 = .ok (.iaload, 1) := by decide +kernel
theorem dX11_out_22 : decode cX11_out 22 = .ok (.goto 4, 3) := by decide +kernel
theorem dX11_out_25 : decode cX11_out 25 = .ok (.iconst (-1), 1) := by decide +kernel
theorem dX11_out_26 : decode cX11_out 26 = .ok (.ireturn, 1) := by decide +kernel
theorem dX11_canSpare_0 : decode cX11_canSpare 0 = .ok (.iconst 1, 1) := by decide +kernel
theorem dX11_canSpare_1 : decode cX11_canSpare 1 = .ok (.istore_n 3, 1) := by decide +kernel
theorem dX11_canSpare_2 : decode cX11_canSpare 2 = .ok (.iload_n 3, 1) := by decide +kernel
theorem dX11_canSpare_3 : decode cX11_canSpare 3 = .ok (.iconst 4, 1) := by decide +kernel
theorem dX11_canSpare_4 : decode cX11_canSpare 4 = .ok (.if_icmp .gt 129, 3) := by decide +kernel
theorem dX11_canSpare_7 : decode cX11_canSpare 7 = .ok (.iload_n 2, 1) := by decide +kernel
theorem dX11_canSpare_8 : decode cX11_canSpare 8 = .ok (.iload_n 3, 1) := by decide +kernel
theorem dX11_canSpare_9 : decode cX11_canSpare 9 = .ok (.iconst 1, 1) := by decide +kernel
theorem dX11_canSpare_10 : decode cX11_canSpare 10 = .ok (.isub, 1) := by decide +kernel
theorem dX11_canSpare_11 : decode cX11_canSpare 11 = .ok (.invokestatic 343, 3) := by decide +kernel
theorem dX11_canSpare_14 : decode cX11_canSpare 14 = .ok (.ifCond .ne 6, 3) := by decide +kernel
theorem dX11_canSpare_17 : decode cX11_canSpare 17 = .ok (.goto 110, 3) := by decide +kernel
theorem dX11_canSpare_20 : decode cX11_canSpare 20 = .ok (.aload_n 0, 1) := by decide +kernel
theorem dX11_canSpare_21 : decode cX11_canSpare 21 = .ok (.invokevirtual 274, 3) := by decide +kernel
theorem dX11_canSpare_24 : decode cX11_canSpare 24 = .ok (.iconst 0, 1) := by decide +kernel
theorem dX11_canSpare_25 : decode cX11_canSpare 25 = .ok (.istore 4, 2) := by decide +kernel
theorem dX11_canSpare_27 : decode cX11_canSpare 27 = .ok (.iload 4, 2) := by decide +kernel
theorem dX11_canSpare_29 : decode cX11_canSpare 29 = .ok (.aload_n 0, 1) := by decide +kernel
theorem dX11_canSpare_30 : decode cX11_canSpare 30 = .ok (.getfield 107, 3) := by decide +kernel
theorem dX11_canSpare_33 : decode cX11_canSpare 33 = .ok (.if_icmp .ge 43, 3) := by decide +kernel
theorem dX11_canSpare_36 : decode cX11_canSpare 36 = .ok (.iload 4, 2) := by decide +kernel
theorem dX11_canSpare_38 : decode cX11_canSpare 38 = .ok (.iload_n 1, 1) := by decide +kernel
theorem dX11_canSpare_39 : decode cX11_canSpare 39 = .ok (.if_icmp .eq 31, 3) := by decide +kernel
theorem dX11_canSpare_42 : decode cX11_canSpare 42 = .ok (.aload_n 0, 1) := by decide +kernel
theorem dX11_canSpare_43 : decode cX11_canSpare 43 = .ok (.aload_n 0, 1) := by decide +kernel
theorem dX11_canSpare_44 : decode cX11_canSpare 44 = .ok (.getfield 20, 3) := by decide +kernel
theorem dX11_canSpare_47 : decode cX11_canSpare 47 = .ok (.iload 4, 2) := by decide +kernel
theorem dX11_canSpare_49 : decode cX11_canSpare 49 = .ok (.iaload, 1) := by decide +kernel
theorem dX11_canSpare_50 : decode cX11_canSpare 50 = .ok (.aload_n 0, 1) := by decide +kernel
theorem dX11_canSpare_51 : decode cX11_canSpare 51 = .ok (.getfield 23, 3) := by decide +kernel
theorem dX11_canSpare_54 : decode cX11_canSpare 54 = .ok (.iload 4, 2) := by decide +kernel
theorem dX11_canSpare_56 : decode cX11_canSpare 56 = .ok (.iaload, 1) := by decide +kernel
theorem dX11_canSpare_57 : decode cX11_canSpare 57 = .ok (.i2l, 1) := by decide +kernel
theorem dX11_canSpare_58 : decode cX11_canSpare 58 = .ok (.aload_n 0, 1) := by decide +kernel
theorem dX11_canSpare_59 : decode cX11_canSpare 59 = .ok (.getfield 26, 3) := by decide +kernel
theorem dX11_canSpare_62 : decode cX11_canSpare 62 = .ok (.iload 4, 2) := by decide +kernel
theorem dX11_canSpare_64 : decode cX11_canSpare 64 = .ok (.iaload, 1) := by decide +kernel
theorem dX11_canSpare_65 : decode cX11_canSpare 65 = .ok (.i2l, 1) := by decide +kernel
theorem dX11_canSpare_66 : decode cX11_canSpare 66 = .ok (.iload_n 3, 1) := by decide +kernel
theorem dX11_canSpare_67 : decode cX11_canSpare 67 = .ok (.invokevirtual 277, 3) := by decide +kernel
theorem dX11_canSpare_70 : decode cX11_canSpare 70 = .ok (.iinc 4 1, 3) := by decide +kernel
theorem dX11_canSpare_73 : decode cX11_canSpare 73 = .ok (.goto (-46), 3) := by decide +kernel
theorem dX11_canSpare_76 : decode cX11_canSpare 76 = .ok (.aload_n 0, 1) := by decide +kernel
theorem dX11_canSpare_77 : decode cX11_canSpare 77 = .ok (.getfield 260, 3) := by decide +kernel
theorem dX11_canSpare_80 : decode cX11_canSpare 80 = .ok (.ifCond .ne 5, 3) := by decide +kernel
theorem dX11_canSpare_83 : decode cX11_canSpare 83 = .ok (.iconst 0, 1) := by decide +kernel
theorem dX11_canSpare_84 : decode cX11_canSpare 84 = .ok (.ireturn, 1) := by decide +kernel
theorem dX11_canSpare_85 : decode cX11_canSpare 85 = .ok (.aload_n 0, 1) := by decide +kernel
theorem dX11_canSpare_86 : decode cX11_canSpare 86 = .ok (.invokevirtual 298, 3) := by decide +kernel
theorem dX11_canSpare_89 : decode cX11_canSpare 89 = .ok (.aload_n 0, 1) := by decide +kernel
theorem dX11_canSpare_90 : decode cX11_canSpare 90 = .ok (.getfield 283, 3) := by decide +kernel
theorem dX11_canSpare_93 : decode cX11_canSpare 93 = .ok (.aload_n 0, 1) := by decide +kernel
theorem dX11_canSpare_94 : decode cX11_canSpare 94 = .ok (.getfield 85, 3) := by decide +kernel
theorem dX11_canSpare_97 : decode cX11_canSpare 97 = .ok (.iconst 2, 1) := by decide +kernel
theorem dX11_canSpare_98 : decode cX11_canSpare 98 = .ok (.iload_n 3, 1) := by decide +kernel
theorem dX11_canSpare_99 : decode cX11_canSpare 99 = .ok (.imul, 1) := by decide +kernel
theorem dX11_canSpare_100 : decode cX11_canSpare 100 = .ok (.iconst 2, 1) := by decide +kernel
theorem dX11_canSpare_101 : decode cX11_canSpare 101 = .ok (.isub, 1) := by decide +kernel
theorem dX11_canSpare_102 : decode cX11_canSpare 102 = .ok (.laload, 1) := by decide +kernel
theorem dX11_canSpare_103 : decode cX11_canSpare 103 = .ok (.lcmp, 1) := by decide +kernel
theorem dX11_canSpare_104 : decode cX11_canSpare 104 = .ok (.ifCond .ne 21, 3) := by decide +kernel
theorem dX11_canSpare_107 : decode cX11_canSpare 107 = .ok (.aload_n 0, 1) := by decide +kernel
theorem dX11_canSpare_108 : decode cX11_canSpare 108 = .ok (.getfield 286, 3) := by decide +kernel
theorem dX11_canSpare_111 : decode cX11_canSpare 111 = .ok (.aload_n 0, 1) := by decide +kernel
theorem dX11_canSpare_112 : decode cX11_canSpare 112 = .ok (.getfield 85, 3) := by decide +kernel
theorem dX11_canSpare_115 : decode cX11_canSpare 115 = .ok (.iconst 2, 1) := by decide +kernel
theorem dX11_canSpare_116 : decode cX11_canSpare 116 = .ok (.iload_n 3, 1) := by decide +kernel
theorem dX11_canSpare_117 : decode cX11_canSpare 117 = .ok (.imul, 1) := by decide +kernel
theorem dX11_canSpare_118 : decode cX11_canSpare 118 = .ok (.iconst 1, 1) := by decide +kernel
theorem dX11_canSpare_119 : decode cX11_canSpare 119 = .ok (.isub, 1) := by decide +kernel
theorem dX11_canSpare_120 : decode cX11_canSpare 120 = .ok (.laload, 1) := by decide +kernel
theorem dX11_canSpare_121 : decode cX11_canSpare 121 = .ok (.lcmp, 1) := by decide +kernel
theorem dX11_canSpare_122 : decode cX11_canSpare 122 = .ok (.ifCond .eq 5, 3) := by decide +kernel
theorem dX11_canSpare_125 : decode cX11_canSpare 125 = .ok (.iconst 0, 1) := by decide +kernel
theorem dX11_canSpare_126 : decode cX11_canSpare 126 = .ok (.ireturn, 1) := by decide +kernel
theorem dX11_canSpare_127 : decode cX11_canSpare 127 = .ok (.iinc 3 1, 3) := by decide +kernel
theorem dX11_canSpare_130 : decode cX11_canSpare 130 = .ok (.goto (-128), 3) := by decide +kernel
theorem dX11_canSpare_133 : decode cX11_canSpare 133 = .ok (.iconst 1, 1) := by decide +kernel
theorem dX11_canSpare_134 : decode cX11_canSpare 134 = .ok (.ireturn, 1) := by decide +kernel
theorem dX11_spare_0 : decode cX11_spare 0 = .ok (.iload_n 1, 1) := by decide +kernel
theorem dX11_spare_1 : decode cX11_spare 1 = .ok (.i2l, 1) := by decide +kernel
theorem dX11_spare_2 : decode cX11_spare 2 = .ok (.lconst 1, 1) := by decide +kernel
theorem dX11_spare_3 : decode cX11_spare 3 = .ok (.ldc2_w 358, 3) := by decide +kernel
theorem dX11_spare_6 : decode cX11_spare 6 = .ok (.invokestatic 94, 3) := by decide +kernel
theorem dX11_spare_9 : decode cX11_spare 9 = .ok (.ifCond .ne 6, 3) := by decide +kernel
theorem dX11_spare_12 : decode cX11_spare 12 = .ok (.bipush (-2), 2) := by decide +kernel
theorem dX11_spare_14 : decode cX11_spare 14 = .ok (.ireturn, 1) := by decide +kernel
theorem dX11_spare_15 : decode cX11_spare 15 = .ok (.iconst 1, 1) := by decide +kernel
theorem dX11_spare_16 : decode cX11_spare 16 = .ok (.istore_n 2, 1) := by decide +kernel
theorem dX11_spare_17 : decode cX11_spare 17 = .ok (.iload_n 2, 1) := by decide +kernel
theorem dX11_spare_18 : decode cX11_spare 18 = .ok (.iconst 4, 1) := by decide +kernel
theorem dX11_spare_19 : decode cX11_spare 19 = .ok (.if_icmp .gt 64, 3) := by decide +kernel
theorem dX11_spare_22 : decode cX11_spare 22 = .ok (.iload_n 1, 1) := by decide +kernel
theorem dX11_spare_23 : decode cX11_spare 23 = .ok (.iload_n 2, 1) := by decide +kernel
theorem dX11_spare_24 : decode cX11_spare 24 = .ok (.iconst 1, 1) := by decide +kernel
theorem dX11_spare_25 : decode cX11_spare 25 = .ok (.isub, 1) := by decide +kernel
theorem dX11_spare_26 : decode cX11_spare 26 = .ok (.invokestatic 343, 3) := by decide +kernel
theorem dX11_spare_29 : decode cX11_spare 29 = .ok (.ifCond .ne 6, 3) := by decide +kernel
theorem dX11_spare_32 : decode cX11_spare 32 = .ok (.goto 45, 3) := by decide +kernel
theorem dX11_spare_35 : decode cX11_spare 35 = .ok (.aload_n 0, 1) := by decide +kernel
theorem dX11_spare_36 : decode cX11_spare 36 = .ok (.aload_n 0, 1) := by decide +kernel
theorem dX11_spare_37 : decode cX11_spare 37 = .ok (.getfield 107, 3) := by decide +kernel
theorem dX11_spare_40 : decode cX11_spare 40 = .ok (.iload_n 2, 1) := by decide +kernel
theorem dX11_spare_41 : decode cX11_spare 41 = .ok (.invokevirtual 315, 3) := by decide +kernel
theorem dX11_spare_44 : decode cX11_spare 44 = .ok (.ifCond .ne 5, 3) := by decide +kernel
theorem dX11_spare_47 : decode cX11_spare 47 = .ok (.iconst 0, 1) := by decide +kernel
theorem dX11_spare_48 : decode cX11_spare 48 = .ok (.ireturn, 1) := by decide +kernel
theorem dX11_spare_49 : decode cX11_spare 49 = .ok (.aload_n 0, 1) := by decide +kernel
theorem dX11_spare_50 : decode cX11_spare 50 = .ok (.getfield 85, 3) := by decide +kernel
theorem dX11_spare_53 : decode cX11_spare 53 = .ok (.iconst 2, 1) := by decide +kernel
theorem dX11_spare_54 : decode cX11_spare 54 = .ok (.iload_n 2, 1) := by decide +kernel
theorem dX11_spare_55 : decode cX11_spare 55 = .ok (.imul, 1) := by decide +kernel
theorem dX11_spare_56 : decode cX11_spare 56 = .ok (.iconst 2, 1) := by decide +kernel
theorem dX11_spare_57 : decode cX11_spare 57 = .ok (.isub, 1) := by decide +kernel
theorem dX11_spare_58 : decode cX11_spare 58 = .ok (.aload_n 0, 1) := by decide +kernel
theorem dX11_spare_59 : decode cX11_spare 59 = .ok (.getfield 283, 3) := by decide +kernel
theorem dX11_spare_62 : decode cX11_spare 62 = .ok (.lastore, 1) := by decide +kernel
theorem dX11_spare_63 : decode cX11_spare 63 = .ok (.aload_n 0, 1) := by decide +kernel
theorem dX11_spare_64 : decode cX11_spare 64 = .ok (.getfield 85, 3) := by decide +kernel
theorem dX11_spare_67 : decode cX11_spare 67 = .ok (.iconst 2, 1) := by decide +kernel
theorem dX11_spare_68 : decode cX11_spare 68 = .ok (.iload_n 2, 1) := by decide +kernel
theorem dX11_spare_69 : decode cX11_spare 69 = .ok (.imul, 1) := by decide +kernel
theorem dX11_spare_70 : decode cX11_spare 70 = .ok (.iconst 1, 1) := by decide +kernel
theorem dX11_spare_71 : decode cX11_spare 71 = .ok (.isub, 1) := by decide +kernel
theorem dX11_spare_72 : decode cX11_spare 72 = .ok (.aload_n 0, 1) := by decide +kernel
theorem dX11_spare_73 : decode cX11_spare 73 = .ok (.getfield 286, 3) := by decide +kernel
theorem dX11_spare_76 : decode cX11_spare 76 = .ok (.lastore, 1) := by decide +kernel
theorem dX11_spare_77 : decode cX11_spare 77 = .ok (.iinc 2 1, 3) := by decide +kernel
theorem dX11_spare_80 : decode cX11_spare 80 = .ok (.goto (-63), 3) := by decide +kernel
theorem dX11_spare_83 : decode cX11_spare 83 = .ok (.iconst 0, 1) := by decide +kernel
theorem dX11_spare_84 : decode cX11_spare 84 = .ok (.istore_n 2, 1) := by decide +kernel
theorem dX11_spare_85 : decode cX11_spare 85 = .ok (.iconst 0, 1) := by decide +kernel
theorem dX11_spare_86 : decode cX11_spare 86 = .ok (.istore_n 3, 1) := by decide +kernel
theorem dX11_spare_87 : decode cX11_spare 87 = .ok (.iload_n 3, 1) := by decide +kernel
theorem dX11_spare_88 : decode cX11_spare 88 = .ok (.aload_n 0, 1) := by decide +kernel
theorem dX11_spare_89 : decode cX11_spare 89 = .ok (.getfield 107, 3) := by decide +kernel
theorem dX11_spare_92 : decode cX11_spare 92 = .ok (.if_icmp .ge 28, 3) := by decide +kernel
theorem dX11_spare_95 : decode cX11_spare 95 = .ok (.iload_n 2, 1) := by decide +kernel
theorem dX11_spare_96 : decode cX11_spare 96 = .ok (.aload_n 0, 1) := by decide +kernel
theorem dX11_spare_97 : decode cX11_spare 97 = .ok (.iload_n 3, 1) := by decide +kernel
theorem dX11_spare_98 : decode cX11_spare 98 = .ok (.iload_n 1, 1) := by decide +kernel
theorem dX11_spare_99 : decode cX11_spare 99 = .ok (.invokevirtual 421, 3) := by decide +kernel
theorem dX11_spare_102 : decode cX11_spare 102 = .ok (.ifCond .eq 9, 3) := by decide +kernel
theorem dX11_spare_105 : decode cX11_spare 105 = .ok (.iconst 1, 1) := by decide +kernel
theorem dX11_spare_106 : decode cX11_spare 106 = .ok (.iload_n 3, 1) := by decide +kernel
theorem dX11_spare_107 : decode cX11_spare 107 = .ok (.ishl, 1) := by decide +kernel
theorem dX11_spare_108 : decode cX11_spare 108 = .ok (.goto 4, 3) := by decide +kernel
theorem dX11_spare_111 : decode cX11_spare 111 = .ok (.iconst 0, 1) := by decide +kernel
theorem dX11_spare_112 : decode cX11_spare 112 = .ok (.ior, 1) := by decide +kernel
theorem dX11_spare_113 : decode cX11_spare 113 = .ok (.istore_n 2, 1) := by decide +kernel
theorem dX11_spare_114 : decode cX11_spare 114 = .ok (.iinc 3 1, 3) := by decide +kernel
theorem dX11_spare_117 : decode cX11_spare 117 = .ok (.goto (-30), 3) := by decide +kernel
theorem dX11_spare_120 : decode cX11_spare 120 = .ok (.iload_n 2, 1) := by decide +kernel
theorem dX11_spare_121 : decode cX11_spare 121 = .ok (.ireturn, 1) := by decide +kernel
theorem dX11_look_0 : decode cX11_look 0 = .ok (.iconst 0, 1) := by decide +kernel
theorem dX11_look_1 : decode cX11_look 1 = .ok (.istore_n 2, 1) := by decide +kernel
theorem dX11_look_2 : decode cX11_look 2 = .ok (.iconst 0, 1) := by decide +kernel
theorem dX11_look_3 : decode cX11_look 3 = .ok (.istore_n 3, 1) := by decide +kernel
theorem dX11_look_4 : decode cX11_look 4 = .ok (.iconst 0, 1) := by decide +kernel
theorem dX11_look_5 : decode cX11_look 5 = .ok (.istore 4, 2) := by decide +kernel
theorem dX11_look_7 : decode cX11_look 7 = .ok (.iconst 0, 1) := by decide +kernel
theorem dX11_look_8 : decode cX11_look 8 = .ok (.istore 5, 2) := by decide +kernel
theorem dX11_look_10 : decode cX11_look 10 = .ok (.iload 5, 2) := by decide +kernel
theorem dX11_look_12 : decode cX11_look 12 = .ok (.aload_n 0, 1) := by decide +kernel
theorem dX11_look_13 : decode cX11_look 13 = .ok (.getfield 107, 3) := by decide +kernel
theorem dX11_look_16 : decode cX11_look 16 = .ok (.if_icmp .ge 77, 3) := by decide +kernel
theorem dX11_look_19 : decode cX11_look 19 = .ok (.iload_n 2, 1) := by decide +kernel
theorem dX11_look_20 : decode cX11_look 20 = .ok (.iconst 1, 1) := by decide +kernel
theorem dX11_look_21 : decode cX11_look 21 = .ok (.aload_n 0, 1) := by decide +kernel
theorem dX11_look_22 : decode cX11_look 22 = .ok (.getfield 20, 3) := by decide +kernel
theorem dX11_look_25 : decode cX11_look 25 = .ok (.iload 5, 2) := by decide +kernel
theorem dX11_look_27 : decode cX11_look 27 = .ok (.iaload, 1) := by decide +kernel
theorem dX11_look_28 : decode cX11_look 28 = .ok (.ishl, 1) := by decide +kernel
theorem dX11_look_29 : decode cX11_look 29 = .ok (.ior, 1) := by decide +kernel
theorem dX11_look_30 : decode cX11_look 30 = .ok (.istore_n 2, 1) := by decide +kernel
theorem dX11_look_31 : decode cX11_look 31 = .ok (.iload_n 3, 1) := by decide +kernel
theorem dX11_look_32 : decode cX11_look 32 = .ok (.aload_n 0, 1) := by decide +kernel
theorem dX11_look_33 : decode cX11_look 33 = .ok (.getfield 26, 3) := by decide +kernel
theorem dX11_look_36 : decode cX11_look 36 = .ok (.iload 5, 2) := by decide +kernel
theorem dX11_look_38 : decode cX11_look 38 = .ok (.iaload, 1) := by decide +kernel
theorem dX11_look_39 : decode cX11_look 39 = .ok (.ifCond .ne 7, 3) := by decide +kernel
theorem dX11_look_42 : decode cX11_look 42 = .ok (.iconst 1, 1) := by decide +kernel
theorem dX11_look_43 : decode cX11_look 43 = .ok (.goto 4, 3) := by decide +kernel
theorem dX11_look_46 : decode cX11_look 46 = .ok (.iconst 0, 1) := by decide +kernel
theorem dX11_look_47 : decode cX11_look 47 = .ok (.invokestatic 110, 3) := by decide +kernel
theorem dX11_look_50 : decode cX11_look 50 = .ok (.iadd, 1) := by decide +kernel
theorem dX11_look_51 : decode cX11_look 51 = .ok (.istore_n 3, 1) := by decide +kernel
theorem dX11_look_52 : decode cX11_look 52 = .ok (.iload 4, 2) := by decide +kernel
theorem dX11_look_54 : decode cX11_look 54 = .ok (.aload_n 0, 1) := by decide +kernel
theorem dX11_look_55 : decode cX11_look 55 = .ok (.getfield 23, 3) := by decide +kernel
theorem dX11_look_58 : decode cX11_look 58 = .ok (.iload 5, 2) := by decide +kernel
theorem dX11_look_60 : decode cX11_look 60 = .ok (.iaload, 1) := by decide +kernel
theorem dX11_look_61 : decode cX11_look 61 = .ok (.iconst 1, 1) := by decide +kernel
theorem dX11_look_62 : decode cX11_look 62 = .ok (.if_icmp .ne 18, 3) := by decide +kernel
theorem dX11_look_65 : decode cX11_look 65 = .ok (.aload_n 0, 1) := by decide +kernel
theorem dX11_look_66 : decode cX11_look 66 = .ok (.getfield 26, 3) := by decide +kernel
theorem dX11_look_69 : decode cX11_look 69 = .ok (.iload 5, 2) := by decide +kernel
theorem dX11_look_71 : decode cX11_look 71 = .ok (.iaload, 1) := by decide +kernel
theorem dX11_look_72 : decode cX11_look 72 = .ok (.iconst 1, 1) := by decide +kernel
theorem dX11_look_73 : decode cX11_look 73 = .ok (.if_icmp .ne 7, 3) := by decide +kernel
theorem dX11_look_76 : decode cX11_look 76 = .ok (.iconst 1, 1) := by decide +kernel
theorem dX11_look_77 : decode cX11_look 77 = .ok (.goto 4, 3) := by decide +kernel
theorem dX11_look_80 : decode cX11_look 80 = .ok (.iconst 0, 1) := by decide +kernel
theorem dX11_look_81 : decode cX11_look 81 = .ok (.invokestatic 110, 3) := by decide +kernel
theorem dX11_look_84 : decode cX11_look 84 = .ok (.iadd, 1) := by decide +kernel
theorem dX11_look_85 : decode cX11_look 85 = .ok (.istore 4, 2) := by decide +kernel
theorem dX11_look_87 : decode cX11_look 87 = .ok (.iinc 5 1, 3) := by decide +kernel
theorem dX11_look_90 : decode cX11_look 90 = .ok (.goto (-80), 3) := by decide +kernel
theorem dX11_look_93 : decode cX11_look 93 = .ok (.iload_n 1, 1) := by decide +kernel
theorem dX11_look_94 : decode cX11_look 94 = .ok (.tableswitch 72 0 6 #[42, 47, 49, 57, 62, 67, 69], 42) := by decide +kernel
theorem dX11_look_136 : decode cX11_look 136 = .ok (.aload_n 0, 1) := by decide +kernel
theorem dX11_look_137 : decode cX11_look 137 = .ok (.getfield 107, 3) := by decide +kernel
theorem dX11_look_140 : decode cX11_look 140 = .ok (.ireturn, 1) := by decide +kernel
theorem dX11_look_141 : decode cX11_look 141 = .ok (.iload_n 2, 1) := by decide +kernel
theorem dX11_look_142 : decode cX11_look 142 = .ok (.ireturn, 1) := by decide +kernel
theorem dX11_look_143 : decode cX11_look 143 = .ok (.aload_n 0, 1) := by decide +kernel
theorem dX11_look_144 : decode cX11_look 144 = .ok (.invokevirtual 148, 3) := by decide +kernel
theorem dX11_look_147 : decode cX11_look 147 = .ok (.invokestatic 110, 3) := by decide +kernel
theorem dX11_look_150 : decode cX11_look 150 = .ok (.ireturn, 1) := by decide +kernel
theorem dX11_look_151 : decode cX11_look 151 = .ok (.aload_n 0, 1) := by decide +kernel
theorem dX11_look_152 : decode cX11_look 152 = .ok (.getfield 114, 3) := by decide +kernel
theorem dX11_look_155 : decode cX11_look 155 = .ok (.ireturn, 1) := by decide +kernel
theorem dX11_look_156 : decode cX11_look 156 = .ok (.aload_n 0, 1) := by decide +kernel
theorem dX11_look_157 : decode cX11_look 157 = .ok (.getfield 152, 3) := by decide +kernel
theorem dX11_look_160 : decode cX11_look 160 = .ok (.ireturn, 1) := by decide +kernel
theorem dX11_look_161 : decode cX11_look 161 = .ok (.iload_n 3, 1) := by decide +kernel
theorem dX11_look_162 : decode cX11_look 162 = .ok (.ireturn, 1) := by decide +kernel
theorem dX11_look_163 : decode cX11_look 163 = .ok (.iload 4, 2) := by decide +kernel
theorem dX11_look_165 : decode cX11_look 165 = .ok (.ireturn, 1) := by decide +kernel
theorem dX11_look_166 : decode cX11_look 166 = .ok (.iconst (-1), 1) := by decide +kernel
theorem dX11_look_167 : decode cX11_look 167 = .ok (.ireturn, 1) := by decide +kernel
theorem dJxe99ae_isNaN_b9ae7_0 : decode cJxe99ae_isNaN_b9ae7 0 = .ok (.dload_n 0, 1) := by decide +kernel
theorem dJxe99ae_isNaN_b9ae7_1 : decode cJxe99ae_isNaN_b9ae7 1 = .ok (.dload_n 0, 1) := by decide +kernel
theorem dJxe99ae_isNaN_b9ae7_2 : decode cJxe99ae_isNaN_b9ae7 2 = .ok (.dcmp .l, 1) := by decide +kernel
theorem dJxe99ae_isNaN_b9ae7_3 : decode cJxe99ae_isNaN_b9ae7 3 = .ok (.ifCond .eq 7, 3) := by decide +kernel
theorem dJxe99ae_isNaN_b9ae7_6 : decode cJxe99ae_isNaN_b9ae7 6 = .ok (.iconst 1, 1) := by decide +kernel
theorem dJxe99ae_isNaN_b9ae7_7 : decode cJxe99ae_isNaN_b9ae7 7 = .ok (.goto 4, 3) := by decide +kernel
theorem dJxe99ae_isNaN_b9ae7_10 : decode cJxe99ae_isNaN_b9ae7 10 = .ok (.iconst 0, 1) := by decide +kernel
theorem dJxe99ae_isNaN_b9ae7_11 : decode cJxe99ae_isNaN_b9ae7 11 = .ok (.ireturn, 1) := by decide +kernel
theorem dJxe99ae_doubleToLongBits_ccdee_0 : decode cJxe99ae_doubleToLongBits_ccdee 0 = .ok (.dload_n 0, 1) := by decide +kernel
theorem dJxe99ae_doubleToLongBits_ccdee_1 : decode cJxe99ae_doubleToLongBits_ccdee 1 = .ok (.invokestatic 122, 3) := by decide +kernel
theorem dJxe99ae_doubleToLongBits_ccdee_4 : decode cJxe99ae_doubleToLongBits_ccdee 4 = .ok (.ifCond .ne 8, 3) := by decide +kernel
theorem dJxe99ae_doubleToLongBits_ccdee_7 : decode cJxe99ae_doubleToLongBits_ccdee 7 = .ok (.dload_n 0, 1) := by decide +kernel
theorem dJxe99ae_doubleToLongBits_ccdee_8 : decode cJxe99ae_doubleToLongBits_ccdee 8 = .ok (.invokestatic 134, 3) := by decide +kernel
theorem dJxe99ae_doubleToLongBits_ccdee_11 : decode cJxe99ae_doubleToLongBits_ccdee 11 = .ok (.lreturn, 1) := by decide +kernel
theorem dJxe99ae_doubleToLongBits_ccdee_12 : decode cJxe99ae_doubleToLongBits_ccdee 12 = .ok (.ldc2_w 137, 3) := by decide +kernel
theorem dJxe99ae_doubleToLongBits_ccdee_15 : decode cJxe99ae_doubleToLongBits_ccdee 15 = .ok (.lreturn, 1) := by decide +kernel
theorem dJxf58ca_isNaN_12338_0 : decode cJxf58ca_isNaN_12338 0 = .ok (.fload_n 0, 1) := by decide +kernel
theorem dJxf58ca_isNaN_12338_1 : decode cJxf58ca_isNaN_12338 1 = .ok (.fload_n 0, 1) := by decide +kernel
theorem dJxf58ca_isNaN_12338_2 : decode cJxf58ca_isNaN_12338 2 = .ok (.fcmp .l, 1) := by decide +kernel
theorem dJxf58ca_isNaN_12338_3 : decode cJxf58ca_isNaN_12338 3 = .ok (.ifCond .eq 7, 3) := by decide +kernel
theorem dJxf58ca_isNaN_12338_6 : decode cJxf58ca_isNaN_12338 6 = .ok (.iconst 1, 1) := by decide +kernel
theorem dJxf58ca_isNaN_12338_7 : decode cJxf58ca_isNaN_12338 7 = .ok (.goto 4, 3) := by decide +kernel
theorem dJxf58ca_isNaN_12338_10 : decode cJxf58ca_isNaN_12338 10 = .ok (.iconst 0, 1) := by decide +kernel
theorem dJxf58ca_isNaN_12338_11 : decode cJxf58ca_isNaN_12338 11 = .ok (.ireturn, 1) := by decide +kernel
theorem dJxf58ca_floatToIntBits_5c35a_0 : decode cJxf58ca_floatToIntBits_5c35a 0 = .ok (.fload_n 0, 1) := by decide +kernel
theorem dJxf58ca_floatToIntBits_5c35a_1 : decode cJxf58ca_floatToIntBits_5c35a 1 = .ok (.invokestatic 59, 3) := by decide +kernel
theorem dJxf58ca_floatToIntBits_5c35a_4 : decode cJxf58ca_floatToIntBits_5c35a 4 = .ok (.ifCond .ne 8, 3) := by decide +kernel
theorem dJxf58ca_floatToIntBits_5c35a_7 : decode cJxf58ca_floatToIntBits_5c35a 7 = .ok (.fload_n 0, 1) := by decide +kernel
theorem dJxf58ca_floatToIntBits_5c35a_8 : decode cJxf58ca_floatToIntBits_5c35a 8 = .ok (.invokestatic 74, 3) := by decide +kernel
theorem dJxf58ca_floatToIntBits_5c35a_11 : decode cJxf58ca_floatToIntBits_5c35a 11 = .ok (.ireturn, 1) := by decide +kernel
theorem dJxf58ca_floatToIntBits_5c35a_12 : decode cJxf58ca_floatToIntBits_5c35a 12 = .ok (.ldc 77, 2) := by decide +kernel
theorem dJxf58ca_floatToIntBits_5c35a_14 : decode cJxf58ca_floatToIntBits_5c35a 14 = .ok (.ireturn, 1) := by decide +kernel
theorem dJ6_numberOfTrailingZeros_0f7a4_0 : decode cJ6_numberOfTrailingZeros_0f7a4 0 = .ok (.iload_n 0, 1) := by decide +kernel
theorem dJ6_numberOfTrailingZeros_0f7a4_1 : decode cJ6_numberOfTrailingZeros_0f7a4 1 = .ok (.iconst (-1), 1) := by decide +kernel
theorem dJ6_numberOfTrailingZeros_0f7a4_2 : decode cJ6_numberOfTrailingZeros_0f7a4 2 = .ok (.ixor, 1) := by decide +kernel
