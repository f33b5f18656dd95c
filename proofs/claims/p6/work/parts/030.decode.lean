theorem dX0_init_0 : decode cX0_init 0 = .ok (.aload_n 0, 1) := by decide +kernel
theorem dX0_init_1 : decode cX0_init 1 = .ok (.invokespecial 3, 3) := by decide +kernel
theorem dX0_init_4 : decode cX0_init 4 = .ok (.aload_n 0, 1) := by decide +kernel
theorem dX0_init_5 : decode cX0_init 5 = .ok (.lconst 0, 1) := by decide +kernel
theorem dX0_init_6 : decode cX0_init 6 = .ok (.putfield 9, 3) := by decide +kernel
theorem dX0_init_9 : decode cX0_init 9 = .ok (.aload_n 0, 1) := by decide +kernel
theorem dX0_init_10 : decode cX0_init 10 = .ok (.lconst 1, 1) := by decide +kernel
theorem dX0_init_11 : decode cX0_init 11 = .ok (.putfield 15, 3) := by decide +kernel
theorem dX0_init_14 : decode cX0_init 14 = .ok (.return_, 1) := by decide +kernel
theorem dX0_set_0 : decode cX0_set 0 = .ok (.aload_n 0, 1) := by decide +kernel
theorem dX0_set_1 : decode cX0_set 1 = .ok (.lload_n 1, 1) := by decide +kernel
theorem dX0_set_2 : decode cX0_set 2 = .ok (.putfield 9, 3) := by decide +kernel
theorem dX0_set_5 : decode cX0_set 5 = .ok (.aload_n 0, 1) := by decide +kernel
theorem dX0_set_6 : decode cX0_set 6 = .ok (.lload_n 3, 1) := by decide +kernel
theorem dX0_set_7 : decode cX0_set 7 = .ok (.putfield 15, 3) := by decide +kernel
theorem dX0_set_10 : decode cX0_set 10 = .ok (.return_, 1) := by decide +kernel
theorem dX0_copyOf_0 : decode cX0_copyOf 0 = .ok (.aload_n 0, 1) := by decide +kernel
theorem dX0_copyOf_1 : decode cX0_copyOf 1 = .ok (.aload_n 1, 1) := by decide +kernel
theorem dX0_copyOf_2 : decode cX0_copyOf 2 = .ok (.getfield 9, 3) := by decide +kernel
theorem dX0_copyOf_5 : decode cX0_copyOf 5 = .ok (.putfield 9, 3) := by decide +kernel
theorem dX0_copyOf_8 : decode cX0_copyOf 8 = .ok (.aload_n 0, 1) := by decide +kernel
theorem dX0_copyOf_9 : decode cX0_copyOf 9 = .ok (.aload_n 1, 1) := by decide +kernel
theorem dX0_copyOf_10 : decode cX0_copyOf 10 = .ok (.getfield 15, 3) := by decide +kernel
theorem dX0_copyOf_13 : decode cX0_copyOf 13 = .ok (.putfield 15, 3) := by decide +kernel
theorem dX0_copyOf_16 : decode cX0_copyOf 16 = .ok (.return_, 1) := by decide +kernel
theorem dX0_lower_0 : decode cX0_lower 0 = .ok (.aload_n 0, 1) := by decide +kernel
theorem dX0_lower_1 : decode cX0_lower 1 = .ok (.getfield 9, 3) := by decide +kernel
theorem dX0_lower_4 : decode cX0_lower 4 = .ok (.aload_n 0, 1) := by decide +kernel
theorem dX0_lower_5 : decode cX0_lower 5 = .ok (.getfield 15, 3) := by decide +kernel
theorem dX0_lower_8 : decode cX0_lower 8 = .ok (.invokestatic 18, 3) := by decide +kernel
theorem dX0_lower_11 : decode cX0_lower 11 = .ok (.lstore_n 1, 1) := by decide +kernel
theorem dX0_lower_12 : decode cX0_lower 12 = .ok (.lload_n 1, 1) := by decide +kernel
theorem dX0_lower_13 : decode cX0_lower 13 = .ok (.lconst 1, 1) := by decide +kernel
theorem dX0_lower_14 : decode cX0_lower 14 = .ok (.lcmp, 1) := by decide +kernel
theorem dX0_lower_15 : decode cX0_lower 15 = .ok (.ifCond .le 23, 3) := by decide +kernel
theorem dX0_lower_18 : decode cX0_lower 18 = .ok (.aload_n 0, 1) := by decide +kernel
theorem dX0_lower_19 : decode cX0_lower 19 = .ok (.dup, 1) := by decide +kernel
theorem dX0_lower_20 : decode cX0_lower 20 = .ok (.getfield 9, 3) := by decide +kernel
theorem dX0_lower_23 : decode cX0_lower 23 = .ok (.lload_n 1, 1) := by decide +kernel
theorem dX0_lower_24 : decode cX0_lower 24 = .ok (.ldiv, 1) := by decide +kernel
theorem dX0_lower_25 : decode cX0_lower 25 = .ok (.putfield 9, 3) := by decide +kernel
theorem dX0_lower_28 : decode cX0_lower 28 = .ok (.aload_n 0, 1) := by decide +kernel
theorem dX0_lower_29 : decode cX0_lower 29 = .ok (.dup, 1) := by decide +kernel
theorem dX0_lower_30 : decode cX0_lower 30 = .ok (.getfield 15, 3) := by decide +kernel
theorem dX0_lower_33 : decode cX0_lower 33 = .ok (.lload_n 1, 1) := by decide +kernel
theorem dX0_lower_34 : decode cX0_lower 34 = .ok (.ldiv, 1) := by decide +kernel
theorem dX0_lower_35 : decode cX0_lower 35 = .ok (.putfield 15, 3) := by decide +kernel
theorem dX0_lower_38 : decode cX0_lower 38 = .ok (.return_, 1) := by decide +kernel
theorem dX0_compareWith_0 : decode cX0_compareWith 0 = .ok (.aload_n 0, 1) := by decide +kernel
theorem dX0_compareWith_1 : decode cX0_compareWith 1 = .ok (.getfield 9, 3) := by decide +kernel
theorem dX0_compareWith_4 : decode cX0_compareWith 4 = .ok (.lstore_n 2, 1) := by decide +kernel
theorem dX0_compareWith_5 : decode cX0_compareWith 5 = .ok (.aload_n 0, 1) := by decide +kernel
theorem dX0_compareWith_6 : decode cX0_compareWith 6 = .ok (.getfield 15, 3) := by decide +kernel
theorem dX0_compareWith_9 : decode cX0_compareWith 9 = .ok (.lstore 4, 2) := by decide +kernel
theorem dX0_compareWith_11 : decode cX0_compareWith 11 = .ok (.aload_n 1, 1) := by decide +kernel
theorem dX0_compareWith_12 : decode cX0_compareWith 12 = .ok (.getfield 9, 3) := by decide +kernel
theorem dX0_compareWith_15 : decode cX0_compareWith 15 = .ok (.lstore 6, 2) := by decide +kernel
theorem dX0_compareWith_17 : decode cX0_compareWith 17 = .ok (.aload_n 1, 1) := by decide +kernel
theorem dX0_compareWith_18 : decode cX0_compareWith 18 = .ok (.getfield 15, 3) := by decide +kernel
theorem dX0_compareWith_21 : decode cX0_compareWith 21 = .ok (.lstore 8, 2) := by decide +kernel
theorem dX0_compareWith_23 : decode cX0_compareWith 23 = .ok (.iconst 0, 1) := by decide +kernel
theorem dX0_compareWith_24 : decode cX0_compareWith 24 = .ok (.istore 10, 2) := by decide +kernel
theorem dX0_compareWith_26 : decode cX0_compareWith 26 = .ok (.iload 10, 2) := by decide +kernel
theorem dX0_compareWith_28 : decode cX0_compareWith 28 = .ok (.sipush 200, 3) := by decide +kernel
theorem dX0_compareWith_31 : decode cX0_compareWith 31 = .ok (.if_icmp .ge 108, 3) := by decide +kernel
theorem dX0_compareWith_34 : decode cX0_compareWith 34 = .ok (.lload 4, 2) := by decide +kernel
theorem dX0_compareWith_36 : decode cX0_compareWith 36 = .ok (.lconst 0, 1) := by decide +kernel
theorem dX0_compareWith_37 : decode cX0_compareWith 37 = .ok (.lcmp, 1) := by decide +kernel
theorem dX0_compareWith_38 : decode cX0_compareWith 38 = .ok (.ifCond .le 101, 3) := by decide +kernel
theorem dX0_compareWith_41 : decode cX0_compareWith 41 = .ok (.lload 8, 2) := by decide +kernel
theorem dX0_compareWith_43 : decode cX0_compareWith 43 = .ok (.lconst 0, 1) := by decide +kernel
theorem dX0_compareWith_44 : decode cX0_compareWith 44 = .ok (.lcmp, 1) := by decide +kernel
theorem dX0_compareWith_45 : decode cX0_compareWith 45 = .ok (.ifCond .le 94, 3) := by decide +kernel
theorem dX0_compareWith_48 : decode cX0_compareWith 48 = .ok (.lload_n 2, 1) := by decide +kernel
theorem dX0_compareWith_49 : decode cX0_compareWith 49 = .ok (.lload 4, 2) := by decide +kernel
theorem dX0_compareWith_51 : decode cX0_compareWith 51 = .ok (.ldiv, 1) := by decide +kernel
theorem dX0_compareWith_52 : decode cX0_compareWith 52 = .ok (.lstore 11, 2) := by decide +kernel
theorem dX0_compareWith_54 : decode cX0_compareWith 54 = .ok (.lload 6, 2) := by decide +kernel
theorem dX0_compareWith_56 : decode cX0_compareWith 56 = .ok (.lload 8, 2) := by decide +kernel
theorem dX0_compareWith_58 : decode cX0_compareWith 58 = .ok (.ldiv, 1) := by decide +kernel
theorem dX0_compareWith_59 : decode cX0_compareWith 59 = .ok (.lstore 13, 2) := by decide +kernel
theorem dX0_compareWith_61 : decode cX0_compareWith 61 = .ok (.lload 11, 2) := by decide +kernel
theorem dX0_compareWith_63 : decode cX0_compareWith 63 = .ok (.lload 13, 2) := by decide +kernel
theorem dX0_compareWith_65 : decode cX0_compareWith 65 = .ok (.lcmp, 1) := by decide +kernel
theorem dX0_compareWith_66 : decode cX0_compareWith 66 = .ok (.ifCond .eq 17, 3) := by decide +kernel
theorem dX0_compareWith_69 : decode cX0_compareWith 69 = .ok (.lload 11, 2) := by decide +kernel
theorem dX0_compareWith_71 : decode cX0_compareWith 71 = .ok (.lload 13, 2) := by decide +kernel
theorem dX0_compareWith_73 : decode cX0_compareWith 73 = .ok (.lcmp, 1) := by decide +kernel
theorem dX0_compareWith_74 : decode cX0_compareWith 74 = .ok (.ifCond .ge 7, 3) := by decide +kernel
theorem dX0_compareWith_77 : decode cX0_compareWith 77 = .ok (.iconst (-1), 1) := by decide +kernel
theorem dX0_compareWith_78 : decode cX0_compareWith 78 = .ok (.goto 4, 3) := by decide +kernel
theorem dX0_compareWith_81 : decode cX0_compareWith 81 = .ok (.iconst 1, 1) := by decide +kernel
theorem dX0_compareWith_82 : decode cX0_compareWith 82 = .ok (.ireturn, 1) := by decide +kernel
theorem dX0_compareWith_83 : decode cX0_compareWith 83 = .ok (.lload_n 2, 1) := by decide +kernel
theorem dX0_compareWith_84 : decode cX0_compareWith 84 = .ok (.lload 4, 2) := by decide +kernel
theorem dX0_compareWith_86 : decode cX0_compareWith 86 = .ok (.lrem, 1) := by decide +kernel
theorem dX0_compareWith_87 : decode cX0_compareWith 87 = .ok (.lstore 15, 2) := by decide +kernel
theorem dX0_compareWith_89 : decode cX0_compareWith 89 = .ok (.lload 6, 2) := by decide +kernel
theorem dX0_compareWith_91 : decode cX0_compareWith 91 = .ok (.lload 8, 2) := by decide +kernel
theorem dX0_compareWith_93 : decode cX0_compareWith 93 = .ok (.lrem, 1) := by decide +kernel
theorem dX0_compareWith_94 : decode cX0_compareWith 94 = .ok (.lstore 17, 2) := by decide +kernel
theorem dX0_compareWith_96 : decode cX0_compareWith 96 = .ok (.lload 15, 2) := by decide +kernel
theorem dX0_compareWith_98 : decode cX0_compareWith 98 = .ok (.lconst 0, 1) := by decide +kernel
theorem dX0_compareWith_99 : decode cX0_compareWith 99 = .ok (.lcmp, 1) := by decide +kernel
theorem dX0_compareWith_100 : decode cX0_compareWith 100 = .ok (.ifCond .eq 10, 3) := by decide +kernel
theorem dX0_compareWith_103 : decode cX0_compareWith 103 = .ok (.lload 17, 2) := by decide +kernel
theorem dX0_compareWith_105 : decode cX0_compareWith 105 = .ok (.lconst 0, 1) := by decide +kernel
theorem dX0_compareWith_106 : decode cX0_compareWith 106 = .ok (.lcmp, 1) := by decide +kernel
theorem dX0_compareWith_107 : decode cX0_compareWith 107 = .ok (.ifCond .ne 11, 3) := by decide +kernel
theorem dX0_compareWith_110 : decode cX0_compareWith 110 = .ok (.lload 15, 2) := by decide +kernel
theorem dX0_compareWith_112 : decode cX0_compareWith 112 = .ok (.lload 17, 2) := by decide +kernel
theorem dX0_compareWith_114 : decode cX0_compareWith 114 = .ok (.invokestatic 22, 3) := by decide +kernel
theorem dX0_compareWith_117 : decode cX0_compareWith 117 = .ok (.ireturn, 1) := by decide +kernel
theorem dX0_compareWith_118 : decode cX0_compareWith 118 = .ok (.lload 8, 2) := by decide +kernel
theorem dX0_compareWith_120 : decode cX0_compareWith 120 = .ok (.lstore_n 2, 1) := by decide +kernel
theorem dX0_compareWith_121 : decode cX0_compareWith 121 = .ok (.lload 4, 2) := by decide +kernel
theorem dX0_compareWith_123 : decode cX0_compareWith 123 = .ok (.lstore 6, 2) := by decide +kernel
theorem dX0_compareWith_125 : decode cX0_compareWith 125 = .ok (.lload 17, 2) := by decide +kernel
theorem dX0_compareWith_127 : decode cX0_compareWith 127 = .ok (.lstore 4, 2) := by decide +kernel
theorem dX0_compareWith_129 : decode cX0_compareWith 129 = .ok (.lload 15, 2) := by decide +kernel
theorem dX0_compareWith_131 : decode cX0_compareWith 131 = .ok (.lstore 8, 2) := by decide +kernel
theorem dX0_compareWith_133 : decode cX0_compareWith 133 = .ok (.iinc 10 1, 3) := by decide +kernel
theorem dX0_compareWith_136 : decode cX0_compareWith 136 = .ok (.goto (-110), 3) := by decide +kernel
theorem dX0_compareWith_139 : decode cX0_compareWith 139 = .ok (.iconst 0, 1) := by decide +kernel
theorem dX0_compareWith_140 : decode cX0_compareWith 140 = .ok (.ireturn, 1) := by decide +kernel
theorem dX1_init_0 : decode cX1_init 0 = .ok (.aload_n 0, 1) := by decide +kernel
theorem dX1_init_1 : decode cX1_init 1 = .ok (.invokespecial 3, 3) := by decide +kernel
theorem dX1_init_4 : decode cX1_init 4 = .ok (.aload_n 0, 1) := by decide +kernel
theorem dX1_init_5 : decode cX1_init 5 = .ok (.bipush 10, 2) := by decide +kernel
theorem dX1_init_7 : decode cX1_init 7 = .ok (.anewarray 9, 3) := by decide +kernel
theorem dX1_init_10 : decode cX1_init 10 = .ok (.putfield 11, 3) := by decide +kernel
theorem dX1_init_13 : decode cX1_init 13 = .ok (.aload_n 0, 1) := by decide +kernel
theorem dX1_init_14 : decode cX1_init 14 = .ok (.bipush 10, 2) := by decide +kernel
theorem dX1_init_16 : decode cX1_init 16 = .ok (.newarray .boolean, 2) := by decide +kernel
theorem dX1_init_18 : decode cX1_init 18 = .ok (.putfield 17, 3) := by decide +kernel
theorem dX1_init_21 : decode cX1_init 21 = .ok (.aload_n 0, 1) := by decide +kernel
theorem dX1_init_22 : decode cX1_init 22 = .ok (.iconst 0, 1) := by decide +kernel
theorem dX1_init_23 : decode cX1_init 23 = .ok (.putfield 21, 3) := by decide +kernel
theorem dX1_init_26 : decode cX1_init 26 = .ok (.aload_n 0, 1) := by decide +kernel
theorem dX1_init_27 : decode cX1_init 27 = .ok (.iconst 0, 1) := by decide +kernel
theorem dX1_init_28 : decode cX1_init 28 = .ok (.putfield 25, 3) := by decide +kernel
theorem dX1_init_31 : decode cX1_init 31 = .ok (.iconst 0, 1) := by decide +kernel
theorem dX1_init_32 : decode cX1_init 32 = .ok (.istore_n 1, 1) := by decide +kernel
theorem dX1_init_33 : decode cX1_init 33 = .ok (.iload_n 1, 1) := by decide +kernel
theorem dX1_init_34 : decode cX1_init 34 = .ok (.bipush 10, 2) := by decide +kernel
theorem dX1_init_36 : decode cX1_init 36 = .ok (.if_icmp .ge 22, 3) := by decide +kernel
theorem dX1_init_39 : decode cX1_init 39 = .ok (.aload_n 0, 1) := by decide +kernel
theorem dX1_init_40 : decode cX1_init 40 = .ok (.getfield 11, 3) := by decide +kernel
theorem dX1_init_43 : decode cX1_init 43 = .ok (.iload_n 1, 1) := by decide +kernel
theorem dX1_init_44 : decode cX1_init 44 = .ok (.new 9, 3) := by decide +kernel
theorem dX1_init_47 : decode cX1_init 47 = .ok (.dup, 1) := by decide +kernel
theorem dX1_init_48 : decode cX1_init 48 = .ok (.invokespecial 28, 3) := by decide +kernel
theorem dX1_init_51 : decode cX1_init 51 = .ok (.aastore, 1) := by decide +kernel
theorem dX1_init_52 : decode cX1_init 52 = .ok (.iinc 1 1, 3) := by decide +kernel
theorem dX1_init_55 : decode cX1_init 55 = .ok (.goto (-22), 3) := by decide +kernel
theorem dX1_init_58 : decode cX1_init 58 = .ok (.return_, 1) := by decide +kernel
theorem dX1_keep_0 : decode cX1_keep 0 = .ok (.aload_n 0, 1) := by decide +kernel
theorem dX1_keep_1 : decode cX1_keep 1 = .ok (.getfield 11, 3) := by decide +kernel
theorem dX1_keep_4 : decode cX1_keep 4 = .ok (.aload_n 0, 1) := by decide +kernel
theorem dX1_keep_5 : decode cX1_keep 5 = .ok (.getfield 21, 3) := by decide +kernel
theorem dX1_keep_8 : decode cX1_keep 8 = .ok (.aaload, 1) := by decide +kernel
theorem dX1_keep_9 : decode cX1_keep 9 = .ok (.aload_n 1, 1) := by decide +kernel
theorem dX1_keep_10 : decode cX1_keep 10 = .ok (.invokevirtual 29, 3) := by decide +kernel
theorem dX1_keep_13 : decode cX1_keep 13 = .ok (.aload_n 0, 1) := by decide +kernel
theorem dX1_keep_14 : decode cX1_keep 14 = .ok (.getfield 17, 3) := by decide +kernel
theorem dX1_keep_17 : decode cX1_keep 17 = .ok (.aload_n 0, 1) := by decide +kernel
theorem dX1_keep_18 : decode cX1_keep 18 = .ok (.getfield 21, 3) := by decide +kernel
theorem dX1_keep_21 : decode cX1_keep 21 = .ok (.iload_n 2, 1) := by decide +kernel
theorem dX1_keep_22 : decode cX1_keep 22 = .ok (.bastore, 1) := by decide +kernel
theorem dX1_keep_23 : decode cX1_keep 23 = .ok (.aload_n 0, 1) := by decide +kernel
theorem dX1_keep_24 : decode cX1_keep 24 = .ok (.aload_n 0, 1) := by decide +kernel
theorem dX1_keep_25 : decode cX1_keep 25 = .ok (.getfield 21, 3) := by decide +kernel
theorem dX1_keep_28 : decode cX1_keep 28 = .ok (.iconst 1, 1) := by decide +kernel
theorem dX1_keep_29 : decode cX1_keep 29 = .ok (.iadd, 1) := by decide +kernel
theorem dX1_keep_30 : decode cX1_keep 30 = .ok (.bipush 10, 2) := by decide +kernel
theorem dX1_keep_32 : decode cX1_keep 32 = .ok (.irem, 1) := by decide +kernel
theorem dX1_keep_33 : decode cX1_keep 33 = .ok (.putfield 21, 3) := by decide +kernel
theorem dX1_keep_36 : decode cX1_keep 36 = .ok (.aload_n 0, 1) := by decide +kernel
theorem dX1_keep_37 : decode cX1_keep 37 = .ok (.aload_n 0, 1) := by decide +kernel
theorem dX1_keep_38 : decode cX1_keep 38 = .ok (.getfield 25, 3) := by decide +kernel
theorem dX1_keep_41 : decode cX1_keep 41 = .ok (.iconst 1, 1) := by decide +kernel
theorem dX1_keep_42 : decode cX1_keep 42 = .ok (.iadd, 1) := by decide +kernel
theorem dX1_keep_43 : decode cX1_keep 43 = .ok (.bipush 10, 2) := by decide +kernel
theorem dX1_keep_45 : decode cX1_keep 45 = .ok (.invokestatic 33, 3) := by decide +kernel
theorem dX1_keep_48 : decode cX1_keep 48 = .ok (.putfield 25, 3) := by decide +kernel
theorem dX1_keep_51 : decode cX1_keep 51 = .ok (.return_, 1) := by decide +kernel
theorem dX1_takeBack_0 : decode cX1_takeBack 0 = .ok (.aload_n 0, 1) := by decide +kernel
theorem dX1_takeBack_1 : decode cX1_takeBack 1 = .ok (.getfield 25, 3) := by decide +kernel
theorem dX1_takeBack_4 : decode cX1_takeBack 4 = .ok (.ifCond .ne 5, 3) := by decide +kernel
theorem dX1_takeBack_7 : decode cX1_takeBack 7 = .ok (.iconst 0, 1) := by decide +kernel
theorem dX1_takeBack_8 : decode cX1_takeBack 8 = .ok (.ireturn, 1) := by decide +kernel
theorem dX1_takeBack_9 : decode cX1_takeBack 9 = .ok (.aload_n 0, 1) := by decide +kernel
theorem dX1_takeBack_10 : decode cX1_takeBack 10 = .ok (.aload_n 0, 1) := by decide +kernel
theorem dX1_takeBack_11 : decode cX1_takeBack 11 = .ok (.getfield 21, 3) := by decide +kernel
theorem dX1_takeBack_14 : decode cX1_takeBack 14 = .ok (.bipush 10, 2) := by decide +kernel
theorem dX1_takeBack_16 : decode cX1_takeBack 16 = .ok (.iadd, 1) := by decide +kernel
theorem dX1_takeBack_17 : decode cX1_takeBack 17 = .ok (.iconst 1, 1) := by decide +kernel
theorem dX1_takeBack_18 : decode cX1_takeBack 18 = .ok (.isub, 1) := by decide +kernel
theorem dX1_takeBack_19 : decode cX1_takeBack 19 = .ok (.bipush 10, 2) := by decide +kernel
theorem dX1_takeBack_21 : decode cX1_takeBack 21 = .ok (.irem, 1) := by decide +kernel
theorem dX1_takeBack_22 : decode cX1_takeBack 22 = .ok (.putfield 21, 3) := by decide +kernel
theorem dX1_takeBack_25 : decode cX1_takeBack 25 = .ok (.aload_n 0, 1) := by decide +kernel
theorem dX1_takeBack_26 : decode cX1_takeBack 26 = .ok (.dup, 1) := by decide +kernel
theorem dX1_takeBack_27 : decode cX1_takeBack 27 = .ok (.getfield 25, 3) := by decide +kernel
theorem dX1_takeBack_30 : decode cX1_takeBack 30 = .ok (.iconst 1, 1) := by decide +kernel
theorem dX1_takeBack_31 : decode cX1_takeBack 31 = .ok (.isub, 1) := by decide +kernel
theorem dX1_takeBack_32 : decode cX1_takeBack 32 = .ok (.putfield 25, 3) := by decide +kernel
theorem dX1_takeBack_35 : decode cX1_takeBack 35 = .ok (.aload_n 1, 1) := by decide +kernel
theorem dX1_takeBack_36 : decode cX1_takeBack 36 = .ok (.aload_n 0, 1) := by decide +kernel
theorem dX1_takeBack_37 : decode cX1_takeBack 37 = .ok (.getfield 11, 3) := by decide +kernel
theorem dX1_takeBack_40 : decode cX1_takeBack 40 = .ok (.aload_n 0, 1) := by decide +kernel
theorem dX1_takeBack_41 : decode cX1_takeBack 41 = .ok (.getfield 21, 3) := by decide +kernel
theorem dX1_takeBack_44 : decode cX1_takeBack 44 = .ok (.aaload, 1) := by decide +kernel
theorem dX1_takeBack_45 : decode cX1_takeBack 45 = .ok (.invokevirtual 29, 3) := by decide +kernel
theorem dX1_takeBack_48 : decode cX1_takeBack 48 = .ok (.aload_n 0, 1) := by decide +kernel
theorem dX1_takeBack_49 : decode cX1_takeBack 49 = .ok (.getfield 17, 3) := by decide +kernel
theorem dX1_takeBack_52 : decode cX1_takeBack 52 = .ok (.aload_n 0, 1) := by decide +kernel
theorem dX1_takeBack_53 : decode cX1_takeBack 53 = .ok (.getfield 21, 3) := by decide +kernel
theorem dX1_takeBack_56 : decode cX1_takeBack 56 = .ok (.baload, 1) := by decide +kernel
theorem dX1_takeBack_57 : decode cX1_takeBack 57 = .ok (.ireturn, 1) := by decide +kernel
theorem dX2_init_0 : decode cX2_init 0 = .ok (.aload_n 0, 1) := by decide +kernel
theorem dX2_init_1 : decode cX2_init 1 = .ok (.invokespecial 3, 3) := by decide +kernel
theorem dX2_init_4 : decode cX2_init 4 = .ok (.aload_n 0, 1) := by decide +kernel
theorem dX2_init_5 : decode cX2_init 5 = .ok (.bipush 24, 2) := by decide +kernel
theorem dX2_init_7 : decode cX2_init 7 = .ok (.anewarray 9, 3) := by decide +kernel
theorem dX2_init_10 : decode cX2_init 10 = .ok (.putfield 11, 3) := by decide +kernel
theorem dX2_init_13 : decode cX2_init 13 = .ok (.aload_n 0, 1) := by decide +kernel
theorem dX2_init_14 : decode cX2_init 14 = .ok (.bipush 25, 2) := by decide +kernel
theorem dX2_init_16 : decode cX2_init 16 = .ok (.anewarray 9, 3) := by decide +kernel
theorem dX2_init_19 : decode cX2_init 19 = .ok (.putfield 17, 3) := by decide +kernel
theorem dX2_init_22 : decode cX2_init 22 = .ok (.aload_n 0, 1) := by decide +kernel
theorem dX2_init_23 : decode cX2_init 23 = .ok (.new 9, 3) := by decide +kernel
theorem dX2_init_26 : decode cX2_init 26 = .ok (.dup, 1) := by decide +kernel
theorem dX2_init_27 : decode cX2_init 27 = .ok (.invokespecial 20, 3) := by decide +kernel
theorem dX2_init_30 : decode cX2_init 30 = .ok (.putfield 21, 3) := by decide +kernel
theorem dX2_init_33 : decode cX2_init 33 = .ok (.aload_n 0, 1) := by decide +kernel
theorem dX2_init_34 : decode cX2_init 34 = .ok (.new 25, 3) := by decide +kernel
theorem dX2_init_37 : decode cX2_init 37 = .ok (.dup, 1) := by decide +kernel
theorem dX2_init_38 : decode cX2_init 38 = .ok (.invokespecial 27, 3) := by decide +kernel
theorem dX2_init_41 : decode cX2_init 41 = .ok (.putfield 28, 3) := by decide +kernel
theorem dX2_init_44 : decode cX2_init 44 = .ok (.aload_n 0, 1) := by decide +kernel
theorem dX2_init_45 : decode cX2_init 45 = .ok (.iconst 0, 1) := by decide +kernel
theorem dX2_init_46 : decode cX2_init 46 = .ok (.putfield 32, 3) := by decide +kernel
theorem dX2_init_49 : decode cX2_init 49 = .ok (.iconst 0, 1) := by decide +kernel
theorem dX2_init_50 : decode cX2_init 50 = .ok (.istore_n 1, 1) := by decide +kernel
theorem dX2_init_51 : decode cX2_init 51 = .ok (.iload_n 1, 1) := by decide +kernel
theorem dX2_init_52 : decode cX2_init 52 = .ok (.bipush 24, 2) := by decide +kernel
theorem dX2_init_54 : decode cX2_init 54 = .ok (.if_icmp .ge 22, 3) := by decide +kernel
theorem dX2_init_57 : decode cX2_init 57 = .ok (.aload_n 0, 1) := by decide +kernel
theorem dX2_init_58 : decode cX2_init 58 = .ok (.getfield 11, 3) := by decide +kernel
theorem dX2_init_61 : decode cX2_init 61 = .ok (.iload_n 1, 1) := by decide +kernel
theorem dX2_init_62 : decode cX2_init 62 = .ok (.new 9, 3) := by decide +kernel
theorem dX2_init_65 : decode cX2_init 65 = .ok (.dup, 1) := by decide +kernel
theorem dX2_init_66 : decode cX2_init 66 = .ok (.invokespecial 20, 3) := by decide +kernel
theorem dX2_init_69 : decode cX2_init 69 = .ok (.aastore, 1) := by decide +kernel
theorem dX2_init_70 : decode cX2_init 70 = .ok (.iinc 1 1, 3) := by decide +kernel
theorem dX2_init_73 : decode cX2_init 73 = .ok (.goto (-22), 3) := by decide +kernel
theorem dX2_init_76 : decode cX2_init 76 = .ok (.iconst 0, 1) := by decide +kernel
theorem dX2_init_77 : decode cX2_init 77 = .ok (.istore_n 1, 1) := by decide +kernel
theorem dX2_init_78 : decode cX2_init 78 = .ok (.iload_n 1, 1) := by decide +kernel
theorem dX2_init_79 : decode cX2_init 79 = .ok (.bipush 24, 2) := by decide +kernel
theorem dX2_init_81 : decode cX2_init 81 = .ok (.if_icmp .gt 22, 3) := by decide +kernel
theorem dX2_init_84 : decode cX2_init 84 = .ok (.aload_n 0, 1) := by decide +kernel
theorem dX2_init_85 : decode cX2_init 85 = .ok (.getfield 17, 3) := by decide +kernel
theorem dX2_init_88 : decode cX2_init 88 = .ok (.iload_n 1, 1) := by decide +kernel
theorem dX2_init_89 : decode cX2_init 89 = .ok (.new 9, 3) := by decide +kernel
theorem dX2_init_92 : decode cX2_init 92 = .ok (.dup, 1) := by decide +kernel
theorem dX2_init_93 : decode cX2_init 93 = .ok (.invokespecial 20, 3) := by decide +kernel
theorem dX2_init_96 : decode cX2_init 96 = .ok (.aastore, 1) := by decide +kernel
theorem dX2_init_97 : decode cX2_init 97 = .ok (.iinc 1 1, 3) := by decide +kernel
theorem dX2_init_100 : decode cX2_init 100 = .ok (.goto (-22), 3) := by decide +kernel
theorem dX2_init_103 : decode cX2_init 103 = .ok (.return_, 1) := by decide +kernel
theorem dX2_climb_0 : decode cX2_climb 0 = .ok (.aload_n 0, 1) := by decide +kernel
theorem dX2_climb_1 : decode cX2_climb 1 = .ok (.iconst 0, 1) := by decide +kernel
theorem dX2_climb_2 : decode cX2_climb 2 = .ok (.iload 4, 2) := by decide +kernel
theorem dX2_climb_4 : decode cX2_climb 4 = .ok (.aload_n 1, 1) := by decide +kernel
theorem dX2_climb_5 : decode cX2_climb 5 = .ok (.getfield 36, 3) := by decide +kernel
theorem dX2_climb_8 : decode cX2_climb 8 = .ok (.invokestatic 39, 3) := by decide +kernel
theorem dX2_climb_11 : decode cX2_climb 11 = .ok (.invokestatic 45, 3) := by decide +kernel
theorem dX2_climb_14 : decode cX2_climb 14 = .ok (.putfield 32, 3) := by decide +kernel
theorem dX2_climb_17 : decode cX2_climb 17 = .ok (.aload_n 0, 1) := by decide +kernel
theorem dX2_climb_18 : decode cX2_climb 18 = .ok (.getfield 17, 3) := by decide +kernel
theorem dX2_climb_21 : decode cX2_climb 21 = .ok (.iconst 0, 1) := by decide +kernel
theorem dX2_climb_22 : decode cX2_climb 22 = .ok (.aaload, 1) := by decide +kernel
theorem dX2_climb_23 : decode cX2_climb 23 = .ok (.invokevirtual 48, 3) := by decide +kernel
theorem dX2_climb_26 : decode cX2_climb 26 = .ok (.iconst 0, 1) := by decide +kernel
theorem dX2_climb_27 : decode cX2_climb 27 = .ok (.istore 5, 2) := by decide +kernel
theorem dX2_climb_29 : decode cX2_climb 29 = .ok (.iload 5, 2) := by decide +kernel
theorem dX2_climb_31 : decode cX2_climb 31 = .ok (.aload_n 0, 1) := by decide +kernel
theorem dX2_climb_32 : decode cX2_climb 32 = .ok (.getfield 32, 3) := by decide +kernel
theorem dX2_climb_35 : decode cX2_climb 35 = .ok (.if_icmp .ge 32, 3) := by decide +kernel
theorem dX2_climb_38 : decode cX2_climb 38 = .ok (.aload_n 0, 1) := by decide +kernel
theorem dX2_climb_39 : decode cX2_climb 39 = .ok (.getfield 28, 3) := by decide +kernel
theorem dX2_climb_42 : decode cX2_climb 42 = .ok (.aload_n 1, 1) := by decide +kernel
theorem dX2_climb_43 : decode cX2_climb 43 = .ok (.getfield 51, 3) := by decide +kernel
theorem dX2_climb_46 : decode cX2_climb 46 = .ok (.iload 5, 2) := by decide +kernel
theorem dX2_climb_48 : decode cX2_climb 48 = .ok (.iaload, 1) := by decide +kernel
theorem dX2_climb_49 : decode cX2_climb 49 = .ok (.invokevirtual 55, 3) := by decide +kernel
theorem dX2_climb_52 : decode cX2_climb 52 = .ok (.aload_n 0, 1) := by decide +kernel
theorem dX2_climb_53 : decode cX2_climb 53 = .ok (.iload 5, 2) := by decide +kernel
theorem dX2_climb_55 : decode cX2_climb 55 = .ok (.aload_n 1, 1) := by decide +kernel
theorem dX2_climb_56 : decode cX2_climb 56 = .ok (.aload_n 2, 1) := by decide +kernel
theorem dX2_climb_57 : decode cX2_climb 57 = .ok (.iload_n 3, 1) := by decide +kernel
theorem dX2_climb_58 : decode cX2_climb 58 = .ok (.invokevirtual 59, 3) := by decide +kernel
theorem dX2_climb_61 : decode cX2_climb 61 = .ok (.iinc 5 1, 3) := by decide +kernel
theorem dX2_climb_64 : decode cX2_climb 64 = .ok (.goto (-35), 3) := by decide +kernel
theorem dX2_climb_67 : decode cX2_climb 67 = .ok (.return_, 1) := by decide +kernel
theorem dX2_climbSlipped_0 : decode cX2_climbSlipped 0 = .ok (.aload_n 0, 1) := by decide +kernel
theorem dX2_climbSlipped_1 : decode cX2_climbSlipped 1 = .ok (.aload_n 1, 1) := by decide +kernel
theorem dX2_climbSlipped_2 : decode cX2_climbSlipped 2 = .ok (.getfield 36, 3) := by decide +kernel
theorem dX2_climbSlipped_5 : decode cX2_climbSlipped 5 = .ok (.putfield 32, 3) := by decide +kernel
theorem dX2_climbSlipped_8 : decode cX2_climbSlipped 8 = .ok (.aload_n 0, 1) := by decide +kernel
theorem dX2_climbSlipped_9 : decode cX2_climbSlipped 9 = .ok (.getfield 17, 3) := by decide +kernel
theorem dX2_climbSlipped_12 : decode cX2_climbSlipped 12 = .ok (.iconst 0, 1) := by decide +kernel
theorem dX2_climbSlipped_13 : decode cX2_climbSlipped 13 = .ok (.aaload, 1) := by decide +kernel
theorem dX2_climbSlipped_14 : decode cX2_climbSlipped 14 = .ok (.invokevirtual 48, 3) := by decide +kernel
theorem dX2_climbSlipped_17 : decode cX2_climbSlipped 17 = .ok (.iconst 0, 1) := by decide +kernel
theorem dX2_climbSlipped_18 : decode cX2_climbSlipped 18 = .ok (.istore 6, 2) := by decide +kernel
theorem dX2_climbSlipped_20 : decode cX2_climbSlipped 20 = .ok (.iload 6, 2) := by decide +kernel
theorem dX2_climbSlipped_22 : decode cX2_climbSlipped 22 = .ok (.aload_n 0, 1) := by decide +kernel
theorem dX2_climbSlipped_23 : decode cX2_climbSlipped 23 = .ok (.getfield 32, 3) := by decide +kernel
theorem dX2_climbSlipped_26 : decode cX2_climbSlipped 26 = .ok (.if_icmp .ge 48, 3) := by decide +kernel
theorem dX2_climbSlipped_29 : decode cX2_climbSlipped 29 = .ok (.aload_n 0, 1) := by decide +kernel
theorem dX2_climbSlipped_30 : decode cX2_climbSlipped 30 = .ok (.getfield 28, 3) := by decide +kernel
theorem dX2_climbSlipped_33 : decode cX2_climbSlipped 33 = .ok (.aload_n 1, 1) := by decide +kernel
theorem dX2_climbSlipped_34 : decode cX2_climbSlipped 34 = .ok (.getfield 51, 3) := by decide +kernel
theorem dX2_climbSlipped_37 : decode cX2_climbSlipped 37 = .ok (.iload 6, 2) := by decide +kernel
theorem dX2_climbSlipped_39 : decode cX2_climbSlipped 39 = .ok (.iaload, 1) := by decide +kernel
theorem dX2_climbSlipped_40 : decode cX2_climbSlipped 40 = .ok (.invokevirtual 55, 3) := by decide +kernel
theorem dX2_climbSlipped_43 : decode cX2_climbSlipped 43 = .ok (.aload_n 0, 1) := by decide +kernel
theorem dX2_climbSlipped_44 : decode cX2_climbSlipped 44 = .ok (.getfield 28, 3) := by decide +kernel
theorem dX2_climbSlipped_47 : decode cX2_climbSlipped 47 = .ok (.iload 4, 2) := by decide +kernel
theorem dX2_climbSlipped_49 : decode cX2_climbSlipped 49 = .ok (.iload 5, 2) := by decide +kernel
theorem dX2_climbSlipped_51 : decode cX2_climbSlipped 51 = .ok (.iload 6, 2) := by decide +kernel
theorem dX2_climbSlipped_53 : decode cX2_climbSlipped 53 = .ok (.invokestatic 63, 3) := by decide +kernel
theorem dX2_climbSlipped_56 : decode cX2_climbSlipped 56 = .ok (.invokevirtual 67, 3) := by decide +kernel
theorem dX2_climbSlipped_59 : decode cX2_climbSlipped 59 = .ok (.aload_n 0, 1) := by decide +kernel
theorem dX2_climbSlipped_60 : decode cX2_climbSlipped 60 = .ok (.iload 6, 2) := by decide +kernel
theorem dX2_climbSlipped_62 : decode cX2_climbSlipped 62 = .ok (.aload_n 1, 1) := by decide +kernel
theorem dX2_climbSlipped_63 : decode cX2_climbSlipped 63 = .ok (.aload_n 2, 1) := by decide +kernel
theorem dX2_climbSlipped_64 : decode cX2_climbSlipped 64 = .ok (.iload_n 3, 1) := by decide +kernel
theorem dX2_climbSlipped_65 : decode cX2_climbSlipped 65 = .ok (.invokevirtual 59, 3) := by decide +kernel
theorem dX2_climbSlipped_68 : decode cX2_climbSlipped 68 = .ok (.iinc 6 1, 3) := by decide +kernel
theorem dX2_climbSlipped_71 : decode cX2_climbSlipped 71 = .ok (.goto (-51), 3) := by decide +kernel
theorem dX2_climbSlipped_74 : decode cX2_climbSlipped 74 = .ok (.return_, 1) := by decide +kernel
theorem dX2_step_0 : decode cX2_step 0 = .ok (.aload_n 0, 1) := by decide +kernel
theorem dX2_step_1 : decode cX2_step 1 = .ok (.getfield 28, 3) := by decide +kernel
theorem dX2_step_4 : decode cX2_step 4 = .ok (.iload 4, 2) := by decide +kernel
theorem dX2_step_6 : decode cX2_step 6 = .ok (.invokevirtual 71, 3) := by decide +kernel
theorem dX2_step_9 : decode cX2_step 9 = .ok (.aload_n 0, 1) := by decide +kernel
theorem dX2_step_10 : decode cX2_step 10 = .ok (.getfield 11, 3) := by decide +kernel
theorem dX2_step_13 : decode cX2_step 13 = .ok (.iload_n 1, 1) := by decide +kernel
theorem dX2_step_14 : decode cX2_step 14 = .ok (.aaload, 1) := by decide +kernel
theorem dX2_step_15 : decode cX2_step 15 = .ok (.aload_n 3, 1) := by decide +kernel
theorem dX2_step_16 : decode cX2_step 16 = .ok (.aload_n 2, 1) := by decide +kernel
theorem dX2_step_17 : decode cX2_step 17 = .ok (.getfield 51, 3) := by decide +kernel
theorem dX2_step_20 : decode cX2_step 20 = .ok (.iload_n 1, 1) := by decide +kernel
theorem dX2_step_21 : decode cX2_step 21 = .ok (.iaload, 1) := by decide +kernel
theorem dX2_step_22 : decode cX2_step 22 = .ok (.invokestatic 74, 3) := by decide +kernel
theorem dX2_step_25 : decode cX2_step 25 = .ok (.aload_n 0, 1) := by decide +kernel
theorem dX2_step_26 : decode cX2_step 26 = .ok (.getfield 28, 3) := by decide +kernel
theorem dX2_step_29 : decode cX2_step 29 = .ok (.invokevirtual 78, 3) := by decide +kernel
theorem dX2_step_32 : decode cX2_step 32 = .ok (.aload_n 0, 1) := by decide +kernel
theorem dX2_step_33 : decode cX2_step 33 = .ok (.getfield 17, 3) := by decide +kernel
theorem dX2_step_36 : decode cX2_step 36 = .ok (.iload_n 1, 1) := by decide +kernel
theorem dX2_step_37 : decode cX2_step 37 = .ok (.iconst 1, 1) := by decide +kernel
theorem dX2_step_38 : decode cX2_step 38 = .ok (.iadd, 1) := by decide +kernel
theorem dX2_step_39 : decode cX2_step 39 = .ok (.aaload, 1) := by decide +kernel
theorem dX2_step_40 : decode cX2_step 40 = .ok (.aload_n 0, 1) := by decide +kernel
theorem dX2_step_41 : decode cX2_step 41 = .ok (.getfield 17, 3) := by decide +kernel
theorem dX2_step_44 : decode cX2_step 44 = .ok (.iload_n 1, 1) := by decide +kernel
theorem dX2_step_45 : decode cX2_step 45 = .ok (.aaload, 1) := by decide +kernel
theorem dX2_step_46 : decode cX2_step 46 = .ok (.aload_n 0, 1) := by decide +kernel
theorem dX2_step_47 : decode cX2_step 47 = .ok (.getfield 11, 3) := by decide +kernel
theorem dX2_step_50 : decode cX2_step 50 = .ok (.iload_n 1, 1) := by decide +kernel
theorem dX2_step_51 : decode cX2_step 51 = .ok (.aaload, 1) := by decide +kernel
theorem dX2_step_52 : decode cX2_step 52 = .ok (.invokevirtual 82, 3) := by decide +kernel
theorem dX2_step_55 : decode cX2_step 55 = .ok (.return_, 1) := by decide +kernel
theorem dX2_whole_0 : decode cX2_whole 0 = .ok (.aload_n 0, 1) := by decide +kernel
theorem dX2_whole_1 : decode cX2_whole 1 = .ok (.getfield 17, 3) := by decide +kernel
theorem dX2_whole_4 : decode cX2_whole 4 = .ok (.aload_n 0, 1) := by decide +kernel
theorem dX2_whole_5 : decode cX2_whole 5 = .ok (.getfield 32, 3) := by decide +kernel
theorem dX2_whole_8 : decode cX2_whole 8 = .ok (.aaload, 1) := by decide +kernel
theorem dX2_whole_9 : decode cX2_whole 9 = .ok (.areturn, 1) := by decide +kernel
theorem dX2_changeTail_0 : decode cX2_changeTail 0 = .ok (.iload_n 2, 1) := by decide +kernel
theorem dX2_changeTail_1 : decode cX2_changeTail 1 = .ok (.istore 4, 2) := by decide +kernel
theorem dX2_changeTail_3 : decode cX2_changeTail 3 = .ok (.iload 4, 2) := by decide +kernel
theorem dX2_changeTail_5 : decode cX2_changeTail 5 = .ok (.aload_n 0, 1) := by decide +kernel
theorem dX2_changeTail_6 : decode cX2_changeTail 6 = .ok (.getfield 32, 3) := by decide +kernel
theorem dX2_changeTail_9 : decode cX2_changeTail 9 = .ok (.if_icmp .ge 65, 3) := by decide +kernel
theorem dX2_changeTail_12 : decode cX2_changeTail 12 = .ok (.iload_n 3, 1) := by decide +kernel
theorem dX2_changeTail_13 : decode cX2_changeTail 13 = .ok (.aload_n 0, 1) := by decide +kernel
theorem dX2_changeTail_14 : decode cX2_changeTail 14 = .ok (.getfield 32, 3) := by decide +kernel
theorem dX2_changeTail_17 : decode cX2_changeTail 17 = .ok (.iconst 1, 1) := by decide +kernel
theorem dX2_changeTail_18 : decode cX2_changeTail 18 = .ok (.isub, 1) := by decide +kernel
theorem dX2_changeTail_19 : decode cX2_changeTail 19 = .ok (.iload 4, 2) := by decide +kernel
theorem dX2_changeTail_21 : decode cX2_changeTail 21 = .ok (.isub, 1) := by decide +kernel
theorem dX2_changeTail_22 : decode cX2_changeTail 22 = .ok (.invokestatic 63, 3) := by decide +kernel
theorem dX2_changeTail_25 : decode cX2_changeTail 25 = .ok (.ifCond .eq 13, 3) := by decide +kernel
theorem dX2_changeTail_28 : decode cX2_changeTail 28 = .ok (.aload_n 1, 1) := by decide +kernel
theorem dX2_changeTail_29 : decode cX2_changeTail 29 = .ok (.getfield 11, 3) := by decide +kernel
theorem dX2_changeTail_32 : decode cX2_changeTail 32 = .ok (.iload 4, 2) := by decide +kernel
theorem dX2_changeTail_34 : decode cX2_changeTail 34 = .ok (.aaload, 1) := by decide +kernel
theorem dX2_changeTail_35 : decode cX2_changeTail 35 = .ok (.goto 10, 3) := by decide +kernel
theorem dX2_changeTail_38 : decode cX2_changeTail 38 = .ok (.aload_n 0, 1) := by decide +kernel
theorem dX2_changeTail_39 : decode cX2_changeTail 39 = .ok (.getfield 11, 3) := by decide +kernel
theorem dX2_changeTail_42 : decode cX2_changeTail 42 = .ok (.iload 4, 2) := by decide +kernel
theorem dX2_changeTail_44 : decode cX2_changeTail 44 = .ok (.aaload, 1) := by decide +kernel
theorem dX2_changeTail_45 : decode cX2_changeTail 45 = .ok (.astore 5, 2) := by decide +kernel
theorem dX2_changeTail_47 : decode cX2_changeTail 47 = .ok (.aload_n 0, 1) := by decide +kernel
theorem dX2_changeTail_48 : decode cX2_changeTail 48 = .ok (.getfield 17, 3) := by decide +kernel
theorem dX2_changeTail_51 : decode cX2_changeTail 51 = .ok (.iload 4, 2) := by decide +kernel
theorem dX2_changeTail_53 : decode cX2_changeTail 53 = .ok (.iconst 1, 1) := by decide +kernel
theorem dX2_changeTail_54 : decode cX2_changeTail 54 = .ok (.iadd, 1) := by decide +kernel
theorem dX2_changeTail_55 : decode cX2_changeTail 55 = .ok (.aaload, 1) := by decide +kernel
theorem dX2_changeTail_56 : decode cX2_changeTail 56 = .ok (.aload_n 0, 1) := by decide +kernel
theorem dX2_changeTail_57 : decode cX2_changeTail 57 = .ok (.getfield 17, 3) := by decide +kernel
theorem dX2_changeTail_60 : decode cX2_changeTail 60 = .ok (.iload 4, 2) := by decide +kernel
theorem dX2_changeTail_62 : decode cX2_changeTail 62 = .ok (.aaload, 1) := by decide +kernel
theorem dX2_changeTail_63 : decode cX2_changeTail 63 = .ok (.aload 5, 2) := by decide +kernel
theorem dX2_changeTail_65 : decode cX2_changeTail 65 = .ok (.invokevirtual 82, 3) := by decide +kernel
theorem dX2_changeTail_68 : decode cX2_changeTail 68 = .ok (.iinc 4 1, 3) := by decide +kernel
theorem dX2_changeTail_71 : decode cX2_changeTail 71 = .ok (.goto (-68), 3) := by decide +kernel
theorem dX2_changeTail_74 : decode cX2_changeTail 74 = .ok (.return_, 1) := by decide +kernel
theorem dX2_changed_0 : decode cX2_changed 0 = .ok (.aload_n 0, 1) := by decide +kernel
theorem dX2_changed_1 : decode cX2_changed 1 = .ok (.getfield 21, 3) := by decide +kernel
theorem dX2_changed_4 : decode cX2_changed 4 = .ok (.aload_n 0, 1) := by decide +kernel
theorem dX2_changed_5 : decode cX2_changed 5 = .ok (.getfield 17, 3) := by decide +kernel
theorem dX2_changed_8 : decode cX2_changed 8 = .ok (.iload_n 1, 1) := by decide +kernel
theorem dX2_changed_9 : decode cX2_changed 9 = .ok (.aaload, 1) := by decide +kernel
theorem dX2_changed_10 : decode cX2_changed 10 = .ok (.invokevirtual 86, 3) := by decide +kernel
theorem dX2_changed_13 : decode cX2_changed 13 = .ok (.aload_n 2, 1) := by decide +kernel
theorem dX2_changed_14 : decode cX2_changed 14 = .ok (.ifnull 15, 3) := by decide +kernel
theorem dX2_changed_17 : decode cX2_changed 17 = .ok (.aload_n 0, 1) := by decide +kernel
theorem dX2_changed_18 : decode cX2_changed 18 = .ok (.getfield 21, 3) := by decide +kernel
theorem dX2_changed_21 : decode cX2_changed 21 = .ok (.aload_n 0, 1) := by decide +kernel
theorem dX2_changed_22 : decode cX2_changed 22 = .ok (.getfield 21, 3) := by decide +kernel
theorem dX2_changed_25 : decode cX2_changed 25 = .ok (.aload_n 2, 1) := by decide +kernel
theorem dX2_changed_26 : decode cX2_changed 26 = .ok (.invokevirtual 82, 3) := by decide +kernel
theorem dX2_changed_29 : decode cX2_changed 29 = .ok (.iload_n 3, 1) := by decide +kernel
theorem dX2_changed_30 : decode cX2_changed 30 = .ok (.istore 4, 2) := by decide +kernel
theorem dX2_changed_32 : decode cX2_changed 32 = .ok (.iload 4, 2) := by decide +kernel
theorem dX2_changed_34 : decode cX2_changed 34 = .ok (.aload_n 0, 1) := by decide +kernel
theorem dX2_changed_35 : decode cX2_changed 35 = .ok (.getfield 32, 3) := by decide +kernel
theorem dX2_changed_38 : decode cX2_changed 38 = .ok (.if_icmp .ge 37, 3) := by decide +kernel
theorem dX2_changed_41 : decode cX2_changed 41 = .ok (.aload_n 0, 1) := by decide +kernel
theorem dX2_changed_42 : decode cX2_changed 42 = .ok (.getfield 21, 3) := by decide +kernel
theorem dX2_changed_45 : decode cX2_changed 45 = .ok (.getfield 90, 3) := by decide +kernel
theorem dX2_changed_48 : decode cX2_changed 48 = .ok (.ifCond .ne 27, 3) := by decide +kernel
theorem dX2_changed_51 : decode cX2_changed 51 = .ok (.aload_n 0, 1) := by decide +kernel
theorem dX2_changed_52 : decode cX2_changed 52 = .ok (.getfield 21, 3) := by decide +kernel
theorem dX2_changed_55 : decode cX2_changed 55 = .ok (.aload_n 0, 1) := by decide +kernel
theorem dX2_changed_56 : decode cX2_changed 56 = .ok (.getfield 21, 3) := by decide +kernel
theorem dX2_changed_59 : decode cX2_changed 59 = .ok (.aload_n 0, 1) := by decide +kernel
theorem dX2_changed_60 : decode cX2_changed 60 = .ok (.getfield 11, 3) := by decide +kernel
theorem dX2_changed_63 : decode cX2_changed 63 = .ok (.iload 4, 2) := by decide +kernel
theorem dX2_changed_65 : decode cX2_changed 65 = .ok (.aaload, 1) := by decide +kernel
theorem dX2_changed_66 : decode cX2_changed 66 = .ok (.invokevirtual 82, 3) := by decide +kernel
theorem dX2_changed_69 : decode cX2_changed 69 = .ok (.iinc 4 1, 3) := by decide +kernel
theorem dX2_changed_72 : decode cX2_changed 72 = .ok (.goto (-40), 3) := by decide +kernel
theorem dX2_changed_75 : decode cX2_changed 75 = .ok (.aload_n 0, 1) := by decide +kernel
theorem dX2_changed_76 : decode cX2_changed 76 = .ok (.getfield 21, 3) := by decide +kernel
theorem dX2_changed_79 : decode cX2_changed 79 = .ok (.areturn, 1) := by decide +kernel
theorem dX3_init_0 : decode cX3_init 0 = .ok (.aload_n 0, 1) := by decide +kernel
theorem dX3_init_1 : decode cX3_init 1 = .ok (.invokespecial 3, 3) := by decide +kernel
theorem dX3_init_4 : decode cX3_init 4 = .ok (.aload_n 0, 1) := by decide +kernel
theorem dX3_init_5 : decode cX3_init 5 = .ok (.bipush 24, 2) := by decide +kernel
theorem dX3_init_7 : decode cX3_init 7 = .ok (.newarray .int, 2) := by decide +kernel
theorem dX3_init_9 : decode cX3_init 9 = .ok (.putfield 9, 3) := by decide +kernel
theorem dX3_init_12 : decode cX3_init 12 = .ok (.aload_n 0, 1) := by decide +kernel
theorem dX3_init_13 : decode cX3_init 13 = .ok (.iconst 0, 1) := by decide +kernel
theorem dX3_init_14 : decode cX3_init 14 = .ok (.putfield 15, 3) := by decide +kernel
theorem dX3_init_17 : decode cX3_init 17 = .ok (.return_, 1) := by decide +kernel
theorem dX3_has_0 : decode cX3_has 0 = .ok (.iload_n 1, 1) := by decide +kernel
theorem dX3_has_1 : decode cX3_has 1 = .ok (.ifCond .lt 15, 3) := by decide +kernel
theorem dX3_has_4 : decode cX3_has 4 = .ok (.iload_n 1, 1) := by decide +kernel
theorem dX3_has_5 : decode cX3_has 5 = .ok (.aload_n 0, 1) := by decide +kernel
theorem dX3_has_6 : decode cX3_has 6 = .ok (.getfield 15, 3) := by decide +kernel
theorem dX3_has_9 : decode cX3_has 9 = .ok (.if_icmp .ge 7, 3) := by decide +kernel
theorem dX3_has_12 : decode cX3_has 12 = .ok (.iconst 1, 1) := by decide +kernel
theorem dX3_has_13 : decode cX3_has 13 = .ok (.goto 4, 3) := by decide +kernel
theorem dX3_has_16 : decode cX3_has 16 = .ok (.iconst 0, 1) := by decide +kernel
theorem dX3_has_17 : decode cX3_has 17 = .ok (.ireturn, 1) := by decide +kernel
theorem dX3_copyOf_0 : decode cX3_copyOf 0 = .ok (.aload_n 0, 1) := by decide +kernel
theorem dX3_copyOf_1 : decode cX3_copyOf 1 = .ok (.aload_n 1, 1) := by decide +kernel
theorem dX3_copyOf_2 : decode cX3_copyOf 2 = .ok (.getfield 15, 3) := by decide +kernel
theorem dX3_copyOf_5 : decode cX3_copyOf 5 = .ok (.putfield 15, 3) := by decide +kernel
theorem dX3_copyOf_8 : decode cX3_copyOf 8 = .ok (.aload_n 1, 1) := by decide +kernel
theorem dX3_copyOf_9 : decode cX3_copyOf 9 = .ok (.getfield 9, 3) := by decide +kernel
theorem dX3_copyOf_12 : decode cX3_copyOf 12 = .ok (.iconst 0, 1) := by decide +kernel
theorem dX3_copyOf_13 : decode cX3_copyOf 13 = .ok (.aload_n 0, 1) := by decide +kernel
theorem dX3_copyOf_14 : decode cX3_copyOf 14 = .ok (.getfield 9, 3) := by decide +kernel
theorem dX3_copyOf_17 : decode cX3_copyOf 17 = .ok (.iconst 0, 1) := by decide +kernel
theorem dX3_copyOf_18 : decode cX3_copyOf 18 = .ok (.aload_n 0, 1) := by decide +kernel
theorem dX3_copyOf_19 : decode cX3_copyOf 19 = .ok (.getfield 15, 3) := by decide +kernel
theorem dX3_copyOf_22 : decode cX3_copyOf 22 = .ok (.invokestatic 19, 3) := by decide +kernel
theorem dX3_copyOf_25 : decode cX3_copyOf 25 = .ok (.return_, 1) := by decide +kernel
theorem dX3_insert_0 : decode cX3_insert 0 = .ok (.iload_n 1, 1) := by decide +kernel
theorem dX3_insert_1 : decode cX3_insert 1 = .ok (.ifCond .lt 20, 3) := by decide +kernel
theorem dX3_insert_4 : decode cX3_insert 4 = .ok (.iload_n 1, 1) := by decide +kernel
theorem dX3_insert_5 : decode cX3_insert 5 = .ok (.aload_n 0, 1) := by decide +kernel
theorem dX3_insert_6 : decode cX3_insert 6 = .ok (.getfield 15, 3) := by decide +kernel
theorem dX3_insert_9 : decode cX3_insert 9 = .ok (.if_icmp .gt 12, 3) := by decide +kernel
theorem dX3_insert_12 : decode cX3_insert 12 = .ok (.aload_n 0, 1) := by decide +kernel
theorem dX3_insert_13 : decode cX3_insert 13 = .ok (.getfield 15, 3) := by decide +kernel
theorem dX3_insert_16 : decode cX3_insert 16 = .ok (.bipush 24, 2) := by decide +kernel
theorem dX3_insert_18 : decode cX3_insert 18 = .ok (.if_icmp .lt 4, 3) := by decide +kernel
theorem dX3_insert_21 : decode cX3_insert 21 = .ok (.return_, 1) := by decide +kernel
theorem dX3_insert_22 : decode cX3_insert 22 = .ok (.aload_n 0, 1) := by decide +kernel
theorem dX3_insert_23 : decode cX3_insert 23 = .ok (.getfield 15, 3) := by decide +kernel
theorem dX3_insert_26 : decode cX3_insert 26 = .ok (.istore_n 3, 1) := by decide +kernel
theorem dX3_insert_27 : decode cX3_insert 27 = .ok (.iload_n 3, 1) := by decide +kernel
theorem dX3_insert_28 : decode cX3_insert 28 = .ok (.iload_n 1, 1) := by decide +kernel
theorem dX3_insert_29 : decode cX3_insert 29 = .ok (.if_icmp .le 23, 3) := by decide +kernel
theorem dX3_insert_32 : decode cX3_insert 32 = .ok (.aload_n 0, 1) := by decide +kernel
theorem dX3_insert_33 : decode cX3_insert 33 = .ok (.getfield 9, 3) := by decide +kernel
theorem dX3_insert_36 : decode cX3_insert 36 = .ok (.iload_n 3, 1) := by decide +kernel
theorem dX3_insert_37 : decode cX3_insert 37 = .ok (.aload_n 0, 1) := by decide +kernel
theorem dX3_insert_38 : decode cX3_insert 38 = .ok (.getfield 9, 3) := by decide +kernel
theorem dX3_insert_41 : decode cX3_insert 41 = .ok (.iload_n 3, 1) := by decide +kernel
theorem dX3_insert_42 : decode cX3_insert 42 = .ok (.iconst 1, 1) := by decide +kernel
theorem dX3_insert_43 : decode cX3_insert 43 = .ok (.isub, 1) := by decide +kernel
theorem dX3_insert_44 : decode cX3_insert 44 = .ok (.iaload, 1) := by decide +kernel
theorem dX3_insert_45 : decode cX3_insert 45 = .ok (.iastore, 1) := by decide +kernel
theorem dX3_insert_46 : decode cX3_insert 46 = .ok (.iinc 3 (-1), 3) := by decide +kernel
theorem dX3_insert_49 : decode cX3_insert 49 = .ok (.goto (-22), 3) := by decide +kernel
theorem dX3_insert_52 : decode cX3_insert 52 = .ok (.aload_n 0, 1) := by decide +kernel
theorem dX3_insert_53 : decode cX3_insert 53 = .ok (.getfield 9, 3) := by decide +kernel
theorem dX3_insert_56 : decode cX3_insert 56 = .ok (.iload_n 1, 1) := by decide +kernel
theorem dX3_insert_57 : decode cX3_insert 57 = .ok (.iload_n 2, 1) := by decide +kernel
theorem dX3_insert_58 : decode cX3_insert 58 = .ok (.iastore, 1) := by decide +kernel
theorem dX3_insert_59 : decode cX3_insert 59 = .ok (.aload_n 0, 1) := by decide +kernel
theorem dX3_insert_60 : decode cX3_insert 60 = .ok (.dup, 1) := by decide +kernel
theorem dX3_insert_61 : decode cX3_insert 61 = .ok (.getfield 15, 3) := by decide +kernel
theorem dX3_insert_64 : decode cX3_insert 64 = .ok (.iconst 1, 1) := by decide +kernel
theorem dX3_insert_65 : decode cX3_insert 65 = .ok (.iadd, 1) := by decide +kernel
theorem dX3_insert_66 : decode cX3_insert 66 = .ok (.putfield 15, 3) := by decide +kernel
theorem dX3_insert_69 : decode cX3_insert 69 = .ok (.return_, 1) := by decide +kernel
theorem dX3_remove_0 : decode cX3_remove 0 = .ok (.aload_n 0, 1) := by decide +kernel
theorem dX3_remove_1 : decode cX3_remove 1 = .ok (.iload_n 1, 1) := by decide +kernel
theorem dX3_remove_2 : decode cX3_remove 2 = .ok (.invokevirtual 25, 3) := by decide +kernel
theorem dX3_remove_5 : decode cX3_remove 5 = .ok (.ifCond .ne 4, 3) := by decide +kernel
theorem dX3_remove_8 : decode cX3_remove 8 = .ok (.return_, 1) := by decide +kernel
theorem dX3_remove_9 : decode cX3_remove 9 = .ok (.iload_n 1, 1) := by decide +kernel
theorem dX3_remove_10 : decode cX3_remove 10 = .ok (.istore_n 2, 1) := by decide +kernel
theorem dX3_remove_11 : decode cX3_remove 11 = .ok (.iload_n 2, 1) := by decide +kernel
theorem dX3_remove_12 : decode cX3_remove 12 = .ok (.iconst 1, 1) := by decide +kernel
theorem dX3_remove_13 : decode cX3_remove 13 = .ok (.iadd, 1) := by decide +kernel
theorem dX3_remove_14 : decode cX3_remove 14 = .ok (.aload_n 0, 1) := by decide +kernel
theorem dX3_remove_15 : decode cX3_remove 15 = .ok (.getfield 15, 3) := by decide +kernel
theorem dX3_remove_18 : decode cX3_remove 18 = .ok (.if_icmp .ge 23, 3) := by decide +kernel
theorem dX3_remove_21 : decode cX3_remove 21 = .ok (.aload_n 0, 1) := by decide +kernel
theorem dX3_remove_22 : decode cX3_remove 22 = .ok (.getfield 9, 3) := by decide +kernel
theorem dX3_remove_25 : decode cX3_remove 25 = .ok (.iload_n 2, 1) := by decide +kernel
theorem dX3_remove_26 : decode cX3_remove 26 = .ok (.aload_n 0, 1) := by decide +kernel
theorem dX3_remove_27 : decode cX3_remove 27 = .ok (.getfield 9, 3) := by decide +kernel
theorem dX3_remove_30 : decode cX3_remove 30 = .ok (.iload_n 2, 1) := by decide +kernel
theorem dX3_remove_31 : decode cX3_remove 31 = .ok (.iconst 1, 1) := by decide +kernel
theorem dX3_remove_32 : decode cX3_remove 32 = .ok (.iadd, 1) := by decide +kernel
theorem dX3_remove_33 : decode cX3_remove 33 = .ok (.iaload, 1) := by decide +kernel
theorem dX3_remove_34 : decode cX3_remove 34 = .ok (.iastore, 1) := by decide +kernel
theorem dX3_remove_35 : decode cX3_remove 35 = .ok (.iinc 2 1, 3) := by decide +kernel
theorem dX3_remove_38 : decode cX3_remove 38 = .ok (.goto (-27), 3) := by decide +kernel
theorem dX3_remove_41 : decode cX3_remove 41 = .ok (.aload_n 0, 1) := by decide +kernel
theorem dX3_remove_42 : decode cX3_remove 42 = .ok (.dup, 1) := by decide +kernel
theorem dX3_remove_43 : decode cX3_remove 43 = .ok (.getfield 15, 3) := by decide +kernel
theorem dX3_remove_46 : decode cX3_remove 46 = .ok (.iconst 1, 1) := by decide +kernel
theorem dX3_remove_47 : decode cX3_remove 47 = .ok (.isub, 1) := by decide +kernel
theorem dX3_remove_48 : decode cX3_remove 48 = .ok (.putfield 15, 3) := by decide +kernel
theorem dX3_remove_51 : decode cX3_remove 51 = .ok (.return_, 1) := by decide +kernel
theorem dX3_reverse_0 : decode cX3_reverse 0 = .ok (.iconst 0, 1) := by decide +kernel
theorem dX3_reverse_1 : decode cX3_reverse 1 = .ok (.istore_n 1, 1) := by decide +kernel
theorem dX3_reverse_2 : decode cX3_reverse 2 = .ok (.iload_n 1, 1) := by decide +kernel
theorem dX3_reverse_3 : decode cX3_reverse 3 = .ok (.aload_n 0, 1) := by decide +kernel
theorem dX3_reverse_4 : decode cX3_reverse 4 = .ok (.getfield 15, 3) := by decide +kernel
theorem dX3_reverse_7 : decode cX3_reverse 7 = .ok (.iconst 2, 1) := by decide +kernel
theorem dX3_reverse_8 : decode cX3_reverse 8 = .ok (.idiv, 1) := by decide +kernel
theorem dX3_reverse_9 : decode cX3_reverse 9 = .ok (.if_icmp .ge 44, 3) := by decide +kernel
theorem dX3_reverse_12 : decode cX3_reverse 12 = .ok (.aload_n 0, 1) := by decide +kernel
theorem dX3_reverse_13 : decode cX3_reverse 13 = .ok (.getfield 15, 3) := by decide +kernel
theorem dX3_reverse_16 : decode cX3_reverse 16 = .ok (.iconst 1, 1) := by decide +kernel
theorem dX3_reverse_17 : decode cX3_reverse 17 = .ok (.isub, 1) := by decide +kernel
theorem dX3_reverse_18 : decode cX3_reverse 18 = .ok (.iload_n 1, 1) := by decide +kernel
theorem dX3_reverse_19 : decode cX3_reverse 19 = .ok (.isub, 1) := by decide +kernel
theorem dX3_reverse_20 : decode cX3_reverse 20 = .ok (.istore_n 2, 1) := by decide +kernel
theorem dX3_reverse_21 : decode cX3_reverse 21 = .ok (.aload_n 0, 1) := by decide +kernel
theorem dX3_reverse_22 : decode cX3_reverse 22 = .ok (.getfield 9, 3) := by decide +kernel
theorem dX3_reverse_25 : decode cX3_reverse 25 = .ok (.iload_n 1, 1) := by decide +kernel
theorem dX3_reverse_26 : decode cX3_reverse 26 = .ok (.iaload, 1) := by decide +kernel
theorem dX3_reverse_27 : decode cX3_reverse 27 = .ok (.istore_n 3, 1) := by decide +kernel
theorem dX3_reverse_28 : decode cX3_reverse 28 = .ok (.aload_n 0, 1) := by decide +kernel
theorem dX3_reverse_29 : decode cX3_reverse 29 = .ok (.getfield 9, 3) := by decide +kernel
theorem dX3_reverse_32 : decode cX3_reverse 32 = .ok (.iload_n 1, 1) := by decide +kernel
theorem dX3_reverse_33 : decode cX3_reverse 33 = .ok (.aload_n 0, 1) := by decide +kernel
theorem dX3_reverse_34 : decode cX3_reverse 34 = .ok (.getfield 9, 3) := by decide +kernel
theorem dX3_reverse_37 : decode cX3_reverse 37 = .ok (.iload_n 2, 1) := by decide +kernel
theorem dX3_reverse_38 : decode cX3_reverse 38 = .ok (.iaload, 1) := by decide +kernel
theorem dX3_reverse_39 : decode cX3_reverse 39 = .ok (.iastore, 1) := by decide +kernel
theorem dX3_reverse_40 : decode cX3_reverse 40 = .ok (.aload_n 0, 1) := by decide +kernel
theorem dX3_reverse_41 : decode cX3_reverse 41 = .ok (.getfield 9, 3) := by decide +kernel
theorem dX3_reverse_44 : decode cX3_reverse 44 = .ok (.iload_n 2, 1) := by decide +kernel
theorem dX3_reverse_45 : decode cX3_reverse 45 = .ok (.iload_n 3, 1) := by decide +kernel
theorem dX3_reverse_46 : decode cX3_reverse 46 = .ok (.iastore, 1) := by decide +kernel
theorem dX3_reverse_47 : decode cX3_reverse 47 = .ok (.iinc 1 1, 3) := by decide +kernel
theorem dX3_reverse_50 : decode cX3_reverse 50 = .ok (.goto (-48), 3) := by decide +kernel
theorem dX3_reverse_53 : decode cX3_reverse 53 = .ok (.return_, 1) := by decide +kernel
theorem dX3_isSameReversed_0 : decode cX3_isSameReversed 0 = .ok (.iconst 0, 1) := by decide +kernel
theorem dX3_isSameReversed_1 : decode cX3_isSameReversed 1 = .ok (.istore_n 1, 1) := by decide +kernel
theorem dX3_isSameReversed_2 : decode cX3_isSameReversed 2 = .ok (.iload_n 1, 1) := by decide +kernel
theorem dX3_isSameReversed_3 : decode cX3_isSameReversed 3 = .ok (.aload_n 0, 1) := by decide +kernel
theorem dX3_isSameReversed_4 : decode cX3_isSameReversed 4 = .ok (.getfield 15, 3) := by decide +kernel
theorem dX3_isSameReversed_7 : decode cX3_isSameReversed 7 = .ok (.iconst 2, 1) := by decide +kernel
theorem dX3_isSameReversed_8 : decode cX3_isSameReversed 8 = .ok (.idiv, 1) := by decide +kernel
theorem dX3_isSameReversed_9 : decode cX3_isSameReversed 9 = .ok (.if_icmp .ge 33, 3) := by decide +kernel
theorem dX3_isSameReversed_12 : decode cX3_isSameReversed 12 = .ok (.aload_n 0, 1) := by decide +kernel
theorem dX3_isSameReversed_13 : decode cX3_isSameReversed 13 = .ok (.getfield 9, 3) := by decide +kernel
theorem dX3_isSameReversed_16 : decode cX3_isSameReversed 16 = .ok (.iload_n 1, 1) := by decide +kernel
theorem dX3_isSameReversed_17 : decode cX3_isSameReversed 17 = .ok (.iaload, 1) := by decide +kernel
theorem dX3_isSameReversed_18 : decode cX3_isSameReversed 18 = .ok (.aload_n 0, 1) := by decide +kernel
theorem dX3_isSameReversed_19 : decode cX3_isSameReversed 19 = .ok (.getfield 9, 3) := by decide +kernel
theorem dX3_isSameReversed_22 : decode cX3_isSameReversed 22 = .ok (.aload_n 0, 1) := by decide +kernel
theorem dX3_isSameReversed_23 : decode cX3_isSameReversed 23 = .ok (.getfield 15, 3) := by decide +kernel
theorem dX3_isSameReversed_26 : decode cX3_isSameReversed 26 = .ok (.iconst 1, 1) := by decide +kernel
theorem dX3_isSameReversed_27 : decode cX3_isSameReversed 27 = .ok (.isub, 1) := by decide +kernel
theorem dX3_isSameReversed_28 : decode cX3_isSameReversed 28 = .ok (.iload_n 1, 1) := by decide +kernel
theorem dX3_isSameReversed_29 : decode cX3_isSameReversed 29 = .ok (.isub, 1) := by decide +kernel
theorem dX3_isSameReversed_30 : decode cX3_isSameReversed 30 = .ok (.iaload, 1) := by decide +kernel
theorem dX3_isSameReversed_31 : decode cX3_isSameReversed 31 = .ok (.if_icmp .eq 5, 3) := by decide +kernel
theorem dX3_isSameReversed_34 : decode cX3_isSameReversed 34 = .ok (.iconst 0, 1) := by decide +kernel
theorem dX3_isSameReversed_35 : decode cX3_isSameReversed 35 = .ok (.ireturn, 1) := by decide +kernel
theorem dX3_isSameReversed_36 : decode cX3_isSameReversed 36 = .ok (.iinc 1 1, 3) := by decide +kernel
theorem dX3_isSameReversed_39 : decode cX3_isSameReversed 39 = .ok (.goto (-37), 3) := by decide +kernel
theorem dX3_isSameReversed_42 : decode cX3_isSameReversed 42 = .ok (.iconst 1, 1) := by decide +kernel
theorem dX3_isSameReversed_43 : decode cX3_isSameReversed 43 = .ok (.ireturn, 1) := by decide +kernel
theorem dX3_repeatsAfter_0 : decode cX3_repeatsAfter 0 = .ok (.iconst 0, 1) := by decide +kernel
theorem dX3_repeatsAfter_1 : decode cX3_repeatsAfter 1 = .ok (.istore_n 2, 1) := by decide +kernel
theorem dX3_repeatsAfter_2 : decode cX3_repeatsAfter 2 = .ok (.iload_n 2, 1) := by decide +kernel
theorem dX3_repeatsAfter_3 : decode cX3_repeatsAfter 3 = .ok (.iload_n 1, 1) := by decide +kernel
theorem dX3_repeatsAfter_4 : decode cX3_repeatsAfter 4 = .ok (.iadd, 1) := by decide +kernel
theorem dX3_repeatsAfter_5 : decode cX3_repeatsAfter 5 = .ok (.aload_n 0, 1) := by decide +kernel
theorem dX3_repeatsAfter_6 : decode cX3_repeatsAfter 6 = .ok (.getfield 15, 3) := by decide +kernel
theorem dX3_repeatsAfter_9 : decode cX3_repeatsAfter 9 = .ok (.if_icmp .ge 28, 3) := by decide +kernel
theorem dX3_repeatsAfter_12 : decode cX3_repeatsAfter 12 = .ok (.aload_n 0, 1) := by decide +kernel
theorem dX3_repeatsAfter_13 : decode cX3_repeatsAfter 13 = .ok (.getfield 9, 3) := by decide +kernel
theorem dX3_repeatsAfter_16 : decode cX3_repeatsAfter 16 = .ok (.iload_n 2, 1) := by decide +kernel
theorem dX3_repeatsAfter_17 : decode cX3_repeatsAfter 17 = .ok (.iaload, 1) := by decide +kernel
theorem dX3_repeatsAfter_18 : decode cX3_repeatsAfter 18 = .ok (.aload_n 0, 1) := by decide +kernel
theorem dX3_repeatsAfter_19 : decode cX3_repeatsAfter 19 = .ok (.getfield 9, 3) := by decide +kernel
theorem dX3_repeatsAfter_22 : decode cX3_repeatsAfter 22 = .ok (.iload_n 2, 1) := by decide +kernel
theorem dX3_repeatsAfter_23 : decode cX3_repeatsAfter 23 = .ok (.iload_n 1, 1) := by decide +kernel
theorem dX3_repeatsAfter_24 : decode cX3_repeatsAfter 24 = .ok (.iadd, 1) := by decide +kernel
theorem dX3_repeatsAfter_25 : decode cX3_repeatsAfter 25 = .ok (.iaload, 1) := by decide +kernel
theorem dX3_repeatsAfter_26 : decode cX3_repeatsAfter 26 = .ok (.if_icmp .eq 5, 3) := by decide +kernel
theorem dX3_repeatsAfter_29 : decode cX3_repeatsAfter 29 = .ok (.iconst 0, 1) := by decide +kernel
theorem dX3_repeatsAfter_30 : decode cX3_repeatsAfter 30 = .ok (.ireturn, 1) := by decide +kernel
theorem dX3_repeatsAfter_31 : decode cX3_repeatsAfter 31 = .ok (.iinc 2 1, 3) := by decide +kernel
theorem dX3_repeatsAfter_34 : decode cX3_repeatsAfter 34 = .ok (.goto (-32), 3) := by decide +kernel
theorem dX3_repeatsAfter_37 : decode cX3_repeatsAfter 37 = .ok (.iconst 1, 1) := by decide +kernel
theorem dX3_repeatsAfter_38 : decode cX3_repeatsAfter 38 = .ok (.ireturn, 1) := by decide +kernel
theorem dX3_countOfMaterial_0 : decode cX3_countOfMaterial 0 = .ok (.iconst 0, 1) := by decide +kernel
theorem dX3_countOfMaterial_1 : decode cX3_countOfMaterial 1 = .ok (.istore_n 2, 1) := by decide +kernel
theorem dX3_countOfMaterial_2 : decode cX3_countOfMaterial 2 = .ok (.iconst 0, 1) := by decide +kernel
theorem dX3_countOfMaterial_3 : decode cX3_countOfMaterial 3 = .ok (.istore_n 3, 1) := by decide +kernel
theorem dX3_countOfMaterial_4 : decode cX3_countOfMaterial 4 = .ok (.iload_n 3, 1) := by decide +kernel
theorem dX3_countOfMaterial_5 : decode cX3_countOfMaterial 5 = .ok (.aload_n 0, 1) := by decide +kernel
theorem dX3_countOfMaterial_6 : decode cX3_countOfMaterial 6 = .ok (.getfield 15, 3) := by decide +kernel
theorem dX3_countOfMaterial_9 : decode cX3_countOfMaterial 9 = .ok (.if_icmp .ge 30, 3) := by decide +kernel
theorem dX3_countOfMaterial_12 : decode cX3_countOfMaterial 12 = .ok (.iload_n 2, 1) := by decide +kernel
theorem dX3_countOfMaterial_13 : decode cX3_countOfMaterial 13 = .ok (.aload_n 0, 1) := by decide +kernel
theorem dX3_countOfMaterial_14 : decode cX3_countOfMaterial 14 = .ok (.getfield 9, 3) := by decide +kernel
theorem dX3_countOfMaterial_17 : decode cX3_countOfMaterial 17 = .ok (.iload_n 3, 1) := by decide +kernel
theorem dX3_countOfMaterial_18 : decode cX3_countOfMaterial 18 = .ok (.iaload, 1) := by decide +kernel
theorem dX3_countOfMaterial_19 : decode cX3_countOfMaterial 19 = .ok (.invokestatic 29, 3) := by decide +kernel
theorem dX3_countOfMaterial_22 : decode cX3_countOfMaterial 22 = .ok (.iload_n 1, 1) := by decide +kernel
theorem dX3_countOfMaterial_23 : decode cX3_countOfMaterial 23 = .ok (.if_icmp .ne 7, 3) := by decide +kernel
theorem dX3_countOfMaterial_26 : decode cX3_countOfMaterial 26 = .ok (.iconst 1, 1) := by decide +kernel
theorem dX3_countOfMaterial_27 : decode cX3_countOfMaterial 27 = .ok (.goto 4, 3) := by decide +kernel
theorem dX3_countOfMaterial_30 : decode cX3_countOfMaterial 30 = .ok (.iconst 0, 1) := by decide +kernel
theorem dX3_countOfMaterial_31 : decode cX3_countOfMaterial 31 = .ok (.iadd, 1) := by decide +kernel
theorem dX3_countOfMaterial_32 : decode cX3_countOfMaterial 32 = .ok (.istore_n 2, 1) := by decide +kernel
theorem dX3_countOfMaterial_33 : decode cX3_countOfMaterial 33 = .ok (.iinc 3 1, 3) := by decide +kernel
theorem dX3_countOfMaterial_36 : decode cX3_countOfMaterial 36 = .ok (.goto (-32), 3) := by decide +kernel
theorem dX3_countOfMaterial_39 : decode cX3_countOfMaterial 39 = .ok (.iload_n 2, 1) := by decide +kernel
theorem dX3_countOfMaterial_40 : decode cX3_countOfMaterial 40 = .ok (.ireturn, 1) := by decide +kernel
theorem dX3_countOfTangent_0 : decode cX3_countOfTangent 0 = .ok (.iconst 0, 1) := by decide +kernel
theorem dX3_countOfTangent_1 : decode cX3_countOfTangent 1 = .ok (.istore_n 3, 1) := by decide +kernel
theorem dX3_countOfTangent_2 : decode cX3_countOfTangent 2 = .ok (.iconst 0, 1) := by decide +kernel
theorem dX3_countOfTangent_3 : decode cX3_countOfTangent 3 = .ok (.istore 4, 2) := by decide +kernel
theorem dX3_countOfTangent_5 : decode cX3_countOfTangent 5 = .ok (.iload 4, 2) := by decide +kernel
theorem dX3_countOfTangent_7 : decode cX3_countOfTangent 7 = .ok (.aload_n 0, 1) := by decide +kernel
theorem dX3_countOfTangent_8 : decode cX3_countOfTangent 8 = .ok (.getfield 15, 3) := by decide +kernel
theorem dX3_countOfTangent_11 : decode cX3_countOfTangent 11 = .ok (.if_icmp .ge 45, 3) := by decide +kernel
theorem dX3_countOfTangent_14 : decode cX3_countOfTangent 14 = .ok (.iload_n 3, 1) := by decide +kernel
theorem dX3_countOfTangent_15 : decode cX3_countOfTangent 15 = .ok (.aload_n 0, 1) := by decide +kernel
theorem dX3_countOfTangent_16 : decode cX3_countOfTangent 16 = .ok (.getfield 9, 3) := by decide +kernel
theorem dX3_countOfTangent_19 : decode cX3_countOfTangent 19 = .ok (.iload 4, 2) := by decide +kernel
theorem dX3_countOfTangent_21 : decode cX3_countOfTangent 21 = .ok (.iaload, 1) := by decide +kernel
theorem dX3_countOfTangent_22 : decode cX3_countOfTangent 22 = .ok (.invokestatic 33, 3) := by decide +kernel
theorem dX3_countOfTangent_25 : decode cX3_countOfTangent 25 = .ok (.iload_n 1, 1) := by decide +kernel
theorem dX3_countOfTangent_26 : decode cX3_countOfTangent 26 = .ok (.if_icmp .ne 21, 3) := by decide +kernel
theorem dX3_countOfTangent_29 : decode cX3_countOfTangent 29 = .ok (.aload_n 0, 1) := by decide +kernel
theorem dX3_countOfTangent_30 : decode cX3_countOfTangent 30 = .ok (.getfield 9, 3) := by decide +kernel
theorem dX3_countOfTangent_33 : decode cX3_countOfTangent 33 = .ok (.iload 4, 2) := by decide +kernel
theorem dX3_countOfTangent_35 : decode cX3_countOfTangent 35 = .ok (.iaload, 1) := by decide +kernel
theorem dX3_countOfTangent_36 : decode cX3_countOfTangent 36 = .ok (.invokestatic 36, 3) := by decide +kernel
theorem dX3_countOfTangent_39 : decode cX3_countOfTangent 39 = .ok (.iload_n 2, 1) := by decide +kernel
theorem dX3_countOfTangent_40 : decode cX3_countOfTangent 40 = .ok (.if_icmp .ne 7, 3) := by decide +kernel
theorem dX3_countOfTangent_43 : decode cX3_countOfTangent 43 = .ok (.iconst 1, 1) := by decide +kernel
theorem dX3_countOfTangent_44 : decode cX3_countOfTangent 44 = .ok (.goto 4, 3) := by decide +kernel
theorem dX3_countOfTangent_47 : decode cX3_countOfTangent 47 = .ok (.iconst 0, 1) := by decide +kernel
theorem dX3_countOfTangent_48 : decode cX3_countOfTangent 48 = .ok (.iadd, 1) := by decide +kernel
theorem dX3_countOfTangent_49 : decode cX3_countOfTangent 49 = .ok (.istore_n 3, 1) := by decide +kernel
theorem dX3_countOfTangent_50 : decode cX3_countOfTangent 50 = .ok (.iinc 4 1, 3) := by decide +kernel
theorem dX3_countOfTangent_53 : decode cX3_countOfTangent 53 = .ok (.goto (-48), 3) := by decide +kernel
theorem dX3_countOfTangent_56 : decode cX3_countOfTangent 56 = .ok (.iload_n 3, 1) := by decide +kernel
theorem dX3_countOfTangent_57 : decode cX3_countOfTangent 57 = .ok (.ireturn, 1) := by decide +kernel
theorem dX3_materialBits_0 : decode cX3_materialBits 0 = .ok (.iconst 0, 1) := by decide +kernel
theorem dX3_materialBits_1 : decode cX3_materialBits 1 = .ok (.istore_n 1, 1) := by decide +kernel
theorem dX3_materialBits_2 : decode cX3_materialBits 2 = .ok (.iconst 0, 1) := by decide +kernel
theorem dX3_materialBits_3 : decode cX3_materialBits 3 = .ok (.istore_n 2, 1) := by decide +kernel
theorem dX3_materialBits_4 : decode cX3_materialBits 4 = .ok (.iload_n 2, 1) := by decide +kernel
theorem dX3_materialBits_5 : decode cX3_materialBits 5 = .ok (.aload_n 0, 1) := by decide +kernel
theorem dX3_materialBits_6 : decode cX3_materialBits 6 = .ok (.getfield 15, 3) := by decide +kernel
theorem dX3_materialBits_9 : decode cX3_materialBits 9 = .ok (.if_icmp .ge 23, 3) := by decide +kernel
theorem dX3_materialBits_12 : decode cX3_materialBits 12 = .ok (.iload_n 1, 1) := by decide +kernel
theorem dX3_materialBits_13 : decode cX3_materialBits 13 = .ok (.iconst 1, 1) := by decide +kernel
theorem dX3_materialBits_14 : decode cX3_materialBits 14 = .ok (.aload_n 0, 1) := by decide +kernel
theorem dX3_materialBits_15 : decode cX3_materialBits 15 = .ok (.getfield 9, 3) := by decide +kernel
theorem dX3_materialBits_18 : decode cX3_materialBits 18 = .ok (.iload_n 2, 1) := by decide +kernel
theorem dX3_materialBits_19 : decode cX3_materialBits 19 = .ok (.iaload, 1) := by decide +kernel
theorem dX3_materialBits_20 : decode cX3_materialBits 20 = .ok (.invokestatic 29, 3) := by decide +kernel
theorem dX3_materialBits_23 : decode cX3_materialBits 23 = .ok (.ishl, 1) := by decide +kernel
theorem dX3_materialBits_24 : decode cX3_materialBits 24 = .ok (.ior, 1) := by decide +kernel
theorem dX3_materialBits_25 : decode cX3_materialBits 25 = .ok (.istore_n 1, 1) := by decide +kernel
theorem dX3_materialBits_26 : decode cX3_materialBits 26 = .ok (.iinc 2 1, 3) := by decide +kernel
theorem dX3_materialBits_29 : decode cX3_materialBits 29 = .ok (.goto (-25), 3) := by decide +kernel
theorem dX3_materialBits_32 : decode cX3_materialBits 32 = .ok (.iload_n 1, 1) := by decide +kernel
theorem dX3_materialBits_33 : decode cX3_materialBits 33 = .ok (.ireturn, 1) := by decide +kernel
theorem dX4_init_0 : decode cX4_init 0 = .ok (.aload_n 0, 1) := by decide +kernel
theorem dX4_init_1 : decode cX4_init 1 = .ok (.invokespecial 3, 3) := by decide +kernel
theorem dX4_init_4 : decode cX4_init 4 = .ok (.aload_n 0, 1) := by decide +kernel
theorem dX4_init_5 : decode cX4_init 5 = .ok (.lconst 1, 1) := by decide +kernel
theorem dX4_init_6 : decode cX4_init 6 = .ok (.putfield 9, 3) := by decide +kernel
theorem dX4_init_9 : decode cX4_init 9 = .ok (.aload_n 0, 1) := by decide +kernel
theorem dX4_init_10 : decode cX4_init 10 = .ok (.lconst 0, 1) := by decide +kernel
theorem dX4_init_11 : decode cX4_init 11 = .ok (.putfield 15, 3) := by decide +kernel
theorem dX4_init_14 : decode cX4_init 14 = .ok (.aload_n 0, 1) := by decide +kernel
theorem dX4_init_15 : decode cX4_init 15 = .ok (.lconst 0, 1) := by decide +kernel
theorem dX4_init_16 : decode cX4_init 16 = .ok (.putfield 18, 3) := by decide +kernel
theorem dX4_init_19 : decode cX4_init 19 = .ok (.aload_n 0, 1) := by decide +kernel
theorem dX4_init_20 : decode cX4_init 20 = .ok (.lconst 1, 1) := by decide +kernel
theorem dX4_init_21 : decode cX4_init 21 = .ok (.putfield 21, 3) := by decide +kernel
theorem dX4_init_24 : decode cX4_init 24 = .ok (.aload_n 0, 1) := by decide +kernel
theorem dX4_init_25 : decode cX4_init 25 = .ok (.iconst 0, 1) := by decide +kernel
theorem dX4_init_26 : decode cX4_init 26 = .ok (.putfield 24, 3) := by decide +kernel
theorem dX4_init_29 : decode cX4_init 29 = .ok (.return_, 1) := by decide +kernel
theorem dX4_toUnit_0 : decode cX4_toUnit 0 = .ok (.aload_n 0, 1) := by decide +kernel
theorem dX4_toUnit_1 : decode cX4_toUnit 1 = .ok (.lconst 1, 1) := by decide +kernel
theorem dX4_toUnit_2 : decode cX4_toUnit 2 = .ok (.putfield 9, 3) := by decide +kernel
theorem dX4_toUnit_5 : decode cX4_toUnit 5 = .ok (.aload_n 0, 1) := by decide +kernel
theorem dX4_toUnit_6 : decode cX4_toUnit 6 = .ok (.lconst 0, 1) := by decide +kernel
theorem dX4_toUnit_7 : decode cX4_toUnit 7 = .ok (.putfield 15, 3) := by decide +kernel
theorem dX4_toUnit_10 : decode cX4_toUnit 10 = .ok (.aload_n 0, 1) := by decide +kernel
theorem dX4_toUnit_11 : decode cX4_toUnit 11 = .ok (.lconst 0, 1) := by decide +kernel
theorem dX4_toUnit_12 : decode cX4_toUnit 12 = .ok (.putfield 18, 3) := by decide +kernel
theorem dX4_toUnit_15 : decode cX4_toUnit 15 = .ok (.aload_n 0, 1) := by decide +kernel
theorem dX4_toUnit_16 : decode cX4_toUnit 16 = .ok (.lconst 1, 1) := by decide +kernel
theorem dX4_toUnit_17 : decode cX4_toUnit 17 = .ok (.putfield 21, 3) := by decide +kernel
theorem dX4_toUnit_20 : decode cX4_toUnit 20 = .ok (.aload_n 0, 1) := by decide +kernel
theorem dX4_toUnit_21 : decode cX4_toUnit 21 = .ok (.iconst 0, 1) := by decide +kernel
theorem dX4_toUnit_22 : decode cX4_toUnit 22 = .ok (.putfield 24, 3) := by decide +kernel
theorem dX4_toUnit_25 : decode cX4_toUnit 25 = .ok (.return_, 1) := by decide +kernel
theorem dX4_copyOf_0 : decode cX4_copyOf 0 = .ok (.aload_n 0, 1) := by decide +kernel
theorem dX4_copyOf_1 : decode cX4_copyOf 1 = .ok (.aload_n 1, 1) := by decide +kernel
theorem dX4_copyOf_2 : decode cX4_copyOf 2 = .ok (.getfield 9, 3) := by decide +kernel
theorem dX4_copyOf_5 : decode cX4_copyOf 5 = .ok (.putfield 9, 3) := by decide +kernel
theorem dX4_copyOf_8 : decode cX4_copyOf 8 = .ok (.aload_n 0, 1) := by decide +kernel
theorem dX4_copyOf_9 : decode cX4_copyOf 9 = .ok (.aload_n 1, 1) := by decide +kernel
theorem dX4_copyOf_10 : decode cX4_copyOf 10 = .ok (.getfield 15, 3) := by decide +kernel
theorem dX4_copyOf_13 : decode cX4_copyOf 13 = .ok (.putfield 15, 3) := by decide +kernel
theorem dX4_copyOf_16 : decode cX4_copyOf 16 = .ok (.aload_n 0, 1) := by decide +kernel
theorem dX4_copyOf_17 : decode cX4_copyOf 17 = .ok (.aload_n 1, 1) := by decide +kernel
theorem dX4_copyOf_18 : decode cX4_copyOf 18 = .ok (.getfield 18, 3) := by decide +kernel
theorem dX4_copyOf_21 : decode cX4_copyOf 21 = .ok (.putfield 18, 3) := by decide +kernel
theorem dX4_copyOf_24 : decode cX4_copyOf 24 = .ok (.aload_n 0, 1) := by decide +kernel
theorem dX4_copyOf_25 : decode cX4_copyOf 25 = .ok (.aload_n 1, 1) := by decide +kernel
theorem dX4_copyOf_26 : decode cX4_copyOf 26 = .ok (.getfield 21, 3) := by decide +kernel
theorem dX4_copyOf_29 : decode cX4_copyOf 29 = .ok (.putfield 21, 3) := by decide +kernel
theorem dX4_copyOf_32 : decode cX4_copyOf 32 = .ok (.aload_n 0, 1) := by decide +kernel
theorem dX4_copyOf_33 : decode cX4_copyOf 33 = .ok (.aload_n 1, 1) := by decide +kernel
theorem dX4_copyOf_34 : decode cX4_copyOf 34 = .ok (.getfield 24, 3) := by decide +kernel
theorem dX4_copyOf_37 : decode cX4_copyOf 37 = .ok (.putfield 24, 3) := by decide +kernel
theorem dX4_copyOf_40 : decode cX4_copyOf 40 = .ok (.return_, 1) := by decide +kernel
theorem dX4_ofLayer_0 : decode cX4_ofLayer 0 = .ok (.aload_n 1, 1) := by decide +kernel
theorem dX4_ofLayer_1 : decode cX4_ofLayer 1 = .ok (.getfield 28, 3) := by decide +kernel
theorem dX4_ofLayer_4 : decode cX4_ofLayer 4 = .ok (.iload_n 2, 1) := by decide +kernel
theorem dX4_ofLayer_5 : decode cX4_ofLayer 5 = .ok (.iaload, 1) := by decide +kernel
theorem dX4_ofLayer_6 : decode cX4_ofLayer 6 = .ok (.i2l, 1) := by decide +kernel
theorem dX4_ofLayer_7 : decode cX4_ofLayer 7 = .ok (.lstore 4, 2) := by decide +kernel
theorem dX4_ofLayer_9 : decode cX4_ofLayer 9 = .ok (.aload_n 1, 1) := by decide +kernel
theorem dX4_ofLayer_10 : decode cX4_ofLayer 10 = .ok (.getfield 34, 3) := by decide +kernel
theorem dX4_ofLayer_13 : decode cX4_ofLayer 13 = .ok (.iload_n 2, 1) := by decide +kernel
theorem dX4_ofLayer_14 : decode cX4_ofLayer 14 = .ok (.iaload, 1) := by decide +kernel
theorem dX4_ofLayer_15 : decode cX4_ofLayer 15 = .ok (.i2l, 1) := by decide +kernel
theorem dX4_ofLayer_16 : decode cX4_ofLayer 16 = .ok (.lstore 6, 2) := by decide +kernel
theorem dX4_ofLayer_18 : decode cX4_ofLayer 18 = .ok (.aload_n 3, 1) := by decide +kernel
theorem dX4_ofLayer_19 : decode cX4_ofLayer 19 = .ok (.getfield 37, 3) := by decide +kernel
theorem dX4_ofLayer_22 : decode cX4_ofLayer 22 = .ok (.lstore 8, 2) := by decide +kernel
theorem dX4_ofLayer_24 : decode cX4_ofLayer 24 = .ok (.aload_n 3, 1) := by decide +kernel
theorem dX4_ofLayer_25 : decode cX4_ofLayer 25 = .ok (.getfield 42, 3) := by decide +kernel
theorem dX4_ofLayer_28 : decode cX4_ofLayer 28 = .ok (.lstore 10, 2) := by decide +kernel
theorem dX4_ofLayer_30 : decode cX4_ofLayer 30 = .ok (.aload_n 0, 1) := by decide +kernel
theorem dX4_ofLayer_31 : decode cX4_ofLayer 31 = .ok (.lload 4, 2) := by decide +kernel
theorem dX4_ofLayer_33 : decode cX4_ofLayer 33 = .ok (.lload 6, 2) := by decide +kernel
theorem dX4_ofLayer_35 : decode cX4_ofLayer 35 = .ok (.lmul, 1) := by decide +kernel
theorem dX4_ofLayer_36 : decode cX4_ofLayer 36 = .ok (.lload 10, 2) := by decide +kernel
theorem dX4_ofLayer_38 : decode cX4_ofLayer 38 = .ok (.lload 10, 2) := by decide +kernel
theorem dX4_ofLayer_40 : decode cX4_ofLayer 40 = .ok (.lmul, 1) := by decide +kernel
theorem dX4_ofLayer_41 : decode cX4_ofLayer 41 = .ok (.lload 8, 2) := by decide +kernel
theorem dX4_ofLayer_43 : decode cX4_ofLayer 43 = .ok (.lload 8, 2) := by decide +kernel
theorem dX4_ofLayer_45 : decode cX4_ofLayer 45 = .ok (.lmul, 1) := by decide +kernel
theorem dX4_ofLayer_46 : decode cX4_ofLayer 46 = .ok (.lsub, 1) := by decide +kernel
theorem dX4_ofLayer_47 : decode cX4_ofLayer 47 = .ok (.lmul, 1) := by decide +kernel
theorem dX4_ofLayer_48 : decode cX4_ofLayer 48 = .ok (.putfield 9, 3) := by decide +kernel
theorem dX4_ofLayer_51 : decode cX4_ofLayer 51 = .ok (.aload_n 0, 1) := by decide +kernel
theorem dX4_ofLayer_52 : decode cX4_ofLayer 52 = .ok (.ldc2_w 45, 3) := by decide +kernel
theorem dX4_ofLayer_55 : decode cX4_ofLayer 55 = .ok (.lload 6, 2) := by decide +kernel
theorem dX4_ofLayer_57 : decode cX4_ofLayer 57 = .ok (.lmul, 1) := by decide +kernel
theorem dX4_ofLayer_58 : decode cX4_ofLayer 58 = .ok (.lload 6, 2) := by decide +kernel
theorem dX4_ofLayer_60 : decode cX4_ofLayer 60 = .ok (.lmul, 1) := by decide +kernel
theorem dX4_ofLayer_61 : decode cX4_ofLayer 61 = .ok (.lload 8, 2) := by decide +kernel
theorem dX4_ofLayer_63 : decode cX4_ofLayer 63 = .ok (.lmul, 1) := by decide +kernel
theorem dX4_ofLayer_64 : decode cX4_ofLayer 64 = .ok (.lload 10, 2) := by decide +kernel
theorem dX4_ofLayer_66 : decode cX4_ofLayer 66 = .ok (.lmul, 1) := by decide +kernel
theorem dX4_ofLayer_67 : decode cX4_ofLayer 67 = .ok (.putfield 15, 3) := by decide +kernel
theorem dX4_ofLayer_70 : decode cX4_ofLayer 70 = .ok (.aload_n 0, 1) := by decide +kernel
theorem dX4_ofLayer_71 : decode cX4_ofLayer 71 = .ok (.ldc2_w 45, 3) := by decide +kernel
theorem dX4_ofLayer_74 : decode cX4_ofLayer 74 = .ok (.lload 4, 2) := by decide +kernel
theorem dX4_ofLayer_76 : decode cX4_ofLayer 76 = .ok (.lmul, 1) := by decide +kernel
theorem dX4_ofLayer_77 : decode cX4_ofLayer 77 = .ok (.lload 4, 2) := by decide +kernel
theorem dX4_ofLayer_79 : decode cX4_ofLayer 79 = .ok (.lmul, 1) := by decide +kernel
theorem dX4_ofLayer_80 : decode cX4_ofLayer 80 = .ok (.lload 8, 2) := by decide +kernel
theorem dX4_ofLayer_82 : decode cX4_ofLayer 82 = .ok (.lmul, 1) := by decide +kernel
theorem dX4_ofLayer_83 : decode cX4_ofLayer 83 = .ok (.lload 10, 2) := by decide +kernel
theorem dX4_ofLayer_85 : decode cX4_ofLayer 85 = .ok (.lmul, 1) := by decide +kernel
theorem dX4_ofLayer_86 : decode cX4_ofLayer 86 = .ok (.putfield 18, 3) := by decide +kernel
theorem dX4_ofLayer_89 : decode cX4_ofLayer 89 = .ok (.aload_n 0, 1) := by decide +kernel
theorem dX4_ofLayer_90 : decode cX4_ofLayer 90 = .ok (.aload_n 0, 1) := by decide +kernel
theorem dX4_ofLayer_91 : decode cX4_ofLayer 91 = .ok (.getfield 9, 3) := by decide +kernel
theorem dX4_ofLayer_94 : decode cX4_ofLayer 94 = .ok (.putfield 21, 3) := by decide +kernel
theorem dX4_ofLayer_97 : decode cX4_ofLayer 97 = .ok (.aload_n 0, 1) := by decide +kernel
theorem dX4_ofLayer_98 : decode cX4_ofLayer 98 = .ok (.invokevirtual 47, 3) := by decide +kernel
theorem dX4_ofLayer_101 : decode cX4_ofLayer 101 = .ok (.return_, 1) := by decide +kernel
theorem dX4_ofRowAndLayer_0 : decode cX4_ofRowAndLayer 0 = .ok (.aload_n 1, 1) := by decide +kernel
theorem dX4_ofRowAndLayer_1 : decode cX4_ofRowAndLayer 1 = .ok (.getfield 24, 3) := by decide +kernel
theorem dX4_ofRowAndLayer_4 : decode cX4_ofRowAndLayer 4 = .ok (.ifCond .ne 10, 3) := by decide +kernel
theorem dX4_ofRowAndLayer_7 : decode cX4_ofRowAndLayer 7 = .ok (.aload_n 2, 1) := by decide +kernel
theorem dX4_ofRowAndLayer_8 : decode cX4_ofRowAndLayer 8 = .ok (.getfield 24, 3) := by decide +kernel
theorem dX4_ofRowAndLayer_11 : decode cX4_ofRowAndLayer 11 = .ok (.ifCond .eq 9, 3) := by decide +kernel
theorem dX4_ofRowAndLayer_14 : decode cX4_ofRowAndLayer 14 = .ok (.aload_n 0, 1) := by decide +kernel
theorem dX4_ofRowAndLayer_15 : decode cX4_ofRowAndLayer 15 = .ok (.iconst 1, 1) := by decide +kernel
theorem dX4_ofRowAndLayer_16 : decode cX4_ofRowAndLayer 16 = .ok (.putfield 24, 3) := by decide +kernel
theorem dX4_ofRowAndLayer_19 : decode cX4_ofRowAndLayer 19 = .ok (.return_, 1) := by decide +kernel
theorem dX4_ofRowAndLayer_20 : decode cX4_ofRowAndLayer 20 = .ok (.aload_n 1, 1) := by decide +kernel
theorem dX4_ofRowAndLayer_21 : decode cX4_ofRowAndLayer 21 = .ok (.getfield 9, 3) := by decide +kernel
theorem dX4_ofRowAndLayer_24 : decode cX4_ofRowAndLayer 24 = .ok (.aload_n 2, 1) := by decide +kernel
theorem dX4_ofRowAndLayer_25 : decode cX4_ofRowAndLayer 25 = .ok (.getfield 9, 3) := by decide +kernel
theorem dX4_ofRowAndLayer_28 : decode cX4_ofRowAndLayer 28 = .ok (.lmul, 1) := by decide +kernel
theorem dX4_ofRowAndLayer_29 : decode cX4_ofRowAndLayer 29 = .ok (.aload_n 1, 1) := by decide +kernel
theorem dX4_ofRowAndLayer_30 : decode cX4_ofRowAndLayer 30 = .ok (.getfield 15, 3) := by decide +kernel
theorem dX4_ofRowAndLayer_33 : decode cX4_ofRowAndLayer 33 = .ok (.aload_n 2, 1) := by decide +kernel
theorem dX4_ofRowAndLayer_34 : decode cX4_ofRowAndLayer 34 = .ok (.getfield 18, 3) := by decide +kernel
theorem dX4_ofRowAndLayer_37 : decode cX4_ofRowAndLayer 37 = .ok (.lmul, 1) := by decide +kernel
theorem dX4_ofRowAndLayer_38 : decode cX4_ofRowAndLayer 38 = .ok (.lsub, 1) := by decide +kernel
theorem dX4_ofRowAndLayer_39 : decode cX4_ofRowAndLayer 39 = .ok (.lstore_n 3, 1) := by decide +kernel
theorem dX4_ofRowAndLayer_40 : decode cX4_ofRowAndLayer 40 = .ok (.aload_n 1, 1) := by decide +kernel
theorem dX4_ofRowAndLayer_41 : decode cX4_ofRowAndLayer 41 = .ok (.getfield 9, 3) := by decide +kernel
theorem dX4_ofRowAndLayer_44 : decode cX4_ofRowAndLayer 44 = .ok (.aload_n 2, 1) := by decide +kernel
theorem dX4_ofRowAndLayer_45 : decode cX4_ofRowAndLayer 45 = .ok (.getfield 15, 3) := by decide +kernel
theorem dX4_ofRowAndLayer_48 : decode cX4_ofRowAndLayer 48 = .ok (.lmul, 1) := by decide +kernel
theorem dX4_ofRowAndLayer_49 : decode cX4_ofRowAndLayer 49 = .ok (.aload_n 1, 1) := by decide +kernel
theorem dX4_ofRowAndLayer_50 : decode cX4_ofRowAndLayer 50 = .ok (.getfield 15, 3) := by decide +kernel
theorem dX4_ofRowAndLayer_53 : decode cX4_ofRowAndLayer 53 = .ok (.aload_n 2, 1) := by decide +kernel
theorem dX4_ofRowAndLayer_54 : decode cX4_ofRowAndLayer 54 = .ok (.getfield 21, 3) := by decide +kernel
theorem dX4_ofRowAndLayer_57 : decode cX4_ofRowAndLayer 57 = .ok (.lmul, 1) := by decide +kernel
theorem dX4_ofRowAndLayer_58 : decode cX4_ofRowAndLayer 58 = .ok (.ladd, 1) := by decide +kernel
theorem dX4_ofRowAndLayer_59 : decode cX4_ofRowAndLayer 59 = .ok (.lstore 5, 2) := by decide +kernel
theorem dX4_ofRowAndLayer_61 : decode cX4_ofRowAndLayer 61 = .ok (.aload_n 1, 1) := by decide +kernel
theorem dX4_ofRowAndLayer_62 : decode cX4_ofRowAndLayer 62 = .ok (.getfield 18, 3) := by decide +kernel
theorem dX4_ofRowAndLayer_65 : decode cX4_ofRowAndLayer 65 = .ok (.aload_n 2, 1) := by decide +kernel
theorem dX4_ofRowAndLayer_66 : decode cX4_ofRowAndLayer 66 = .ok (.getfield 9, 3) := by decide +kernel
theorem dX4_ofRowAndLayer_69 : decode cX4_ofRowAndLayer 69 = .ok (.lmul, 1) := by decide +kernel
theorem dX4_ofRowAndLayer_70 : decode cX4_ofRowAndLayer 70 = .ok (.aload_n 1, 1) := by decide +kernel
theorem dX4_ofRowAndLayer_71 : decode cX4_ofRowAndLayer 71 = .ok (.getfield 21, 3) := by decide +kernel
theorem dX4_ofRowAndLayer_74 : decode cX4_ofRowAndLayer 74 = .ok (.aload_n 2, 1) := by decide +kernel
theorem dX4_ofRowAndLayer_75 : decode cX4_ofRowAndLayer 75 = .ok (.getfield 18, 3) := by decide +kernel
theorem dX4_ofRowAndLayer_78 : decode cX4_ofRowAndLayer 78 = .ok (.lmul, 1) := by decide +kernel
theorem dX4_ofRowAndLayer_79 : decode cX4_ofRowAndLayer 79 = .ok (.ladd, 1) := by decide +kernel
theorem dX4_ofRowAndLayer_80 : decode cX4_ofRowAndLayer 80 = .ok (.lstore 7, 2) := by decide +kernel
theorem dX4_ofRowAndLayer_82 : decode cX4_ofRowAndLayer 82 = .ok (.aload_n 1, 1) := by decide +kernel
theorem dX4_ofRowAndLayer_83 : decode cX4_ofRowAndLayer 83 = .ok (.getfield 21, 3) := by decide +kernel
theorem dX4_ofRowAndLayer_86 : decode cX4_ofRowAndLayer 86 = .ok (.aload_n 2, 1) := by decide +kernel
theorem dX4_ofRowAndLayer_87 : decode cX4_ofRowAndLayer 87 = .ok (.getfield 21, 3) := by decide +kernel
theorem dX4_ofRowAndLayer_90 : decode cX4_ofRowAndLayer 90 = .ok (.lmul, 1) := by decide +kernel
theorem dX4_ofRowAndLayer_91 : decode cX4_ofRowAndLayer 91 = .ok (.aload_n 1, 1) := by decide +kernel
theorem dX4_ofRowAndLayer_92 : decode cX4_ofRowAndLayer 92 = .ok (.getfield 18, 3) := by decide +kernel
theorem dX4_ofRowAndLayer_95 : decode cX4_ofRowAndLayer 95 = .ok (.aload_n 2, 1) := by decide +kernel
theorem dX4_ofRowAndLayer_96 : decode cX4_ofRowAndLayer 96 = .ok (.getfield 15, 3) := by decide +kernel
theorem dX4_ofRowAndLayer_99 : decode cX4_ofRowAndLayer 99 = .ok (.lmul, 1) := by decide +kernel
theorem dX4_ofRowAndLayer_100 : decode cX4_ofRowAndLayer 100 = .ok (.lsub, 1) := by decide +kernel
theorem dX4_ofRowAndLayer_101 : decode cX4_ofRowAndLayer 101 = .ok (.lstore 9, 2) := by decide +kernel
theorem dX4_ofRowAndLayer_103 : decode cX4_ofRowAndLayer 103 = .ok (.aload_n 0, 1) := by decide +kernel
theorem dX4_ofRowAndLayer_104 : decode cX4_ofRowAndLayer 104 = .ok (.lload_n 3, 1) := by decide +kernel
theorem dX4_ofRowAndLayer_105 : decode cX4_ofRowAndLayer 105 = .ok (.putfield 9, 3) := by decide +kernel
theorem dX4_ofRowAndLayer_108 : decode cX4_ofRowAndLayer 108 = .ok (.aload_n 0, 1) := by decide +kernel
theorem dX4_ofRowAndLayer_109 : decode cX4_ofRowAndLayer 109 = .ok (.lload 5, 2) := by decide +kernel
theorem dX4_ofRowAndLayer_111 : decode cX4_ofRowAndLayer 111 = .ok (.putfield 15, 3) := by decide +kernel
theorem dX4_ofRowAndLayer_114 : decode cX4_ofRowAndLayer 114 = .ok (.aload_n 0, 1) := by decide +kernel
theorem dX4_ofRowAndLayer_115 : decode cX4_ofRowAndLayer 115 = .ok (.lload 7, 2) := by decide +kernel
theorem dX4_ofRowAndLayer_117 : decode cX4_ofRowAndLayer 117 = .ok (.putfield 18, 3) := by decide +kernel
theorem dX4_ofRowAndLayer_120 : decode cX4_ofRowAndLayer 120 = .ok (.aload_n 0, 1) := by decide +kernel
theorem dX4_ofRowAndLayer_121 : decode cX4_ofRowAndLayer 121 = .ok (.lload 9, 2) := by decide +kernel
theorem dX4_ofRowAndLayer_123 : decode cX4_ofRowAndLayer 123 = .ok (.putfield 21, 3) := by decide +kernel
theorem dX4_ofRowAndLayer_126 : decode cX4_ofRowAndLayer 126 = .ok (.aload_n 0, 1) := by decide +kernel
theorem dX4_ofRowAndLayer_127 : decode cX4_ofRowAndLayer 127 = .ok (.invokevirtual 47, 3) := by decide +kernel
theorem dX4_ofRowAndLayer_130 : decode cX4_ofRowAndLayer 130 = .ok (.return_, 1) := by decide +kernel
theorem dX4_number_0 : decode cX4_number 0 = .ok (.iload_n 1, 1) := by decide +kernel
theorem dX4_number_1 : decode cX4_number 1 = .ok (.tableswitch 42 0 2 #[27, 32, 37], 27) := by decide +kernel
theorem dX4_number_28 : decode cX4_number 28 = .ok (.aload_n 0, 1) := by decide +kernel
theorem dX4_number_29 : decode cX4_number 29 = .ok (.getfield 9, 3) := by decide +kernel
theorem dX4_number_32 : decode cX4_number 32 = .ok (.lreturn, 1) := by decide +kernel
theorem dX4_number_33 : decode cX4_number 33 = .ok (.aload_n 0, 1) := by decide +kernel
theorem dX4_number_34 : decode cX4_number 34 = .ok (.getfield 15, 3) := by decide +kernel
theorem dX4_number_37 : decode cX4_number 37 = .ok (.lreturn, 1) := by decide +kernel
theorem dX4_number_38 : decode cX4_number 38 = .ok (.aload_n 0, 1) := by decide +kernel
theorem dX4_number_39 : decode cX4_number 39 = .ok (.getfield 18, 3) := by decide +kernel
theorem dX4_number_42 : decode cX4_number 42 = .ok (.lreturn, 1) := by decide +kernel
theorem dX4_number_43 : decode cX4_number 43 = .ok (.aload_n 0, 1) := by decide +kernel
theorem dX4_number_44 : decode cX4_number 44 = .ok (.getfield 21, 3) := by decide +kernel
theorem dX4_number_47 : decode cX4_number 47 = .ok (.lreturn, 1) := by decide +kernel
theorem dX4_settle_0 : decode cX4_settle 0 = .ok (.aload_n 0, 1) := by decide +kernel
theorem dX4_settle_1 : decode cX4_settle 1 = .ok (.getfield 9, 3) := by decide +kernel
theorem dX4_settle_4 : decode cX4_settle 4 = .ok (.aload_n 0, 1) := by decide +kernel
theorem dX4_settle_5 : decode cX4_settle 5 = .ok (.getfield 15, 3) := by decide +kernel
theorem dX4_settle_8 : decode cX4_settle 8 = .ok (.invokestatic 50, 3) := by decide +kernel
theorem dX4_settle_11 : decode cX4_settle 11 = .ok (.aload_n 0, 1) := by decide +kernel
theorem dX4_settle_12 : decode cX4_settle 12 = .ok (.getfield 18, 3) := by decide +kernel
theorem dX4_settle_15 : decode cX4_settle 15 = .ok (.invokestatic 50, 3) := by decide +kernel
theorem dX4_settle_18 : decode cX4_settle 18 = .ok (.aload_n 0, 1) := by decide +kernel
theorem dX4_settle_19 : decode cX4_settle 19 = .ok (.getfield 21, 3) := by decide +kernel
theorem dX4_settle_22 : decode cX4_settle 22 = .ok (.invokestatic 50, 3) := by decide +kernel
theorem dX4_settle_25 : decode cX4_settle 25 = .ok (.lstore_n 1, 1) := by decide +kernel
theorem dX4_settle_26 : decode cX4_settle 26 = .ok (.lload_n 1, 1) := by decide +kernel
theorem dX4_settle_27 : decode cX4_settle 27 = .ok (.lconst 1, 1) := by decide +kernel
theorem dX4_settle_28 : decode cX4_settle 28 = .ok (.lcmp, 1) := by decide +kernel
theorem dX4_settle_29 : decode cX4_settle 29 = .ok (.ifCond .le 43, 3) := by decide +kernel
theorem dX4_settle_32 : decode cX4_settle 32 = .ok (.aload_n 0, 1) := by decide +kernel
theorem dX4_settle_33 : decode cX4_settle 33 = .ok (.dup, 1) := by decide +kernel
theorem dX4_settle_34 : decode cX4_settle 34 = .ok (.getfield 9, 3) := by decide +kernel
theorem dX4_settle_37 : decode cX4_settle 37 = .ok (.lload_n 1, 1) := by decide +kernel
theorem dX4_settle_38 : decode cX4_settle 38 = .ok (.ldiv, 1) := by decide +kernel
theorem dX4_settle_39 : decode cX4_settle 39 = .ok (.putfield 9, 3) := by decide +kernel
theorem dX4_settle_42 : decode cX4_settle 42 = .ok (.aload_n 0, 1) := by decide +kernel
theorem dX4_settle_43 : decode cX4_settle 43 = .ok (.dup, 1) := by decide +kernel
theorem dX4_settle_44 : decode cX4_settle 44 = .ok (.getfield 15, 3) := by decide +kernel
theorem dX4_settle_47 : decode cX4_settle 47 = .ok (.lload_n 1, 1) := by decide +kernel
theorem dX4_settle_48 : decode cX4_settle 48 = .ok (.ldiv, 1) := by decide +kernel
theorem dX4_settle_49 : decode cX4_settle 49 = .ok (.putfield 15, 3) := by decide +kernel
theorem dX4_settle_52 : decode cX4_settle 52 = .ok (.aload_n 0, 1) := by decide +kernel
theorem dX4_settle_53 : decode cX4_settle 53 = .ok (.dup, 1) := by decide +kernel
theorem dX4_settle_54 : decode cX4_settle 54 = .ok (.getfield 18, 3) := by decide +kernel
theorem dX4_settle_57 : decode cX4_settle 57 = .ok (.lload_n 1, 1) := by decide +kernel
theorem dX4_settle_58 : decode cX4_settle 58 = .ok (.ldiv, 1) := by decide +kernel
theorem dX4_settle_59 : decode cX4_settle 59 = .ok (.putfield 18, 3) := by decide +kernel
theorem dX4_settle_62 : decode cX4_settle 62 = .ok (.aload_n 0, 1) := by decide +kernel
theorem dX4_settle_63 : decode cX4_settle 63 = .ok (.dup, 1) := by decide +kernel
theorem dX4_settle_64 : decode cX4_settle 64 = .ok (.getfield 21, 3) := by decide +kernel
theorem dX4_settle_67 : decode cX4_settle 67 = .ok (.lload_n 1, 1) := by decide +kernel
theorem dX4_settle_68 : decode cX4_settle 68 = .ok (.ldiv, 1) := by decide +kernel
theorem dX4_settle_69 : decode cX4_settle 69 = .ok (.putfield 21, 3) := by decide +kernel
theorem dX4_settle_72 : decode cX4_settle 72 = .ok (.aload_n 0, 1) := by decide +kernel
theorem dX4_settle_73 : decode cX4_settle 73 = .ok (.aload_n 0, 1) := by decide +kernel
theorem dX4_settle_74 : decode cX4_settle 74 = .ok (.getfield 9, 3) := by decide +kernel
theorem dX4_settle_77 : decode cX4_settle 77 = .ok (.invokestatic 54, 3) := by decide +kernel
theorem dX4_settle_80 : decode cX4_settle 80 = .ok (.ifCond .ne 33, 3) := by decide +kernel
theorem dX4_settle_83 : decode cX4_settle 83 = .ok (.aload_n 0, 1) := by decide +kernel
theorem dX4_settle_84 : decode cX4_settle 84 = .ok (.getfield 15, 3) := by decide +kernel
theorem dX4_settle_87 : decode cX4_settle 87 = .ok (.invokestatic 54, 3) := by decide +kernel
theorem dX4_settle_90 : decode cX4_settle 90 = .ok (.ifCond .ne 23, 3) := by decide +kernel
theorem dX4_settle_93 : decode cX4_settle 93 = .ok (.aload_n 0, 1) := by decide +kernel
theorem dX4_settle_94 : decode cX4_settle 94 = .ok (.getfield 18, 3) := by decide +kernel
theorem dX4_settle_97 : decode cX4_settle 97 = .ok (.invokestatic 54, 3) := by decide +kernel
theorem dX4_settle_100 : decode cX4_settle 100 = .ok (.ifCond .ne 13, 3) := by decide +kernel
theorem dX4_settle_103 : decode cX4_settle 103 = .ok (.aload_n 0, 1) := by decide +kernel
theorem dX4_settle_104 : decode cX4_settle 104 = .ok (.getfield 21, 3) := by decide +kernel
theorem dX4_settle_107 : decode cX4_settle 107 = .ok (.invokestatic 54, 3) := by decide +kernel
theorem dX4_settle_110 : decode cX4_settle 110 = .ok (.ifCond .eq 7, 3) := by decide +kernel
theorem dX4_settle_113 : decode cX4_settle 113 = .ok (.iconst 1, 1) := by decide +kernel
theorem dX4_settle_114 : decode cX4_settle 114 = .ok (.goto 4, 3) := by decide +kernel
theorem dX4_settle_117 : decode cX4_settle 117 = .ok (.iconst 0, 1) := by decide +kernel
theorem dX4_settle_118 : decode cX4_settle 118 = .ok (.putfield 24, 3) := by decide +kernel
theorem dX4_settle_121 : decode cX4_settle 121 = .ok (.return_, 1) := by decide +kernel
theorem dX4_isBeyond_0 : decode cX4_isBeyond 0 = .ok (.lload_n 0, 1) := by decide +kernel
theorem dX4_isBeyond_1 : decode cX4_isBeyond 1 = .ok (.ldc2_w 58, 3) := by decide +kernel
theorem dX4_isBeyond_4 : decode cX4_isBeyond 4 = .ok (.lcmp, 1) := by decide +kernel
theorem dX4_isBeyond_5 : decode cX4_isBeyond 5 = .ok (.ifCond .gt 11, 3) := by decide +kernel
theorem dX4_isBeyond_8 : decode cX4_isBeyond 8 = .ok (.lload_n 0, 1) := by decide +kernel
theorem dX4_isBeyond_9 : decode cX4_isBeyond 9 = .ok (.ldc2_w 60, 3) := by decide +kernel
theorem dX4_isBeyond_12 : decode cX4_isBeyond 12 = .ok (.lcmp, 1) := by decide +kernel
theorem dX4_isBeyond_13 : decode cX4_isBeyond 13 = .ok (.ifCond .ge 7, 3) := by decide +kernel
theorem dX4_isBeyond_16 : decode cX4_isBeyond 16 = .ok (.iconst 1, 1) := by decide +kernel
theorem dX4_isBeyond_17 : decode cX4_isBeyond 17 = .ok (.goto 4, 3) := by decide +kernel
theorem dX4_isBeyond_20 : decode cX4_isBeyond 20 = .ok (.iconst 0, 1) := by decide +kernel
theorem dX4_isBeyond_21 : decode cX4_isBeyond 21 = .ok (.ireturn, 1) := by decide +kernel
theorem dX5_init_0 : decode cX5_init 0 = .ok (.aload_n 0, 1) := by decide +kernel
theorem dX5_init_1 : decode cX5_init 1 = .ok (.invokespecial 1, 3) := by decide +kernel
theorem dX5_init_4 : decode cX5_init 4 = .ok (.aload_n 0, 1) := by decide +kernel
theorem dX5_init_5 : decode cX5_init 5 = .ok (.getstatic 7, 3) := by decide +kernel
theorem dX5_init_8 : decode cX5_init 8 = .ok (.invokevirtual 13, 3) := by decide +kernel
theorem dX5_init_11 : decode cX5_init 11 = .ok (.checkcast 14, 3) := by decide +kernel
theorem dX5_init_14 : decode cX5_init 14 = .ok (.putfield 18, 3) := by decide +kernel
theorem dX5_init_17 : decode cX5_init 17 = .ok (.aload_n 0, 1) := by decide +kernel
theorem dX5_init_18 : decode cX5_init 18 = .ok (.getstatic 23, 3) := by decide +kernel
theorem dX5_init_21 : decode cX5_init 21 = .ok (.invokevirtual 13, 3) := by decide +kernel
theorem dX5_init_24 : decode cX5_init 24 = .ok (.checkcast 14, 3) := by decide +kernel
theorem dX5_init_27 : decode cX5_init 27 = .ok (.putfield 26, 3) := by decide +kernel
theorem dX5_init_30 : decode cX5_init 30 = .ok (.aload_n 0, 1) := by decide +kernel
theorem dX5_init_31 : decode cX5_init 31 = .ok (.iconst 0, 1) := by decide +kernel
theorem dX5_init_32 : decode cX5_init 32 = .ok (.putfield 29, 3) := by decide +kernel
theorem dX5_init_35 : decode cX5_init 35 = .ok (.aload_n 0, 1) := by decide +kernel
theorem dX5_init_36 : decode cX5_init 36 = .ok (.iconst 1, 1) := by decide +kernel
theorem dX5_init_37 : decode cX5_init 37 = .ok (.putfield 33, 3) := by decide +kernel
theorem dX5_init_40 : decode cX5_init 40 = .ok (.return_, 1) := by decide +kernel
theorem dX5_changeIndex_0 : decode cX5_changeIndex 0 = .ok (.iload_n 2, 1) := by decide +kernel
theorem dX5_changeIndex_1 : decode cX5_changeIndex 1 = .ok (.aload_n 0, 1) := by decide +kernel
theorem dX5_changeIndex_2 : decode cX5_changeIndex 2 = .ok (.getfield 26, 3) := by decide +kernel
theorem dX5_changeIndex_5 : decode cX5_changeIndex 5 = .ok (.iload_n 1, 1) := by decide +kernel
theorem dX5_changeIndex_6 : decode cX5_changeIndex 6 = .ok (.iaload, 1) := by decide +kernel
theorem dX5_changeIndex_7 : decode cX5_changeIndex 7 = .ok (.imul, 1) := by decide +kernel
theorem dX5_changeIndex_8 : decode cX5_changeIndex 8 = .ok (.iload_n 3, 1) := by decide +kernel
theorem dX5_changeIndex_9 : decode cX5_changeIndex 9 = .ok (.aload_n 0, 1) := by decide +kernel
theorem dX5_changeIndex_10 : decode cX5_changeIndex 10 = .ok (.getfield 18, 3) := by decide +kernel
theorem dX5_changeIndex_13 : decode cX5_changeIndex 13 = .ok (.iload_n 1, 1) := by decide +kernel
theorem dX5_changeIndex_14 : decode cX5_changeIndex 14 = .ok (.iaload, 1) := by decide +kernel
theorem dX5_changeIndex_15 : decode cX5_changeIndex 15 = .ok (.imul, 1) := by decide +kernel
theorem dX5_changeIndex_16 : decode cX5_changeIndex 16 = .ok (.if_icmp .ne 5, 3) := by decide +kernel
theorem dX5_changeIndex_19 : decode cX5_changeIndex 19 = .ok (.iconst 0, 1) := by decide +kernel
theorem dX5_changeIndex_20 : decode cX5_changeIndex 20 = .ok (.ireturn, 1) := by decide +kernel
theorem dX5_changeIndex_21 : decode cX5_changeIndex 21 = .ok (.iload_n 2, 1) := by decide +kernel
theorem dX5_changeIndex_22 : decode cX5_changeIndex 22 = .ok (.i2l, 1) := by decide +kernel
theorem dX5_changeIndex_23 : decode cX5_changeIndex 23 = .ok (.iload_n 3, 1) := by decide +kernel
theorem dX5_changeIndex_24 : decode cX5_changeIndex 24 = .ok (.i2l, 1) := by decide +kernel
theorem dX5_changeIndex_25 : decode cX5_changeIndex 25 = .ok (.invokestatic 36, 3) := by decide +kernel
theorem dX5_changeIndex_28 : decode cX5_changeIndex 28 = .ok (.lstore 4, 2) := by decide +kernel
theorem dX5_changeIndex_30 : decode cX5_changeIndex 30 = .ok (.lload 4, 2) := by decide +kernel
theorem dX5_changeIndex_32 : decode cX5_changeIndex 32 = .ok (.lconst 1, 1) := by decide +kernel
theorem dX5_changeIndex_33 : decode cX5_changeIndex 33 = .ok (.lcmp, 1) := by decide +kernel
theorem dX5_changeIndex_34 : decode cX5_changeIndex 34 = .ok (.ifCond .le 9, 3) := by decide +kernel
theorem dX5_changeIndex_37 : decode cX5_changeIndex 37 = .ok (.lload 4, 2) := by decide +kernel
theorem dX5_changeIndex_39 : decode cX5_changeIndex 39 = .ok (.l2i, 1) := by decide +kernel
theorem dX5_changeIndex_40 : decode cX5_changeIndex 40 = .ok (.goto 4, 3) := by decide +kernel
theorem dX5_changeIndex_43 : decode cX5_changeIndex 43 = .ok (.iconst 1, 1) := by decide +kernel
theorem dX5_changeIndex_44 : decode cX5_changeIndex 44 = .ok (.istore 6, 2) := by decide +kernel
theorem dX5_changeIndex_46 : decode cX5_changeIndex 46 = .ok (.aload_n 0, 1) := by decide +kernel
theorem dX5_changeIndex_47 : decode cX5_changeIndex 47 = .ok (.getfield 18, 3) := by decide +kernel
theorem dX5_changeIndex_50 : decode cX5_changeIndex 50 = .ok (.iload_n 1, 1) := by decide +kernel
theorem dX5_changeIndex_51 : decode cX5_changeIndex 51 = .ok (.iload_n 2, 1) := by decide +kernel
theorem dX5_changeIndex_52 : decode cX5_changeIndex 52 = .ok (.iload 6, 2) := by decide +kernel
theorem dX5_changeIndex_54 : decode cX5_changeIndex 54 = .ok (.idiv, 1) := by decide +kernel
theorem dX5_changeIndex_55 : decode cX5_changeIndex 55 = .ok (.iastore, 1) := by decide +kernel
theorem dX5_changeIndex_56 : decode cX5_changeIndex 56 = .ok (.aload_n 0, 1) := by decide +kernel
theorem dX5_changeIndex_57 : decode cX5_changeIndex 57 = .ok (.getfield 26, 3) := by decide +kernel
theorem dX5_changeIndex_60 : decode cX5_changeIndex 60 = .ok (.iload_n 1, 1) := by decide +kernel
theorem dX5_changeIndex_61 : decode cX5_changeIndex 61 = .ok (.iload_n 3, 1) := by decide +kernel
theorem dX5_changeIndex_62 : decode cX5_changeIndex 62 = .ok (.iload 6, 2) := by decide +kernel
theorem dX5_changeIndex_64 : decode cX5_changeIndex 64 = .ok (.idiv, 1) := by decide +kernel
theorem dX5_changeIndex_65 : decode cX5_changeIndex 65 = .ok (.iastore, 1) := by decide +kernel
theorem dX5_changeIndex_66 : decode cX5_changeIndex 66 = .ok (.iconst 1, 1) := by decide +kernel
theorem dX5_changeIndex_67 : decode cX5_changeIndex 67 = .ok (.ireturn, 1) := by decide +kernel
theorem dX5_swapSides_0 : decode cX5_swapSides 0 = .ok (.aload_n 0, 1) := by decide +kernel
theorem dX5_swapSides_1 : decode cX5_swapSides 1 = .ok (.getfield 29, 3) := by decide +kernel
theorem dX5_swapSides_4 : decode cX5_swapSides 4 = .ok (.istore_n 1, 1) := by decide +kernel
theorem dX5_swapSides_5 : decode cX5_swapSides 5 = .ok (.aload_n 0, 1) := by decide +kernel
theorem dX5_swapSides_6 : decode cX5_swapSides 6 = .ok (.aload_n 0, 1) := by decide +kernel
theorem dX5_swapSides_7 : decode cX5_swapSides 7 = .ok (.getfield 33, 3) := by decide +kernel
theorem dX5_swapSides_10 : decode cX5_swapSides 10 = .ok (.putfield 29, 3) := by decide +kernel
theorem dX5_swapSides_13 : decode cX5_swapSides 13 = .ok (.aload_n 0, 1) := by decide +kernel
theorem dX5_swapSides_14 : decode cX5_swapSides 14 = .ok (.iload_n 1, 1) := by decide +kernel
theorem dX5_swapSides_15 : decode cX5_swapSides 15 = .ok (.putfield 33, 3) := by decide +kernel
theorem dX5_swapSides_18 : decode cX5_swapSides 18 = .ok (.return_, 1) := by decide +kernel
theorem dX5_measureBack_0 : decode cX5_measureBack 0 = .ok (.aload_n 0, 1) := by decide +kernel
theorem dX5_measureBack_1 : decode cX5_measureBack 1 = .ok (.getfield 18, 3) := by decide +kernel
theorem dX5_measureBack_4 : decode cX5_measureBack 4 = .ok (.aload_n 0, 1) := by decide +kernel
theorem dX5_measureBack_5 : decode cX5_measureBack 5 = .ok (.getfield 29, 3) := by decide +kernel
theorem dX5_measureBack_8 : decode cX5_measureBack 8 = .ok (.iaload, 1) := by decide +kernel
theorem dX5_measureBack_9 : decode cX5_measureBack 9 = .ok (.i2l, 1) := by decide +kernel
theorem dX5_measureBack_10 : decode cX5_measureBack 10 = .ok (.aload_n 0, 1) := by decide +kernel
theorem dX5_measureBack_11 : decode cX5_measureBack 11 = .ok (.getfield 26, 3) := by decide +kernel
theorem dX5_measureBack_14 : decode cX5_measureBack 14 = .ok (.aload_n 0, 1) := by decide +kernel
theorem dX5_measureBack_15 : decode cX5_measureBack 15 = .ok (.getfield 33, 3) := by decide +kernel
theorem dX5_measureBack_18 : decode cX5_measureBack 18 = .ok (.iaload, 1) := by decide +kernel
theorem dX5_measureBack_19 : decode cX5_measureBack 19 = .ok (.i2l, 1) := by decide +kernel
theorem dX5_measureBack_20 : decode cX5_measureBack 20 = .ok (.lmul, 1) := by decide +kernel
theorem dX5_measureBack_21 : decode cX5_measureBack 21 = .ok (.aload_n 1, 1) := by decide +kernel
theorem dX5_measureBack_22 : decode cX5_measureBack 22 = .ok (.getfield 40, 3) := by decide +kernel
theorem dX5_measureBack_25 : decode cX5_measureBack 25 = .ok (.lmul, 1) := by decide +kernel
theorem dX5_measureBack_26 : decode cX5_measureBack 26 = .ok (.aload_n 0, 1) := by decide +kernel
theorem dX5_measureBack_27 : decode cX5_measureBack 27 = .ok (.getfield 26, 3) := by decide +kernel
theorem dX5_measureBack_30 : decode cX5_measureBack 30 = .ok (.aload_n 0, 1) := by decide +kernel
theorem dX5_measureBack_31 : decode cX5_measureBack 31 = .ok (.getfield 29, 3) := by decide +kernel
theorem dX5_measureBack_34 : decode cX5_measureBack 34 = .ok (.iaload, 1) := by decide +kernel
theorem dX5_measureBack_35 : decode cX5_measureBack 35 = .ok (.i2l, 1) := by decide +kernel
theorem dX5_measureBack_36 : decode cX5_measureBack 36 = .ok (.aload_n 0, 1) := by decide +kernel
theorem dX5_measureBack_37 : decode cX5_measureBack 37 = .ok (.getfield 18, 3) := by decide +kernel
theorem dX5_measureBack_40 : decode cX5_measureBack 40 = .ok (.aload_n 0, 1) := by decide +kernel
theorem dX5_measureBack_41 : decode cX5_measureBack 41 = .ok (.getfield 33, 3) := by decide +kernel
theorem dX5_measureBack_44 : decode cX5_measureBack 44 = .ok (.iaload, 1) := by decide +kernel
theorem dX5_measureBack_45 : decode cX5_measureBack 45 = .ok (.i2l, 1) := by decide +kernel
theorem dX5_measureBack_46 : decode cX5_measureBack 46 = .ok (.lmul, 1) := by decide +kernel
theorem dX5_measureBack_47 : decode cX5_measureBack 47 = .ok (.aload_n 1, 1) := by decide +kernel
theorem dX5_measureBack_48 : decode cX5_measureBack 48 = .ok (.getfield 46, 3) := by decide +kernel
theorem dX5_measureBack_51 : decode cX5_measureBack 51 = .ok (.lmul, 1) := by decide +kernel
theorem dX5_measureBack_52 : decode cX5_measureBack 52 = .ok (.lsub, 1) := by decide +kernel
theorem dX5_measureBack_53 : decode cX5_measureBack 53 = .ok (.lstore_n 3, 1) := by decide +kernel
theorem dX5_measureBack_54 : decode cX5_measureBack 54 = .ok (.aload_n 0, 1) := by decide +kernel
theorem dX5_measureBack_55 : decode cX5_measureBack 55 = .ok (.getfield 18, 3) := by decide +kernel
theorem dX5_measureBack_58 : decode cX5_measureBack 58 = .ok (.aload_n 0, 1) := by decide +kernel
theorem dX5_measureBack_59 : decode cX5_measureBack 59 = .ok (.getfield 29, 3) := by decide +kernel
theorem dX5_measureBack_62 : decode cX5_measureBack 62 = .ok (.iaload, 1) := by decide +kernel
theorem dX5_measureBack_63 : decode cX5_measureBack 63 = .ok (.i2l, 1) := by decide +kernel
theorem dX5_measureBack_64 : decode cX5_measureBack 64 = .ok (.aload_n 0, 1) := by decide +kernel
theorem dX5_measureBack_65 : decode cX5_measureBack 65 = .ok (.getfield 18, 3) := by decide +kernel
theorem dX5_measureBack_68 : decode cX5_measureBack 68 = .ok (.aload_n 0, 1) := by decide +kernel
theorem dX5_measureBack_69 : decode cX5_measureBack 69 = .ok (.getfield 33, 3) := by decide +kernel
theorem dX5_measureBack_72 : decode cX5_measureBack 72 = .ok (.iaload, 1) := by decide +kernel
theorem dX5_measureBack_73 : decode cX5_measureBack 73 = .ok (.i2l, 1) := by decide +kernel
theorem dX5_measureBack_74 : decode cX5_measureBack 74 = .ok (.lmul, 1) := by decide +kernel
theorem dX5_measureBack_75 : decode cX5_measureBack 75 = .ok (.aload_n 1, 1) := by decide +kernel
theorem dX5_measureBack_76 : decode cX5_measureBack 76 = .ok (.getfield 49, 3) := by decide +kernel
theorem dX5_measureBack_79 : decode cX5_measureBack 79 = .ok (.lmul, 1) := by decide +kernel
theorem dX5_measureBack_80 : decode cX5_measureBack 80 = .ok (.aload_n 0, 1) := by decide +kernel
theorem dX5_measureBack_81 : decode cX5_measureBack 81 = .ok (.getfield 26, 3) := by decide +kernel
theorem dX5_measureBack_84 : decode cX5_measureBack 84 = .ok (.aload_n 0, 1) := by decide +kernel
theorem dX5_measureBack_85 : decode cX5_measureBack 85 = .ok (.getfield 29, 3) := by decide +kernel
theorem dX5_measureBack_88 : decode cX5_measureBack 88 = .ok (.iaload, 1) := by decide +kernel
theorem dX5_measureBack_89 : decode cX5_measureBack 89 = .ok (.i2l, 1) := by decide +kernel
theorem dX5_measureBack_90 : decode cX5_measureBack 90 = .ok (.aload_n 0, 1) := by decide +kernel
theorem dX5_measureBack_91 : decode cX5_measureBack 91 = .ok (.getfield 26, 3) := by decide +kernel
theorem dX5_measureBack_94 : decode cX5_measureBack 94 = .ok (.aload_n 0, 1) := by decide +kernel
theorem dX5_measureBack_95 : decode cX5_measureBack 95 = .ok (.getfield 33, 3) := by decide +kernel
theorem dX5_measureBack_98 : decode cX5_measureBack 98 = .ok (.iaload, 1) := by decide +kernel
theorem dX5_measureBack_99 : decode cX5_measureBack 99 = .ok (.i2l, 1) := by decide +kernel
theorem dX5_measureBack_100 : decode cX5_measureBack 100 = .ok (.lmul, 1) := by decide +kernel
theorem dX5_measureBack_101 : decode cX5_measureBack 101 = .ok (.aload_n 1, 1) := by decide +kernel
theorem dX5_measureBack_102 : decode cX5_measureBack 102 = .ok (.getfield 52, 3) := by decide +kernel
theorem dX5_measureBack_105 : decode cX5_measureBack 105 = .ok (.lmul, 1) := by decide +kernel
theorem dX5_measureBack_106 : decode cX5_measureBack 106 = .ok (.lsub, 1) := by decide +kernel
theorem dX5_measureBack_107 : decode cX5_measureBack 107 = .ok (.lstore 5, 2) := by decide +kernel
theorem dX5_measureBack_109 : decode cX5_measureBack 109 = .ok (.aload_n 2, 1) := by decide +kernel
theorem dX5_measureBack_110 : decode cX5_measureBack 110 = .ok (.lload_n 3, 1) := by decide +kernel
theorem dX5_measureBack_111 : decode cX5_measureBack 111 = .ok (.lload_n 3, 1) := by decide +kernel
theorem dX5_measureBack_112 : decode cX5_measureBack 112 = .ok (.lmul, 1) := by decide +kernel
theorem dX5_measureBack_113 : decode cX5_measureBack 113 = .ok (.lload 5, 2) := by decide +kernel
theorem dX5_measureBack_115 : decode cX5_measureBack 115 = .ok (.lload 5, 2) := by decide +kernel
theorem dX5_measureBack_117 : decode cX5_measureBack 117 = .ok (.lmul, 1) := by decide +kernel
theorem dX5_measureBack_118 : decode cX5_measureBack 118 = .ok (.ladd, 1) := by decide +kernel
theorem dX5_measureBack_119 : decode cX5_measureBack 119 = .ok (.aload_n 0, 1) := by decide +kernel
theorem dX5_measureBack_120 : decode cX5_measureBack 120 = .ok (.aload_n 1, 1) := by decide +kernel
theorem dX5_measureBack_121 : decode cX5_measureBack 121 = .ok (.invokevirtual 55, 3) := by decide +kernel
theorem dX5_measureBack_124 : decode cX5_measureBack 124 = .ok (.invokevirtual 59, 3) := by decide +kernel
theorem dX5_measureBack_127 : decode cX5_measureBack 127 = .ok (.return_, 1) := by decide +kernel
theorem dX5_measureThrough_0 : decode cX5_measureThrough 0 = .ok (.ldc2_w 65, 3) := by decide +kernel
theorem dX5_measureThrough_3 : decode cX5_measureThrough 3 = .ok (.aload_n 0, 1) := by decide +kernel
theorem dX5_measureThrough_4 : decode cX5_measureThrough 4 = .ok (.getfield 18, 3) := by decide +kernel
theorem dX5_measureThrough_7 : decode cX5_measureThrough 7 = .ok (.aload_n 0, 1) := by decide +kernel
theorem dX5_measureThrough_8 : decode cX5_measureThrough 8 = .ok (.getfield 29, 3) := by decide +kernel
theorem dX5_measureThrough_11 : decode cX5_measureThrough 11 = .ok (.iaload, 1) := by decide +kernel
theorem dX5_measureThrough_12 : decode cX5_measureThrough 12 = .ok (.i2l, 1) := by decide +kernel
theorem dX5_measureThrough_13 : decode cX5_measureThrough 13 = .ok (.lmul, 1) := by decide +kernel
theorem dX5_measureThrough_14 : decode cX5_measureThrough 14 = .ok (.aload_n 0, 1) := by decide +kernel
theorem dX5_measureThrough_15 : decode cX5_measureThrough 15 = .ok (.getfield 26, 3) := by decide +kernel
theorem dX5_measureThrough_18 : decode cX5_measureThrough 18 = .ok (.aload_n 0, 1) := by decide +kernel
theorem dX5_measureThrough_19 : decode cX5_measureThrough 19 = .ok (.getfield 29, 3) := by decide +kernel
theorem dX5_measureThrough_22 : decode cX5_measureThrough 22 = .ok (.iaload, 1) := by decide +kernel
theorem dX5_measureThrough_23 : decode cX5_measureThrough 23 = .ok (.i2l, 1) := by decide +kernel
theorem dX5_measureThrough_24 : decode cX5_measureThrough 24 = .ok (.lmul, 1) := by decide +kernel
theorem dX5_measureThrough_25 : decode cX5_measureThrough 25 = .ok (.aload_n 0, 1) := by decide +kernel
theorem dX5_measureThrough_26 : decode cX5_measureThrough 26 = .ok (.getfield 18, 3) := by decide +kernel
theorem dX5_measureThrough_29 : decode cX5_measureThrough 29 = .ok (.aload_n 0, 1) := by decide +kernel
theorem dX5_measureThrough_30 : decode cX5_measureThrough 30 = .ok (.getfield 33, 3) := by decide +kernel
theorem dX5_measureThrough_33 : decode cX5_measureThrough 33 = .ok (.iaload, 1) := by decide +kernel
theorem dX5_measureThrough_34 : decode cX5_measureThrough 34 = .ok (.i2l, 1) := by decide +kernel
theorem dX5_measureThrough_35 : decode cX5_measureThrough 35 = .ok (.lmul, 1) := by decide +kernel
theorem dX5_measureThrough_36 : decode cX5_measureThrough 36 = .ok (.aload_n 0, 1) := by decide +kernel
theorem dX5_measureThrough_37 : decode cX5_measureThrough 37 = .ok (.getfield 26, 3) := by decide +kernel
theorem dX5_measureThrough_40 : decode cX5_measureThrough 40 = .ok (.aload_n 0, 1) := by decide +kernel
theorem dX5_measureThrough_41 : decode cX5_measureThrough 41 = .ok (.getfield 33, 3) := by decide +kernel
theorem dX5_measureThrough_44 : decode cX5_measureThrough 44 = .ok (.iaload, 1) := by decide +kernel
theorem dX5_measureThrough_45 : decode cX5_measureThrough 45 = .ok (.i2l, 1) := by decide +kernel
theorem dX5_measureThrough_46 : decode cX5_measureThrough 46 = .ok (.lmul, 1) := by decide +kernel
theorem dX5_measureThrough_47 : decode cX5_measureThrough 47 = .ok (.lstore_n 3, 1) := by decide +kernel
theorem dX5_measureThrough_48 : decode cX5_measureThrough 48 = .ok (.aload_n 2, 1) := by decide +kernel
theorem dX5_measureThrough_49 : decode cX5_measureThrough 49 = .ok (.lload_n 3, 1) := by decide +kernel
theorem dX5_measureThrough_50 : decode cX5_measureThrough 50 = .ok (.aload_n 1, 1) := by decide +kernel
theorem dX5_measureThrough_51 : decode cX5_measureThrough 51 = .ok (.getfield 40, 3) := by decide +kernel
theorem dX5_measureThrough_54 : decode cX5_measureThrough 54 = .ok (.aload_n 1, 1) := by decide +kernel
theorem dX5_measureThrough_55 : decode cX5_measureThrough 55 = .ok (.getfield 46, 3) := by decide +kernel
theorem dX5_measureThrough_58 : decode cX5_measureThrough 58 = .ok (.lmul, 1) := by decide +kernel
theorem dX5_measureThrough_59 : decode cX5_measureThrough 59 = .ok (.aload_n 1, 1) := by decide +kernel
theorem dX5_measureThrough_60 : decode cX5_measureThrough 60 = .ok (.getfield 49, 3) := by decide +kernel
theorem dX5_measureThrough_63 : decode cX5_measureThrough 63 = .ok (.aload_n 1, 1) := by decide +kernel
theorem dX5_measureThrough_64 : decode cX5_measureThrough 64 = .ok (.getfield 52, 3) := by decide +kernel
theorem dX5_measureThrough_67 : decode cX5_measureThrough 67 = .ok (.lmul, 1) := by decide +kernel
theorem dX5_measureThrough_68 : decode cX5_measureThrough 68 = .ok (.ladd, 1) := by decide +kernel
theorem dX5_measureThrough_69 : decode cX5_measureThrough 69 = .ok (.lmul, 1) := by decide +kernel
theorem dX5_measureThrough_70 : decode cX5_measureThrough 70 = .ok (.aload_n 0, 1) := by decide +kernel
theorem dX5_measureThrough_71 : decode cX5_measureThrough 71 = .ok (.aload_n 1, 1) := by decide +kernel
theorem dX5_measureThrough_72 : decode cX5_measureThrough 72 = .ok (.invokevirtual 55, 3) := by decide +kernel
theorem dX5_measureThrough_75 : decode cX5_measureThrough 75 = .ok (.invokevirtual 59, 3) := by decide +kernel
theorem dX5_measureThrough_78 : decode cX5_measureThrough 78 = .ok (.return_, 1) := by decide +kernel
theorem dX5_measureAdmittance_0 : decode cX5_measureAdmittance 0 = .ok (.aload_n 0, 1) := by decide +kernel
theorem dX5_measureAdmittance_1 : decode cX5_measureAdmittance 1 = .ok (.getfield 26, 3) := by decide +kernel
theorem dX5_measureAdmittance_4 : decode cX5_measureAdmittance 4 = .ok (.aload_n 0, 1) := by decide +kernel
theorem dX5_measureAdmittance_5 : decode cX5_measureAdmittance 5 = .ok (.getfield 33, 3) := by decide +kernel
theorem dX5_measureAdmittance_8 : decode cX5_measureAdmittance 8 = .ok (.iaload, 1) := by decide +kernel
theorem dX5_measureAdmittance_9 : decode cX5_measureAdmittance 9 = .ok (.i2l, 1) := by decide +kernel
theorem dX5_measureAdmittance_10 : decode cX5_measureAdmittance 10 = .ok (.aload_n 1, 1) := by decide +kernel
theorem dX5_measureAdmittance_11 : decode cX5_measureAdmittance 11 = .ok (.getfield 40, 3) := by decide +kernel
theorem dX5_measureAdmittance_14 : decode cX5_measureAdmittance 14 = .ok (.lmul, 1) := by decide +kernel
theorem dX5_measureAdmittance_15 : decode cX5_measureAdmittance 15 = .ok (.lstore 4, 2) := by decide +kernel
theorem dX5_measureAdmittance_17 : decode cX5_measureAdmittance 17 = .ok (.aload_n 0, 1) := by decide +kernel
theorem dX5_measureAdmittance_18 : decode cX5_measureAdmittance 18 = .ok (.getfield 18, 3) := by decide +kernel
theorem dX5_measureAdmittance_21 : decode cX5_measureAdmittance 21 = .ok (.aload_n 0, 1) := by decide +kernel
theorem dX5_measureAdmittance_22 : decode cX5_measureAdmittance 22 = .ok (.getfield 33, 3) := by decide +kernel
theorem dX5_measureAdmittance_25 : decode cX5_measureAdmittance 25 = .ok (.iaload, 1) := by decide +kernel
theorem dX5_measureAdmittance_26 : decode cX5_measureAdmittance 26 = .ok (.i2l, 1) := by decide +kernel
theorem dX5_measureAdmittance_27 : decode cX5_measureAdmittance 27 = .ok (.aload_n 1, 1) := by decide +kernel
theorem dX5_measureAdmittance_28 : decode cX5_measureAdmittance 28 = .ok (.getfield 49, 3) := by decide +kernel
theorem dX5_measureAdmittance_31 : decode cX5_measureAdmittance 31 = .ok (.lmul, 1) := by decide +kernel
theorem dX5_measureAdmittance_32 : decode cX5_measureAdmittance 32 = .ok (.lstore 6, 2) := by decide +kernel
theorem dX5_measureAdmittance_34 : decode cX5_measureAdmittance 34 = .ok (.aload_n 0, 1) := by decide +kernel
theorem dX5_measureAdmittance_35 : decode cX5_measureAdmittance 35 = .ok (.getfield 18, 3) := by decide +kernel
theorem dX5_measureAdmittance_38 : decode cX5_measureAdmittance 38 = .ok (.aload_n 0, 1) := by decide +kernel
theorem dX5_measureAdmittance_39 : decode cX5_measureAdmittance 39 = .ok (.getfield 33, 3) := by decide +kernel
theorem dX5_measureAdmittance_42 : decode cX5_measureAdmittance 42 = .ok (.iaload, 1) := by decide +kernel
theorem dX5_measureAdmittance_43 : decode cX5_measureAdmittance 43 = .ok (.i2l, 1) := by decide +kernel
theorem dX5_measureAdmittance_44 : decode cX5_measureAdmittance 44 = .ok (.aload_n 1, 1) := by decide +kernel
theorem dX5_measureAdmittance_45 : decode cX5_measureAdmittance 45 = .ok (.getfield 46, 3) := by decide +kernel
theorem dX5_measureAdmittance_48 : decode cX5_measureAdmittance 48 = .ok (.lmul, 1) := by decide +kernel
theorem dX5_measureAdmittance_49 : decode cX5_measureAdmittance 49 = .ok (.lstore 8, 2) := by decide +kernel
theorem dX5_measureAdmittance_51 : decode cX5_measureAdmittance 51 = .ok (.aload_n 0, 1) := by decide +kernel
theorem dX5_measureAdmittance_52 : decode cX5_measureAdmittance 52 = .ok (.getfield 26, 3) := by decide +kernel
theorem dX5_measureAdmittance_55 : decode cX5_measureAdmittance 55 = .ok (.aload_n 0, 1) := by decide +kernel
theorem dX5_measureAdmittance_56 : decode cX5_measureAdmittance 56 = .ok (.getfield 33, 3) := by decide +kernel
theorem dX5_measureAdmittance_59 : decode cX5_measureAdmittance 59 = .ok (.iaload, 1) := by decide +kernel
theorem dX5_measureAdmittance_60 : decode cX5_measureAdmittance 60 = .ok (.i2l, 1) := by decide +kernel
theorem dX5_measureAdmittance_61 : decode cX5_measureAdmittance 61 = .ok (.aload_n 1, 1) := by decide +kernel
theorem dX5_measureAdmittance_62 : decode cX5_measureAdmittance 62 = .ok (.getfield 52, 3) := by decide +kernel
theorem dX5_measureAdmittance_65 : decode cX5_measureAdmittance 65 = .ok (.lmul, 1) := by decide +kernel
theorem dX5_measureAdmittance_66 : decode cX5_measureAdmittance 66 = .ok (.lstore 10, 2) := by decide +kernel
theorem dX5_measureAdmittance_68 : decode cX5_measureAdmittance 68 = .ok (.iload_n 2, 1) := by decide +kernel
theorem dX5_measureAdmittance_69 : decode cX5_measureAdmittance 69 = .ok (.ifCond .eq 17, 3) := by decide +kernel
theorem dX5_measureAdmittance_72 : decode cX5_measureAdmittance 72 = .ok (.lload 4, 2) := by decide +kernel
theorem dX5_measureAdmittance_74 : decode cX5_measureAdmittance 74 = .ok (.lload 10, 2) := by decide +kernel
theorem dX5_measureAdmittance_76 : decode cX5_measureAdmittance 76 = .ok (.lmul, 1) := by decide +kernel
theorem dX5_measureAdmittance_77 : decode cX5_measureAdmittance 77 = .ok (.lload 6, 2) := by decide +kernel
theorem dX5_measureAdmittance_79 : decode cX5_measureAdmittance 79 = .ok (.lload 8, 2) := by decide +kernel
theorem dX5_measureAdmittance_81 : decode cX5_measureAdmittance 81 = .ok (.lmul, 1) := by decide +kernel
theorem dX5_measureAdmittance_82 : decode cX5_measureAdmittance 82 = .ok (.lsub, 1) := by decide +kernel
theorem dX5_measureAdmittance_83 : decode cX5_measureAdmittance 83 = .ok (.goto 14, 3) := by decide +kernel
theorem dX5_measureAdmittance_86 : decode cX5_measureAdmittance 86 = .ok (.lload 4, 2) := by decide +kernel
theorem dX5_measureAdmittance_88 : decode cX5_measureAdmittance 88 = .ok (.lload 8, 2) := by decide +kernel
theorem dX5_measureAdmittance_90 : decode cX5_measureAdmittance 90 = .ok (.lmul, 1) := by decide +kernel
theorem dX5_measureAdmittance_91 : decode cX5_measureAdmittance 91 = .ok (.lload 6, 2) := by decide +kernel
theorem dX5_measureAdmittance_93 : decode cX5_measureAdmittance 93 = .ok (.lload 10, 2) := by decide +kernel
theorem dX5_measureAdmittance_95 : decode cX5_measureAdmittance 95 = .ok (.lmul, 1) := by decide +kernel
theorem dX5_measureAdmittance_96 : decode cX5_measureAdmittance 96 = .ok (.ladd, 1) := by decide +kernel
theorem dX5_measureAdmittance_97 : decode cX5_measureAdmittance 97 = .ok (.lstore 12, 2) := by decide +kernel
theorem dX5_measureAdmittance_99 : decode cX5_measureAdmittance 99 = .ok (.aload_n 3, 1) := by decide +kernel
theorem dX5_measureAdmittance_100 : decode cX5_measureAdmittance 100 = .ok (.lload 12, 2) := by decide +kernel
theorem dX5_measureAdmittance_102 : decode cX5_measureAdmittance 102 = .ok (.lload 4, 2) := by decide +kernel
theorem dX5_measureAdmittance_104 : decode cX5_measureAdmittance 104 = .ok (.lload 4, 2) := by decide +kernel
theorem dX5_measureAdmittance_106 : decode cX5_measureAdmittance 106 = .ok (.lmul, 1) := by decide +kernel
theorem dX5_measureAdmittance_107 : decode cX5_measureAdmittance 107 = .ok (.lload 6, 2) := by decide +kernel
theorem dX5_measureAdmittance_109 : decode cX5_measureAdmittance 109 = .ok (.lload 6, 2) := by decide +kernel
theorem dX5_measureAdmittance_111 : decode cX5_measureAdmittance 111 = .ok (.lmul, 1) := by decide +kernel
theorem dX5_measureAdmittance_112 : decode cX5_measureAdmittance 112 = .ok (.ladd, 1) := by decide +kernel
theorem dX5_measureAdmittance_113 : decode cX5_measureAdmittance 113 = .ok (.invokevirtual 59, 3) := by decide +kernel
theorem dX5_measureAdmittance_116 : decode cX5_measureAdmittance 116 = .ok (.return_, 1) := by decide +kernel
theorem dX5_throwsNothingBack_0 : decode cX5_throwsNothingBack 0 = .ok (.aload_n 1, 1) := by decide +kernel
theorem dX5_throwsNothingBack_1 : decode cX5_throwsNothingBack 1 = .ok (.getfield 40, 3) := by decide +kernel
theorem dX5_throwsNothingBack_4 : decode cX5_throwsNothingBack 4 = .ok (.aload_n 2, 1) := by decide +kernel
theorem dX5_throwsNothingBack_5 : decode cX5_throwsNothingBack 5 = .ok (.getfield 40, 3) := by decide +kernel
theorem dX5_throwsNothingBack_8 : decode cX5_throwsNothingBack 8 = .ok (.lmul, 1) := by decide +kernel
theorem dX5_throwsNothingBack_9 : decode cX5_throwsNothingBack 9 = .ok (.aload_n 1, 1) := by decide +kernel
theorem dX5_throwsNothingBack_10 : decode cX5_throwsNothingBack 10 = .ok (.getfield 49, 3) := by decide +kernel
theorem dX5_throwsNothingBack_13 : decode cX5_throwsNothingBack 13 = .ok (.aload_n 2, 1) := by decide +kernel
theorem dX5_throwsNothingBack_14 : decode cX5_throwsNothingBack 14 = .ok (.getfield 52, 3) := by decide +kernel
theorem dX5_throwsNothingBack_17 : decode cX5_throwsNothingBack 17 = .ok (.lmul, 1) := by decide +kernel
theorem dX5_throwsNothingBack_18 : decode cX5_throwsNothingBack 18 = .ok (.lsub, 1) := by decide +kernel
