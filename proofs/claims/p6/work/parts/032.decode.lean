theorem dX10_init_153 : decode cX10_init 153 = .ok (.aload_n 0, 1) := by decide +kernel
theorem dX10_init_154 : decode cX10_init 154 = .ok (.getfield 53, 3) := by decide +kernel
theorem dX10_init_157 : decode cX10_init 157 = .ok (.iload_n 1, 1) := by decide +kernel
theorem dX10_init_158 : decode cX10_init 158 = .ok (.new 51, 3) := by decide +kernel
theorem dX10_init_161 : decode cX10_init 161 = .ok (.dup, 1) := by decide +kernel
theorem dX10_init_162 : decode cX10_init 162 = .ok (.invokespecial 92, 3) := by decide +kernel
theorem dX10_init_165 : decode cX10_init 165 = .ok (.aastore, 1) := by decide +kernel
theorem dX10_init_166 : decode cX10_init 166 = .ok (.iinc 1 1, 3) := by decide +kernel
theorem dX10_init_169 : decode cX10_init 169 = .ok (.goto (-21), 3) := by decide +kernel
theorem dX10_init_172 : decode cX10_init 172 = .ok (.return_, 1) := by decide +kernel
theorem dX10_feed_0 : decode cX10_feed 0 = .ok (.aload_n 0, 1) := by decide +kernel
theorem dX10_feed_1 : decode cX10_feed 1 = .ok (.getfield 12, 3) := by decide +kernel
theorem dX10_feed_4 : decode cX10_feed 4 = .ok (.getfield 93, 3) := by decide +kernel
theorem dX10_feed_7 : decode cX10_feed 7 = .ok (.bipush 20, 2) := by decide +kernel
theorem dX10_feed_9 : decode cX10_feed 9 = .ok (.iadd, 1) := by decide +kernel
theorem dX10_feed_10 : decode cX10_feed 10 = .ok (.sipush 200, 3) := by decide +kernel
theorem dX10_feed_13 : decode cX10_feed 13 = .ok (.if_icmp .le 5, 3) := by decide +kernel
theorem dX10_feed_16 : decode cX10_feed 16 = .ok (.iconst (-1), 1) := by decide +kernel
theorem dX10_feed_17 : decode cX10_feed 17 = .ok (.ireturn, 1) := by decide +kernel
theorem dX10_feed_18 : decode cX10_feed 18 = .ok (.aload_n 0, 1) := by decide +kernel
theorem dX10_feed_19 : decode cX10_feed 19 = .ok (.getfield 12, 3) := by decide +kernel
theorem dX10_feed_22 : decode cX10_feed 22 = .ok (.iload_n 1, 1) := by decide +kernel
theorem dX10_feed_23 : decode cX10_feed 23 = .ok (.invokevirtual 96, 3) := by decide +kernel
theorem dX10_feed_26 : decode cX10_feed 26 = .ok (.aload_n 0, 1) := by decide +kernel
theorem dX10_feed_27 : decode cX10_feed 27 = .ok (.getfield 12, 3) := by decide +kernel
theorem dX10_feed_30 : decode cX10_feed 30 = .ok (.iload_n 2, 1) := by decide +kernel
theorem dX10_feed_31 : decode cX10_feed 31 = .ok (.invokevirtual 96, 3) := by decide +kernel
theorem dX10_feed_34 : decode cX10_feed 34 = .ok (.aload_n 0, 1) := by decide +kernel
theorem dX10_feed_35 : decode cX10_feed 35 = .ok (.getfield 12, 3) := by decide +kernel
theorem dX10_feed_38 : decode cX10_feed 38 = .ok (.iload_n 3, 1) := by decide +kernel
theorem dX10_feed_39 : decode cX10_feed 39 = .ok (.invokevirtual 96, 3) := by decide +kernel
theorem dX10_feed_42 : decode cX10_feed 42 = .ok (.aload_n 0, 1) := by decide +kernel
theorem dX10_feed_43 : decode cX10_feed 43 = .ok (.getfield 12, 3) := by decide +kernel
theorem dX10_feed_46 : decode cX10_feed 46 = .ok (.iload 4, 2) := by decide +kernel
theorem dX10_feed_48 : decode cX10_feed 48 = .ok (.invokevirtual 96, 3) := by decide +kernel
theorem dX10_feed_51 : decode cX10_feed 51 = .ok (.aload_n 0, 1) := by decide +kernel
theorem dX10_feed_52 : decode cX10_feed 52 = .ok (.getfield 12, 3) := by decide +kernel
theorem dX10_feed_55 : decode cX10_feed 55 = .ok (.iload 5, 2) := by decide +kernel
theorem dX10_feed_57 : decode cX10_feed 57 = .ok (.invokevirtual 96, 3) := by decide +kernel
theorem dX10_feed_60 : decode cX10_feed 60 = .ok (.aload_n 0, 1) := by decide +kernel
theorem dX10_feed_61 : decode cX10_feed 61 = .ok (.getfield 12, 3) := by decide +kernel
theorem dX10_feed_64 : decode cX10_feed 64 = .ok (.getfield 93, 3) := by decide +kernel
theorem dX10_feed_67 : decode cX10_feed 67 = .ok (.ireturn, 1) := by decide +kernel
theorem dX10_end_0 : decode cX10_end 0 = .ok (.iload_n 1, 1) := by decide +kernel
theorem dX10_end_1 : decode cX10_end 1 = .ok (.ifCond .lt 14, 3) := by decide +kernel
theorem dX10_end_4 : decode cX10_end 4 = .ok (.iload_n 1, 1) := by decide +kernel
theorem dX10_end_5 : decode cX10_end 5 = .ok (.aload_n 0, 1) := by decide +kernel
theorem dX10_end_6 : decode cX10_end 6 = .ok (.getfield 12, 3) := by decide +kernel
theorem dX10_end_9 : decode cX10_end 9 = .ok (.getfield 93, 3) := by decide +kernel
theorem dX10_end_12 : decode cX10_end 12 = .ok (.if_icmp .le 5, 3) := by decide +kernel
theorem dX10_end_15 : decode cX10_end 15 = .ok (.iconst 0, 1) := by decide +kernel
theorem dX10_end_16 : decode cX10_end 16 = .ok (.ireturn, 1) := by decide +kernel
theorem dX10_end_17 : decode cX10_end 17 = .ok (.aload_n 0, 1) := by decide +kernel
theorem dX10_end_18 : decode cX10_end 18 = .ok (.getfield 12, 3) := by decide +kernel
theorem dX10_end_21 : decode cX10_end 21 = .ok (.iload_n 1, 1) := by decide +kernel
theorem dX10_end_22 : decode cX10_end 22 = .ok (.putfield 93, 3) := by decide +kernel
theorem dX10_end_25 : decode cX10_end 25 = .ok (.iconst 1, 1) := by decide +kernel
theorem dX10_end_26 : decode cX10_end 26 = .ok (.ireturn, 1) := by decide +kernel
theorem dX10_stack_0 : decode cX10_stack 0 = .ok (.aload_n 0, 1) := by decide +kernel
theorem dX10_stack_1 : decode cX10_stack 1 = .ok (.getfield 12, 3) := by decide +kernel
theorem dX10_stack_4 : decode cX10_stack 4 = .ok (.invokevirtual 100, 3) := by decide +kernel
theorem dX10_stack_7 : decode cX10_stack 7 = .ok (.ifCond .ne 5, 3) := by decide +kernel
theorem dX10_stack_10 : decode cX10_stack 10 = .ok (.iconst (-1), 1) := by decide +kernel
theorem dX10_stack_11 : decode cX10_stack 11 = .ok (.ireturn, 1) := by decide +kernel
theorem dX10_stack_12 : decode cX10_stack 12 = .ok (.aload_n 0, 1) := by decide +kernel
theorem dX10_stack_13 : decode cX10_stack 13 = .ok (.getfield 26, 3) := by decide +kernel
theorem dX10_stack_16 : decode cX10_stack 16 = .ok (.aload_n 0, 1) := by decide +kernel
theorem dX10_stack_17 : decode cX10_stack 17 = .ok (.getfield 19, 3) := by decide +kernel
theorem dX10_stack_20 : decode cX10_stack 20 = .ok (.iconst 0, 1) := by decide +kernel
theorem dX10_stack_21 : decode cX10_stack 21 = .ok (.invokevirtual 104, 3) := by decide +kernel
theorem dX10_stack_24 : decode cX10_stack 24 = .ok (.aload_n 0, 1) := by decide +kernel
theorem dX10_stack_25 : decode cX10_stack 25 = .ok (.getfield 19, 3) := by decide +kernel
theorem dX10_stack_28 : decode cX10_stack 28 = .ok (.aload_n 0, 1) := by decide +kernel
theorem dX10_stack_29 : decode cX10_stack 29 = .ok (.getfield 12, 3) := by decide +kernel
theorem dX10_stack_32 : decode cX10_stack 32 = .ok (.getfield 108, 3) := by decide +kernel
theorem dX10_stack_35 : decode cX10_stack 35 = .ok (.invokevirtual 111, 3) := by decide +kernel
theorem dX10_stack_38 : decode cX10_stack 38 = .ok (.aload_n 0, 1) := by decide +kernel
theorem dX10_stack_39 : decode cX10_stack 39 = .ok (.getfield 12, 3) := by decide +kernel
theorem dX10_stack_42 : decode cX10_stack 42 = .ok (.iconst 0, 1) := by decide +kernel
theorem dX10_stack_43 : decode cX10_stack 43 = .ok (.putfield 93, 3) := by decide +kernel
theorem dX10_stack_46 : decode cX10_stack 46 = .ok (.aload_n 0, 1) := by decide +kernel
theorem dX10_stack_47 : decode cX10_stack 47 = .ok (.getfield 19, 3) := by decide +kernel
theorem dX10_stack_50 : decode cX10_stack 50 = .ok (.getfield 115, 3) := by decide +kernel
theorem dX10_stack_53 : decode cX10_stack 53 = .ok (.ireturn, 1) := by decide +kernel
theorem dX10_fault_0 : decode cX10_fault 0 = .ok (.iload_n 1, 1) := by decide +kernel
theorem dX10_fault_1 : decode cX10_fault 1 = .ok (.lookupswitch 43 #[(0, 27), (1, 35)], 27) := by decide +kernel
theorem dX10_fault_28 : decode cX10_fault 28 = .ok (.aload_n 0, 1) := by decide +kernel
theorem dX10_fault_29 : decode cX10_fault 29 = .ok (.getfield 12, 3) := by decide +kernel
theorem dX10_fault_32 : decode cX10_fault 32 = .ok (.getfield 118, 3) := by decide +kernel
theorem dX10_fault_35 : decode cX10_fault 35 = .ok (.ireturn, 1) := by decide +kernel
theorem dX10_fault_36 : decode cX10_fault 36 = .ok (.aload_n 0, 1) := by decide +kernel
theorem dX10_fault_37 : decode cX10_fault 37 = .ok (.getfield 12, 3) := by decide +kernel
theorem dX10_fault_40 : decode cX10_fault 40 = .ok (.getfield 121, 3) := by decide +kernel
theorem dX10_fault_43 : decode cX10_fault 43 = .ok (.ireturn, 1) := by decide +kernel
theorem dX10_fault_44 : decode cX10_fault 44 = .ok (.iconst (-1), 1) := by decide +kernel
theorem dX10_fault_45 : decode cX10_fault 45 = .ok (.ireturn, 1) := by decide +kernel
theorem dX10_index_0 : decode cX10_index 0 = .ok (.iload_n 1, 1) := by decide +kernel
theorem dX10_index_1 : decode cX10_index 1 = .ok (.invokestatic 124, 3) := by decide +kernel
theorem dX10_index_4 : decode cX10_index 4 = .ok (.ifCond .eq 25, 3) := by decide +kernel
theorem dX10_index_7 : decode cX10_index 7 = .ok (.iload_n 2, 1) := by decide +kernel
theorem dX10_index_8 : decode cX10_index 8 = .ok (.iconst 1, 1) := by decide +kernel
theorem dX10_index_9 : decode cX10_index 9 = .ok (.if_icmp .lt 20, 3) := by decide +kernel
theorem dX10_index_12 : decode cX10_index 12 = .ok (.iload_n 2, 1) := by decide +kernel
theorem dX10_index_13 : decode cX10_index 13 = .ok (.bipush 9, 2) := by decide +kernel
theorem dX10_index_15 : decode cX10_index 15 = .ok (.if_icmp .gt 14, 3) := by decide +kernel
theorem dX10_index_18 : decode cX10_index 18 = .ok (.iload_n 3, 1) := by decide +kernel
theorem dX10_index_19 : decode cX10_index 19 = .ok (.iconst 1, 1) := by decide +kernel
theorem dX10_index_20 : decode cX10_index 20 = .ok (.if_icmp .lt 9, 3) := by decide +kernel
theorem dX10_index_23 : decode cX10_index 23 = .ok (.iload_n 3, 1) := by decide +kernel
theorem dX10_index_24 : decode cX10_index 24 = .ok (.bipush 9, 2) := by decide +kernel
theorem dX10_index_26 : decode cX10_index 26 = .ok (.if_icmp .le 5, 3) := by decide +kernel
theorem dX10_index_29 : decode cX10_index 29 = .ok (.iconst 0, 1) := by decide +kernel
theorem dX10_index_30 : decode cX10_index 30 = .ok (.ireturn, 1) := by decide +kernel
theorem dX10_index_31 : decode cX10_index 31 = .ok (.aload_n 0, 1) := by decide +kernel
theorem dX10_index_32 : decode cX10_index 32 = .ok (.getfield 33, 3) := by decide +kernel
theorem dX10_index_35 : decode cX10_index 35 = .ok (.iload_n 1, 1) := by decide +kernel
theorem dX10_index_36 : decode cX10_index 36 = .ok (.iload_n 2, 1) := by decide +kernel
theorem dX10_index_37 : decode cX10_index 37 = .ok (.iload_n 3, 1) := by decide +kernel
theorem dX10_index_38 : decode cX10_index 38 = .ok (.invokevirtual 128, 3) := by decide +kernel
theorem dX10_index_41 : decode cX10_index 41 = .ok (.ireturn, 1) := by decide +kernel
theorem dX10_between_0 : decode cX10_between 0 = .ok (.iload_n 1, 1) := by decide +kernel
theorem dX10_between_1 : decode cX10_between 1 = .ok (.invokestatic 124, 3) := by decide +kernel
theorem dX10_between_4 : decode cX10_between 4 = .ok (.ifCond .eq 10, 3) := by decide +kernel
theorem dX10_between_7 : decode cX10_between 7 = .ok (.iload_n 2, 1) := by decide +kernel
theorem dX10_between_8 : decode cX10_between 8 = .ok (.invokestatic 124, 3) := by decide +kernel
theorem dX10_between_11 : decode cX10_between 11 = .ok (.ifCond .ne 5, 3) := by decide +kernel
theorem dX10_between_14 : decode cX10_between 14 = .ok (.iconst 0, 1) := by decide +kernel
theorem dX10_between_15 : decode cX10_between 15 = .ok (.ireturn, 1) := by decide +kernel
theorem dX10_between_16 : decode cX10_between 16 = .ok (.iload_n 1, 1) := by decide +kernel
theorem dX10_between_17 : decode cX10_between 17 = .ok (.aload_n 0, 1) := by decide +kernel
theorem dX10_between_18 : decode cX10_between 18 = .ok (.getfield 33, 3) := by decide +kernel
theorem dX10_between_21 : decode cX10_between 21 = .ok (.getfield 132, 3) := by decide +kernel
theorem dX10_between_24 : decode cX10_between 24 = .ok (.if_icmp .ne 16, 3) := by decide +kernel
theorem dX10_between_27 : decode cX10_between 27 = .ok (.iload_n 2, 1) := by decide +kernel
theorem dX10_between_28 : decode cX10_between 28 = .ok (.aload_n 0, 1) := by decide +kernel
theorem dX10_between_29 : decode cX10_between 29 = .ok (.getfield 33, 3) := by decide +kernel
theorem dX10_between_32 : decode cX10_between 32 = .ok (.getfield 135, 3) := by decide +kernel
theorem dX10_between_35 : decode cX10_between 35 = .ok (.if_icmp .ne 5, 3) := by decide +kernel
theorem dX10_between_38 : decode cX10_between 38 = .ok (.iconst 0, 1) := by decide +kernel
theorem dX10_between_39 : decode cX10_between 39 = .ok (.ireturn, 1) := by decide +kernel
theorem dX10_between_40 : decode cX10_between 40 = .ok (.aload_n 0, 1) := by decide +kernel
theorem dX10_between_41 : decode cX10_between 41 = .ok (.getfield 33, 3) := by decide +kernel
theorem dX10_between_44 : decode cX10_between 44 = .ok (.iload_n 1, 1) := by decide +kernel
theorem dX10_between_45 : decode cX10_between 45 = .ok (.putfield 132, 3) := by decide +kernel
theorem dX10_between_48 : decode cX10_between 48 = .ok (.aload_n 0, 1) := by decide +kernel
theorem dX10_between_49 : decode cX10_between 49 = .ok (.getfield 33, 3) := by decide +kernel
theorem dX10_between_52 : decode cX10_between 52 = .ok (.iload_n 2, 1) := by decide +kernel
theorem dX10_between_53 : decode cX10_between 53 = .ok (.putfield 135, 3) := by decide +kernel
theorem dX10_between_56 : decode cX10_between 56 = .ok (.iconst 1, 1) := by decide +kernel
theorem dX10_between_57 : decode cX10_between 57 = .ok (.ireturn, 1) := by decide +kernel
theorem dX10_material_0 : decode cX10_material 0 = .ok (.iload_n 1, 1) := by decide +kernel
theorem dX10_material_1 : decode cX10_material 1 = .ok (.invokestatic 124, 3) := by decide +kernel
theorem dX10_material_4 : decode cX10_material 4 = .ok (.ifCond .ne 5, 3) := by decide +kernel
theorem dX10_material_7 : decode cX10_material 7 = .ok (.iconst (-1), 1) := by decide +kernel
theorem dX10_material_8 : decode cX10_material 8 = .ok (.ireturn, 1) := by decide +kernel
theorem dX10_material_9 : decode cX10_material 9 = .ok (.iload_n 2, 1) := by decide +kernel
theorem dX10_material_10 : decode cX10_material 10 = .ok (.tableswitch 97 0 4 #[34, 44, 54, 71, 88], 34) := by decide +kernel
theorem dX10_material_44 : decode cX10_material 44 = .ok (.aload_n 0, 1) := by decide +kernel
theorem dX10_material_45 : decode cX10_material 45 = .ok (.getfield 33, 3) := by decide +kernel
theorem dX10_material_48 : decode cX10_material 48 = .ok (.getfield 138, 3) := by decide +kernel
theorem dX10_material_51 : decode cX10_material 51 = .ok (.iload_n 1, 1) := by decide +kernel
theorem dX10_material_52 : decode cX10_material 52 = .ok (.iaload, 1) := by decide +kernel
theorem dX10_material_53 : decode cX10_material 53 = .ok (.ireturn, 1) := by decide +kernel
theorem dX10_material_54 : decode cX10_material 54 = .ok (.aload_n 0, 1) := by decide +kernel
theorem dX10_material_55 : decode cX10_material 55 = .ok (.getfield 33, 3) := by decide +kernel
theorem dX10_material_58 : decode cX10_material 58 = .ok (.getfield 141, 3) := by decide +kernel
theorem dX10_material_61 : decode cX10_material 61 = .ok (.iload_n 1, 1) := by decide +kernel
theorem dX10_material_62 : decode cX10_material 62 = .ok (.iaload, 1) := by decide +kernel
theorem dX10_material_63 : decode cX10_material 63 = .ok (.ireturn, 1) := by decide +kernel
theorem dX10_material_64 : decode cX10_material 64 = .ok (.iload_n 1, 1) := by decide +kernel
theorem dX10_material_65 : decode cX10_material 65 = .ok (.aload_n 0, 1) := by decide +kernel
theorem dX10_material_66 : decode cX10_material 66 = .ok (.getfield 33, 3) := by decide +kernel
theorem dX10_material_69 : decode cX10_material 69 = .ok (.getfield 132, 3) := by decide +kernel
theorem dX10_material_72 : decode cX10_material 72 = .ok (.if_icmp .ne 7, 3) := by decide +kernel
theorem dX10_material_75 : decode cX10_material 75 = .ok (.iconst 1, 1) := by decide +kernel
theorem dX10_material_76 : decode cX10_material 76 = .ok (.goto 4, 3) := by decide +kernel
theorem dX10_material_79 : decode cX10_material 79 = .ok (.iconst 0, 1) := by decide +kernel
theorem dX10_material_80 : decode cX10_material 80 = .ok (.ireturn, 1) := by decide +kernel
theorem dX10_material_81 : decode cX10_material 81 = .ok (.iload_n 1, 1) := by decide +kernel
theorem dX10_material_82 : decode cX10_material 82 = .ok (.aload_n 0, 1) := by decide +kernel
theorem dX10_material_83 : decode cX10_material 83 = .ok (.getfield 33, 3) := by decide +kernel
theorem dX10_material_86 : decode cX10_material 86 = .ok (.getfield 135, 3) := by decide +kernel
theorem dX10_material_89 : decode cX10_material 89 = .ok (.if_icmp .ne 7, 3) := by decide +kernel
theorem dX10_material_92 : decode cX10_material 92 = .ok (.iconst 1, 1) := by decide +kernel
theorem dX10_material_93 : decode cX10_material 93 = .ok (.goto 4, 3) := by decide +kernel
theorem dX10_material_96 : decode cX10_material 96 = .ok (.iconst 0, 1) := by decide +kernel
theorem dX10_material_97 : decode cX10_material 97 = .ok (.ireturn, 1) := by decide +kernel
theorem dX10_material_98 : decode cX10_material 98 = .ok (.aload_n 0, 1) := by decide +kernel
theorem dX10_material_99 : decode cX10_material 99 = .ok (.getfield 19, 3) := by decide +kernel
theorem dX10_material_102 : decode cX10_material 102 = .ok (.iload_n 1, 1) := by decide +kernel
theorem dX10_material_103 : decode cX10_material 103 = .ok (.invokevirtual 144, 3) := by decide +kernel
theorem dX10_material_106 : decode cX10_material 106 = .ok (.ireturn, 1) := by decide +kernel
theorem dX10_material_107 : decode cX10_material 107 = .ok (.iconst (-1), 1) := by decide +kernel
theorem dX10_material_108 : decode cX10_material 108 = .ok (.ireturn, 1) := by decide +kernel
theorem dX10_layer_0 : decode cX10_layer 0 = .ok (.iload_n 1, 1) := by decide +kernel
theorem dX10_layer_1 : decode cX10_layer 1 = .ok (.iconst (-1), 1) := by decide +kernel
theorem dX10_layer_2 : decode cX10_layer 2 = .ok (.if_icmp .ne 11, 3) := by decide +kernel
theorem dX10_layer_5 : decode cX10_layer 5 = .ok (.aload_n 0, 1) := by decide +kernel
theorem dX10_layer_6 : decode cX10_layer 6 = .ok (.getfield 19, 3) := by decide +kernel
theorem dX10_layer_9 : decode cX10_layer 9 = .ok (.getfield 115, 3) := by decide +kernel
theorem dX10_layer_12 : decode cX10_layer 12 = .ok (.ireturn, 1) := by decide +kernel
theorem dX10_layer_13 : decode cX10_layer 13 = .ok (.aload_n 0, 1) := by decide +kernel
theorem dX10_layer_14 : decode cX10_layer 14 = .ok (.getfield 19, 3) := by decide +kernel
theorem dX10_layer_17 : decode cX10_layer 17 = .ok (.iload_n 1, 1) := by decide +kernel
theorem dX10_layer_18 : decode cX10_layer 18 = .ok (.invokevirtual 148, 3) := by decide +kernel
theorem dX10_layer_21 : decode cX10_layer 21 = .ok (.ifCond .eq 13, 3) := by decide +kernel
theorem dX10_layer_24 : decode cX10_layer 24 = .ok (.iload_n 2, 1) := by decide +kernel
theorem dX10_layer_25 : decode cX10_layer 25 = .ok (.ifCond .lt 9, 3) := by decide +kernel
theorem dX10_layer_28 : decode cX10_layer 28 = .ok (.iload_n 2, 1) := by decide +kernel
theorem dX10_layer_29 : decode cX10_layer 29 = .ok (.bipush 8, 2) := by decide +kernel
theorem dX10_layer_31 : decode cX10_layer 31 = .ok (.if_icmp .le 7, 3) := by decide +kernel
theorem dX10_layer_34 : decode cX10_layer 34 = .ok (.sipush (-10000), 3) := by decide +kernel
theorem dX10_layer_37 : decode cX10_layer 37 = .ok (.ireturn, 1) := by decide +kernel
theorem dX10_layer_38 : decode cX10_layer 38 = .ok (.iload_n 2, 1) := by decide +kernel
theorem dX10_layer_39 : decode cX10_layer 39 = .ok (.ifCond .ne 16, 3) := by decide +kernel
theorem dX10_layer_42 : decode cX10_layer 42 = .ok (.aload_n 0, 1) := by decide +kernel
theorem dX10_layer_43 : decode cX10_layer 43 = .ok (.getfield 19, 3) := by decide +kernel
theorem dX10_layer_46 : decode cX10_layer 46 = .ok (.getfield 151, 3) := by decide +kernel
theorem dX10_layer_49 : decode cX10_layer 49 = .ok (.iload_n 1, 1) := by decide +kernel
theorem dX10_layer_50 : decode cX10_layer 50 = .ok (.iaload, 1) := by decide +kernel
theorem dX10_layer_51 : decode cX10_layer 51 = .ok (.invokestatic 154, 3) := by decide +kernel
theorem dX10_layer_54 : decode cX10_layer 54 = .ok (.ireturn, 1) := by decide +kernel
theorem dX10_layer_55 : decode cX10_layer 55 = .ok (.aload_n 0, 1) := by decide +kernel
theorem dX10_layer_56 : decode cX10_layer 56 = .ok (.getfield 67, 3) := by decide +kernel
theorem dX10_layer_59 : decode cX10_layer 59 = .ok (.aload_n 0, 1) := by decide +kernel
theorem dX10_layer_60 : decode cX10_layer 60 = .ok (.getfield 19, 3) := by decide +kernel
theorem dX10_layer_63 : decode cX10_layer 63 = .ok (.getfield 151, 3) := by decide +kernel
theorem dX10_layer_66 : decode cX10_layer 66 = .ok (.iload_n 1, 1) := by decide +kernel
theorem dX10_layer_67 : decode cX10_layer 67 = .ok (.iaload, 1) := by decide +kernel
theorem dX10_layer_68 : decode cX10_layer 68 = .ok (.invokevirtual 157, 3) := by decide +kernel
theorem dX10_layer_71 : decode cX10_layer 71 = .ok (.aload_n 0, 1) := by decide +kernel
theorem dX10_layer_72 : decode cX10_layer 72 = .ok (.getfield 67, 3) := by decide +kernel
theorem dX10_layer_75 : decode cX10_layer 75 = .ok (.iload_n 2, 1) := by decide +kernel
theorem dX10_layer_76 : decode cX10_layer 76 = .ok (.iconst 1, 1) := by decide +kernel
theorem dX10_layer_77 : decode cX10_layer 77 = .ok (.iadd, 1) := by decide +kernel
theorem dX10_layer_78 : decode cX10_layer 78 = .ok (.iconst 2, 1) := by decide +kernel
theorem dX10_layer_79 : decode cX10_layer 79 = .ok (.idiv, 1) := by decide +kernel
theorem dX10_layer_80 : decode cX10_layer 80 = .ok (.invokevirtual 160, 3) := by decide +kernel
theorem dX10_layer_83 : decode cX10_layer 83 = .ok (.iload_n 2, 1) := by decide +kernel
theorem dX10_layer_84 : decode cX10_layer 84 = .ok (.iconst 2, 1) := by decide +kernel
theorem dX10_layer_85 : decode cX10_layer 85 = .ok (.irem, 1) := by decide +kernel
theorem dX10_layer_86 : decode cX10_layer 86 = .ok (.iconst 1, 1) := by decide +kernel
theorem dX10_layer_87 : decode cX10_layer 87 = .ok (.if_icmp .ne 13, 3) := by decide +kernel
theorem dX10_layer_90 : decode cX10_layer 90 = .ok (.aload_n 0, 1) := by decide +kernel
theorem dX10_layer_91 : decode cX10_layer 91 = .ok (.getfield 67, 3) := by decide +kernel
theorem dX10_layer_94 : decode cX10_layer 94 = .ok (.getfield 163, 3) := by decide +kernel
theorem dX10_layer_97 : decode cX10_layer 97 = .ok (.goto 10, 3) := by decide +kernel
theorem dX10_layer_100 : decode cX10_layer 100 = .ok (.aload_n 0, 1) := by decide +kernel
theorem dX10_layer_101 : decode cX10_layer 101 = .ok (.getfield 67, 3) := by decide +kernel
theorem dX10_layer_104 : decode cX10_layer 104 = .ok (.getfield 167, 3) := by decide +kernel
theorem dX10_layer_107 : decode cX10_layer 107 = .ok (.l2i, 1) := by decide +kernel
theorem dX10_layer_108 : decode cX10_layer 108 = .ok (.ireturn, 1) := by decide +kernel
theorem dX10_put_0 : decode cX10_put 0 = .ok (.iload_n 1, 1) := by decide +kernel
theorem dX10_put_1 : decode cX10_put 1 = .ok (.ifCond .lt 32, 3) := by decide +kernel
theorem dX10_put_4 : decode cX10_put 4 = .ok (.iload_n 1, 1) := by decide +kernel
theorem dX10_put_5 : decode cX10_put 5 = .ok (.aload_n 0, 1) := by decide +kernel
theorem dX10_put_6 : decode cX10_put 6 = .ok (.getfield 19, 3) := by decide +kernel
theorem dX10_put_9 : decode cX10_put 9 = .ok (.getfield 115, 3) := by decide +kernel
theorem dX10_put_12 : decode cX10_put 12 = .ok (.if_icmp .gt 21, 3) := by decide +kernel
theorem dX10_put_15 : decode cX10_put 15 = .ok (.iload_n 2, 1) := by decide +kernel
theorem dX10_put_16 : decode cX10_put 16 = .ok (.invokestatic 124, 3) := by decide +kernel
theorem dX10_put_19 : decode cX10_put 19 = .ok (.ifCond .eq 14, 3) := by decide +kernel
theorem dX10_put_22 : decode cX10_put 22 = .ok (.iload_n 3, 1) := by decide +kernel
theorem dX10_put_23 : decode cX10_put 23 = .ok (.i2l, 1) := by decide +kernel
theorem dX10_put_24 : decode cX10_put 24 = .ok (.iload 4, 2) := by decide +kernel
theorem dX10_put_26 : decode cX10_put 26 = .ok (.i2l, 1) := by decide +kernel
theorem dX10_put_27 : decode cX10_put 27 = .ok (.invokestatic 170, 3) := by decide +kernel
theorem dX10_put_30 : decode cX10_put 30 = .ok (.ifCond .ne 5, 3) := by decide +kernel
theorem dX10_put_33 : decode cX10_put 33 = .ok (.iconst (-1), 1) := by decide +kernel
theorem dX10_put_34 : decode cX10_put 34 = .ok (.ireturn, 1) := by decide +kernel
theorem dX10_put_35 : decode cX10_put 35 = .ok (.aload_n 0, 1) := by decide +kernel
theorem dX10_put_36 : decode cX10_put 36 = .ok (.getfield 19, 3) := by decide +kernel
theorem dX10_put_39 : decode cX10_put 39 = .ok (.getfield 115, 3) := by decide +kernel
theorem dX10_put_42 : decode cX10_put 42 = .ok (.bipush 24, 2) := by decide +kernel
theorem dX10_put_44 : decode cX10_put 44 = .ok (.if_icmp .lt 5, 3) := by decide +kernel
theorem dX10_put_47 : decode cX10_put 47 = .ok (.iconst (-1), 1) := by decide +kernel
theorem dX10_put_48 : decode cX10_put 48 = .ok (.ireturn, 1) := by decide +kernel
theorem dX10_put_49 : decode cX10_put 49 = .ok (.aload_n 0, 1) := by decide +kernel
theorem dX10_put_50 : decode cX10_put 50 = .ok (.getfield 26, 3) := by decide +kernel
theorem dX10_put_53 : decode cX10_put 53 = .ok (.aload_n 0, 1) := by decide +kernel
theorem dX10_put_54 : decode cX10_put 54 = .ok (.getfield 19, 3) := by decide +kernel
theorem dX10_put_57 : decode cX10_put 57 = .ok (.iconst 0, 1) := by decide +kernel
theorem dX10_put_58 : decode cX10_put 58 = .ok (.invokevirtual 104, 3) := by decide +kernel
theorem dX10_put_61 : decode cX10_put 61 = .ok (.aload_n 0, 1) := by decide +kernel
theorem dX10_put_62 : decode cX10_put 62 = .ok (.getfield 19, 3) := by decide +kernel
theorem dX10_put_65 : decode cX10_put 65 = .ok (.iload_n 1, 1) := by decide +kernel
theorem dX10_put_66 : decode cX10_put 66 = .ok (.iload_n 2, 1) := by decide +kernel
theorem dX10_put_67 : decode cX10_put 67 = .ok (.iload_n 3, 1) := by decide +kernel
theorem dX10_put_68 : decode cX10_put 68 = .ok (.iload 4, 2) := by decide +kernel
theorem dX10_put_70 : decode cX10_put 70 = .ok (.invokestatic 174, 3) := by decide +kernel
theorem dX10_put_73 : decode cX10_put 73 = .ok (.invokevirtual 178, 3) := by decide +kernel
theorem dX10_put_76 : decode cX10_put 76 = .ok (.aload_n 0, 1) := by decide +kernel
theorem dX10_put_77 : decode cX10_put 77 = .ok (.getfield 19, 3) := by decide +kernel
theorem dX10_put_80 : decode cX10_put 80 = .ok (.getfield 115, 3) := by decide +kernel
theorem dX10_put_83 : decode cX10_put 83 = .ok (.ireturn, 1) := by decide +kernel
theorem dX10_cut_0 : decode cX10_cut 0 = .ok (.aload_n 0, 1) := by decide +kernel
theorem dX10_cut_1 : decode cX10_cut 1 = .ok (.getfield 19, 3) := by decide +kernel
theorem dX10_cut_4 : decode cX10_cut 4 = .ok (.iload_n 1, 1) := by decide +kernel
theorem dX10_cut_5 : decode cX10_cut 5 = .ok (.invokevirtual 148, 3) := by decide +kernel
theorem dX10_cut_8 : decode cX10_cut 8 = .ok (.ifCond .ne 5, 3) := by decide +kernel
theorem dX10_cut_11 : decode cX10_cut 11 = .ok (.iconst (-1), 1) := by decide +kernel
theorem dX10_cut_12 : decode cX10_cut 12 = .ok (.ireturn, 1) := by decide +kernel
theorem dX10_cut_13 : decode cX10_cut 13 = .ok (.aload_n 0, 1) := by decide +kernel
theorem dX10_cut_14 : decode cX10_cut 14 = .ok (.getfield 26, 3) := by decide +kernel
theorem dX10_cut_17 : decode cX10_cut 17 = .ok (.aload_n 0, 1) := by decide +kernel
theorem dX10_cut_18 : decode cX10_cut 18 = .ok (.getfield 19, 3) := by decide +kernel
theorem dX10_cut_21 : decode cX10_cut 21 = .ok (.iconst 0, 1) := by decide +kernel
theorem dX10_cut_22 : decode cX10_cut 22 = .ok (.invokevirtual 104, 3) := by decide +kernel
theorem dX10_cut_25 : decode cX10_cut 25 = .ok (.aload_n 0, 1) := by decide +kernel
theorem dX10_cut_26 : decode cX10_cut 26 = .ok (.getfield 19, 3) := by decide +kernel
theorem dX10_cut_29 : decode cX10_cut 29 = .ok (.iload_n 1, 1) := by decide +kernel
theorem dX10_cut_30 : decode cX10_cut 30 = .ok (.invokevirtual 182, 3) := by decide +kernel
theorem dX10_cut_33 : decode cX10_cut 33 = .ok (.aload_n 0, 1) := by decide +kernel
theorem dX10_cut_34 : decode cX10_cut 34 = .ok (.getfield 19, 3) := by decide +kernel
theorem dX10_cut_37 : decode cX10_cut 37 = .ok (.getfield 115, 3) := by decide +kernel
theorem dX10_cut_40 : decode cX10_cut 40 = .ok (.ireturn, 1) := by decide +kernel
theorem dX10_turn_0 : decode cX10_turn 0 = .ok (.aload_n 0, 1) := by decide +kernel
theorem dX10_turn_1 : decode cX10_turn 1 = .ok (.getfield 33, 3) := by decide +kernel
theorem dX10_turn_4 : decode cX10_turn 4 = .ok (.getfield 132, 3) := by decide +kernel
theorem dX10_turn_7 : decode cX10_turn 7 = .ok (.aload_n 0, 1) := by decide +kernel
theorem dX10_turn_8 : decode cX10_turn 8 = .ok (.getfield 33, 3) := by decide +kernel
theorem dX10_turn_11 : decode cX10_turn 11 = .ok (.getfield 135, 3) := by decide +kernel
theorem dX10_turn_14 : decode cX10_turn 14 = .ok (.if_icmp .ne 15, 3) := by decide +kernel
theorem dX10_turn_17 : decode cX10_turn 17 = .ok (.aload_n 0, 1) := by decide +kernel
theorem dX10_turn_18 : decode cX10_turn 18 = .ok (.getfield 19, 3) := by decide +kernel
theorem dX10_turn_21 : decode cX10_turn 21 = .ok (.invokevirtual 185, 3) := by decide +kernel
theorem dX10_turn_24 : decode cX10_turn 24 = .ok (.ifCond .eq 5, 3) := by decide +kernel
theorem dX10_turn_27 : decode cX10_turn 27 = .ok (.iconst 0, 1) := by decide +kernel
theorem dX10_turn_28 : decode cX10_turn 28 = .ok (.ireturn, 1) := by decide +kernel
theorem dX10_turn_29 : decode cX10_turn 29 = .ok (.aload_n 0, 1) := by decide +kernel
theorem dX10_turn_30 : decode cX10_turn 30 = .ok (.getfield 26, 3) := by decide +kernel
theorem dX10_turn_33 : decode cX10_turn 33 = .ok (.aload_n 0, 1) := by decide +kernel
theorem dX10_turn_34 : decode cX10_turn 34 = .ok (.getfield 19, 3) := by decide +kernel
theorem dX10_turn_37 : decode cX10_turn 37 = .ok (.iconst 1, 1) := by decide +kernel
theorem dX10_turn_38 : decode cX10_turn 38 = .ok (.invokevirtual 104, 3) := by decide +kernel
theorem dX10_turn_41 : decode cX10_turn 41 = .ok (.aload_n 0, 1) := by decide +kernel
theorem dX10_turn_42 : decode cX10_turn 42 = .ok (.getfield 19, 3) := by decide +kernel
theorem dX10_turn_45 : decode cX10_turn 45 = .ok (.invokevirtual 188, 3) := by decide +kernel
theorem dX10_turn_48 : decode cX10_turn 48 = .ok (.aload_n 0, 1) := by decide +kernel
theorem dX10_turn_49 : decode cX10_turn 49 = .ok (.getfield 33, 3) := by decide +kernel
theorem dX10_turn_52 : decode cX10_turn 52 = .ok (.invokevirtual 191, 3) := by decide +kernel
theorem dX10_turn_55 : decode cX10_turn 55 = .ok (.iconst 1, 1) := by decide +kernel
theorem dX10_turn_56 : decode cX10_turn 56 = .ok (.ireturn, 1) := by decide +kernel
theorem dX10_undo_0 : decode cX10_undo 0 = .ok (.aload_n 0, 1) := by decide +kernel
theorem dX10_undo_1 : decode cX10_undo 1 = .ok (.getfield 26, 3) := by decide +kernel
theorem dX10_undo_4 : decode cX10_undo 4 = .ok (.getfield 194, 3) := by decide +kernel
theorem dX10_undo_7 : decode cX10_undo 7 = .ok (.ifCond .ne 5, 3) := by decide +kernel
theorem dX10_undo_10 : decode cX10_undo 10 = .ok (.iconst 0, 1) := by decide +kernel
theorem dX10_undo_11 : decode cX10_undo 11 = .ok (.ireturn, 1) := by decide +kernel
theorem dX10_undo_12 : decode cX10_undo 12 = .ok (.aload_n 0, 1) := by decide +kernel
theorem dX10_undo_13 : decode cX10_undo 13 = .ok (.getfield 26, 3) := by decide +kernel
theorem dX10_undo_16 : decode cX10_undo 16 = .ok (.aload_n 0, 1) := by decide +kernel
theorem dX10_undo_17 : decode cX10_undo 17 = .ok (.getfield 19, 3) := by decide +kernel
theorem dX10_undo_20 : decode cX10_undo 20 = .ok (.invokevirtual 195, 3) := by decide +kernel
theorem dX10_undo_23 : decode cX10_undo 23 = .ok (.ifCond .eq 10, 3) := by decide +kernel
theorem dX10_undo_26 : decode cX10_undo 26 = .ok (.aload_n 0, 1) := by decide +kernel
theorem dX10_undo_27 : decode cX10_undo 27 = .ok (.getfield 33, 3) := by decide +kernel
theorem dX10_undo_30 : decode cX10_undo 30 = .ok (.invokevirtual 191, 3) := by decide +kernel
theorem dX10_undo_33 : decode cX10_undo 33 = .ok (.iconst 1, 1) := by decide +kernel
theorem dX10_undo_34 : decode cX10_undo 34 = .ok (.ireturn, 1) := by decide +kernel
theorem dX10_matrix_0 : decode cX10_matrix 0 = .ok (.iload_n 1, 1) := by decide +kernel
theorem dX10_matrix_1 : decode cX10_matrix 1 = .ok (.iconst (-1), 1) := by decide +kernel
theorem dX10_matrix_2 : decode cX10_matrix 2 = .ok (.if_icmp .ne 13, 3) := by decide +kernel
theorem dX10_matrix_5 : decode cX10_matrix 5 = .ok (.aload_n 0, 1) := by decide +kernel
theorem dX10_matrix_6 : decode cX10_matrix 6 = .ok (.getfield 19, 3) := by decide +kernel
theorem dX10_matrix_9 : decode cX10_matrix 9 = .ok (.getfield 115, 3) := by decide +kernel
theorem dX10_matrix_12 : decode cX10_matrix 12 = .ok (.goto 4, 3) := by decide +kernel
theorem dX10_matrix_15 : decode cX10_matrix 15 = .ok (.iload_n 1, 1) := by decide +kernel
theorem dX10_matrix_16 : decode cX10_matrix 16 = .ok (.istore 4, 2) := by decide +kernel
theorem dX10_matrix_18 : decode cX10_matrix 18 = .ok (.aload_n 0, 1) := by decide +kernel
theorem dX10_matrix_19 : decode cX10_matrix 19 = .ok (.iload 4, 2) := by decide +kernel
theorem dX10_matrix_21 : decode cX10_matrix 21 = .ok (.invokevirtual 199, 3) := by decide +kernel
theorem dX10_matrix_24 : decode cX10_matrix 24 = .ok (.ifCond .eq 19, 3) := by decide +kernel
theorem dX10_matrix_27 : decode cX10_matrix 27 = .ok (.iload_n 2, 1) := by decide +kernel
theorem dX10_matrix_28 : decode cX10_matrix 28 = .ok (.invokestatic 202, 3) := by decide +kernel
theorem dX10_matrix_31 : decode cX10_matrix 31 = .ok (.ifCond .eq 12, 3) := by decide +kernel
theorem dX10_matrix_34 : decode cX10_matrix 34 = .ok (.iload_n 3, 1) := by decide +kernel
theorem dX10_matrix_35 : decode cX10_matrix 35 = .ok (.ifCond .lt 8, 3) := by decide +kernel
theorem dX10_matrix_38 : decode cX10_matrix 38 = .ok (.iload_n 3, 1) := by decide +kernel
theorem dX10_matrix_39 : decode cX10_matrix 39 = .ok (.iconst 3, 1) := by decide +kernel
theorem dX10_matrix_40 : decode cX10_matrix 40 = .ok (.if_icmp .le 6, 3) := by decide +kernel
theorem dX10_matrix_43 : decode cX10_matrix 43 = .ok (.ldc 205, 2) := by decide +kernel
theorem dX10_matrix_45 : decode cX10_matrix 45 = .ok (.ireturn, 1) := by decide +kernel
theorem dX10_matrix_46 : decode cX10_matrix 46 = .ok (.aload_n 0, 1) := by decide +kernel
theorem dX10_matrix_47 : decode cX10_matrix 47 = .ok (.iload 4, 2) := by decide +kernel
theorem dX10_matrix_49 : decode cX10_matrix 49 = .ok (.iload_n 2, 1) := by decide +kernel
theorem dX10_matrix_50 : decode cX10_matrix 50 = .ok (.invokevirtual 206, 3) := by decide +kernel
theorem dX10_matrix_53 : decode cX10_matrix 53 = .ok (.astore 5, 2) := by decide +kernel
theorem dX10_matrix_55 : decode cX10_matrix 55 = .ok (.aload 5, 2) := by decide +kernel
theorem dX10_matrix_57 : decode cX10_matrix 57 = .ok (.getfield 210, 3) := by decide +kernel
theorem dX10_matrix_60 : decode cX10_matrix 60 = .ok (.ifCond .eq 8, 3) := by decide +kernel
theorem dX10_matrix_63 : decode cX10_matrix 63 = .ok (.ldc 205, 2) := by decide +kernel
theorem dX10_matrix_65 : decode cX10_matrix 65 = .ok (.goto 10, 3) := by decide +kernel
theorem dX10_matrix_68 : decode cX10_matrix 68 = .ok (.aload 5, 2) := by decide +kernel
theorem dX10_matrix_70 : decode cX10_matrix 70 = .ok (.iload_n 3, 1) := by decide +kernel
theorem dX10_matrix_71 : decode cX10_matrix 71 = .ok (.invokevirtual 214, 3) := by decide +kernel
theorem dX10_matrix_74 : decode cX10_matrix 74 = .ok (.l2i, 1) := by decide +kernel
theorem dX10_matrix_75 : decode cX10_matrix 75 = .ok (.ireturn, 1) := by decide +kernel
theorem dX10_light_0 : decode cX10_light 0 = .ok (.iload_n 1, 1) := by decide +kernel
theorem dX10_light_1 : decode cX10_light 1 = .ok (.iconst (-1), 1) := by decide +kernel
theorem dX10_light_2 : decode cX10_light 2 = .ok (.if_icmp .ne 13, 3) := by decide +kernel
theorem dX10_light_5 : decode cX10_light 5 = .ok (.aload_n 0, 1) := by decide +kernel
theorem dX10_light_6 : decode cX10_light 6 = .ok (.getfield 19, 3) := by decide +kernel
theorem dX10_light_9 : decode cX10_light 9 = .ok (.getfield 115, 3) := by decide +kernel
theorem dX10_light_12 : decode cX10_light 12 = .ok (.goto 4, 3) := by decide +kernel
theorem dX10_light_15 : decode cX10_light 15 = .ok (.iload_n 1, 1) := by decide +kernel
theorem dX10_light_16 : decode cX10_light 16 = .ok (.istore 4, 2) := by decide +kernel
theorem dX10_light_18 : decode cX10_light 18 = .ok (.aload_n 0, 1) := by decide +kernel
theorem dX10_light_19 : decode cX10_light 19 = .ok (.iload 4, 2) := by decide +kernel
theorem dX10_light_21 : decode cX10_light 21 = .ok (.invokevirtual 199, 3) := by decide +kernel
theorem dX10_light_24 : decode cX10_light 24 = .ok (.ifCond .eq 19, 3) := by decide +kernel
theorem dX10_light_27 : decode cX10_light 27 = .ok (.iload_n 2, 1) := by decide +kernel
theorem dX10_light_28 : decode cX10_light 28 = .ok (.invokestatic 202, 3) := by decide +kernel
theorem dX10_light_31 : decode cX10_light 31 = .ok (.ifCond .eq 12, 3) := by decide +kernel
theorem dX10_light_34 : decode cX10_light 34 = .ok (.iload_n 3, 1) := by decide +kernel
theorem dX10_light_35 : decode cX10_light 35 = .ok (.ifCond .lt 8, 3) := by decide +kernel
theorem dX10_light_38 : decode cX10_light 38 = .ok (.iload_n 3, 1) := by decide +kernel
theorem dX10_light_39 : decode cX10_light 39 = .ok (.iconst 3, 1) := by decide +kernel
theorem dX10_light_40 : decode cX10_light 40 = .ok (.if_icmp .le 7, 3) := by decide +kernel
theorem dX10_light_43 : decode cX10_light 43 = .ok (.ldc2_w 218, 3) := by decide +kernel
theorem dX10_light_46 : decode cX10_light 46 = .ok (.lreturn, 1) := by decide +kernel
theorem dX10_light_47 : decode cX10_light 47 = .ok (.aload_n 0, 1) := by decide +kernel
theorem dX10_light_48 : decode cX10_light 48 = .ok (.iload 4, 2) := by decide +kernel
theorem dX10_light_50 : decode cX10_light 50 = .ok (.iload_n 2, 1) := by decide +kernel
theorem dX10_light_51 : decode cX10_light 51 = .ok (.invokevirtual 206, 3) := by decide +kernel
theorem dX10_light_54 : decode cX10_light 54 = .ok (.astore 5, 2) := by decide +kernel
theorem dX10_light_56 : decode cX10_light 56 = .ok (.aload 5, 2) := by decide +kernel
theorem dX10_light_58 : decode cX10_light 58 = .ok (.getfield 210, 3) := by decide +kernel
theorem dX10_light_61 : decode cX10_light 61 = .ok (.ifCond .eq 7, 3) := by decide +kernel
theorem dX10_light_64 : decode cX10_light 64 = .ok (.ldc2_w 220, 3) := by decide +kernel
theorem dX10_light_67 : decode cX10_light 67 = .ok (.lreturn, 1) := by decide +kernel
theorem dX10_light_68 : decode cX10_light 68 = .ok (.iload_n 3, 1) := by decide +kernel
theorem dX10_light_69 : decode cX10_light 69 = .ok (.iconst 2, 1) := by decide +kernel
theorem dX10_light_70 : decode cX10_light 70 = .ok (.if_icmp .ge 19, 3) := by decide +kernel
theorem dX10_light_73 : decode cX10_light 73 = .ok (.aload_n 0, 1) := by decide +kernel
theorem dX10_light_74 : decode cX10_light 74 = .ok (.getfield 33, 3) := by decide +kernel
theorem dX10_light_77 : decode cX10_light 77 = .ok (.aload 5, 2) := by decide +kernel
theorem dX10_light_79 : decode cX10_light 79 = .ok (.aload_n 0, 1) := by decide +kernel
theorem dX10_light_80 : decode cX10_light 80 = .ok (.getfield 74, 3) := by decide +kernel
theorem dX10_light_83 : decode cX10_light 83 = .ok (.invokevirtual 222, 3) := by decide +kernel
theorem dX10_light_86 : decode cX10_light 86 = .ok (.goto 16, 3) := by decide +kernel
theorem dX10_light_89 : decode cX10_light 89 = .ok (.aload_n 0, 1) := by decide +kernel
theorem dX10_light_90 : decode cX10_light 90 = .ok (.getfield 33, 3) := by decide +kernel
theorem dX10_light_93 : decode cX10_light 93 = .ok (.aload 5, 2) := by decide +kernel
theorem dX10_light_95 : decode cX10_light 95 = .ok (.aload_n 0, 1) := by decide +kernel
theorem dX10_light_96 : decode cX10_light 96 = .ok (.getfield 74, 3) := by decide +kernel
theorem dX10_light_99 : decode cX10_light 99 = .ok (.invokevirtual 226, 3) := by decide +kernel
theorem dX10_light_102 : decode cX10_light 102 = .ok (.aload_n 0, 1) := by decide +kernel
theorem dX10_light_103 : decode cX10_light 103 = .ok (.getfield 74, 3) := by decide +kernel
theorem dX10_light_106 : decode cX10_light 106 = .ok (.invokevirtual 229, 3) := by decide +kernel
theorem dX10_light_109 : decode cX10_light 109 = .ok (.iload_n 3, 1) := by decide +kernel
theorem dX10_light_110 : decode cX10_light 110 = .ok (.iconst 2, 1) := by decide +kernel
theorem dX10_light_111 : decode cX10_light 111 = .ok (.irem, 1) := by decide +kernel
theorem dX10_light_112 : decode cX10_light 112 = .ok (.ifCond .ne 13, 3) := by decide +kernel
theorem dX10_light_115 : decode cX10_light 115 = .ok (.aload_n 0, 1) := by decide +kernel
theorem dX10_light_116 : decode cX10_light 116 = .ok (.getfield 74, 3) := by decide +kernel
theorem dX10_light_119 : decode cX10_light 119 = .ok (.getfield 232, 3) := by decide +kernel
theorem dX10_light_122 : decode cX10_light 122 = .ok (.goto 10, 3) := by decide +kernel
theorem dX10_light_125 : decode cX10_light 125 = .ok (.aload_n 0, 1) := by decide +kernel
theorem dX10_light_126 : decode cX10_light 126 = .ok (.getfield 74, 3) := by decide +kernel
theorem dX10_light_129 : decode cX10_light 129 = .ok (.getfield 235, 3) := by decide +kernel
theorem dX10_light_132 : decode cX10_light 132 = .ok (.lreturn, 1) := by decide +kernel
theorem dX10_share_0 : decode cX10_share 0 = .ok (.iload_n 1, 1) := by decide +kernel
theorem dX10_share_1 : decode cX10_share 1 = .ok (.invokestatic 202, 3) := by decide +kernel
theorem dX10_share_4 : decode cX10_share 4 = .ok (.ifCond .ne 6, 3) := by decide +kernel
theorem dX10_share_7 : decode cX10_share 7 = .ok (.bipush (-2), 2) := by decide +kernel
theorem dX10_share_9 : decode cX10_share 9 = .ok (.ireturn, 1) := by decide +kernel
theorem dX10_share_10 : decode cX10_share 10 = .ok (.aload_n 0, 1) := by decide +kernel
theorem dX10_share_11 : decode cX10_share 11 = .ok (.aload_n 0, 1) := by decide +kernel
theorem dX10_share_12 : decode cX10_share 12 = .ok (.getfield 19, 3) := by decide +kernel
theorem dX10_share_15 : decode cX10_share 15 = .ok (.getfield 115, 3) := by decide +kernel
theorem dX10_share_18 : decode cX10_share 18 = .ok (.iload_n 1, 1) := by decide +kernel
theorem dX10_share_19 : decode cX10_share 19 = .ok (.invokevirtual 206, 3) := by decide +kernel
theorem dX10_share_22 : decode cX10_share 22 = .ok (.astore_n 2, 1) := by decide +kernel
theorem dX10_share_23 : decode cX10_share 23 = .ok (.aload_n 2, 1) := by decide +kernel
theorem dX10_share_24 : decode cX10_share 24 = .ok (.getfield 210, 3) := by decide +kernel
theorem dX10_share_27 : decode cX10_share 27 = .ok (.ifCond .eq 5, 3) := by decide +kernel
theorem dX10_share_30 : decode cX10_share 30 = .ok (.iconst (-1), 1) := by decide +kernel
theorem dX10_share_31 : decode cX10_share 31 = .ok (.ireturn, 1) := by decide +kernel
theorem dX10_share_32 : decode cX10_share 32 = .ok (.aload_n 0, 1) := by decide +kernel
theorem dX10_share_33 : decode cX10_share 33 = .ok (.getfield 33, 3) := by decide +kernel
theorem dX10_share_36 : decode cX10_share 36 = .ok (.aload_n 2, 1) := by decide +kernel
theorem dX10_share_37 : decode cX10_share 37 = .ok (.aload_n 0, 1) := by decide +kernel
theorem dX10_share_38 : decode cX10_share 38 = .ok (.getfield 74, 3) := by decide +kernel
theorem dX10_share_41 : decode cX10_share 41 = .ok (.invokevirtual 222, 3) := by decide +kernel
theorem dX10_share_44 : decode cX10_share 44 = .ok (.aload_n 0, 1) := by decide +kernel
theorem dX10_share_45 : decode cX10_share 45 = .ok (.getfield 74, 3) := by decide +kernel
theorem dX10_share_48 : decode cX10_share 48 = .ok (.invokevirtual 229, 3) := by decide +kernel
theorem dX10_share_51 : decode cX10_share 51 = .ok (.aload_n 0, 1) := by decide +kernel
theorem dX10_share_52 : decode cX10_share 52 = .ok (.getfield 74, 3) := by decide +kernel
theorem dX10_share_55 : decode cX10_share 55 = .ok (.getfield 235, 3) := by decide +kernel
theorem dX10_share_58 : decode cX10_share 58 = .ok (.lconst 0, 1) := by decide +kernel
theorem dX10_share_59 : decode cX10_share 59 = .ok (.lcmp, 1) := by decide +kernel
theorem dX10_share_60 : decode cX10_share 60 = .ok (.ifCond .le 26, 3) := by decide +kernel
theorem dX10_share_63 : decode cX10_share 63 = .ok (.aload_n 0, 1) := by decide +kernel
theorem dX10_share_64 : decode cX10_share 64 = .ok (.getfield 74, 3) := by decide +kernel
theorem dX10_share_67 : decode cX10_share 67 = .ok (.getfield 232, 3) := by decide +kernel
theorem dX10_share_70 : decode cX10_share 70 = .ok (.l2f, 1) := by decide +kernel
theorem dX10_share_71 : decode cX10_share 71 = .ok (.aload_n 0, 1) := by decide +kernel
theorem dX10_share_72 : decode cX10_share 72 = .ok (.getfield 74, 3) := by decide +kernel
theorem dX10_share_75 : decode cX10_share 75 = .ok (.getfield 235, 3) := by decide +kernel
theorem dX10_share_78 : decode cX10_share 78 = .ok (.l2f, 1) := by decide +kernel
theorem dX10_share_79 : decode cX10_share 79 = .ok (.fdiv, 1) := by decide +kernel
theorem dX10_share_80 : decode cX10_share 80 = .ok (.invokestatic 238, 3) := by decide +kernel
theorem dX10_share_83 : decode cX10_share 83 = .ok (.goto 4, 3) := by decide +kernel
theorem dX10_share_86 : decode cX10_share 86 = .ok (.iconst (-1), 1) := by decide +kernel
theorem dX10_share_87 : decode cX10_share 87 = .ok (.ireturn, 1) := by decide +kernel
theorem dX10_through_0 : decode cX10_through 0 = .ok (.iload_n 1, 1) := by decide +kernel
theorem dX10_through_1 : decode cX10_through 1 = .ok (.invokestatic 202, 3) := by decide +kernel
theorem dX10_through_4 : decode cX10_through 4 = .ok (.ifCond .ne 7, 3) := by decide +kernel
theorem dX10_through_7 : decode cX10_through 7 = .ok (.ldc2_w 218, 3) := by decide +kernel
theorem dX10_through_10 : decode cX10_through 10 = .ok (.lreturn, 1) := by decide +kernel
theorem dX10_through_11 : decode cX10_through 11 = .ok (.aload_n 0, 1) := by decide +kernel
theorem dX10_through_12 : decode cX10_through 12 = .ok (.aload_n 0, 1) := by decide +kernel
theorem dX10_through_13 : decode cX10_through 13 = .ok (.getfield 19, 3) := by decide +kernel
theorem dX10_through_16 : decode cX10_through 16 = .ok (.getfield 115, 3) := by decide +kernel
theorem dX10_through_19 : decode cX10_through 19 = .ok (.iload_n 1, 1) := by decide +kernel
theorem dX10_through_20 : decode cX10_through 20 = .ok (.invokevirtual 206, 3) := by decide +kernel
theorem dX10_through_23 : decode cX10_through 23 = .ok (.astore_n 2, 1) := by decide +kernel
theorem dX10_through_24 : decode cX10_through 24 = .ok (.aload_n 2, 1) := by decide +kernel
theorem dX10_through_25 : decode cX10_through 25 = .ok (.getfield 210, 3) := by decide +kernel
theorem dX10_through_28 : decode cX10_through 28 = .ok (.ifCond .eq 7, 3) := by decide +kernel
theorem dX10_through_31 : decode cX10_through 31 = .ok (.ldc2_w 220, 3) := by decide +kernel
theorem dX10_through_34 : decode cX10_through 34 = .ok (.lreturn, 1) := by decide +kernel
theorem dX10_through_35 : decode cX10_through 35 = .ok (.aload_n 0, 1) := by decide +kernel
theorem dX10_through_36 : decode cX10_through 36 = .ok (.getfield 33, 3) := by decide +kernel
theorem dX10_through_39 : decode cX10_through 39 = .ok (.aload_n 2, 1) := by decide +kernel
theorem dX10_through_40 : decode cX10_through 40 = .ok (.aload_n 0, 1) := by decide +kernel
theorem dX10_through_41 : decode cX10_through 41 = .ok (.getfield 74, 3) := by decide +kernel
theorem dX10_through_44 : decode cX10_through 44 = .ok (.invokevirtual 226, 3) := by decide +kernel
theorem dX10_through_47 : decode cX10_through 47 = .ok (.aload_n 0, 1) := by decide +kernel
theorem dX10_through_48 : decode cX10_through 48 = .ok (.getfield 74, 3) := by decide +kernel
theorem dX10_through_51 : decode cX10_through 51 = .ok (.invokevirtual 229, 3) := by decide +kernel
theorem dX10_through_54 : decode cX10_through 54 = .ok (.aload_n 0, 1) := by decide +kernel
theorem dX10_through_55 : decode cX10_through 55 = .ok (.getfield 74, 3) := by decide +kernel
theorem dX10_through_58 : decode cX10_through 58 = .ok (.getfield 235, 3) := by decide +kernel
theorem dX10_through_61 : decode cX10_through 61 = .ok (.lconst 0, 1) := by decide +kernel
theorem dX10_through_62 : decode cX10_through 62 = .ok (.lcmp, 1) := by decide +kernel
theorem dX10_through_63 : decode cX10_through 63 = .ok (.ifCond .le 26, 3) := by decide +kernel
theorem dX10_through_66 : decode cX10_through 66 = .ok (.aload_n 0, 1) := by decide +kernel
theorem dX10_through_67 : decode cX10_through 67 = .ok (.getfield 74, 3) := by decide +kernel
theorem dX10_through_70 : decode cX10_through 70 = .ok (.getfield 232, 3) := by decide +kernel
theorem dX10_through_73 : decode cX10_through 73 = .ok (.l2d, 1) := by decide +kernel
theorem dX10_through_74 : decode cX10_through 74 = .ok (.aload_n 0, 1) := by decide +kernel
theorem dX10_through_75 : decode cX10_through 75 = .ok (.getfield 74, 3) := by decide +kernel
theorem dX10_through_78 : decode cX10_through 78 = .ok (.getfield 235, 3) := by decide +kernel
theorem dX10_through_81 : decode cX10_through 81 = .ok (.l2d, 1) := by decide +kernel
theorem dX10_through_82 : decode cX10_through 82 = .ok (.ddiv, 1) := by decide +kernel
theorem dX10_through_83 : decode cX10_through 83 = .ok (.invokestatic 242, 3) := by decide +kernel
theorem dX10_through_86 : decode cX10_through 86 = .ok (.goto 6, 3) := by decide +kernel
theorem dX10_through_89 : decode cX10_through 89 = .ok (.ldc2_w 220, 3) := by decide +kernel
theorem dX10_through_92 : decode cX10_through 92 = .ok (.lreturn, 1) := by decide +kernel
theorem dX10_admittance_0 : decode cX10_admittance 0 = .ok (.iload_n 1, 1) := by decide +kernel
theorem dX10_admittance_1 : decode cX10_admittance 1 = .ok (.iconst (-1), 1) := by decide +kernel
theorem dX10_admittance_2 : decode cX10_admittance 2 = .ok (.if_icmp .ne 13, 3) := by decide +kernel
theorem dX10_admittance_5 : decode cX10_admittance 5 = .ok (.aload_n 0, 1) := by decide +kernel
theorem dX10_admittance_6 : decode cX10_admittance 6 = .ok (.getfield 19, 3) := by decide +kernel
theorem dX10_admittance_9 : decode cX10_admittance 9 = .ok (.getfield 115, 3) := by decide +kernel
theorem dX10_admittance_12 : decode cX10_admittance 12 = .ok (.goto 4, 3) := by decide +kernel
theorem dX10_admittance_15 : decode cX10_admittance 15 = .ok (.iload_n 1, 1) := by decide +kernel
theorem dX10_admittance_16 : decode cX10_admittance 16 = .ok (.istore 4, 2) := by decide +kernel
theorem dX10_admittance_18 : decode cX10_admittance 18 = .ok (.aload_n 0, 1) := by decide +kernel
theorem dX10_admittance_19 : decode cX10_admittance 19 = .ok (.iload 4, 2) := by decide +kernel
theorem dX10_admittance_21 : decode cX10_admittance 21 = .ok (.invokevirtual 199, 3) := by decide +kernel
theorem dX10_admittance_24 : decode cX10_admittance 24 = .ok (.ifCond .eq 19, 3) := by decide +kernel
theorem dX10_admittance_27 : decode cX10_admittance 27 = .ok (.iload_n 2, 1) := by decide +kernel
theorem dX10_admittance_28 : decode cX10_admittance 28 = .ok (.invokestatic 202, 3) := by decide +kernel
theorem dX10_admittance_31 : decode cX10_admittance 31 = .ok (.ifCond .eq 12, 3) := by decide +kernel
theorem dX10_admittance_34 : decode cX10_admittance 34 = .ok (.iload_n 3, 1) := by decide +kernel
theorem dX10_admittance_35 : decode cX10_admittance 35 = .ok (.ifCond .lt 8, 3) := by decide +kernel
theorem dX10_admittance_38 : decode cX10_admittance 38 = .ok (.iload_n 3, 1) := by decide +kernel
theorem dX10_admittance_39 : decode cX10_admittance 39 = .ok (.iconst 3, 1) := by decide +kernel
theorem dX10_admittance_40 : decode cX10_admittance 40 = .ok (.if_icmp .le 7, 3) := by decide +kernel
theorem dX10_admittance_43 : decode cX10_admittance 43 = .ok (.ldc2_w 246, 3) := by decide +kernel
theorem dX10_admittance_46 : decode cX10_admittance 46 = .ok (.lreturn, 1) := by decide +kernel
theorem dX10_admittance_47 : decode cX10_admittance 47 = .ok (.aload_n 0, 1) := by decide +kernel
theorem dX10_admittance_48 : decode cX10_admittance 48 = .ok (.iload 4, 2) := by decide +kernel
theorem dX10_admittance_50 : decode cX10_admittance 50 = .ok (.iload_n 2, 1) := by decide +kernel
theorem dX10_admittance_51 : decode cX10_admittance 51 = .ok (.invokevirtual 206, 3) := by decide +kernel
theorem dX10_admittance_54 : decode cX10_admittance 54 = .ok (.astore 5, 2) := by decide +kernel
theorem dX10_admittance_56 : decode cX10_admittance 56 = .ok (.aload 5, 2) := by decide +kernel
theorem dX10_admittance_58 : decode cX10_admittance 58 = .ok (.getfield 210, 3) := by decide +kernel
theorem dX10_admittance_61 : decode cX10_admittance 61 = .ok (.ifCond .eq 7, 3) := by decide +kernel
theorem dX10_admittance_64 : decode cX10_admittance 64 = .ok (.ldc2_w 246, 3) := by decide +kernel
theorem dX10_admittance_67 : decode cX10_admittance 67 = .ok (.lreturn, 1) := by decide +kernel
theorem dX10_admittance_68 : decode cX10_admittance 68 = .ok (.aload_n 0, 1) := by decide +kernel
theorem dX10_admittance_69 : decode cX10_admittance 69 = .ok (.getfield 33, 3) := by decide +kernel
theorem dX10_admittance_72 : decode cX10_admittance 72 = .ok (.aload 5, 2) := by decide +kernel
theorem dX10_admittance_74 : decode cX10_admittance 74 = .ok (.iload_n 3, 1) := by decide +kernel
theorem dX10_admittance_75 : decode cX10_admittance 75 = .ok (.iconst 2, 1) := by decide +kernel
theorem dX10_admittance_76 : decode cX10_admittance 76 = .ok (.if_icmp .lt 7, 3) := by decide +kernel
theorem dX10_admittance_79 : decode cX10_admittance 79 = .ok (.iconst 1, 1) := by decide +kernel
theorem dX10_admittance_80 : decode cX10_admittance 80 = .ok (.goto 4, 3) := by decide +kernel
theorem dX10_admittance_83 : decode cX10_admittance 83 = .ok (.iconst 0, 1) := by decide +kernel
theorem dX10_admittance_84 : decode cX10_admittance 84 = .ok (.aload_n 0, 1) := by decide +kernel
theorem dX10_admittance_85 : decode cX10_admittance 85 = .ok (.getfield 74, 3) := by decide +kernel
theorem dX10_admittance_88 : decode cX10_admittance 88 = .ok (.invokevirtual 248, 3) := by decide +kernel
theorem dX10_admittance_91 : decode cX10_admittance 91 = .ok (.aload_n 0, 1) := by decide +kernel
theorem dX10_admittance_92 : decode cX10_admittance 92 = .ok (.getfield 74, 3) := by decide +kernel
theorem dX10_admittance_95 : decode cX10_admittance 95 = .ok (.invokevirtual 229, 3) := by decide +kernel
theorem dX10_admittance_98 : decode cX10_admittance 98 = .ok (.iload_n 3, 1) := by decide +kernel
theorem dX10_admittance_99 : decode cX10_admittance 99 = .ok (.iconst 2, 1) := by decide +kernel
theorem dX10_admittance_100 : decode cX10_admittance 100 = .ok (.irem, 1) := by decide +kernel
theorem dX10_admittance_101 : decode cX10_admittance 101 = .ok (.ifCond .ne 13, 3) := by decide +kernel
theorem dX10_admittance_104 : decode cX10_admittance 104 = .ok (.aload_n 0, 1) := by decide +kernel
theorem dX10_admittance_105 : decode cX10_admittance 105 = .ok (.getfield 74, 3) := by decide +kernel
theorem dX10_admittance_108 : decode cX10_admittance 108 = .ok (.getfield 232, 3) := by decide +kernel
theorem dX10_admittance_111 : decode cX10_admittance 111 = .ok (.goto 10, 3) := by decide +kernel
theorem dX10_admittance_114 : decode cX10_admittance 114 = .ok (.aload_n 0, 1) := by decide +kernel
theorem dX10_admittance_115 : decode cX10_admittance 115 = .ok (.getfield 74, 3) := by decide +kernel
theorem dX10_admittance_118 : decode cX10_admittance 118 = .ok (.getfield 235, 3) := by decide +kernel
theorem dX10_admittance_121 : decode cX10_admittance 121 = .ok (.lreturn, 1) := by decide +kernel
theorem dX10_marks_0 : decode cX10_marks 0 = .ok (.iload_n 1, 1) := by decide +kernel
theorem dX10_marks_1 : decode cX10_marks 1 = .ok (.ifCond .lt 8, 3) := by decide +kernel
theorem dX10_marks_4 : decode cX10_marks 4 = .ok (.iload_n 1, 1) := by decide +kernel
theorem dX10_marks_5 : decode cX10_marks 5 = .ok (.iconst 2, 1) := by decide +kernel
theorem dX10_marks_6 : decode cX10_marks 6 = .ok (.if_icmp .le 5, 3) := by decide +kernel
theorem dX10_marks_9 : decode cX10_marks 9 = .ok (.iconst (-1), 1) := by decide +kernel
theorem dX10_marks_10 : decode cX10_marks 10 = .ok (.ireturn, 1) := by decide +kernel
theorem dX10_marks_11 : decode cX10_marks 11 = .ok (.iconst 0, 1) := by decide +kernel
theorem dX10_marks_12 : decode cX10_marks 12 = .ok (.istore_n 2, 1) := by decide +kernel
theorem dX10_marks_13 : decode cX10_marks 13 = .ok (.iconst 1, 1) := by decide +kernel
theorem dX10_marks_14 : decode cX10_marks 14 = .ok (.istore_n 3, 1) := by decide +kernel
theorem dX10_marks_15 : decode cX10_marks 15 = .ok (.iload_n 3, 1) := by decide +kernel
theorem dX10_marks_16 : decode cX10_marks 16 = .ok (.iconst 4, 1) := by decide +kernel
theorem dX10_marks_17 : decode cX10_marks 17 = .ok (.if_icmp .gt 37, 3) := by decide +kernel
theorem dX10_marks_20 : decode cX10_marks 20 = .ok (.aload_n 0, 1) := by decide +kernel
theorem dX10_marks_21 : decode cX10_marks 21 = .ok (.aload_n 0, 1) := by decide +kernel
theorem dX10_marks_22 : decode cX10_marks 22 = .ok (.aload_n 0, 1) := by decide +kernel
theorem dX10_marks_23 : decode cX10_marks 23 = .ok (.getfield 19, 3) := by decide +kernel
theorem dX10_marks_26 : decode cX10_marks 26 = .ok (.getfield 115, 3) := by decide +kernel
theorem dX10_marks_29 : decode cX10_marks 29 = .ok (.iload_n 3, 1) := by decide +kernel
theorem dX10_marks_30 : decode cX10_marks 30 = .ok (.invokevirtual 206, 3) := by decide +kernel
theorem dX10_marks_33 : decode cX10_marks 33 = .ok (.iload_n 1, 1) := by decide +kernel
theorem dX10_marks_34 : decode cX10_marks 34 = .ok (.invokevirtual 252, 3) := by decide +kernel
theorem dX10_marks_37 : decode cX10_marks 37 = .ok (.ifCond .eq 11, 3) := by decide +kernel
theorem dX10_marks_40 : decode cX10_marks 40 = .ok (.iload_n 2, 1) := by decide +kernel
theorem dX10_marks_41 : decode cX10_marks 41 = .ok (.iconst 1, 1) := by decide +kernel
theorem dX10_marks_42 : decode cX10_marks 42 = .ok (.iload_n 3, 1) := by decide +kernel
theorem dX10_marks_43 : decode cX10_marks 43 = .ok (.iconst 1, 1) := by decide +kernel
theorem dX10_marks_44 : decode cX10_marks 44 = .ok (.isub, 1) := by decide +kernel
theorem dX10_marks_45 : decode cX10_marks 45 = .ok (.ishl, 1) := by decide +kernel
theorem dX10_marks_46 : decode cX10_marks 46 = .ok (.ior, 1) := by decide +kernel
theorem dX10_marks_47 : decode cX10_marks 47 = .ok (.istore_n 2, 1) := by decide +kernel
theorem dX10_marks_48 : decode cX10_marks 48 = .ok (.iinc 3 1, 3) := by decide +kernel
theorem dX10_marks_51 : decode cX10_marks 51 = .ok (.goto (-36), 3) := by decide +kernel
theorem dX10_marks_54 : decode cX10_marks 54 = .ok (.iload_n 2, 1) := by decide +kernel
theorem dX10_marks_55 : decode cX10_marks 55 = .ok (.ireturn, 1) := by decide +kernel
theorem dX10_extreme_0 : decode cX10_extreme 0 = .ok (.iload_n 1, 1) := by decide +kernel
theorem dX10_extreme_1 : decode cX10_extreme 1 = .ok (.ifCond .lt 8, 3) := by decide +kernel
theorem dX10_extreme_4 : decode cX10_extreme 4 = .ok (.iload_n 1, 1) := by decide +kernel
theorem dX10_extreme_5 : decode cX10_extreme 5 = .ok (.iconst 1, 1) := by decide +kernel
theorem dX10_extreme_6 : decode cX10_extreme 6 = .ok (.if_icmp .le 5, 3) := by decide +kernel
theorem dX10_extreme_9 : decode cX10_extreme 9 = .ok (.iconst (-1), 1) := by decide +kernel
theorem dX10_extreme_10 : decode cX10_extreme 10 = .ok (.ireturn, 1) := by decide +kernel
theorem dX10_extreme_11 : decode cX10_extreme 11 = .ok (.iconst (-1), 1) := by decide +kernel
theorem dX10_extreme_12 : decode cX10_extreme 12 = .ok (.istore_n 2, 1) := by decide +kernel
theorem dX10_extreme_13 : decode cX10_extreme 13 = .ok (.iconst 1, 1) := by decide +kernel
theorem dX10_extreme_14 : decode cX10_extreme 14 = .ok (.istore_n 3, 1) := by decide +kernel
theorem dX10_extreme_15 : decode cX10_extreme 15 = .ok (.iload_n 3, 1) := by decide +kernel
theorem dX10_extreme_16 : decode cX10_extreme 16 = .ok (.iconst 4, 1) := by decide +kernel
theorem dX10_extreme_17 : decode cX10_extreme 17 = .ok (.if_icmp .gt 104, 3) := by decide +kernel
theorem dX10_extreme_20 : decode cX10_extreme 20 = .ok (.aload_n 0, 1) := by decide +kernel
theorem dX10_extreme_21 : decode cX10_extreme 21 = .ok (.aload_n 0, 1) := by decide +kernel
theorem dX10_extreme_22 : decode cX10_extreme 22 = .ok (.getfield 19, 3) := by decide +kernel
theorem dX10_extreme_25 : decode cX10_extreme 25 = .ok (.getfield 115, 3) := by decide +kernel
theorem dX10_extreme_28 : decode cX10_extreme 28 = .ok (.iload_n 3, 1) := by decide +kernel
theorem dX10_extreme_29 : decode cX10_extreme 29 = .ok (.invokevirtual 206, 3) := by decide +kernel
theorem dX10_extreme_32 : decode cX10_extreme 32 = .ok (.astore 4, 2) := by decide +kernel
theorem dX10_extreme_34 : decode cX10_extreme 34 = .ok (.aload 4, 2) := by decide +kernel
theorem dX10_extreme_36 : decode cX10_extreme 36 = .ok (.getfield 210, 3) := by decide +kernel
theorem dX10_extreme_39 : decode cX10_extreme 39 = .ok (.ifCond .eq 6, 3) := by decide +kernel
theorem dX10_extreme_42 : decode cX10_extreme 42 = .ok (.goto 73, 3) := by decide +kernel
theorem dX10_extreme_45 : decode cX10_extreme 45 = .ok (.aload_n 0, 1) := by decide +kernel
theorem dX10_extreme_46 : decode cX10_extreme 46 = .ok (.getfield 33, 3) := by decide +kernel
theorem dX10_extreme_49 : decode cX10_extreme 49 = .ok (.aload 4, 2) := by decide +kernel
theorem dX10_extreme_51 : decode cX10_extreme 51 = .ok (.aload_n 0, 1) := by decide +kernel
theorem dX10_extreme_52 : decode cX10_extreme 52 = .ok (.getfield 74, 3) := by decide +kernel
theorem dX10_extreme_55 : decode cX10_extreme 55 = .ok (.invokevirtual 222, 3) := by decide +kernel
theorem dX10_extreme_58 : decode cX10_extreme 58 = .ok (.iload_n 2, 1) := by decide +kernel
theorem dX10_extreme_59 : decode cX10_extreme 59 = .ok (.iconst (-1), 1) := by decide +kernel
theorem dX10_extreme_60 : decode cX10_extreme 60 = .ok (.if_icmp .ne 7, 3) := by decide +kernel
theorem dX10_extreme_63 : decode cX10_extreme 63 = .ok (.iconst 0, 1) := by decide +kernel
theorem dX10_extreme_64 : decode cX10_extreme 64 = .ok (.goto 14, 3) := by decide +kernel
theorem dX10_extreme_67 : decode cX10_extreme 67 = .ok (.aload_n 0, 1) := by decide +kernel
theorem dX10_extreme_68 : decode cX10_extreme 68 = .ok (.getfield 74, 3) := by decide +kernel
theorem dX10_extreme_71 : decode cX10_extreme 71 = .ok (.aload_n 0, 1) := by decide +kernel
theorem dX10_extreme_72 : decode cX10_extreme 72 = .ok (.getfield 78, 3) := by decide +kernel
theorem dX10_extreme_75 : decode cX10_extreme 75 = .ok (.invokevirtual 256, 3) := by decide +kernel
theorem dX10_extreme_78 : decode cX10_extreme 78 = .ok (.istore 5, 2) := by decide +kernel
theorem dX10_extreme_80 : decode cX10_extreme 80 = .ok (.iload_n 2, 1) := by decide +kernel
theorem dX10_extreme_81 : decode cX10_extreme 81 = .ok (.iconst (-1), 1) := by decide +kernel
theorem dX10_extreme_82 : decode cX10_extreme 82 = .ok (.if_icmp .eq 20, 3) := by decide +kernel
theorem dX10_extreme_85 : decode cX10_extreme 85 = .ok (.iload_n 1, 1) := by decide +kernel
theorem dX10_extreme_86 : decode cX10_extreme 86 = .ok (.ifCond .ne 11, 3) := by decide +kernel
theorem dX10_extreme_89 : decode cX10_extreme 89 = .ok (.iload 5, 2) := by decide +kernel
theorem dX10_extreme_91 : decode cX10_extreme 91 = .ok (.ifCond .ge 24, 3) := by decide +kernel
theorem dX10_extreme_94 : decode cX10_extreme 94 = .ok (.goto 8, 3) := by decide +kernel
theorem dX10_extreme_97 : decode cX10_extreme 97 = .ok (.iload 5, 2) := by decide +kernel
theorem dX10_extreme_99 : decode cX10_extreme 99 = .ok (.ifCond .le 16, 3) := by decide +kernel
theorem dX10_extreme_102 : decode cX10_extreme 102 = .ok (.iload_n 3, 1) := by decide +kernel
theorem dX10_extreme_103 : decode cX10_extreme 103 = .ok (.istore_n 2, 1) := by decide +kernel
theorem dX10_extreme_104 : decode cX10_extreme 104 = .ok (.aload_n 0, 1) := by decide +kernel
theorem dX10_extreme_105 : decode cX10_extreme 105 = .ok (.getfield 78, 3) := by decide +kernel
theorem dX10_extreme_108 : decode cX10_extreme 108 = .ok (.aload_n 0, 1) := by decide +kernel
theorem dX10_extreme_109 : decode cX10_extreme 109 = .ok (.getfield 74, 3) := by decide +kernel
theorem dX10_extreme_112 : decode cX10_extreme 112 = .ok (.invokevirtual 260, 3) := by decide +kernel
theorem dX10_extreme_115 : decode cX10_extreme 115 = .ok (.iinc 3 1, 3) := by decide +kernel
theorem dX10_extreme_118 : decode cX10_extreme 118 = .ok (.goto (-103), 3) := by decide +kernel
theorem dX10_extreme_121 : decode cX10_extreme 121 = .ok (.iload_n 2, 1) := by decide +kernel
theorem dX10_extreme_122 : decode cX10_extreme 122 = .ok (.ireturn, 1) := by decide +kernel
theorem dX10_below_0 : decode cX10_below 0 = .ok (.iload_n 1, 1) := by decide +kernel
theorem dX10_below_1 : decode cX10_below 1 = .ok (.invokestatic 202, 3) := by decide +kernel
theorem dX10_below_4 : decode cX10_below 4 = .ok (.ifCond .eq 26, 3) := by decide +kernel
theorem dX10_below_7 : decode cX10_below 7 = .ok (.iload_n 2, 1) := by decide +kernel
theorem dX10_below_8 : decode cX10_below 8 = .ok (.ifCond .lt 22, 3) := by decide +kernel
theorem dX10_below_11 : decode cX10_below 11 = .ok (.iload_n 2, 1) := by decide +kernel
theorem dX10_below_12 : decode cX10_below 12 = .ok (.sipush 1000, 3) := by decide +kernel
theorem dX10_below_15 : decode cX10_below 15 = .ok (.if_icmp .gt 15, 3) := by decide +kernel
theorem dX10_below_18 : decode cX10_below 18 = .ok (.iload_n 3, 1) := by decide +kernel
theorem dX10_below_19 : decode cX10_below 19 = .ok (.iconst 1, 1) := by decide +kernel
theorem dX10_below_20 : decode cX10_below 20 = .ok (.if_icmp .lt 10, 3) := by decide +kernel
theorem dX10_below_23 : decode cX10_below 23 = .ok (.iload_n 3, 1) := by decide +kernel
theorem dX10_below_24 : decode cX10_below 24 = .ok (.sipush 1000, 3) := by decide +kernel
theorem dX10_below_27 : decode cX10_below 27 = .ok (.if_icmp .le 5, 3) := by decide +kernel
theorem dX10_below_30 : decode cX10_below 30 = .ok (.iconst (-1), 1) := by decide +kernel
theorem dX10_below_31 : decode cX10_below 31 = .ok (.ireturn, 1) := by decide +kernel
theorem dX10_below_32 : decode cX10_below 32 = .ok (.aload_n 0, 1) := by decide +kernel
theorem dX10_below_33 : decode cX10_below 33 = .ok (.getfield 53, 3) := by decide +kernel
theorem dX10_below_36 : decode cX10_below 36 = .ok (.iconst 0, 1) := by decide +kernel
theorem dX10_below_37 : decode cX10_below 37 = .ok (.aaload, 1) := by decide +kernel
theorem dX10_below_38 : decode cX10_below 38 = .ok (.aload_n 0, 1) := by decide +kernel
theorem dX10_below_39 : decode cX10_below 39 = .ok (.getfield 19, 3) := by decide +kernel
theorem dX10_below_42 : decode cX10_below 42 = .ok (.aload_n 0, 1) := by decide +kernel
theorem dX10_below_43 : decode cX10_below 43 = .ok (.getfield 33, 3) := by decide +kernel
theorem dX10_below_46 : decode cX10_below 46 = .ok (.iload_n 1, 1) := by decide +kernel
theorem dX10_below_47 : decode cX10_below 47 = .ok (.aload_n 0, 1) := by decide +kernel
theorem dX10_below_48 : decode cX10_below 48 = .ok (.getfield 19, 3) := by decide +kernel
theorem dX10_below_51 : decode cX10_below 51 = .ok (.getfield 115, 3) := by decide +kernel
theorem dX10_below_54 : decode cX10_below 54 = .ok (.invokevirtual 263, 3) := by decide +kernel
theorem dX10_below_57 : decode cX10_below 57 = .ok (.aload_n 0, 1) := by decide +kernel
theorem dX10_below_58 : decode cX10_below 58 = .ok (.getfield 78, 3) := by decide +kernel
theorem dX10_below_61 : decode cX10_below 61 = .ok (.iload_n 2, 1) := by decide +kernel
theorem dX10_below_62 : decode cX10_below 62 = .ok (.i2l, 1) := by decide +kernel
theorem dX10_below_63 : decode cX10_below 63 = .ok (.iload_n 3, 1) := by decide +kernel
theorem dX10_below_64 : decode cX10_below 64 = .ok (.i2l, 1) := by decide +kernel
theorem dX10_below_65 : decode cX10_below 65 = .ok (.invokevirtual 267, 3) := by decide +kernel
theorem dX10_below_68 : decode cX10_below 68 = .ok (.iconst 0, 1) := by decide +kernel
theorem dX10_below_69 : decode cX10_below 69 = .ok (.istore 4, 2) := by decide +kernel
theorem dX10_below_71 : decode cX10_below 71 = .ok (.iconst 0, 1) := by decide +kernel
theorem dX10_below_72 : decode cX10_below 72 = .ok (.istore 5, 2) := by decide +kernel
theorem dX10_below_74 : decode cX10_below 74 = .ok (.iload 5, 2) := by decide +kernel
theorem dX10_below_76 : decode cX10_below 76 = .ok (.aload_n 0, 1) := by decide +kernel
theorem dX10_below_77 : decode cX10_below 77 = .ok (.getfield 19, 3) := by decide +kernel
theorem dX10_below_80 : decode cX10_below 80 = .ok (.getfield 115, 3) := by decide +kernel
theorem dX10_below_83 : decode cX10_below 83 = .ok (.if_icmp .gt 64, 3) := by decide +kernel
theorem dX10_below_86 : decode cX10_below 86 = .ok (.aload_n 0, 1) := by decide +kernel
theorem dX10_below_87 : decode cX10_below 87 = .ok (.getfield 53, 3) := by decide +kernel
theorem dX10_below_90 : decode cX10_below 90 = .ok (.iconst 0, 1) := by decide +kernel
theorem dX10_below_91 : decode cX10_below 91 = .ok (.aaload, 1) := by decide +kernel
theorem dX10_below_92 : decode cX10_below 92 = .ok (.getfield 271, 3) := by decide +kernel
theorem dX10_below_95 : decode cX10_below 95 = .ok (.iload 5, 2) := by decide +kernel
theorem dX10_below_97 : decode cX10_below 97 = .ok (.aaload, 1) := by decide +kernel
theorem dX10_below_98 : decode cX10_below 98 = .ok (.astore 6, 2) := by decide +kernel
theorem dX10_below_100 : decode cX10_below 100 = .ok (.aload 6, 2) := by decide +kernel
theorem dX10_below_102 : decode cX10_below 102 = .ok (.getfield 210, 3) := by decide +kernel
theorem dX10_below_105 : decode cX10_below 105 = .ok (.ifCond .eq 6, 3) := by decide +kernel
theorem dX10_below_108 : decode cX10_below 108 = .ok (.goto 39, 3) := by decide +kernel
theorem dX10_below_111 : decode cX10_below 111 = .ok (.aload_n 0, 1) := by decide +kernel
theorem dX10_below_112 : decode cX10_below 112 = .ok (.getfield 33, 3) := by decide +kernel
theorem dX10_below_115 : decode cX10_below 115 = .ok (.aload 6, 2) := by decide +kernel
theorem dX10_below_117 : decode cX10_below 117 = .ok (.aload_n 0, 1) := by decide +kernel
theorem dX10_below_118 : decode cX10_below 118 = .ok (.getfield 74, 3) := by decide +kernel
theorem dX10_below_121 : decode cX10_below 121 = .ok (.invokevirtual 222, 3) := by decide +kernel
theorem dX10_below_124 : decode cX10_below 124 = .ok (.aload_n 0, 1) := by decide +kernel
theorem dX10_below_125 : decode cX10_below 125 = .ok (.getfield 74, 3) := by decide +kernel
theorem dX10_below_128 : decode cX10_below 128 = .ok (.aload_n 0, 1) := by decide +kernel
theorem dX10_below_129 : decode cX10_below 129 = .ok (.getfield 78, 3) := by decide +kernel
theorem dX10_below_132 : decode cX10_below 132 = .ok (.invokevirtual 256, 3) := by decide +kernel
theorem dX10_below_135 : decode cX10_below 135 = .ok (.ifCond .gt 6, 3) := by decide +kernel
theorem dX10_below_138 : decode cX10_below 138 = .ok (.iinc 4 1, 3) := by decide +kernel
theorem dX10_below_141 : decode cX10_below 141 = .ok (.iinc 5 1, 3) := by decide +kernel
theorem dX10_below_144 : decode cX10_below 144 = .ok (.goto (-70), 3) := by decide +kernel
theorem dX10_below_147 : decode cX10_below 147 = .ok (.iload 4, 2) := by decide +kernel
theorem dX10_below_149 : decode cX10_below 149 = .ok (.ireturn, 1) := by decide +kernel
theorem dX10_worst_0 : decode cX10_worst 0 = .ok (.iload_n 1, 1) := by decide +kernel
theorem dX10_worst_1 : decode cX10_worst 1 = .ok (.invokestatic 202, 3) := by decide +kernel
theorem dX10_worst_4 : decode cX10_worst 4 = .ok (.ifCond .eq 31, 3) := by decide +kernel
theorem dX10_worst_7 : decode cX10_worst 7 = .ok (.iload_n 2, 1) := by decide +kernel
theorem dX10_worst_8 : decode cX10_worst 8 = .ok (.invokestatic 275, 3) := by decide +kernel
theorem dX10_worst_11 : decode cX10_worst 11 = .ok (.ifCond .eq 24, 3) := by decide +kernel
theorem dX10_worst_14 : decode cX10_worst 14 = .ok (.aload_n 0, 1) := by decide +kernel
theorem dX10_worst_15 : decode cX10_worst 15 = .ok (.getfield 19, 3) := by decide +kernel
theorem dX10_worst_18 : decode cX10_worst 18 = .ok (.getfield 115, 3) := by decide +kernel
theorem dX10_worst_21 : decode cX10_worst 21 = .ok (.bipush 8, 2) := by decide +kernel
theorem dX10_worst_23 : decode cX10_worst 23 = .ok (.if_icmp .gt 12, 3) := by decide +kernel
theorem dX10_worst_26 : decode cX10_worst 26 = .ok (.iload_n 3, 1) := by decide +kernel
theorem dX10_worst_27 : decode cX10_worst 27 = .ok (.ifCond .lt 8, 3) := by decide +kernel
theorem dX10_worst_30 : decode cX10_worst 30 = .ok (.iload_n 3, 1) := by decide +kernel
theorem dX10_worst_31 : decode cX10_worst 31 = .ok (.iconst 2, 1) := by decide +kernel
theorem dX10_worst_32 : decode cX10_worst 32 = .ok (.if_icmp .le 7, 3) := by decide +kernel
theorem dX10_worst_35 : decode cX10_worst 35 = .ok (.ldc2_w 218, 3) := by decide +kernel
theorem dX10_worst_38 : decode cX10_worst 38 = .ok (.lreturn, 1) := by decide +kernel
theorem dX10_worst_39 : decode cX10_worst 39 = .ok (.aload_n 0, 1) := by decide +kernel
theorem dX10_worst_40 : decode cX10_worst 40 = .ok (.iload_n 1, 1) := by decide +kernel
theorem dX10_worst_41 : decode cX10_worst 41 = .ok (.iload_n 2, 1) := by decide +kernel
theorem dX10_worst_42 : decode cX10_worst 42 = .ok (.invokevirtual 278, 3) := by decide +kernel
theorem dX10_worst_45 : decode cX10_worst 45 = .ok (.istore 4, 2) := by decide +kernel
theorem dX10_worst_47 : decode cX10_worst 47 = .ok (.iload 4, 2) := by decide +kernel
theorem dX10_worst_49 : decode cX10_worst 49 = .ok (.iconst (-1), 1) := by decide +kernel
theorem dX10_worst_50 : decode cX10_worst 50 = .ok (.if_icmp .eq 7, 3) := by decide +kernel
theorem dX10_worst_53 : decode cX10_worst 53 = .ok (.iload_n 3, 1) := by decide +kernel
theorem dX10_worst_54 : decode cX10_worst 54 = .ok (.ifCond .ne 7, 3) := by decide +kernel
theorem dX10_worst_57 : decode cX10_worst 57 = .ok (.iload 4, 2) := by decide +kernel
theorem dX10_worst_59 : decode cX10_worst 59 = .ok (.i2l, 1) := by decide +kernel
theorem dX10_worst_60 : decode cX10_worst 60 = .ok (.lreturn, 1) := by decide +kernel
theorem dX10_worst_61 : decode cX10_worst 61 = .ok (.aload_n 0, 1) := by decide +kernel
theorem dX10_worst_62 : decode cX10_worst 62 = .ok (.getfield 78, 3) := by decide +kernel
theorem dX10_worst_65 : decode cX10_worst 65 = .ok (.invokevirtual 229, 3) := by decide +kernel
theorem dX10_worst_68 : decode cX10_worst 68 = .ok (.iload_n 3, 1) := by decide +kernel
theorem dX10_worst_69 : decode cX10_worst 69 = .ok (.iconst 1, 1) := by decide +kernel
theorem dX10_worst_70 : decode cX10_worst 70 = .ok (.if_icmp .ne 13, 3) := by decide +kernel
theorem dX10_worst_73 : decode cX10_worst 73 = .ok (.aload_n 0, 1) := by decide +kernel
theorem dX10_worst_74 : decode cX10_worst 74 = .ok (.getfield 78, 3) := by decide +kernel
theorem dX10_worst_77 : decode cX10_worst 77 = .ok (.getfield 232, 3) := by decide +kernel
theorem dX10_worst_80 : decode cX10_worst 80 = .ok (.goto 10, 3) := by decide +kernel
theorem dX10_worst_83 : decode cX10_worst 83 = .ok (.aload_n 0, 1) := by decide +kernel
theorem dX10_worst_84 : decode cX10_worst 84 = .ok (.getfield 78, 3) := by decide +kernel
theorem dX10_worst_87 : decode cX10_worst 87 = .ok (.getfield 235, 3) := by decide +kernel
theorem dX10_worst_90 : decode cX10_worst 90 = .ok (.lreturn, 1) := by decide +kernel
theorem dX10_corner_0 : decode cX10_corner 0 = .ok (.iload_n 1, 1) := by decide +kernel
theorem dX10_corner_1 : decode cX10_corner 1 = .ok (.invokestatic 202, 3) := by decide +kernel
theorem dX10_corner_4 : decode cX10_corner 4 = .ok (.ifCond .eq 33, 3) := by decide +kernel
theorem dX10_corner_7 : decode cX10_corner 7 = .ok (.iload_n 2, 1) := by decide +kernel
theorem dX10_corner_8 : decode cX10_corner 8 = .ok (.invokestatic 275, 3) := by decide +kernel
theorem dX10_corner_11 : decode cX10_corner 11 = .ok (.ifCond .eq 26, 3) := by decide +kernel
theorem dX10_corner_14 : decode cX10_corner 14 = .ok (.aload_n 0, 1) := by decide +kernel
theorem dX10_corner_15 : decode cX10_corner 15 = .ok (.getfield 19, 3) := by decide +kernel
theorem dX10_corner_18 : decode cX10_corner 18 = .ok (.getfield 115, 3) := by decide +kernel
theorem dX10_corner_21 : decode cX10_corner 21 = .ok (.bipush 8, 2) := by decide +kernel
theorem dX10_corner_23 : decode cX10_corner 23 = .ok (.if_icmp .gt 14, 3) := by decide +kernel
theorem dX10_corner_26 : decode cX10_corner 26 = .ok (.iload 4, 2) := by decide +kernel
theorem dX10_corner_28 : decode cX10_corner 28 = .ok (.ifCond .lt 9, 3) := by decide +kernel
theorem dX10_corner_31 : decode cX10_corner 31 = .ok (.iload 4, 2) := by decide +kernel
theorem dX10_corner_33 : decode cX10_corner 33 = .ok (.iconst 1, 1) := by decide +kernel
theorem dX10_corner_34 : decode cX10_corner 34 = .ok (.if_icmp .le 7, 3) := by decide +kernel
theorem dX10_corner_37 : decode cX10_corner 37 = .ok (.ldc2_w 218, 3) := by decide +kernel
theorem dX10_corner_40 : decode cX10_corner 40 = .ok (.lreturn, 1) := by decide +kernel
theorem dX10_corner_41 : decode cX10_corner 41 = .ok (.iload_n 3, 1) := by decide +kernel
theorem dX10_corner_42 : decode cX10_corner 42 = .ok (.ifCond .lt 16, 3) := by decide +kernel
theorem dX10_corner_45 : decode cX10_corner 45 = .ok (.iload_n 3, 1) := by decide +kernel
theorem dX10_corner_46 : decode cX10_corner 46 = .ok (.iconst 1, 1) := by decide +kernel
theorem dX10_corner_47 : decode cX10_corner 47 = .ok (.aload_n 0, 1) := by decide +kernel
theorem dX10_corner_48 : decode cX10_corner 48 = .ok (.getfield 19, 3) := by decide +kernel
theorem dX10_corner_51 : decode cX10_corner 51 = .ok (.getfield 115, 3) := by decide +kernel
theorem dX10_corner_54 : decode cX10_corner 54 = .ok (.ishl, 1) := by decide +kernel
theorem dX10_corner_55 : decode cX10_corner 55 = .ok (.if_icmp .lt 7, 3) := by decide +kernel
theorem dX10_corner_58 : decode cX10_corner 58 = .ok (.ldc2_w 218, 3) := by decide +kernel
theorem dX10_corner_61 : decode cX10_corner 61 = .ok (.lreturn, 1) := by decide +kernel
theorem dX10_corner_62 : decode cX10_corner 62 = .ok (.aload_n 0, 1) := by decide +kernel
theorem dX10_corner_63 : decode cX10_corner 63 = .ok (.getfield 53, 3) := by decide +kernel
theorem dX10_corner_66 : decode cX10_corner 66 = .ok (.iconst 0, 1) := by decide +kernel
theorem dX10_corner_67 : decode cX10_corner 67 = .ok (.aaload, 1) := by decide +kernel
theorem dX10_corner_68 : decode cX10_corner 68 = .ok (.aload_n 0, 1) := by decide +kernel
theorem dX10_corner_69 : decode cX10_corner 69 = .ok (.getfield 19, 3) := by decide +kernel
theorem dX10_corner_72 : decode cX10_corner 72 = .ok (.aload_n 0, 1) := by decide +kernel
theorem dX10_corner_73 : decode cX10_corner 73 = .ok (.getfield 33, 3) := by decide +kernel
theorem dX10_corner_76 : decode cX10_corner 76 = .ok (.iload_n 1, 1) := by decide +kernel
theorem dX10_corner_77 : decode cX10_corner 77 = .ok (.iload_n 2, 1) := by decide +kernel
theorem dX10_corner_78 : decode cX10_corner 78 = .ok (.iload_n 3, 1) := by decide +kernel
theorem dX10_corner_79 : decode cX10_corner 79 = .ok (.invokevirtual 282, 3) := by decide +kernel
theorem dX10_corner_82 : decode cX10_corner 82 = .ok (.aload_n 0, 1) := by decide +kernel
theorem dX10_corner_83 : decode cX10_corner 83 = .ok (.getfield 53, 3) := by decide +kernel
theorem dX10_corner_86 : decode cX10_corner 86 = .ok (.iconst 0, 1) := by decide +kernel
theorem dX10_corner_87 : decode cX10_corner 87 = .ok (.aaload, 1) := by decide +kernel
theorem dX10_corner_88 : decode cX10_corner 88 = .ok (.invokevirtual 286, 3) := by decide +kernel
theorem dX10_corner_91 : decode cX10_corner 91 = .ok (.astore 5, 2) := by decide +kernel
theorem dX10_corner_93 : decode cX10_corner 93 = .ok (.aload 5, 2) := by decide +kernel
theorem dX10_corner_95 : decode cX10_corner 95 = .ok (.getfield 210, 3) := by decide +kernel
theorem dX10_corner_98 : decode cX10_corner 98 = .ok (.ifCond .eq 7, 3) := by decide +kernel
theorem dX10_corner_101 : decode cX10_corner 101 = .ok (.ldc2_w 220, 3) := by decide +kernel
theorem dX10_corner_104 : decode cX10_corner 104 = .ok (.lreturn, 1) := by decide +kernel
theorem dX10_corner_105 : decode cX10_corner 105 = .ok (.aload_n 0, 1) := by decide +kernel
theorem dX10_corner_106 : decode cX10_corner 106 = .ok (.getfield 33, 3) := by decide +kernel
theorem dX10_corner_109 : decode cX10_corner 109 = .ok (.aload 5, 2) := by decide +kernel
theorem dX10_corner_111 : decode cX10_corner 111 = .ok (.aload_n 0, 1) := by decide +kernel
theorem dX10_corner_112 : decode cX10_corner 112 = .ok (.getfield 74, 3) := by decide +kernel
theorem dX10_corner_115 : decode cX10_corner 115 = .ok (.invokevirtual 222, 3) := by decide +kernel
theorem dX10_corner_118 : decode cX10_corner 118 = .ok (.aload_n 0, 1) := by decide +kernel
theorem dX10_corner_119 : decode cX10_corner 119 = .ok (.getfield 74, 3) := by decide +kernel
theorem dX10_corner_122 : decode cX10_corner 122 = .ok (.invokevirtual 229, 3) := by decide +kernel
theorem dX10_corner_125 : decode cX10_corner 125 = .ok (.iload 4, 2) := by decide +kernel
theorem dX10_corner_127 : decode cX10_corner 127 = .ok (.ifCond .ne 13, 3) := by decide +kernel
theorem dX10_corner_130 : decode cX10_corner 130 = .ok (.aload_n 0, 1) := by decide +kernel
theorem dX10_corner_131 : decode cX10_corner 131 = .ok (.getfield 74, 3) := by decide +kernel
theorem dX10_corner_134 : decode cX10_corner 134 = .ok (.getfield 232, 3) := by decide +kernel
theorem dX10_corner_137 : decode cX10_corner 137 = .ok (.goto 10, 3) := by decide +kernel
theorem dX10_corner_140 : decode cX10_corner 140 = .ok (.aload_n 0, 1) := by decide +kernel
theorem dX10_corner_141 : decode cX10_corner 141 = .ok (.getfield 74, 3) := by decide +kernel
theorem dX10_corner_144 : decode cX10_corner 144 = .ok (.getfield 235, 3) := by decide +kernel
theorem dX10_corner_147 : decode cX10_corner 147 = .ok (.lreturn, 1) := by decide +kernel
theorem dX10_tender_0 : decode cX10_tender 0 = .ok (.iload_n 1, 1) := by decide +kernel
theorem dX10_tender_1 : decode cX10_tender 1 = .ok (.invokestatic 202, 3) := by decide +kernel
theorem dX10_tender_4 : decode cX10_tender 4 = .ok (.ifCond .eq 10, 3) := by decide +kernel
theorem dX10_tender_7 : decode cX10_tender 7 = .ok (.iload_n 2, 1) := by decide +kernel
theorem dX10_tender_8 : decode cX10_tender 8 = .ok (.invokestatic 275, 3) := by decide +kernel
theorem dX10_tender_11 : decode cX10_tender 11 = .ok (.ifCond .ne 6, 3) := by decide +kernel
theorem dX10_tender_14 : decode cX10_tender 14 = .ok (.bipush (-2), 2) := by decide +kernel
theorem dX10_tender_16 : decode cX10_tender 16 = .ok (.ireturn, 1) := by decide +kernel
theorem dX10_tender_17 : decode cX10_tender 17 = .ok (.aload_n 0, 1) := by decide +kernel
theorem dX10_tender_18 : decode cX10_tender 18 = .ok (.getfield 53, 3) := by decide +kernel
theorem dX10_tender_21 : decode cX10_tender 21 = .ok (.iconst 0, 1) := by decide +kernel
theorem dX10_tender_22 : decode cX10_tender 22 = .ok (.aaload, 1) := by decide +kernel
theorem dX10_tender_23 : decode cX10_tender 23 = .ok (.astore_n 3, 1) := by decide +kernel
theorem dX10_tender_24 : decode cX10_tender 24 = .ok (.aload_n 3, 1) := by decide +kernel
theorem dX10_tender_25 : decode cX10_tender 25 = .ok (.aload_n 0, 1) := by decide +kernel
theorem dX10_tender_26 : decode cX10_tender 26 = .ok (.getfield 19, 3) := by decide +kernel
theorem dX10_tender_29 : decode cX10_tender 29 = .ok (.aload_n 0, 1) := by decide +kernel
theorem dX10_tender_30 : decode cX10_tender 30 = .ok (.getfield 33, 3) := by decide +kernel
theorem dX10_tender_33 : decode cX10_tender 33 = .ok (.iload_n 1, 1) := by decide +kernel
theorem dX10_tender_34 : decode cX10_tender 34 = .ok (.aload_n 0, 1) := by decide +kernel
theorem dX10_tender_35 : decode cX10_tender 35 = .ok (.getfield 19, 3) := by decide +kernel
theorem dX10_tender_38 : decode cX10_tender 38 = .ok (.getfield 115, 3) := by decide +kernel
theorem dX10_tender_41 : decode cX10_tender 41 = .ok (.invokevirtual 263, 3) := by decide +kernel
theorem dX10_tender_44 : decode cX10_tender 44 = .ok (.aload_n 3, 1) := by decide +kernel
theorem dX10_tender_45 : decode cX10_tender 45 = .ok (.invokevirtual 286, 3) := by decide +kernel
theorem dX10_tender_48 : decode cX10_tender 48 = .ok (.getfield 210, 3) := by decide +kernel
theorem dX10_tender_51 : decode cX10_tender 51 = .ok (.ifCond .eq 5, 3) := by decide +kernel
theorem dX10_tender_54 : decode cX10_tender 54 = .ok (.iconst (-1), 1) := by decide +kernel
theorem dX10_tender_55 : decode cX10_tender 55 = .ok (.ireturn, 1) := by decide +kernel
theorem dX10_tender_56 : decode cX10_tender 56 = .ok (.aload_n 0, 1) := by decide +kernel
theorem dX10_tender_57 : decode cX10_tender 57 = .ok (.getfield 33, 3) := by decide +kernel
theorem dX10_tender_60 : decode cX10_tender 60 = .ok (.aload_n 3, 1) := by decide +kernel
theorem dX10_tender_61 : decode cX10_tender 61 = .ok (.invokevirtual 286, 3) := by decide +kernel
theorem dX10_tender_64 : decode cX10_tender 64 = .ok (.aload_n 0, 1) := by decide +kernel
theorem dX10_tender_65 : decode cX10_tender 65 = .ok (.getfield 78, 3) := by decide +kernel
theorem dX10_tender_68 : decode cX10_tender 68 = .ok (.invokevirtual 222, 3) := by decide +kernel
theorem dX10_tender_71 : decode cX10_tender 71 = .ok (.iconst (-1), 1) := by decide +kernel
theorem dX10_tender_72 : decode cX10_tender 72 = .ok (.istore 4, 2) := by decide +kernel
theorem dX10_tender_74 : decode cX10_tender 74 = .ok (.iconst 0, 1) := by decide +kernel
theorem dX10_tender_75 : decode cX10_tender 75 = .ok (.istore 5, 2) := by decide +kernel
theorem dX10_tender_77 : decode cX10_tender 77 = .ok (.iload 5, 2) := by decide +kernel
theorem dX10_tender_79 : decode cX10_tender 79 = .ok (.aload_n 0, 1) := by decide +kernel
theorem dX10_tender_80 : decode cX10_tender 80 = .ok (.getfield 19, 3) := by decide +kernel
theorem dX10_tender_83 : decode cX10_tender 83 = .ok (.getfield 115, 3) := by decide +kernel
theorem dX10_tender_86 : decode cX10_tender 86 = .ok (.if_icmp .ge 164, 3) := by decide +kernel
theorem dX10_tender_89 : decode cX10_tender 89 = .ok (.iconst 0, 1) := by decide +kernel
theorem dX10_tender_90 : decode cX10_tender 90 = .ok (.istore 6, 2) := by decide +kernel
theorem dX10_tender_92 : decode cX10_tender 92 = .ok (.iload 6, 2) := by decide +kernel
theorem dX10_tender_94 : decode cX10_tender 94 = .ok (.iconst 2, 1) := by decide +kernel
theorem dX10_tender_95 : decode cX10_tender 95 = .ok (.if_icmp .ge 149, 3) := by decide +kernel
theorem dX10_tender_98 : decode cX10_tender 98 = .ok (.aload_n 0, 1) := by decide +kernel
theorem dX10_tender_99 : decode cX10_tender 99 = .ok (.getfield 67, 3) := by decide +kernel
theorem dX10_tender_102 : decode cX10_tender 102 = .ok (.aload_n 0, 1) := by decide +kernel
theorem dX10_tender_103 : decode cX10_tender 103 = .ok (.getfield 19, 3) := by decide +kernel
theorem dX10_tender_106 : decode cX10_tender 106 = .ok (.getfield 151, 3) := by decide +kernel
theorem dX10_tender_109 : decode cX10_tender 109 = .ok (.iload 5, 2) := by decide +kernel
theorem dX10_tender_111 : decode cX10_tender 111 = .ok (.iaload, 1) := by decide +kernel
theorem dX10_tender_112 : decode cX10_tender 112 = .ok (.invokevirtual 157, 3) := by decide +kernel
theorem dX10_tender_115 : decode cX10_tender 115 = .ok (.aload_n 0, 1) := by decide +kernel
theorem dX10_tender_116 : decode cX10_tender 116 = .ok (.getfield 67, 3) := by decide +kernel
theorem dX10_tender_119 : decode cX10_tender 119 = .ok (.iload_n 2, 1) := by decide +kernel
theorem dX10_tender_120 : decode cX10_tender 120 = .ok (.iload 6, 2) := by decide +kernel
theorem dX10_tender_122 : decode cX10_tender 122 = .ok (.iconst 1, 1) := by decide +kernel
theorem dX10_tender_123 : decode cX10_tender 123 = .ok (.if_icmp .ne 7, 3) := by decide +kernel
theorem dX10_tender_126 : decode cX10_tender 126 = .ok (.iconst 1, 1) := by decide +kernel
theorem dX10_tender_127 : decode cX10_tender 127 = .ok (.goto 4, 3) := by decide +kernel
theorem dX10_tender_130 : decode cX10_tender 130 = .ok (.iconst 0, 1) := by decide +kernel
theorem dX10_tender_131 : decode cX10_tender 131 = .ok (.invokevirtual 290, 3) := by decide +kernel
theorem dX10_tender_134 : decode cX10_tender 134 = .ok (.aload_n 0, 1) := by decide +kernel
theorem dX10_tender_135 : decode cX10_tender 135 = .ok (.getfield 67, 3) := by decide +kernel
theorem dX10_tender_138 : decode cX10_tender 138 = .ok (.iload_n 1, 1) := by decide +kernel
theorem dX10_tender_139 : decode cX10_tender 139 = .ok (.invokevirtual 160, 3) := by decide +kernel
theorem dX10_tender_142 : decode cX10_tender 142 = .ok (.aload_n 0, 1) := by decide +kernel
theorem dX10_tender_143 : decode cX10_tender 143 = .ok (.getfield 60, 3) := by decide +kernel
theorem dX10_tender_146 : decode cX10_tender 146 = .ok (.aload_n 0, 1) := by decide +kernel
theorem dX10_tender_147 : decode cX10_tender 147 = .ok (.getfield 33, 3) := by decide +kernel
theorem dX10_tender_150 : decode cX10_tender 150 = .ok (.aload_n 0, 1) := by decide +kernel
theorem dX10_tender_151 : decode cX10_tender 151 = .ok (.getfield 19, 3) := by decide +kernel
theorem dX10_tender_154 : decode cX10_tender 154 = .ok (.getfield 151, 3) := by decide +kernel
theorem dX10_tender_157 : decode cX10_tender 157 = .ok (.iload 5, 2) := by decide +kernel
theorem dX10_tender_159 : decode cX10_tender 159 = .ok (.iaload, 1) := by decide +kernel
theorem dX10_tender_160 : decode cX10_tender 160 = .ok (.invokestatic 154, 3) := by decide +kernel
theorem dX10_tender_163 : decode cX10_tender 163 = .ok (.aload_n 0, 1) := by decide +kernel
theorem dX10_tender_164 : decode cX10_tender 164 = .ok (.getfield 67, 3) := by decide +kernel
theorem dX10_tender_167 : decode cX10_tender 167 = .ok (.invokevirtual 294, 3) := by decide +kernel
theorem dX10_tender_170 : decode cX10_tender 170 = .ok (.aload_n 3, 1) := by decide +kernel
theorem dX10_tender_171 : decode cX10_tender 171 = .ok (.iload 5, 2) := by decide +kernel
theorem dX10_tender_173 : decode cX10_tender 173 = .ok (.aload_n 0, 1) := by decide +kernel
theorem dX10_tender_174 : decode cX10_tender 174 = .ok (.getfield 60, 3) := by decide +kernel
theorem dX10_tender_177 : decode cX10_tender 177 = .ok (.iload 5, 2) := by decide +kernel
theorem dX10_tender_179 : decode cX10_tender 179 = .ok (.iconst 1, 1) := by decide +kernel
theorem dX10_tender_180 : decode cX10_tender 180 = .ok (.iadd, 1) := by decide +kernel
theorem dX10_tender_181 : decode cX10_tender 181 = .ok (.invokevirtual 298, 3) := by decide +kernel
theorem dX10_tender_184 : decode cX10_tender 184 = .ok (.astore 7, 2) := by decide +kernel
theorem dX10_tender_186 : decode cX10_tender 186 = .ok (.aload 7, 2) := by decide +kernel
theorem dX10_tender_188 : decode cX10_tender 188 = .ok (.getfield 210, 3) := by decide +kernel
theorem dX10_tender_191 : decode cX10_tender 191 = .ok (.ifCond .eq 5, 3) := by decide +kernel
theorem dX10_tender_194 : decode cX10_tender 194 = .ok (.iconst (-1), 1) := by decide +kernel
theorem dX10_tender_195 : decode cX10_tender 195 = .ok (.ireturn, 1) := by decide +kernel
theorem dX10_tender_196 : decode cX10_tender 196 = .ok (.aload_n 0, 1) := by decide +kernel
theorem dX10_tender_197 : decode cX10_tender 197 = .ok (.getfield 33, 3) := by decide +kernel
theorem dX10_tender_200 : decode cX10_tender 200 = .ok (.aload 7, 2) := by decide +kernel
theorem dX10_tender_202 : decode cX10_tender 202 = .ok (.aload_n 0, 1) := by decide +kernel
theorem dX10_tender_203 : decode cX10_tender 203 = .ok (.getfield 74, 3) := by decide +kernel
theorem dX10_tender_206 : decode cX10_tender 206 = .ok (.invokevirtual 222, 3) := by decide +kernel
theorem dX10_tender_209 : decode cX10_tender 209 = .ok (.aload_n 0, 1) := by decide +kernel
theorem dX10_tender_210 : decode cX10_tender 210 = .ok (.getfield 74, 3) := by decide +kernel
theorem dX10_tender_213 : decode cX10_tender 213 = .ok (.aload_n 0, 1) := by decide +kernel
theorem dX10_tender_214 : decode cX10_tender 214 = .ok (.getfield 78, 3) := by decide +kernel
theorem dX10_tender_217 : decode cX10_tender 217 = .ok (.invokevirtual 256, 3) := by decide +kernel
theorem dX10_tender_220 : decode cX10_tender 220 = .ok (.ifCond .le 18, 3) := by decide +kernel
theorem dX10_tender_223 : decode cX10_tender 223 = .ok (.aload_n 0, 1) := by decide +kernel
theorem dX10_tender_224 : decode cX10_tender 224 = .ok (.getfield 78, 3) := by decide +kernel
theorem dX10_tender_227 : decode cX10_tender 227 = .ok (.aload_n 0, 1) := by decide +kernel
theorem dX10_tender_228 : decode cX10_tender 228 = .ok (.getfield 74, 3) := by decide +kernel
theorem dX10_tender_231 : decode cX10_tender 231 = .ok (.invokevirtual 260, 3) := by decide +kernel
theorem dX10_tender_234 : decode cX10_tender 234 = .ok (.iload 5, 2) := by decide +kernel
theorem dX10_tender_236 : decode cX10_tender 236 = .ok (.istore 4, 2) := by decide +kernel
theorem dX10_tender_238 : decode cX10_tender 238 = .ok (.iinc 6 1, 3) := by decide +kernel
theorem dX10_tender_241 : decode cX10_tender 241 = .ok (.goto (-149), 3) := by decide +kernel
theorem dX10_tender_244 : decode cX10_tender 244 = .ok (.iinc 5 1, 3) := by decide +kernel
theorem dX10_tender_247 : decode cX10_tender 247 = .ok (.goto (-170), 3) := by decide +kernel
theorem dX10_tender_250 : decode cX10_tender 250 = .ok (.iload 4, 2) := by decide +kernel
theorem dX10_tender_252 : decode cX10_tender 252 = .ok (.ireturn, 1) := by decide +kernel
theorem dX10_wanted_0 : decode cX10_wanted 0 = .ok (.iload_n 1, 1) := by decide +kernel
theorem dX10_wanted_1 : decode cX10_wanted 1 = .ok (.iload_n 2, 1) := by decide +kernel
theorem dX10_wanted_2 : decode cX10_wanted 2 = .ok (.iload_n 3, 1) := by decide +kernel
theorem dX10_wanted_3 : decode cX10_wanted 3 = .ok (.invokestatic 302, 3) := by decide +kernel
theorem dX10_wanted_6 : decode cX10_wanted 6 = .ok (.ifCond .eq 15, 3) := by decide +kernel
theorem dX10_wanted_9 : decode cX10_wanted 9 = .ok (.iload 4, 2) := by decide +kernel
theorem dX10_wanted_11 : decode cX10_wanted 11 = .ok (.iconst 1, 1) := by decide +kernel
theorem dX10_wanted_12 : decode cX10_wanted 12 = .ok (.if_icmp .lt 9, 3) := by decide +kernel
theorem dX10_wanted_15 : decode cX10_wanted 15 = .ok (.iload 4, 2) := by decide +kernel
theorem dX10_wanted_17 : decode cX10_wanted 17 = .ok (.iconst 3, 1) := by decide +kernel
theorem dX10_wanted_18 : decode cX10_wanted 18 = .ok (.if_icmp .le 6, 3) := by decide +kernel
theorem dX10_wanted_21 : decode cX10_wanted 21 = .ok (.bipush (-2), 2) := by decide +kernel
theorem dX10_wanted_23 : decode cX10_wanted 23 = .ok (.ireturn, 1) := by decide +kernel
theorem dX10_wanted_24 : decode cX10_wanted 24 = .ok (.aload_n 0, 1) := by decide +kernel
theorem dX10_wanted_25 : decode cX10_wanted 25 = .ok (.getfield 40, 3) := by decide +kernel
theorem dX10_wanted_28 : decode cX10_wanted 28 = .ok (.aload_n 0, 1) := by decide +kernel
theorem dX10_wanted_29 : decode cX10_wanted 29 = .ok (.getfield 33, 3) := by decide +kernel
theorem dX10_wanted_32 : decode cX10_wanted 32 = .ok (.iload_n 1, 1) := by decide +kernel
theorem dX10_wanted_33 : decode cX10_wanted 33 = .ok (.iload_n 2, 1) := by decide +kernel
theorem dX10_wanted_34 : decode cX10_wanted 34 = .ok (.iload_n 3, 1) := by decide +kernel
theorem dX10_wanted_35 : decode cX10_wanted 35 = .ok (.invokevirtual 305, 3) := by decide +kernel
theorem dX10_wanted_38 : decode cX10_wanted 38 = .ok (.iconst 1, 1) := by decide +kernel
theorem dX10_wanted_39 : decode cX10_wanted 39 = .ok (.istore 5, 2) := by decide +kernel
theorem dX10_wanted_41 : decode cX10_wanted 41 = .ok (.iload 5, 2) := by decide +kernel
theorem dX10_wanted_43 : decode cX10_wanted 43 = .ok (.iload 4, 2) := by decide +kernel
theorem dX10_wanted_45 : decode cX10_wanted 45 = .ok (.if_icmp .gt 92, 3) := by decide +kernel
theorem dX10_wanted_48 : decode cX10_wanted 48 = .ok (.aload_n 0, 1) := by decide +kernel
theorem dX10_wanted_49 : decode cX10_wanted 49 = .ok (.getfield 47, 3) := by decide +kernel
theorem dX10_wanted_52 : decode cX10_wanted 52 = .ok (.aload_n 0, 1) := by decide +kernel
theorem dX10_wanted_53 : decode cX10_wanted 53 = .ok (.getfield 40, 3) := by decide +kernel
theorem dX10_wanted_56 : decode cX10_wanted 56 = .ok (.aload_n 0, 1) := by decide +kernel
theorem dX10_wanted_57 : decode cX10_wanted 57 = .ok (.getfield 33, 3) := by decide +kernel
theorem dX10_wanted_60 : decode cX10_wanted 60 = .ok (.iconst 0, 1) := by decide +kernel
theorem dX10_wanted_61 : decode cX10_wanted 61 = .ok (.iload 5, 2) := by decide +kernel
theorem dX10_wanted_63 : decode cX10_wanted 63 = .ok (.iconst 1, 1) := by decide +kernel
theorem dX10_wanted_64 : decode cX10_wanted 64 = .ok (.invokevirtual 309, 3) := by decide +kernel
theorem dX10_wanted_67 : decode cX10_wanted 67 = .ok (.ifCond .le 64, 3) := by decide +kernel
theorem dX10_wanted_70 : decode cX10_wanted 70 = .ok (.aload_n 0, 1) := by decide +kernel
theorem dX10_wanted_71 : decode cX10_wanted 71 = .ok (.getfield 26, 3) := by decide +kernel
theorem dX10_wanted_74 : decode cX10_wanted 74 = .ok (.aload_n 0, 1) := by decide +kernel
theorem dX10_wanted_75 : decode cX10_wanted 75 = .ok (.getfield 19, 3) := by decide +kernel
theorem dX10_wanted_78 : decode cX10_wanted 78 = .ok (.iconst 0, 1) := by decide +kernel
theorem dX10_wanted_79 : decode cX10_wanted 79 = .ok (.invokevirtual 104, 3) := by decide +kernel
theorem dX10_wanted_82 : decode cX10_wanted 82 = .ok (.aload_n 0, 1) := by decide +kernel
theorem dX10_wanted_83 : decode cX10_wanted 83 = .ok (.getfield 19, 3) := by decide +kernel
theorem dX10_wanted_86 : decode cX10_wanted 86 = .ok (.iconst 0, 1) := by decide +kernel
theorem dX10_wanted_87 : decode cX10_wanted 87 = .ok (.putfield 115, 3) := by decide +kernel
theorem dX10_wanted_90 : decode cX10_wanted 90 = .ok (.iconst 0, 1) := by decide +kernel
theorem dX10_wanted_91 : decode cX10_wanted 91 = .ok (.istore 6, 2) := by decide +kernel
theorem dX10_wanted_93 : decode cX10_wanted 93 = .ok (.iload 6, 2) := by decide +kernel
theorem dX10_wanted_95 : decode cX10_wanted 95 = .ok (.iload 5, 2) := by decide +kernel
theorem dX10_wanted_97 : decode cX10_wanted 97 = .ok (.if_icmp .ge 31, 3) := by decide +kernel
theorem dX10_wanted_100 : decode cX10_wanted 100 = .ok (.aload_n 0, 1) := by decide +kernel
theorem dX10_wanted_101 : decode cX10_wanted 101 = .ok (.getfield 19, 3) := by decide +kernel
theorem dX10_wanted_104 : decode cX10_wanted 104 = .ok (.iload 6, 2) := by decide +kernel
theorem dX10_wanted_106 : decode cX10_wanted 106 = .ok (.aload_n 0, 1) := by decide +kernel
theorem dX10_wanted_107 : decode cX10_wanted 107 = .ok (.getfield 47, 3) := by decide +kernel
theorem dX10_wanted_110 : decode cX10_wanted 110 = .ok (.getfield 313, 3) := by decide +kernel
theorem dX10_wanted_113 : decode cX10_wanted 113 = .ok (.iload 6, 2) := by decide +kernel
theorem dX10_wanted_115 : decode cX10_wanted 115 = .ok (.iaload, 1) := by decide +kernel
theorem dX10_wanted_116 : decode cX10_wanted 116 = .ok (.invokestatic 316, 3) := by decide +kernel
theorem dX10_wanted_119 : decode cX10_wanted 119 = .ok (.invokevirtual 178, 3) := by decide +kernel
theorem dX10_wanted_122 : decode cX10_wanted 122 = .ok (.iinc 6 1, 3) := by decide +kernel
theorem dX10_wanted_125 : decode cX10_wanted 125 = .ok (.goto (-32), 3) := by decide +kernel
theorem dX10_wanted_128 : decode cX10_wanted 128 = .ok (.iload 5, 2) := by decide +kernel
theorem dX10_wanted_130 : decode cX10_wanted 130 = .ok (.ireturn, 1) := by decide +kernel
theorem dX10_wanted_131 : decode cX10_wanted 131 = .ok (.iinc 5 1, 3) := by decide +kernel
theorem dX10_wanted_134 : decode cX10_wanted 134 = .ok (.goto (-93), 3) := by decide +kernel
theorem dX10_wanted_137 : decode cX10_wanted 137 = .ok (.iconst (-1), 1) := by decide +kernel
theorem dX10_wanted_138 : decode cX10_wanted 138 = .ok (.ireturn, 1) := by decide +kernel
theorem dX10_ways_0 : decode cX10_ways 0 = .ok (.iload_n 1, 1) := by decide +kernel
theorem dX10_ways_1 : decode cX10_ways 1 = .ok (.iload_n 2, 1) := by decide +kernel
theorem dX10_ways_2 : decode cX10_ways 2 = .ok (.iload_n 3, 1) := by decide +kernel
theorem dX10_ways_3 : decode cX10_ways 3 = .ok (.invokestatic 302, 3) := by decide +kernel
theorem dX10_ways_6 : decode cX10_ways 6 = .ok (.ifCond .eq 15, 3) := by decide +kernel
theorem dX10_ways_9 : decode cX10_ways 9 = .ok (.iload 4, 2) := by decide +kernel
theorem dX10_ways_11 : decode cX10_ways 11 = .ok (.iconst 1, 1) := by decide +kernel
theorem dX10_ways_12 : decode cX10_ways 12 = .ok (.if_icmp .lt 9, 3) := by decide +kernel
theorem dX10_ways_15 : decode cX10_ways 15 = .ok (.iload 4, 2) := by decide +kernel
theorem dX10_ways_17 : decode cX10_ways 17 = .ok (.iconst 3, 1) := by decide +kernel
theorem dX10_ways_18 : decode cX10_ways 18 = .ok (.if_icmp .le 6, 3) := by decide +kernel
theorem dX10_ways_21 : decode cX10_ways 21 = .ok (.bipush (-2), 2) := by decide +kernel
theorem dX10_ways_23 : decode cX10_ways 23 = .ok (.ireturn, 1) := by decide +kernel
theorem dX10_ways_24 : decode cX10_ways 24 = .ok (.aload_n 0, 1) := by decide +kernel
theorem dX10_ways_25 : decode cX10_ways 25 = .ok (.getfield 40, 3) := by decide +kernel
theorem dX10_ways_28 : decode cX10_ways 28 = .ok (.aload_n 0, 1) := by decide +kernel
theorem dX10_ways_29 : decode cX10_ways 29 = .ok (.getfield 33, 3) := by decide +kernel
theorem dX10_ways_32 : decode cX10_ways 32 = .ok (.iload_n 1, 1) := by decide +kernel
theorem dX10_ways_33 : decode cX10_ways 33 = .ok (.iload_n 2, 1) := by decide +kernel
theorem dX10_ways_34 : decode cX10_ways 34 = .ok (.iload_n 3, 1) := by decide +kernel
theorem dX10_ways_35 : decode cX10_ways 35 = .ok (.invokevirtual 305, 3) := by decide +kernel
theorem dX10_ways_38 : decode cX10_ways 38 = .ok (.aload_n 0, 1) := by decide +kernel
theorem dX10_ways_39 : decode cX10_ways 39 = .ok (.getfield 47, 3) := by decide +kernel
theorem dX10_ways_42 : decode cX10_ways 42 = .ok (.aload_n 0, 1) := by decide +kernel
theorem dX10_ways_43 : decode cX10_ways 43 = .ok (.getfield 40, 3) := by decide +kernel
theorem dX10_ways_46 : decode cX10_ways 46 = .ok (.aload_n 0, 1) := by decide +kernel
theorem dX10_ways_47 : decode cX10_ways 47 = .ok (.getfield 33, 3) := by decide +kernel
theorem dX10_ways_50 : decode cX10_ways 50 = .ok (.iconst 0, 1) := by decide +kernel
theorem dX10_ways_51 : decode cX10_ways 51 = .ok (.iload 4, 2) := by decide +kernel
theorem dX10_ways_53 : decode cX10_ways 53 = .ok (.iconst 0, 1) := by decide +kernel
theorem dX10_ways_54 : decode cX10_ways 54 = .ok (.invokevirtual 309, 3) := by decide +kernel
theorem dX10_ways_57 : decode cX10_ways 57 = .ok (.ireturn, 1) := by decide +kernel
theorem dX10_tune_0 : decode cX10_tune 0 = .ok (.aload_n 0, 1) := by decide +kernel
theorem dX10_tune_1 : decode cX10_tune 1 = .ok (.getfield 19, 3) := by decide +kernel
theorem dX10_tune_4 : decode cX10_tune 4 = .ok (.iload_n 1, 1) := by decide +kernel
theorem dX10_tune_5 : decode cX10_tune 5 = .ok (.invokevirtual 148, 3) := by decide +kernel
theorem dX10_tune_8 : decode cX10_tune 8 = .ok (.ifCond .eq 10, 3) := by decide +kernel
theorem dX10_tune_11 : decode cX10_tune 11 = .ok (.iload_n 2, 1) := by decide +kernel
theorem dX10_tune_12 : decode cX10_tune 12 = .ok (.invokestatic 202, 3) := by decide +kernel
theorem dX10_tune_15 : decode cX10_tune 15 = .ok (.ifCond .ne 6, 3) := by decide +kernel
theorem dX10_tune_18 : decode cX10_tune 18 = .ok (.bipush (-2), 2) := by decide +kernel
theorem dX10_tune_20 : decode cX10_tune 20 = .ok (.ireturn, 1) := by decide +kernel
theorem dX10_tune_21 : decode cX10_tune 21 = .ok (.aload_n 0, 1) := by decide +kernel
theorem dX10_tune_22 : decode cX10_tune 22 = .ok (.getfield 19, 3) := by decide +kernel
theorem dX10_tune_25 : decode cX10_tune 25 = .ok (.getfield 151, 3) := by decide +kernel
theorem dX10_tune_28 : decode cX10_tune 28 = .ok (.iload_n 1, 1) := by decide +kernel
theorem dX10_tune_29 : decode cX10_tune 29 = .ok (.iaload, 1) := by decide +kernel
theorem dX10_tune_30 : decode cX10_tune 30 = .ok (.invokestatic 154, 3) := by decide +kernel
theorem dX10_tune_33 : decode cX10_tune 33 = .ok (.istore_n 3, 1) := by decide +kernel
theorem dX10_tune_34 : decode cX10_tune 34 = .ok (.aload_n 0, 1) := by decide +kernel
theorem dX10_tune_35 : decode cX10_tune 35 = .ok (.getfield 40, 3) := by decide +kernel
theorem dX10_tune_38 : decode cX10_tune 38 = .ok (.aload_n 0, 1) := by decide +kernel
theorem dX10_tune_39 : decode cX10_tune 39 = .ok (.getfield 33, 3) := by decide +kernel
theorem dX10_tune_42 : decode cX10_tune 42 = .ok (.iconst 1, 1) := by decide +kernel
theorem dX10_tune_43 : decode cX10_tune 43 = .ok (.iload_n 2, 1) := by decide +kernel
theorem dX10_tune_44 : decode cX10_tune 44 = .ok (.iconst 1, 1) := by decide +kernel
theorem dX10_tune_45 : decode cX10_tune 45 = .ok (.isub, 1) := by decide +kernel
theorem dX10_tune_46 : decode cX10_tune 46 = .ok (.ishl, 1) := by decide +kernel
theorem dX10_tune_47 : decode cX10_tune 47 = .ok (.iconst 1, 1) := by decide +kernel
theorem dX10_tune_48 : decode cX10_tune 48 = .ok (.iload_n 3, 1) := by decide +kernel
theorem dX10_tune_49 : decode cX10_tune 49 = .ok (.ishl, 1) := by decide +kernel
theorem dX10_tune_50 : decode cX10_tune 50 = .ok (.bipush 127, 2) := by decide +kernel
theorem dX10_tune_52 : decode cX10_tune 52 = .ok (.invokevirtual 305, 3) := by decide +kernel
theorem dX10_tune_55 : decode cX10_tune 55 = .ok (.aload_n 0, 1) := by decide +kernel
theorem dX10_tune_56 : decode cX10_tune 56 = .ok (.getfield 53, 3) := by decide +kernel
theorem dX10_tune_59 : decode cX10_tune 59 = .ok (.iconst 0, 1) := by decide +kernel
theorem dX10_tune_60 : decode cX10_tune 60 = .ok (.aaload, 1) := by decide +kernel
theorem dX10_tune_61 : decode cX10_tune 61 = .ok (.aload_n 0, 1) := by decide +kernel
theorem dX10_tune_62 : decode cX10_tune 62 = .ok (.getfield 19, 3) := by decide +kernel
theorem dX10_tune_65 : decode cX10_tune 65 = .ok (.aload_n 0, 1) := by decide +kernel
theorem dX10_tune_66 : decode cX10_tune 66 = .ok (.getfield 33, 3) := by decide +kernel
theorem dX10_tune_69 : decode cX10_tune 69 = .ok (.iload_n 2, 1) := by decide +kernel
theorem dX10_tune_70 : decode cX10_tune 70 = .ok (.aload_n 0, 1) := by decide +kernel
theorem dX10_tune_71 : decode cX10_tune 71 = .ok (.getfield 19, 3) := by decide +kernel
theorem dX10_tune_74 : decode cX10_tune 74 = .ok (.getfield 115, 3) := by decide +kernel
theorem dX10_tune_77 : decode cX10_tune 77 = .ok (.invokevirtual 263, 3) := by decide +kernel
theorem dX10_tune_80 : decode cX10_tune 80 = .ok (.iconst (-1), 1) := by decide +kernel
theorem dX10_tune_81 : decode cX10_tune 81 = .ok (.istore 4, 2) := by decide +kernel
theorem dX10_tune_83 : decode cX10_tune 83 = .ok (.iconst 0, 1) := by decide +kernel
theorem dX10_tune_84 : decode cX10_tune 84 = .ok (.istore 5, 2) := by decide +kernel
theorem dX10_tune_86 : decode cX10_tune 86 = .ok (.iload 5, 2) := by decide +kernel
theorem dX10_tune_88 : decode cX10_tune 88 = .ok (.bipush 7, 2) := by decide +kernel
theorem dX10_tune_90 : decode cX10_tune 90 = .ok (.if_icmp .ge 104, 3) := by decide +kernel
theorem dX10_tune_93 : decode cX10_tune 93 = .ok (.aload_n 0, 1) := by decide +kernel
theorem dX10_tune_94 : decode cX10_tune 94 = .ok (.getfield 40, 3) := by decide +kernel
theorem dX10_tune_97 : decode cX10_tune 97 = .ok (.iload_n 2, 1) := by decide +kernel
theorem dX10_tune_98 : decode cX10_tune 98 = .ok (.iconst 1, 1) := by decide +kernel
theorem dX10_tune_99 : decode cX10_tune 99 = .ok (.isub, 1) := by decide +kernel
theorem dX10_tune_100 : decode cX10_tune 100 = .ok (.iload_n 3, 1) := by decide +kernel
theorem dX10_tune_101 : decode cX10_tune 101 = .ok (.bipush 7, 2) := by decide +kernel
theorem dX10_tune_103 : decode cX10_tune 103 = .ok (.imul, 1) := by decide +kernel
theorem dX10_tune_104 : decode cX10_tune 104 = .ok (.iload 5, 2) := by decide +kernel
theorem dX10_tune_106 : decode cX10_tune 106 = .ok (.iadd, 1) := by decide +kernel
theorem dX10_tune_107 : decode cX10_tune 107 = .ok (.invokevirtual 319, 3) := by decide +kernel
theorem dX10_tune_110 : decode cX10_tune 110 = .ok (.astore 6, 2) := by decide +kernel
theorem dX10_tune_112 : decode cX10_tune 112 = .ok (.aload_n 0, 1) := by decide +kernel
theorem dX10_tune_113 : decode cX10_tune 113 = .ok (.getfield 53, 3) := by decide +kernel
theorem dX10_tune_116 : decode cX10_tune 116 = .ok (.iconst 0, 1) := by decide +kernel
theorem dX10_tune_117 : decode cX10_tune 117 = .ok (.aaload, 1) := by decide +kernel
theorem dX10_tune_118 : decode cX10_tune 118 = .ok (.iload_n 1, 1) := by decide +kernel
theorem dX10_tune_119 : decode cX10_tune 119 = .ok (.aload 6, 2) := by decide +kernel
theorem dX10_tune_121 : decode cX10_tune 121 = .ok (.iload_n 1, 1) := by decide +kernel
theorem dX10_tune_122 : decode cX10_tune 122 = .ok (.iconst 1, 1) := by decide +kernel
theorem dX10_tune_123 : decode cX10_tune 123 = .ok (.iadd, 1) := by decide +kernel
theorem dX10_tune_124 : decode cX10_tune 124 = .ok (.invokevirtual 298, 3) := by decide +kernel
theorem dX10_tune_127 : decode cX10_tune 127 = .ok (.astore 7, 2) := by decide +kernel
theorem dX10_tune_129 : decode cX10_tune 129 = .ok (.aload 7, 2) := by decide +kernel
theorem dX10_tune_131 : decode cX10_tune 131 = .ok (.getfield 210, 3) := by decide +kernel
theorem dX10_tune_134 : decode cX10_tune 134 = .ok (.ifCond .eq 6, 3) := by decide +kernel
theorem dX10_tune_137 : decode cX10_tune 137 = .ok (.goto 51, 3) := by decide +kernel
theorem dX10_tune_140 : decode cX10_tune 140 = .ok (.aload_n 0, 1) := by decide +kernel
theorem dX10_tune_141 : decode cX10_tune 141 = .ok (.getfield 33, 3) := by decide +kernel
theorem dX10_tune_144 : decode cX10_tune 144 = .ok (.aload 7, 2) := by decide +kernel
theorem dX10_tune_146 : decode cX10_tune 146 = .ok (.aload_n 0, 1) := by decide +kernel
theorem dX10_tune_147 : decode cX10_tune 147 = .ok (.getfield 74, 3) := by decide +kernel
theorem dX10_tune_150 : decode cX10_tune 150 = .ok (.invokevirtual 222, 3) := by decide +kernel
theorem dX10_tune_153 : decode cX10_tune 153 = .ok (.iload 4, 2) := by decide +kernel
theorem dX10_tune_155 : decode cX10_tune 155 = .ok (.iconst (-1), 1) := by decide +kernel
theorem dX10_tune_156 : decode cX10_tune 156 = .ok (.if_icmp .eq 17, 3) := by decide +kernel
theorem dX10_tune_159 : decode cX10_tune 159 = .ok (.aload_n 0, 1) := by decide +kernel
theorem dX10_tune_160 : decode cX10_tune 160 = .ok (.getfield 74, 3) := by decide +kernel
theorem dX10_tune_163 : decode cX10_tune 163 = .ok (.aload_n 0, 1) := by decide +kernel
theorem dX10_tune_164 : decode cX10_tune 164 = .ok (.getfield 78, 3) := by decide +kernel
theorem dX10_tune_167 : decode cX10_tune 167 = .ok (.invokevirtual 256, 3) := by decide +kernel
theorem dX10_tune_170 : decode cX10_tune 170 = .ok (.ifCond .ge 18, 3) := by decide +kernel
theorem dX10_tune_173 : decode cX10_tune 173 = .ok (.iload 5, 2) := by decide +kernel
theorem dX10_tune_175 : decode cX10_tune 175 = .ok (.istore 4, 2) := by decide +kernel
theorem dX10_tune_177 : decode cX10_tune 177 = .ok (.aload_n 0, 1) := by decide +kernel
theorem dX10_tune_178 : decode cX10_tune 178 = .ok (.getfield 78, 3) := by decide +kernel
theorem dX10_tune_181 : decode cX10_tune 181 = .ok (.aload_n 0, 1) := by decide +kernel
theorem dX10_tune_182 : decode cX10_tune 182 = .ok (.getfield 74, 3) := by decide +kernel
theorem dX10_tune_185 : decode cX10_tune 185 = .ok (.invokevirtual 260, 3) := by decide +kernel
theorem dX10_tune_188 : decode cX10_tune 188 = .ok (.iinc 5 1, 3) := by decide +kernel
theorem dX10_tune_191 : decode cX10_tune 191 = .ok (.goto (-105), 3) := by decide +kernel
theorem dX10_tune_194 : decode cX10_tune 194 = .ok (.iload 4, 2) := by decide +kernel
theorem dX10_tune_196 : decode cX10_tune 196 = .ok (.iconst (-1), 1) := by decide +kernel
theorem dX10_tune_197 : decode cX10_tune 197 = .ok (.if_icmp .eq 40, 3) := by decide +kernel
theorem dX10_tune_200 : decode cX10_tune 200 = .ok (.aload_n 0, 1) := by decide +kernel
theorem dX10_tune_201 : decode cX10_tune 201 = .ok (.getfield 26, 3) := by decide +kernel
theorem dX10_tune_204 : decode cX10_tune 204 = .ok (.aload_n 0, 1) := by decide +kernel
theorem dX10_tune_205 : decode cX10_tune 205 = .ok (.getfield 19, 3) := by decide +kernel
theorem dX10_tune_208 : decode cX10_tune 208 = .ok (.iconst 0, 1) := by decide +kernel
theorem dX10_tune_209 : decode cX10_tune 209 = .ok (.invokevirtual 104, 3) := by decide +kernel
theorem dX10_tune_212 : decode cX10_tune 212 = .ok (.aload_n 0, 1) := by decide +kernel
theorem dX10_tune_213 : decode cX10_tune 213 = .ok (.getfield 19, 3) := by decide +kernel
theorem dX10_tune_216 : decode cX10_tune 216 = .ok (.getfield 151, 3) := by decide +kernel
theorem dX10_tune_219 : decode cX10_tune 219 = .ok (.iload_n 1, 1) := by decide +kernel
theorem dX10_tune_220 : decode cX10_tune 220 = .ok (.iload_n 3, 1) := by decide +kernel
theorem dX10_tune_221 : decode cX10_tune 221 = .ok (.getstatic 322, 3) := by decide +kernel
theorem dX10_tune_224 : decode cX10_tune 224 = .ok (.iload 4, 2) := by decide +kernel
theorem dX10_tune_226 : decode cX10_tune 226 = .ok (.iaload, 1) := by decide +kernel
theorem dX10_tune_227 : decode cX10_tune 227 = .ok (.getstatic 325, 3) := by decide +kernel
theorem dX10_tune_230 : decode cX10_tune 230 = .ok (.iload 4, 2) := by decide +kernel
theorem dX10_tune_232 : decode cX10_tune 232 = .ok (.iaload, 1) := by decide +kernel
theorem dX10_tune_233 : decode cX10_tune 233 = .ok (.invokestatic 174, 3) := by decide +kernel
theorem dX10_tune_236 : decode cX10_tune 236 = .ok (.iastore, 1) := by decide +kernel
theorem dX10_tune_237 : decode cX10_tune 237 = .ok (.iload 4, 2) := by decide +kernel
theorem dX10_tune_239 : decode cX10_tune 239 = .ok (.ireturn, 1) := by decide +kernel
theorem dX10_add_0 : decode cX10_add 0 = .ok (.iload_n 1, 1) := by decide +kernel
theorem dX10_add_1 : decode cX10_add 1 = .ok (.iload_n 2, 1) := by decide +kernel
theorem dX10_add_2 : decode cX10_add 2 = .ok (.iload_n 3, 1) := by decide +kernel
theorem dX10_add_3 : decode cX10_add 3 = .ok (.invokestatic 302, 3) := by decide +kernel
theorem dX10_add_6 : decode cX10_add 6 = .ok (.ifCond .ne 6, 3) := by decide +kernel
theorem dX10_add_9 : decode cX10_add 9 = .ok (.bipush (-2), 2) := by decide +kernel
theorem dX10_add_11 : decode cX10_add 11 = .ok (.ireturn, 1) := by decide +kernel
theorem dX10_add_12 : decode cX10_add 12 = .ok (.aload_n 0, 1) := by decide +kernel
theorem dX10_add_13 : decode cX10_add 13 = .ok (.getfield 19, 3) := by decide +kernel
theorem dX10_add_16 : decode cX10_add 16 = .ok (.getfield 115, 3) := by decide +kernel
theorem dX10_add_19 : decode cX10_add 19 = .ok (.bipush 24, 2) := by decide +kernel
theorem dX10_add_21 : decode cX10_add 21 = .ok (.if_icmp .lt 5, 3) := by decide +kernel
theorem dX10_add_24 : decode cX10_add 24 = .ok (.iconst (-1), 1) := by decide +kernel
theorem dX10_add_25 : decode cX10_add 25 = .ok (.ireturn, 1) := by decide +kernel
theorem dX10_add_26 : decode cX10_add 26 = .ok (.aload_n 0, 1) := by decide +kernel
theorem dX10_add_27 : decode cX10_add 27 = .ok (.getfield 40, 3) := by decide +kernel
theorem dX10_add_30 : decode cX10_add 30 = .ok (.aload_n 0, 1) := by decide +kernel
theorem dX10_add_31 : decode cX10_add 31 = .ok (.getfield 33, 3) := by decide +kernel
theorem dX10_add_34 : decode cX10_add 34 = .ok (.iload_n 1, 1) := by decide +kernel
theorem dX10_add_35 : decode cX10_add 35 = .ok (.iload_n 2, 1) := by decide +kernel
theorem dX10_add_36 : decode cX10_add 36 = .ok (.iload_n 3, 1) := by decide +kernel
theorem dX10_add_37 : decode cX10_add 37 = .ok (.invokevirtual 305, 3) := by decide +kernel
theorem dX10_add_40 : decode cX10_add 40 = .ok (.aload_n 0, 1) := by decide +kernel
theorem dX10_add_41 : decode cX10_add 41 = .ok (.iload_n 1, 1) := by decide +kernel
theorem dX10_add_42 : decode cX10_add 42 = .ok (.invokevirtual 328, 3) := by decide +kernel
theorem dX10_add_45 : decode cX10_add 45 = .ok (.istore 4, 2) := by decide +kernel
theorem dX10_add_47 : decode cX10_add 47 = .ok (.iconst (-1), 1) := by decide +kernel
theorem dX10_add_48 : decode cX10_add 48 = .ok (.istore 5, 2) := by decide +kernel
theorem dX10_add_50 : decode cX10_add 50 = .ok (.iconst (-1), 1) := by decide +kernel
theorem dX10_add_51 : decode cX10_add 51 = .ok (.istore 6, 2) := by decide +kernel
theorem dX10_add_53 : decode cX10_add 53 = .ok (.iconst 0, 1) := by decide +kernel
theorem dX10_add_54 : decode cX10_add 54 = .ok (.istore 7, 2) := by decide +kernel
theorem dX10_add_56 : decode cX10_add 56 = .ok (.iload 7, 2) := by decide +kernel
theorem dX10_add_58 : decode cX10_add 58 = .ok (.aload_n 0, 1) := by decide +kernel
theorem dX10_add_59 : decode cX10_add 59 = .ok (.getfield 19, 3) := by decide +kernel
theorem dX10_add_62 : decode cX10_add 62 = .ok (.getfield 115, 3) := by decide +kernel
theorem dX10_add_65 : decode cX10_add 65 = .ok (.if_icmp .gt 82, 3) := by decide +kernel
theorem dX10_add_68 : decode cX10_add 68 = .ok (.iconst 0, 1) := by decide +kernel
theorem dX10_add_69 : decode cX10_add 69 = .ok (.istore 8, 2) := by decide +kernel
theorem dX10_add_71 : decode cX10_add 71 = .ok (.iload 8, 2) := by decide +kernel
theorem dX10_add_73 : decode cX10_add 73 = .ok (.aload_n 0, 1) := by decide +kernel
theorem dX10_add_74 : decode cX10_add 74 = .ok (.getfield 40, 3) := by decide +kernel
theorem dX10_add_77 : decode cX10_add 77 = .ok (.getfield 331, 3) := by decide +kernel
theorem dX10_add_80 : decode cX10_add 80 = .ok (.if_icmp .ge 61, 3) := by decide +kernel
theorem dX10_add_83 : decode cX10_add 83 = .ok (.aload_n 0, 1) := by decide +kernel
theorem dX10_add_84 : decode cX10_add 84 = .ok (.iload 7, 2) := by decide +kernel
theorem dX10_add_86 : decode cX10_add 86 = .ok (.aload_n 0, 1) := by decide +kernel
