theorem d_Model_in_0 : decode prog_8_method_2_code 0 = .ok (.iload_n 0, 1) := by decide +kernel
theorem d_Model_in_1 : decode prog_8_method_2_code 1 = .ok (.iload_n 1, 1) := by decide +kernel
theorem d_Model_in_2 : decode prog_8_method_2_code 2 = .ok (.if_icmp .lt 12, 3) := by decide +kernel
theorem d_Model_in_5 : decode prog_8_method_2_code 5 = .ok (.iload_n 0, 1) := by decide +kernel
theorem d_Model_in_6 : decode prog_8_method_2_code 6 = .ok (.iload_n 2, 1) := by decide +kernel
theorem d_Model_in_7 : decode prog_8_method_2_code 7 = .ok (.if_icmp .gt 7, 3) := by decide +kernel
theorem d_Model_in_10 : decode prog_8_method_2_code 10 = .ok (.iconst 1, 1) := by decide +kernel
theorem d_Model_in_11 : decode prog_8_method_2_code 11 = .ok (.goto 4, 3) := by decide +kernel
theorem d_Model_in_14 : decode prog_8_method_2_code 14 = .ok (.iconst 0, 1) := by decide +kernel
theorem d_Model_in_15 : decode prog_8_method_2_code 15 = .ok (.ireturn, 1) := by decide +kernel
theorem d_Model_code_0 : decode prog_8_method_3_code 0 = .ok (.iload_n 3, 1) := by decide +kernel
theorem d_Model_code_1 : decode prog_8_method_3_code 1 = .ok (.iconst 1, 1) := by decide +kernel
theorem d_Model_code_2 : decode prog_8_method_3_code 2 = .ok (.bipush 8, 2) := by decide +kernel
theorem d_Model_code_4 : decode prog_8_method_3_code 4 = .ok (.invokestatic 75, 3) := by decide +kernel
theorem d_Model_code_7 : decode prog_8_method_3_code 7 = .ok (.ifCond .ne 5, 3) := by decide +kernel
theorem d_Model_code_10 : decode prog_8_method_3_code 10 = .ok (.iconst (-1), 1) := by decide +kernel
theorem d_Model_code_11 : decode prog_8_method_3_code 11 = .ok (.ireturn, 1) := by decide +kernel
theorem d_Model_code_12 : decode prog_8_method_3_code 12 = .ok (.aload_n 0, 1) := by decide +kernel
theorem d_Model_code_13 : decode prog_8_method_3_code 13 = .ok (.getfield 79, 3) := by decide +kernel
theorem d_Model_code_16 : decode prog_8_method_3_code 16 = .ok (.iload_n 3, 1) := by decide +kernel
theorem d_Model_code_17 : decode prog_8_method_3_code 17 = .ok (.iadd, 1) := by decide +kernel
theorem d_Model_code_18 : decode prog_8_method_3_code 18 = .ok (.sipush 200, 3) := by decide +kernel
theorem d_Model_code_21 : decode prog_8_method_3_code 21 = .ok (.if_icmp .le 6, 3) := by decide +kernel
theorem d_Model_code_24 : decode prog_8_method_3_code 24 = .ok (.bipush (-2), 2) := by decide +kernel
theorem d_Model_code_26 : decode prog_8_method_3_code 26 = .ok (.ireturn, 1) := by decide +kernel
theorem d_Model_code_27 : decode prog_8_method_3_code 27 = .ok (.iconst 0, 1) := by decide +kernel
theorem d_Model_code_28 : decode prog_8_method_3_code 28 = .ok (.istore 4, 2) := by decide +kernel
theorem d_Model_code_30 : decode prog_8_method_3_code 30 = .ok (.iload 4, 2) := by decide +kernel
theorem d_Model_code_32 : decode prog_8_method_3_code 32 = .ok (.iload_n 3, 1) := by decide +kernel
theorem d_Model_code_33 : decode prog_8_method_3_code 33 = .ok (.if_icmp .ge 36, 3) := by decide +kernel
theorem d_Model_code_36 : decode prog_8_method_3_code 36 = .ok (.aload_n 0, 1) := by decide +kernel
theorem d_Model_code_37 : decode prog_8_method_3_code 37 = .ok (.getfield 7, 3) := by decide +kernel
theorem d_Model_code_40 : decode prog_8_method_3_code 40 = .ok (.aload_n 0, 1) := by decide +kernel
theorem d_Model_code_41 : decode prog_8_method_3_code 41 = .ok (.getfield 79, 3) := by decide +kernel
theorem d_Model_code_44 : decode prog_8_method_3_code 44 = .ok (.iload 4, 2) := by decide +kernel
theorem d_Model_code_46 : decode prog_8_method_3_code 46 = .ok (.iadd, 1) := by decide +kernel
theorem d_Model_code_47 : decode prog_8_method_3_code 47 = .ok (.lload_n 1, 1) := by decide +kernel
theorem d_Model_code_48 : decode prog_8_method_3_code 48 = .ok (.bipush 56, 2) := by decide +kernel
theorem d_Model_code_50 : decode prog_8_method_3_code 50 = .ok (.bipush 8, 2) := by decide +kernel
theorem d_Model_code_52 : decode prog_8_method_3_code 52 = .ok (.iload 4, 2) := by decide +kernel
theorem d_Model_code_54 : decode prog_8_method_3_code 54 = .ok (.imul, 1) := by decide +kernel
theorem d_Model_code_55 : decode prog_8_method_3_code 55 = .ok (.isub, 1) := by decide +kernel
theorem d_Model_code_56 : decode prog_8_method_3_code 56 = .ok (.lushr, 1) := by decide +kernel
theorem d_Model_code_57 : decode prog_8_method_3_code 57 = .ok (.ldc2_w 82, 3) := by decide +kernel
theorem d_Model_code_60 : decode prog_8_method_3_code 60 = .ok (.land, 1) := by decide +kernel
theorem d_Model_code_61 : decode prog_8_method_3_code 61 = .ok (.l2i, 1) := by decide +kernel
theorem d_Model_code_62 : decode prog_8_method_3_code 62 = .ok (.iastore, 1) := by decide +kernel
theorem d_Model_code_63 : decode prog_8_method_3_code 63 = .ok (.iinc 4 1, 3) := by decide +kernel
theorem d_Model_code_66 : decode prog_8_method_3_code 66 = .ok (.goto (-36), 3) := by decide +kernel
theorem d_Model_code_69 : decode prog_8_method_3_code 69 = .ok (.aload_n 0, 1) := by decide +kernel
theorem d_Model_code_70 : decode prog_8_method_3_code 70 = .ok (.dup, 1) := by decide +kernel
theorem d_Model_code_71 : decode prog_8_method_3_code 71 = .ok (.getfield 79, 3) := by decide +kernel
theorem d_Model_code_74 : decode prog_8_method_3_code 74 = .ok (.iload_n 3, 1) := by decide +kernel
theorem d_Model_code_75 : decode prog_8_method_3_code 75 = .ok (.iadd, 1) := by decide +kernel
theorem d_Model_code_76 : decode prog_8_method_3_code 76 = .ok (.putfield 79, 3) := by decide +kernel
theorem d_Model_code_79 : decode prog_8_method_3_code 79 = .ok (.aload_n 0, 1) := by decide +kernel
theorem d_Model_code_80 : decode prog_8_method_3_code 80 = .ok (.getfield 79, 3) := by decide +kernel
theorem d_Model_code_83 : decode prog_8_method_3_code 83 = .ok (.ireturn, 1) := by decide +kernel
theorem d_Model_change_0 : decode prog_8_method_4_code 0 = .ok (.iload_n 1, 1) := by decide +kernel
theorem d_Model_change_1 : decode prog_8_method_4_code 1 = .ok (.iconst 0, 1) := by decide +kernel
theorem d_Model_change_2 : decode prog_8_method_4_code 2 = .ok (.aload_n 0, 1) := by decide +kernel
theorem d_Model_change_3 : decode prog_8_method_4_code 3 = .ok (.getfield 79, 3) := by decide +kernel
theorem d_Model_change_6 : decode prog_8_method_4_code 6 = .ok (.iconst 1, 1) := by decide +kernel
theorem d_Model_change_7 : decode prog_8_method_4_code 7 = .ok (.isub, 1) := by decide +kernel
theorem d_Model_change_8 : decode prog_8_method_4_code 8 = .ok (.invokestatic 75, 3) := by decide +kernel
theorem d_Model_change_11 : decode prog_8_method_4_code 11 = .ok (.ifCond .eq 14, 3) := by decide +kernel
theorem d_Model_change_14 : decode prog_8_method_4_code 14 = .ok (.iload_n 2, 1) := by decide +kernel
theorem d_Model_change_15 : decode prog_8_method_4_code 15 = .ok (.iconst 0, 1) := by decide +kernel
theorem d_Model_change_16 : decode prog_8_method_4_code 16 = .ok (.sipush 255, 3) := by decide +kernel
theorem d_Model_change_19 : decode prog_8_method_4_code 19 = .ok (.invokestatic 75, 3) := by decide +kernel
theorem d_Model_change_22 : decode prog_8_method_4_code 22 = .ok (.ifCond .ne 5, 3) := by decide +kernel
theorem d_Model_change_25 : decode prog_8_method_4_code 25 = .ok (.iconst (-1), 1) := by decide +kernel
theorem d_Model_change_26 : decode prog_8_method_4_code 26 = .ok (.ireturn, 1) := by decide +kernel
theorem d_Model_change_27 : decode prog_8_method_4_code 27 = .ok (.aload_n 0, 1) := by decide +kernel
theorem d_Model_change_28 : decode prog_8_method_4_code 28 = .ok (.getfield 7, 3) := by decide +kernel
theorem d_Model_change_31 : decode prog_8_method_4_code 31 = .ok (.iload_n 1, 1) := by decide +kernel
theorem d_Model_change_32 : decode prog_8_method_4_code 32 = .ok (.iaload, 1) := by decide +kernel
theorem d_Model_change_33 : decode prog_8_method_4_code 33 = .ok (.istore_n 3, 1) := by decide +kernel
theorem d_Model_change_34 : decode prog_8_method_4_code 34 = .ok (.aload_n 0, 1) := by decide +kernel
theorem d_Model_change_35 : decode prog_8_method_4_code 35 = .ok (.getfield 7, 3) := by decide +kernel
theorem d_Model_change_38 : decode prog_8_method_4_code 38 = .ok (.iload_n 1, 1) := by decide +kernel
theorem d_Model_change_39 : decode prog_8_method_4_code 39 = .ok (.iload_n 2, 1) := by decide +kernel
theorem d_Model_change_40 : decode prog_8_method_4_code 40 = .ok (.iastore, 1) := by decide +kernel
theorem d_Model_change_41 : decode prog_8_method_4_code 41 = .ok (.iload_n 3, 1) := by decide +kernel
theorem d_Model_change_42 : decode prog_8_method_4_code 42 = .ok (.ireturn, 1) := by decide +kernel
theorem d_Model_clear_0 : decode prog_8_method_5_code 0 = .ok (.aload_n 0, 1) := by decide +kernel
theorem d_Model_clear_1 : decode prog_8_method_5_code 1 = .ok (.getfield 79, 3) := by decide +kernel
theorem d_Model_clear_4 : decode prog_8_method_5_code 4 = .ok (.istore_n 1, 1) := by decide +kernel
theorem d_Model_clear_5 : decode prog_8_method_5_code 5 = .ok (.aload_n 0, 1) := by decide +kernel
theorem d_Model_clear_6 : decode prog_8_method_5_code 6 = .ok (.iconst 0, 1) := by decide +kernel
theorem d_Model_clear_7 : decode prog_8_method_5_code 7 = .ok (.putfield 79, 3) := by decide +kernel
theorem d_Model_clear_10 : decode prog_8_method_5_code 10 = .ok (.aload_n 0, 1) := by decide +kernel
theorem d_Model_clear_11 : decode prog_8_method_5_code 11 = .ok (.iconst 0, 1) := by decide +kernel
theorem d_Model_clear_12 : decode prog_8_method_5_code 12 = .ok (.putfield 84, 3) := by decide +kernel
theorem d_Model_clear_15 : decode prog_8_method_5_code 15 = .ok (.iload_n 1, 1) := by decide +kernel
theorem d_Model_clear_16 : decode prog_8_method_5_code 16 = .ok (.ireturn, 1) := by decide +kernel
theorem d_Model_handler_0 : decode prog_8_method_6_code 0 = .ok (.iload 4, 2) := by decide +kernel
theorem d_Model_handler_2 : decode prog_8_method_6_code 2 = .ok (.iconst 0, 1) := by decide +kernel
theorem d_Model_handler_3 : decode prog_8_method_6_code 3 = .ok (.sipush 255, 3) := by decide +kernel
theorem d_Model_handler_6 : decode prog_8_method_6_code 6 = .ok (.invokestatic 75, 3) := by decide +kernel
theorem d_Model_handler_9 : decode prog_8_method_6_code 9 = .ok (.ifCond .eq 36, 3) := by decide +kernel
theorem d_Model_handler_12 : decode prog_8_method_6_code 12 = .ok (.iload_n 1, 1) := by decide +kernel
theorem d_Model_handler_13 : decode prog_8_method_6_code 13 = .ok (.iconst 0, 1) := by decide +kernel
theorem d_Model_handler_14 : decode prog_8_method_6_code 14 = .ok (.sipush 200, 3) := by decide +kernel
theorem d_Model_handler_17 : decode prog_8_method_6_code 17 = .ok (.invokestatic 75, 3) := by decide +kernel
theorem d_Model_handler_20 : decode prog_8_method_6_code 20 = .ok (.ifCond .eq 25, 3) := by decide +kernel
theorem d_Model_handler_23 : decode prog_8_method_6_code 23 = .ok (.iload_n 2, 1) := by decide +kernel
theorem d_Model_handler_24 : decode prog_8_method_6_code 24 = .ok (.iconst 0, 1) := by decide +kernel
theorem d_Model_handler_25 : decode prog_8_method_6_code 25 = .ok (.sipush 200, 3) := by decide +kernel
theorem d_Model_handler_28 : decode prog_8_method_6_code 28 = .ok (.invokestatic 75, 3) := by decide +kernel
theorem d_Model_handler_31 : decode prog_8_method_6_code 31 = .ok (.ifCond .eq 14, 3) := by decide +kernel
theorem d_Model_handler_34 : decode prog_8_method_6_code 34 = .ok (.iload_n 3, 1) := by decide +kernel
theorem d_Model_handler_35 : decode prog_8_method_6_code 35 = .ok (.iconst 0, 1) := by decide +kernel
theorem d_Model_handler_36 : decode prog_8_method_6_code 36 = .ok (.sipush 200, 3) := by decide +kernel
theorem d_Model_handler_39 : decode prog_8_method_6_code 39 = .ok (.invokestatic 75, 3) := by decide +kernel
theorem d_Model_handler_42 : decode prog_8_method_6_code 42 = .ok (.ifCond .ne 5, 3) := by decide +kernel
theorem d_Model_handler_45 : decode prog_8_method_6_code 45 = .ok (.iconst (-1), 1) := by decide +kernel
theorem d_Model_handler_46 : decode prog_8_method_6_code 46 = .ok (.ireturn, 1) := by decide +kernel
theorem d_Model_handler_47 : decode prog_8_method_6_code 47 = .ok (.aload_n 0, 1) := by decide +kernel
theorem d_Model_handler_48 : decode prog_8_method_6_code 48 = .ok (.getfield 84, 3) := by decide +kernel
theorem d_Model_handler_51 : decode prog_8_method_6_code 51 = .ok (.iconst 4, 1) := by decide +kernel
theorem d_Model_handler_52 : decode prog_8_method_6_code 52 = .ok (.if_icmp .ne 6, 3) := by decide +kernel
theorem d_Model_handler_55 : decode prog_8_method_6_code 55 = .ok (.bipush (-2), 2) := by decide +kernel
theorem d_Model_handler_57 : decode prog_8_method_6_code 57 = .ok (.ireturn, 1) := by decide +kernel
theorem d_Model_handler_58 : decode prog_8_method_6_code 58 = .ok (.aload_n 0, 1) := by decide +kernel
theorem d_Model_handler_59 : decode prog_8_method_6_code 59 = .ok (.getfield 13, 3) := by decide +kernel
theorem d_Model_handler_62 : decode prog_8_method_6_code 62 = .ok (.aload_n 0, 1) := by decide +kernel
theorem d_Model_handler_63 : decode prog_8_method_6_code 63 = .ok (.getfield 84, 3) := by decide +kernel
theorem d_Model_handler_66 : decode prog_8_method_6_code 66 = .ok (.iload_n 1, 1) := by decide +kernel
theorem d_Model_handler_67 : decode prog_8_method_6_code 67 = .ok (.iastore, 1) := by decide +kernel
theorem d_Model_handler_68 : decode prog_8_method_6_code 68 = .ok (.aload_n 0, 1) := by decide +kernel
theorem d_Model_handler_69 : decode prog_8_method_6_code 69 = .ok (.getfield 16, 3) := by decide +kernel
theorem d_Model_handler_72 : decode prog_8_method_6_code 72 = .ok (.aload_n 0, 1) := by decide +kernel
theorem d_Model_handler_73 : decode prog_8_method_6_code 73 = .ok (.getfield 84, 3) := by decide +kernel
theorem d_Model_handler_76 : decode prog_8_method_6_code 76 = .ok (.iload_n 2, 1) := by decide +kernel
theorem d_Model_handler_77 : decode prog_8_method_6_code 77 = .ok (.iastore, 1) := by decide +kernel
theorem d_Model_handler_78 : decode prog_8_method_6_code 78 = .ok (.aload_n 0, 1) := by decide +kernel
theorem d_Model_handler_79 : decode prog_8_method_6_code 79 = .ok (.getfield 19, 3) := by decide +kernel
theorem d_Model_handler_82 : decode prog_8_method_6_code 82 = .ok (.aload_n 0, 1) := by decide +kernel
theorem d_Model_handler_83 : decode prog_8_method_6_code 83 = .ok (.getfield 84, 3) := by decide +kernel
theorem d_Model_handler_86 : decode prog_8_method_6_code 86 = .ok (.iload_n 3, 1) := by decide +kernel
theorem d_Model_handler_87 : decode prog_8_method_6_code 87 = .ok (.iastore, 1) := by decide +kernel
theorem d_Model_handler_88 : decode prog_8_method_6_code 88 = .ok (.aload_n 0, 1) := by decide +kernel
theorem d_Model_handler_89 : decode prog_8_method_6_code 89 = .ok (.getfield 22, 3) := by decide +kernel
theorem d_Model_handler_92 : decode prog_8_method_6_code 92 = .ok (.aload_n 0, 1) := by decide +kernel
theorem d_Model_handler_93 : decode prog_8_method_6_code 93 = .ok (.getfield 84, 3) := by decide +kernel
theorem d_Model_handler_96 : decode prog_8_method_6_code 96 = .ok (.iload 4, 2) := by decide +kernel
theorem d_Model_handler_98 : decode prog_8_method_6_code 98 = .ok (.iastore, 1) := by decide +kernel
theorem d_Model_handler_99 : decode prog_8_method_6_code 99 = .ok (.aload_n 0, 1) := by decide +kernel
theorem d_Model_handler_100 : decode prog_8_method_6_code 100 = .ok (.dup, 1) := by decide +kernel
theorem d_Model_handler_101 : decode prog_8_method_6_code 101 = .ok (.getfield 84, 3) := by decide +kernel
theorem d_Model_handler_104 : decode prog_8_method_6_code 104 = .ok (.iconst 1, 1) := by decide +kernel
theorem d_Model_handler_105 : decode prog_8_method_6_code 105 = .ok (.iadd, 1) := by decide +kernel
theorem d_Model_handler_106 : decode prog_8_method_6_code 106 = .ok (.putfield 84, 3) := by decide +kernel
theorem d_Model_handler_109 : decode prog_8_method_6_code 109 = .ok (.aload_n 0, 1) := by decide +kernel
theorem d_Model_handler_110 : decode prog_8_method_6_code 110 = .ok (.getfield 84, 3) := by decide +kernel
theorem d_Model_handler_113 : decode prog_8_method_6_code 113 = .ok (.ireturn, 1) := by decide +kernel
theorem d_Model_mark_0 : decode prog_8_method_7_code 0 = .ok (.iload_n 1, 1) := by decide +kernel
theorem d_Model_mark_1 : decode prog_8_method_7_code 1 = .ok (.iconst 1, 1) := by decide +kernel
theorem d_Model_mark_2 : decode prog_8_method_7_code 2 = .ok (.sipush 255, 3) := by decide +kernel
theorem d_Model_mark_5 : decode prog_8_method_7_code 5 = .ok (.invokestatic 75, 3) := by decide +kernel
theorem d_Model_mark_8 : decode prog_8_method_7_code 8 = .ok (.ifCond .ne 5, 3) := by decide +kernel
theorem d_Model_mark_11 : decode prog_8_method_7_code 11 = .ok (.iconst 0, 1) := by decide +kernel
theorem d_Model_mark_12 : decode prog_8_method_7_code 12 = .ok (.ireturn, 1) := by decide +kernel
theorem d_Model_mark_13 : decode prog_8_method_7_code 13 = .ok (.aload_n 0, 1) := by decide +kernel
theorem d_Model_mark_14 : decode prog_8_method_7_code 14 = .ok (.getfield 28, 3) := by decide +kernel
theorem d_Model_mark_17 : decode prog_8_method_7_code 17 = .ok (.iload_n 1, 1) := by decide +kernel
theorem d_Model_mark_18 : decode prog_8_method_7_code 18 = .ok (.iload_n 2, 1) := by decide +kernel
theorem d_Model_mark_19 : decode prog_8_method_7_code 19 = .ok (.bastore, 1) := by decide +kernel
theorem d_Model_mark_20 : decode prog_8_method_7_code 20 = .ok (.iconst 1, 1) := by decide +kernel
theorem d_Model_mark_21 : decode prog_8_method_7_code 21 = .ok (.ireturn, 1) := by decide +kernel
theorem d_Model_cost_0 : decode prog_8_method_8_code 0 = .ok (.iload_n 1, 1) := by decide +kernel
theorem d_Model_cost_1 : decode prog_8_method_8_code 1 = .ok (.iconst 0, 1) := by decide +kernel
theorem d_Model_cost_2 : decode prog_8_method_8_code 2 = .ok (.sipush 200, 3) := by decide +kernel
theorem d_Model_cost_5 : decode prog_8_method_8_code 5 = .ok (.invokestatic 75, 3) := by decide +kernel
theorem d_Model_cost_8 : decode prog_8_method_8_code 8 = .ok (.ifCond .eq 13, 3) := by decide +kernel
theorem d_Model_cost_11 : decode prog_8_method_8_code 11 = .ok (.iload_n 2, 1) := by decide +kernel
theorem d_Model_cost_12 : decode prog_8_method_8_code 12 = .ok (.iconst 0, 1) := by decide +kernel
theorem d_Model_cost_13 : decode prog_8_method_8_code 13 = .ok (.bipush 99, 2) := by decide +kernel
theorem d_Model_cost_15 : decode prog_8_method_8_code 15 = .ok (.invokestatic 75, 3) := by decide +kernel
theorem d_Model_cost_18 : decode prog_8_method_8_code 18 = .ok (.ifCond .ne 5, 3) := by decide +kernel
theorem d_Model_cost_21 : decode prog_8_method_8_code 21 = .ok (.iconst (-1), 1) := by decide +kernel
theorem d_Model_cost_22 : decode prog_8_method_8_code 22 = .ok (.ireturn, 1) := by decide +kernel
theorem d_Model_cost_23 : decode prog_8_method_8_code 23 = .ok (.aload_n 0, 1) := by decide +kernel
theorem d_Model_cost_24 : decode prog_8_method_8_code 24 = .ok (.getfield 25, 3) := by decide +kernel
theorem d_Model_cost_27 : decode prog_8_method_8_code 27 = .ok (.iload_n 1, 1) := by decide +kernel
theorem d_Model_cost_28 : decode prog_8_method_8_code 28 = .ok (.iaload, 1) := by decide +kernel
theorem d_Model_cost_29 : decode prog_8_method_8_code 29 = .ok (.istore_n 3, 1) := by decide +kernel
theorem d_Model_cost_30 : decode prog_8_method_8_code 30 = .ok (.aload_n 0, 1) := by decide +kernel
theorem d_Model_cost_31 : decode prog_8_method_8_code 31 = .ok (.getfield 25, 3) := by decide +kernel
theorem d_Model_cost_34 : decode prog_8_method_8_code 34 = .ok (.iload_n 1, 1) := by decide +kernel
theorem d_Model_cost_35 : decode prog_8_method_8_code 35 = .ok (.iload_n 2, 1) := by decide +kernel
theorem d_Model_cost_36 : decode prog_8_method_8_code 36 = .ok (.iastore, 1) := by decide +kernel
theorem d_Model_cost_37 : decode prog_8_method_8_code 37 = .ok (.iload_n 3, 1) := by decide +kernel
theorem d_Model_cost_38 : decode prog_8_method_8_code 38 = .ok (.ireturn, 1) := by decide +kernel
theorem d_Model_set_0 : decode prog_8_method_9_code 0 = .ok (.iload_n 1, 1) := by decide +kernel
theorem d_Model_set_1 : decode prog_8_method_9_code 1 = .ok (.iconst 0, 1) := by decide +kernel
theorem d_Model_set_2 : decode prog_8_method_9_code 2 = .ok (.ldc 87, 2) := by decide +kernel
theorem d_Model_set_4 : decode prog_8_method_9_code 4 = .ok (.invokestatic 75, 3) := by decide +kernel
theorem d_Model_set_7 : decode prog_8_method_9_code 7 = .ok (.ifCond .eq 14, 3) := by decide +kernel
theorem d_Model_set_10 : decode prog_8_method_9_code 10 = .ok (.iload_n 2, 1) := by decide +kernel
theorem d_Model_set_11 : decode prog_8_method_9_code 11 = .ok (.iconst 4, 1) := by decide +kernel
theorem d_Model_set_12 : decode prog_8_method_9_code 12 = .ok (.sipush 32767, 3) := by decide +kernel
theorem d_Model_set_15 : decode prog_8_method_9_code 15 = .ok (.invokestatic 75, 3) := by decide +kernel
theorem d_Model_set_18 : decode prog_8_method_9_code 18 = .ok (.ifCond .ne 5, 3) := by decide +kernel
theorem d_Model_set_21 : decode prog_8_method_9_code 21 = .ok (.iconst 0, 1) := by decide +kernel
theorem d_Model_set_22 : decode prog_8_method_9_code 22 = .ok (.ireturn, 1) := by decide +kernel
theorem d_Model_set_23 : decode prog_8_method_9_code 23 = .ok (.aload_n 0, 1) := by decide +kernel
theorem d_Model_set_24 : decode prog_8_method_9_code 24 = .ok (.iload_n 1, 1) := by decide +kernel
theorem d_Model_set_25 : decode prog_8_method_9_code 25 = .ok (.putfield 32, 3) := by decide +kernel
theorem d_Model_set_28 : decode prog_8_method_9_code 28 = .ok (.aload_n 0, 1) := by decide +kernel
theorem d_Model_set_29 : decode prog_8_method_9_code 29 = .ok (.iload_n 2, 1) := by decide +kernel
theorem d_Model_set_30 : decode prog_8_method_9_code 30 = .ok (.putfield 36, 3) := by decide +kernel
theorem d_Model_set_33 : decode prog_8_method_9_code 33 = .ok (.iconst 1, 1) := by decide +kernel
theorem d_Model_set_34 : decode prog_8_method_9_code 34 = .ok (.ireturn, 1) := by decide +kernel
theorem d_Model_s4_0 : decode prog_8_method_10_code 0 = .ok (.aload_n 0, 1) := by decide +kernel
theorem d_Model_s4_1 : decode prog_8_method_10_code 1 = .ok (.getfield 45, 3) := by decide +kernel
theorem d_Model_s4_4 : decode prog_8_method_10_code 4 = .ok (.iload_n 1, 1) := by decide +kernel
theorem d_Model_s4_5 : decode prog_8_method_10_code 5 = .ok (.iaload, 1) := by decide +kernel
theorem d_Model_s4_6 : decode prog_8_method_10_code 6 = .ok (.bipush 24, 2) := by decide +kernel
theorem d_Model_s4_8 : decode prog_8_method_10_code 8 = .ok (.ishl, 1) := by decide +kernel
theorem d_Model_s4_9 : decode prog_8_method_10_code 9 = .ok (.aload_n 0, 1) := by decide +kernel
theorem d_Model_s4_10 : decode prog_8_method_10_code 10 = .ok (.getfield 45, 3) := by decide +kernel
theorem d_Model_s4_13 : decode prog_8_method_10_code 13 = .ok (.iload_n 1, 1) := by decide +kernel
theorem d_Model_s4_14 : decode prog_8_method_10_code 14 = .ok (.iconst 1, 1) := by decide +kernel
theorem d_Model_s4_15 : decode prog_8_method_10_code 15 = .ok (.iadd, 1) := by decide +kernel
theorem d_Model_s4_16 : decode prog_8_method_10_code 16 = .ok (.iaload, 1) := by decide +kernel
theorem d_Model_s4_17 : decode prog_8_method_10_code 17 = .ok (.bipush 16, 2) := by decide +kernel
theorem d_Model_s4_19 : decode prog_8_method_10_code 19 = .ok (.ishl, 1) := by decide +kernel
theorem d_Model_s4_20 : decode prog_8_method_10_code 20 = .ok (.ior, 1) := by decide +kernel
theorem d_Model_s4_21 : decode prog_8_method_10_code 21 = .ok (.aload_n 0, 1) := by decide +kernel
theorem d_Model_s4_22 : decode prog_8_method_10_code 22 = .ok (.getfield 45, 3) := by decide +kernel
theorem d_Model_s4_25 : decode prog_8_method_10_code 25 = .ok (.iload_n 1, 1) := by decide +kernel
theorem d_Model_s4_26 : decode prog_8_method_10_code 26 = .ok (.iconst 2, 1) := by decide +kernel
theorem d_Model_s4_27 : decode prog_8_method_10_code 27 = .ok (.iadd, 1) := by decide +kernel
theorem d_Model_s4_28 : decode prog_8_method_10_code 28 = .ok (.iaload, 1) := by decide +kernel
theorem d_Model_s4_29 : decode prog_8_method_10_code 29 = .ok (.bipush 8, 2) := by decide +kernel
theorem d_Model_s4_31 : decode prog_8_method_10_code 31 = .ok (.ishl, 1) := by decide +kernel
theorem d_Model_s4_32 : decode prog_8_method_10_code 32 = .ok (.ior, 1) := by decide +kernel
theorem d_Model_s4_33 : decode prog_8_method_10_code 33 = .ok (.aload_n 0, 1) := by decide +kernel
theorem d_Model_s4_34 : decode prog_8_method_10_code 34 = .ok (.getfield 45, 3) := by decide +kernel
theorem d_Model_s4_37 : decode prog_8_method_10_code 37 = .ok (.iload_n 1, 1) := by decide +kernel
theorem d_Model_s4_38 : decode prog_8_method_10_code 38 = .ok (.iconst 3, 1) := by decide +kernel
theorem d_Model_s4_39 : decode prog_8_method_10_code 39 = .ok (.iadd, 1) := by decide +kernel
theorem d_Model_s4_40 : decode prog_8_method_10_code 40 = .ok (.iaload, 1) := by decide +kernel
theorem d_Model_s4_41 : decode prog_8_method_10_code 41 = .ok (.ior, 1) := by decide +kernel
theorem d_Model_s4_42 : decode prog_8_method_10_code 42 = .ok (.ireturn, 1) := by decide +kernel
theorem d_Model_isJump_0 : decode prog_8_method_11_code 0 = .ok (.iload_n 0, 1) := by decide +kernel
theorem d_Model_isJump_1 : decode prog_8_method_11_code 1 = .ok (.sipush 153, 3) := by decide +kernel
theorem d_Model_isJump_4 : decode prog_8_method_11_code 4 = .ok (.sipush 167, 3) := by decide +kernel
theorem d_Model_isJump_7 : decode prog_8_method_11_code 7 = .ok (.invokestatic 75, 3) := by decide +kernel
theorem d_Model_isJump_10 : decode prog_8_method_11_code 10 = .ok (.ifCond .ne 16, 3) := by decide +kernel
theorem d_Model_isJump_13 : decode prog_8_method_11_code 13 = .ok (.iload_n 0, 1) := by decide +kernel
theorem d_Model_isJump_14 : decode prog_8_method_11_code 14 = .ok (.sipush 198, 3) := by decide +kernel
theorem d_Model_isJump_17 : decode prog_8_method_11_code 17 = .ok (.sipush 200, 3) := by decide +kernel
theorem d_Model_isJump_20 : decode prog_8_method_11_code 20 = .ok (.invokestatic 75, 3) := by decide +kernel
theorem d_Model_isJump_23 : decode prog_8_method_11_code 23 = .ok (.ifCond .eq 7, 3) := by decide +kernel
theorem d_Model_isJump_26 : decode prog_8_method_11_code 26 = .ok (.iconst 1, 1) := by decide +kernel
theorem d_Model_isJump_27 : decode prog_8_method_11_code 27 = .ok (.goto 4, 3) := by decide +kernel
theorem d_Model_isJump_30 : decode prog_8_method_11_code 30 = .ok (.iconst 0, 1) := by decide +kernel
theorem d_Model_isJump_31 : decode prog_8_method_11_code 31 = .ok (.ireturn, 1) := by decide +kernel
theorem d_Model_isTable_0 : decode prog_8_method_12_code 0 = .ok (.iload_n 0, 1) := by decide +kernel
theorem d_Model_isTable_1 : decode prog_8_method_12_code 1 = .ok (.sipush 170, 3) := by decide +kernel
theorem d_Model_isTable_4 : decode prog_8_method_12_code 4 = .ok (.if_icmp .eq 10, 3) := by decide +kernel
theorem d_Model_isTable_7 : decode prog_8_method_12_code 7 = .ok (.iload_n 0, 1) := by decide +kernel
theorem d_Model_isTable_8 : decode prog_8_method_12_code 8 = .ok (.sipush 171, 3) := by decide +kernel
theorem d_Model_isTable_11 : decode prog_8_method_12_code 11 = .ok (.if_icmp .ne 7, 3) := by decide +kernel
theorem d_Model_isTable_14 : decode prog_8_method_12_code 14 = .ok (.iconst 1, 1) := by decide +kernel
theorem d_Model_isTable_15 : decode prog_8_method_12_code 15 = .ok (.goto 4, 3) := by decide +kernel
theorem d_Model_isTable_18 : decode prog_8_method_12_code 18 = .ok (.iconst 0, 1) := by decide +kernel
theorem d_Model_isTable_19 : decode prog_8_method_12_code 19 = .ok (.ireturn, 1) := by decide +kernel
theorem d_Model_plain_0 : decode prog_8_method_13_code 0 = .ok (.iload_n 0, 1) := by decide +kernel
theorem d_Model_plain_1 : decode prog_8_method_13_code 1 = .ok (.bipush 16, 2) := by decide +kernel
theorem d_Model_plain_3 : decode prog_8_method_13_code 3 = .ok (.if_icmp .eq 38, 3) := by decide +kernel
theorem d_Model_plain_6 : decode prog_8_method_13_code 6 = .ok (.iload_n 0, 1) := by decide +kernel
theorem d_Model_plain_7 : decode prog_8_method_13_code 7 = .ok (.bipush 18, 2) := by decide +kernel
theorem d_Model_plain_9 : decode prog_8_method_13_code 9 = .ok (.if_icmp .eq 32, 3) := by decide +kernel
theorem d_Model_plain_12 : decode prog_8_method_13_code 12 = .ok (.iload_n 0, 1) := by decide +kernel
theorem d_Model_plain_13 : decode prog_8_method_13_code 13 = .ok (.bipush 21, 2) := by decide +kernel
theorem d_Model_plain_15 : decode prog_8_method_13_code 15 = .ok (.bipush 25, 2) := by decide +kernel
theorem d_Model_plain_17 : decode prog_8_method_13_code 17 = .ok (.invokestatic 75, 3) := by decide +kernel
theorem d_Model_plain_20 : decode prog_8_method_13_code 20 = .ok (.ifCond .ne 21, 3) := by decide +kernel
theorem d_Model_plain_23 : decode prog_8_method_13_code 23 = .ok (.iload_n 0, 1) := by decide +kernel
theorem d_Model_plain_24 : decode prog_8_method_13_code 24 = .ok (.bipush 54, 2) := by decide +kernel
theorem d_Model_plain_26 : decode prog_8_method_13_code 26 = .ok (.bipush 58, 2) := by decide +kernel
theorem d_Model_plain_28 : decode prog_8_method_13_code 28 = .ok (.invokestatic 75, 3) := by decide +kernel
theorem d_Model_plain_31 : decode prog_8_method_13_code 31 = .ok (.ifCond .ne 10, 3) := by decide +kernel
theorem d_Model_plain_34 : decode prog_8_method_13_code 34 = .ok (.iload_n 0, 1) := by decide +kernel
theorem d_Model_plain_35 : decode prog_8_method_13_code 35 = .ok (.sipush 188, 3) := by decide +kernel
theorem d_Model_plain_38 : decode prog_8_method_13_code 38 = .ok (.if_icmp .ne 5, 3) := by decide +kernel
theorem d_Model_plain_41 : decode prog_8_method_13_code 41 = .ok (.iconst 2, 1) := by decide +kernel
theorem d_Model_plain_42 : decode prog_8_method_13_code 42 = .ok (.ireturn, 1) := by decide +kernel
theorem d_Model_plain_43 : decode prog_8_method_13_code 43 = .ok (.iload_n 0, 1) := by decide +kernel
theorem d_Model_plain_44 : decode prog_8_method_13_code 44 = .ok (.bipush 17, 2) := by decide +kernel
theorem d_Model_plain_46 : decode prog_8_method_13_code 46 = .ok (.if_icmp .eq 90, 3) := by decide +kernel
theorem d_Model_plain_49 : decode prog_8_method_13_code 49 = .ok (.iload_n 0, 1) := by decide +kernel
theorem d_Model_plain_50 : decode prog_8_method_13_code 50 = .ok (.bipush 19, 2) := by decide +kernel
theorem d_Model_plain_52 : decode prog_8_method_13_code 52 = .ok (.if_icmp .eq 84, 3) := by decide +kernel
theorem d_Model_plain_55 : decode prog_8_method_13_code 55 = .ok (.iload_n 0, 1) := by decide +kernel
theorem d_Model_plain_56 : decode prog_8_method_13_code 56 = .ok (.bipush 20, 2) := by decide +kernel
theorem d_Model_plain_58 : decode prog_8_method_13_code 58 = .ok (.if_icmp .eq 78, 3) := by decide +kernel
theorem d_Model_plain_61 : decode prog_8_method_13_code 61 = .ok (.iload_n 0, 1) := by decide +kernel
theorem d_Model_plain_62 : decode prog_8_method_13_code 62 = .ok (.sipush 132, 3) := by decide +kernel
theorem d_Model_plain_65 : decode prog_8_method_13_code 65 = .ok (.if_icmp .eq 71, 3) := by decide +kernel
theorem d_Model_plain_68 : decode prog_8_method_13_code 68 = .ok (.iload_n 0, 1) := by decide +kernel
theorem d_Model_plain_69 : decode prog_8_method_13_code 69 = .ok (.sipush 153, 3) := by decide +kernel
theorem d_Model_plain_72 : decode prog_8_method_13_code 72 = .ok (.sipush 167, 3) := by decide +kernel
theorem d_Model_plain_75 : decode prog_8_method_13_code 75 = .ok (.invokestatic 75, 3) := by decide +kernel
theorem d_Model_plain_78 : decode prog_8_method_13_code 78 = .ok (.ifCond .ne 58, 3) := by decide +kernel
theorem d_Model_plain_81 : decode prog_8_method_13_code 81 = .ok (.iload_n 0, 1) := by decide +kernel
theorem d_Model_plain_82 : decode prog_8_method_13_code 82 = .ok (.sipush 178, 3) := by decide +kernel
theorem d_Model_plain_85 : decode prog_8_method_13_code 85 = .ok (.sipush 184, 3) := by decide +kernel
theorem d_Model_plain_88 : decode prog_8_method_13_code 88 = .ok (.invokestatic 75, 3) := by decide +kernel
theorem d_Model_plain_91 : decode prog_8_method_13_code 91 = .ok (.ifCond .ne 45, 3) := by decide +kernel
theorem d_Model_plain_94 : decode prog_8_method_13_code 94 = .ok (.iload_n 0, 1) := by decide +kernel
theorem d_Model_plain_95 : decode prog_8_method_13_code 95 = .ok (.sipush 187, 3) := by decide +kernel
theorem d_Model_plain_98 : decode prog_8_method_13_code 98 = .ok (.if_icmp .eq 38, 3) := by decide +kernel
theorem d_Model_plain_101 : decode prog_8_method_13_code 101 = .ok (.iload_n 0, 1) := by decide +kernel
theorem d_Model_plain_102 : decode prog_8_method_13_code 102 = .ok (.sipush 189, 3) := by decide +kernel
theorem d_Model_plain_105 : decode prog_8_method_13_code 105 = .ok (.if_icmp .eq 31, 3) := by decide +kernel
theorem d_Model_plain_108 : decode prog_8_method_13_code 108 = .ok (.iload_n 0, 1) := by decide +kernel
theorem d_Model_plain_109 : decode prog_8_method_13_code 109 = .ok (.sipush 192, 3) := by decide +kernel
theorem d_Model_plain_112 : decode prog_8_method_13_code 112 = .ok (.if_icmp .eq 24, 3) := by decide +kernel
theorem d_Model_plain_115 : decode prog_8_method_13_code 115 = .ok (.iload_n 0, 1) := by decide +kernel
theorem d_Model_plain_116 : decode prog_8_method_13_code 116 = .ok (.sipush 193, 3) := by decide +kernel
theorem d_Model_plain_119 : decode prog_8_method_13_code 119 = .ok (.if_icmp .eq 17, 3) := by decide +kernel
theorem d_Model_plain_122 : decode prog_8_method_13_code 122 = .ok (.iload_n 0, 1) := by decide +kernel
theorem d_Model_plain_123 : decode prog_8_method_13_code 123 = .ok (.sipush 198, 3) := by decide +kernel
theorem d_Model_plain_126 : decode prog_8_method_13_code 126 = .ok (.if_icmp .eq 10, 3) := by decide +kernel
theorem d_Model_plain_129 : decode prog_8_method_13_code 129 = .ok (.iload_n 0, 1) := by decide +kernel
theorem d_Model_plain_130 : decode prog_8_method_13_code 130 = .ok (.sipush 199, 3) := by decide +kernel
theorem d_Model_plain_133 : decode prog_8_method_13_code 133 = .ok (.if_icmp .ne 5, 3) := by decide +kernel
theorem d_Model_plain_136 : decode prog_8_method_13_code 136 = .ok (.iconst 3, 1) := by decide +kernel
theorem d_Model_plain_137 : decode prog_8_method_13_code 137 = .ok (.ireturn, 1) := by decide +kernel
theorem d_Model_plain_138 : decode prog_8_method_13_code 138 = .ok (.iload_n 0, 1) := by decide +kernel
theorem d_Model_plain_139 : decode prog_8_method_13_code 139 = .ok (.sipush 197, 3) := by decide +kernel
theorem d_Model_plain_142 : decode prog_8_method_13_code 142 = .ok (.if_icmp .ne 7, 3) := by decide +kernel
theorem d_Model_plain_145 : decode prog_8_method_13_code 145 = .ok (.iconst 4, 1) := by decide +kernel
theorem d_Model_plain_146 : decode prog_8_method_13_code 146 = .ok (.goto 29, 3) := by decide +kernel
theorem d_Model_plain_149 : decode prog_8_method_13_code 149 = .ok (.iload_n 0, 1) := by decide +kernel
theorem d_Model_plain_150 : decode prog_8_method_13_code 150 = .ok (.sipush 185, 3) := by decide +kernel
theorem d_Model_plain_153 : decode prog_8_method_13_code 153 = .ok (.if_icmp .eq 17, 3) := by decide +kernel
theorem d_Model_plain_156 : decode prog_8_method_13_code 156 = .ok (.iload_n 0, 1) := by decide +kernel
theorem d_Model_plain_157 : decode prog_8_method_13_code 157 = .ok (.sipush 186, 3) := by decide +kernel
theorem d_Model_plain_160 : decode prog_8_method_13_code 160 = .ok (.if_icmp .eq 10, 3) := by decide +kernel
theorem d_Model_plain_163 : decode prog_8_method_13_code 163 = .ok (.iload_n 0, 1) := by decide +kernel
theorem d_Model_plain_164 : decode prog_8_method_13_code 164 = .ok (.sipush 200, 3) := by decide +kernel
theorem d_Model_plain_167 : decode prog_8_method_13_code 167 = .ok (.if_icmp .ne 7, 3) := by decide +kernel
theorem d_Model_plain_170 : decode prog_8_method_13_code 170 = .ok (.iconst 5, 1) := by decide +kernel
theorem d_Model_plain_171 : decode prog_8_method_13_code 171 = .ok (.goto 4, 3) := by decide +kernel
theorem d_Model_plain_174 : decode prog_8_method_13_code 174 = .ok (.iconst 1, 1) := by decide +kernel
theorem d_Model_plain_175 : decode prog_8_method_13_code 175 = .ok (.ireturn, 1) := by decide +kernel
theorem d_Model_length_0 : decode prog_8_method_14_code 0 = .ok (.aload_n 0, 1) := by decide +kernel
theorem d_Model_length_1 : decode prog_8_method_14_code 1 = .ok (.getfield 45, 3) := by decide +kernel
theorem d_Model_length_4 : decode prog_8_method_14_code 4 = .ok (.iload_n 1, 1) := by decide +kernel
theorem d_Model_length_5 : decode prog_8_method_14_code 5 = .ok (.iaload, 1) := by decide +kernel
theorem d_Model_length_6 : decode prog_8_method_14_code 6 = .ok (.istore_n 2, 1) := by decide +kernel
theorem d_Model_length_7 : decode prog_8_method_14_code 7 = .ok (.iload_n 2, 1) := by decide +kernel
theorem d_Model_length_8 : decode prog_8_method_14_code 8 = .ok (.invokestatic 88, 3) := by decide +kernel
theorem d_Model_length_11 : decode prog_8_method_14_code 11 = .ok (.istore_n 3, 1) := by decide +kernel
theorem d_Model_length_12 : decode prog_8_method_14_code 12 = .ok (.iload_n 2, 1) := by decide +kernel
theorem d_Model_length_13 : decode prog_8_method_14_code 13 = .ok (.sipush 200, 3) := by decide +kernel
theorem d_Model_length_16 : decode prog_8_method_14_code 16 = .ok (.if_icmp .gt 17, 3) := by decide +kernel
theorem d_Model_length_19 : decode prog_8_method_14_code 19 = .ok (.iload_n 2, 1) := by decide +kernel
theorem d_Model_length_20 : decode prog_8_method_14_code 20 = .ok (.sipush 168, 3) := by decide +kernel
theorem d_Model_length_23 : decode prog_8_method_14_code 23 = .ok (.if_icmp .eq 10, 3) := by decide +kernel
theorem d_Model_length_26 : decode prog_8_method_14_code 26 = .ok (.iload_n 2, 1) := by decide +kernel
theorem d_Model_length_27 : decode prog_8_method_14_code 27 = .ok (.sipush 169, 3) := by decide +kernel
theorem d_Model_length_30 : decode prog_8_method_14_code 30 = .ok (.if_icmp .ne 5, 3) := by decide +kernel
theorem d_Model_length_33 : decode prog_8_method_14_code 33 = .ok (.iconst 0, 1) := by decide +kernel
theorem d_Model_length_34 : decode prog_8_method_14_code 34 = .ok (.ireturn, 1) := by decide +kernel
theorem d_Model_length_35 : decode prog_8_method_14_code 35 = .ok (.iload_n 2, 1) := by decide +kernel
theorem d_Model_length_36 : decode prog_8_method_14_code 36 = .ok (.sipush 196, 3) := by decide +kernel
theorem d_Model_length_39 : decode prog_8_method_14_code 39 = .ok (.if_icmp .ne 73, 3) := by decide +kernel
theorem d_Model_length_42 : decode prog_8_method_14_code 42 = .ok (.iload_n 1, 1) := by decide +kernel
theorem d_Model_length_43 : decode prog_8_method_14_code 43 = .ok (.iconst 1, 1) := by decide +kernel
theorem d_Model_length_44 : decode prog_8_method_14_code 44 = .ok (.iadd, 1) := by decide +kernel
theorem d_Model_length_45 : decode prog_8_method_14_code 45 = .ok (.aload_n 0, 1) := by decide +kernel
theorem d_Model_length_46 : decode prog_8_method_14_code 46 = .ok (.getfield 92, 3) := by decide +kernel
theorem d_Model_length_49 : decode prog_8_method_14_code 49 = .ok (.if_icmp .ge 14, 3) := by decide +kernel
theorem d_Model_length_52 : decode prog_8_method_14_code 52 = .ok (.aload_n 0, 1) := by decide +kernel
theorem d_Model_length_53 : decode prog_8_method_14_code 53 = .ok (.getfield 45, 3) := by decide +kernel
theorem d_Model_length_56 : decode prog_8_method_14_code 56 = .ok (.iload_n 1, 1) := by decide +kernel
theorem d_Model_length_57 : decode prog_8_method_14_code 57 = .ok (.iconst 1, 1) := by decide +kernel
theorem d_Model_length_58 : decode prog_8_method_14_code 58 = .ok (.iadd, 1) := by decide +kernel
theorem d_Model_length_59 : decode prog_8_method_14_code 59 = .ok (.iaload, 1) := by decide +kernel
theorem d_Model_length_60 : decode prog_8_method_14_code 60 = .ok (.goto 4, 3) := by decide +kernel
theorem d_Model_length_63 : decode prog_8_method_14_code 63 = .ok (.iconst 0, 1) := by decide +kernel
theorem d_Model_length_64 : decode prog_8_method_14_code 64 = .ok (.istore 4, 2) := by decide +kernel
theorem d_Model_length_66 : decode prog_8_method_14_code 66 = .ok (.iload 4, 2) := by decide +kernel
theorem d_Model_length_68 : decode prog_8_method_14_code 68 = .ok (.bipush 21, 2) := by decide +kernel
theorem d_Model_length_70 : decode prog_8_method_14_code 70 = .ok (.bipush 25, 2) := by decide +kernel
theorem d_Model_length_72 : decode prog_8_method_14_code 72 = .ok (.invokestatic 75, 3) := by decide +kernel
theorem d_Model_length_75 : decode prog_8_method_14_code 75 = .ok (.ifCond .ne 15, 3) := by decide +kernel
theorem d_Model_length_78 : decode prog_8_method_14_code 78 = .ok (.iload 4, 2) := by decide +kernel
theorem d_Model_length_80 : decode prog_8_method_14_code 80 = .ok (.bipush 54, 2) := by decide +kernel
theorem d_Model_length_82 : decode prog_8_method_14_code 82 = .ok (.bipush 58, 2) := by decide +kernel
theorem d_Model_length_84 : decode prog_8_method_14_code 84 = .ok (.invokestatic 75, 3) := by decide +kernel
theorem d_Model_length_87 : decode prog_8_method_14_code 87 = .ok (.ifCond .eq 7, 3) := by decide +kernel
theorem d_Model_length_90 : decode prog_8_method_14_code 90 = .ok (.iconst 4, 1) := by decide +kernel
theorem d_Model_length_91 : decode prog_8_method_14_code 91 = .ok (.goto 17, 3) := by decide +kernel
theorem d_Model_length_94 : decode prog_8_method_14_code 94 = .ok (.iload 4, 2) := by decide +kernel
theorem d_Model_length_96 : decode prog_8_method_14_code 96 = .ok (.sipush 132, 3) := by decide +kernel
theorem d_Model_length_99 : decode prog_8_method_14_code 99 = .ok (.if_icmp .ne 8, 3) := by decide +kernel
theorem d_Model_length_102 : decode prog_8_method_14_code 102 = .ok (.bipush 6, 2) := by decide +kernel
theorem d_Model_length_104 : decode prog_8_method_14_code 104 = .ok (.goto 4, 3) := by decide +kernel
theorem d_Model_length_107 : decode prog_8_method_14_code 107 = .ok (.iconst 0, 1) := by decide +kernel
theorem d_Model_length_108 : decode prog_8_method_14_code 108 = .ok (.istore_n 3, 1) := by decide +kernel
theorem d_Model_length_109 : decode prog_8_method_14_code 109 = .ok (.goto 135, 3) := by decide +kernel
theorem d_Model_length_112 : decode prog_8_method_14_code 112 = .ok (.iload_n 2, 1) := by decide +kernel
theorem d_Model_length_113 : decode prog_8_method_14_code 113 = .ok (.invokestatic 95, 3) := by decide +kernel
theorem d_Model_length_116 : decode prog_8_method_14_code 116 = .ok (.ifCond .eq 128, 3) := by decide +kernel
theorem d_Model_length_119 : decode prog_8_method_14_code 119 = .ok (.iconst 4, 1) := by decide +kernel
theorem d_Model_length_120 : decode prog_8_method_14_code 120 = .ok (.iload_n 1, 1) := by decide +kernel
theorem d_Model_length_121 : decode prog_8_method_14_code 121 = .ok (.iconst 4, 1) := by decide +kernel
theorem d_Model_length_122 : decode prog_8_method_14_code 122 = .ok (.irem, 1) := by decide +kernel
theorem d_Model_length_123 : decode prog_8_method_14_code 123 = .ok (.isub, 1) := by decide +kernel
theorem d_Model_length_124 : decode prog_8_method_14_code 124 = .ok (.iload_n 2, 1) := by decide +kernel
theorem d_Model_length_125 : decode prog_8_method_14_code 125 = .ok (.sipush 170, 3) := by decide +kernel
theorem d_Model_length_128 : decode prog_8_method_14_code 128 = .ok (.if_icmp .ne 8, 3) := by decide +kernel
theorem d_Model_length_131 : decode prog_8_method_14_code 131 = .ok (.bipush 12, 2) := by decide +kernel
theorem d_Model_length_133 : decode prog_8_method_14_code 133 = .ok (.goto 5, 3) := by decide +kernel
theorem d_Model_length_136 : decode prog_8_method_14_code 136 = .ok (.bipush 8, 2) := by decide +kernel
theorem d_Model_length_138 : decode prog_8_method_14_code 138 = .ok (.iadd, 1) := by decide +kernel
theorem d_Model_length_139 : decode prog_8_method_14_code 139 = .ok (.istore 4, 2) := by decide +kernel
theorem d_Model_length_141 : decode prog_8_method_14_code 141 = .ok (.iload_n 1, 1) := by decide +kernel
theorem d_Model_length_142 : decode prog_8_method_14_code 142 = .ok (.iload 4, 2) := by decide +kernel
theorem d_Model_length_144 : decode prog_8_method_14_code 144 = .ok (.iadd, 1) := by decide +kernel
theorem d_Model_length_145 : decode prog_8_method_14_code 145 = .ok (.aload_n 0, 1) := by decide +kernel
theorem d_Model_length_146 : decode prog_8_method_14_code 146 = .ok (.getfield 92, 3) := by decide +kernel
theorem d_Model_length_149 : decode prog_8_method_14_code 149 = .ok (.if_icmp .le 5, 3) := by decide +kernel
theorem d_Model_length_152 : decode prog_8_method_14_code 152 = .ok (.iconst 0, 1) := by decide +kernel
theorem d_Model_length_153 : decode prog_8_method_14_code 153 = .ok (.ireturn, 1) := by decide +kernel
theorem d_Model_length_154 : decode prog_8_method_14_code 154 = .ok (.aload_n 0, 1) := by decide +kernel
theorem d_Model_length_155 : decode prog_8_method_14_code 155 = .ok (.iload_n 1, 1) := by decide +kernel
theorem d_Model_length_156 : decode prog_8_method_14_code 156 = .ok (.iload 4, 2) := by decide +kernel
theorem d_Model_length_158 : decode prog_8_method_14_code 158 = .ok (.iadd, 1) := by decide +kernel
theorem d_Model_length_159 : decode prog_8_method_14_code 159 = .ok (.iconst 4, 1) := by decide +kernel
theorem d_Model_length_160 : decode prog_8_method_14_code 160 = .ok (.isub, 1) := by decide +kernel
theorem d_Model_length_161 : decode prog_8_method_14_code 161 = .ok (.invokevirtual 99, 3) := by decide +kernel
theorem d_Model_length_164 : decode prog_8_method_14_code 164 = .ok (.i2l, 1) := by decide +kernel
theorem d_Model_length_165 : decode prog_8_method_14_code 165 = .ok (.lstore 5, 2) := by decide +kernel
theorem d_Model_length_167 : decode prog_8_method_14_code 167 = .ok (.iload_n 2, 1) := by decide +kernel
theorem d_Model_length_168 : decode prog_8_method_14_code 168 = .ok (.sipush 170, 3) := by decide +kernel
theorem d_Model_length_171 : decode prog_8_method_14_code 171 = .ok (.if_icmp .ne 22, 3) := by decide +kernel
theorem d_Model_length_174 : decode prog_8_method_14_code 174 = .ok (.lload 5, 2) := by decide +kernel
theorem d_Model_length_176 : decode prog_8_method_14_code 176 = .ok (.aload_n 0, 1) := by decide +kernel
theorem d_Model_length_177 : decode prog_8_method_14_code 177 = .ok (.iload_n 1, 1) := by decide +kernel
theorem d_Model_length_178 : decode prog_8_method_14_code 178 = .ok (.iload 4, 2) := by decide +kernel
theorem d_Model_length_180 : decode prog_8_method_14_code 180 = .ok (.iadd, 1) := by decide +kernel
theorem d_Model_length_181 : decode prog_8_method_14_code 181 = .ok (.bipush 8, 2) := by decide +kernel
theorem d_Model_length_183 : decode prog_8_method_14_code 183 = .ok (.isub, 1) := by decide +kernel
theorem d_Model_length_184 : decode prog_8_method_14_code 184 = .ok (.invokevirtual 99, 3) := by decide +kernel
theorem d_Model_length_187 : decode prog_8_method_14_code 187 = .ok (.i2l, 1) := by decide +kernel
theorem d_Model_length_188 : decode prog_8_method_14_code 188 = .ok (.lsub, 1) := by decide +kernel
theorem d_Model_length_189 : decode prog_8_method_14_code 189 = .ok (.lconst 1, 1) := by decide +kernel
theorem d_Model_length_190 : decode prog_8_method_14_code 190 = .ok (.ladd, 1) := by decide +kernel
theorem d_Model_length_191 : decode prog_8_method_14_code 191 = .ok (.lstore 5, 2) := by decide +kernel
theorem d_Model_length_193 : decode prog_8_method_14_code 193 = .ok (.lload 5, 2) := by decide +kernel
theorem d_Model_length_195 : decode prog_8_method_14_code 195 = .ok (.iload_n 2, 1) := by decide +kernel
theorem d_Model_length_196 : decode prog_8_method_14_code 196 = .ok (.sipush 170, 3) := by decide +kernel
theorem d_Model_length_199 : decode prog_8_method_14_code 199 = .ok (.if_icmp .ne 7, 3) := by decide +kernel
theorem d_Model_length_202 : decode prog_8_method_14_code 202 = .ok (.iconst 1, 1) := by decide +kernel
theorem d_Model_length_203 : decode prog_8_method_14_code 203 = .ok (.goto 4, 3) := by decide +kernel
theorem d_Model_length_206 : decode prog_8_method_14_code 206 = .ok (.iconst 0, 1) := by decide +kernel
theorem d_Model_length_207 : decode prog_8_method_14_code 207 = .ok (.i2l, 1) := by decide +kernel
theorem d_Model_length_208 : decode prog_8_method_14_code 208 = .ok (.lcmp, 1) := by decide +kernel
theorem d_Model_length_209 : decode prog_8_method_14_code 209 = .ok (.ifCond .lt 12, 3) := by decide +kernel
theorem d_Model_length_212 : decode prog_8_method_14_code 212 = .ok (.lload 5, 2) := by decide +kernel
theorem d_Model_length_214 : decode prog_8_method_14_code 214 = .ok (.ldc2_w 102, 3) := by decide +kernel
theorem d_Model_length_217 : decode prog_8_method_14_code 217 = .ok (.lcmp, 1) := by decide +kernel
theorem d_Model_length_218 : decode prog_8_method_14_code 218 = .ok (.ifCond .le 5, 3) := by decide +kernel
theorem d_Model_length_221 : decode prog_8_method_14_code 221 = .ok (.iconst 0, 1) := by decide +kernel
theorem d_Model_length_222 : decode prog_8_method_14_code 222 = .ok (.ireturn, 1) := by decide +kernel
theorem d_Model_length_223 : decode prog_8_method_14_code 223 = .ok (.iload 4, 2) := by decide +kernel
theorem d_Model_length_225 : decode prog_8_method_14_code 225 = .ok (.iload_n 2, 1) := by decide +kernel
theorem d_Model_length_226 : decode prog_8_method_14_code 226 = .ok (.sipush 170, 3) := by decide +kernel
theorem d_Model_length_229 : decode prog_8_method_14_code 229 = .ok (.if_icmp .ne 7, 3) := by decide +kernel
theorem d_Model_length_232 : decode prog_8_method_14_code 232 = .ok (.iconst 4, 1) := by decide +kernel
theorem d_Model_length_233 : decode prog_8_method_14_code 233 = .ok (.goto 5, 3) := by decide +kernel
theorem d_Model_length_236 : decode prog_8_method_14_code 236 = .ok (.bipush 8, 2) := by decide +kernel
theorem d_Model_length_238 : decode prog_8_method_14_code 238 = .ok (.lload 5, 2) := by decide +kernel
theorem d_Model_length_240 : decode prog_8_method_14_code 240 = .ok (.l2i, 1) := by decide +kernel
theorem d_Model_length_241 : decode prog_8_method_14_code 241 = .ok (.imul, 1) := by decide +kernel
theorem d_Model_length_242 : decode prog_8_method_14_code 242 = .ok (.iadd, 1) := by decide +kernel
theorem d_Model_length_243 : decode prog_8_method_14_code 243 = .ok (.istore_n 3, 1) := by decide +kernel
theorem d_Model_length_244 : decode prog_8_method_14_code 244 = .ok (.iload_n 1, 1) := by decide +kernel
theorem d_Model_length_245 : decode prog_8_method_14_code 245 = .ok (.iload_n 3, 1) := by decide +kernel
theorem d_Model_length_246 : decode prog_8_method_14_code 246 = .ok (.iadd, 1) := by decide +kernel
theorem d_Model_length_247 : decode prog_8_method_14_code 247 = .ok (.aload_n 0, 1) := by decide +kernel
theorem d_Model_length_248 : decode prog_8_method_14_code 248 = .ok (.getfield 92, 3) := by decide +kernel
theorem d_Model_length_251 : decode prog_8_method_14_code 251 = .ok (.if_icmp .le 7, 3) := by decide +kernel
theorem d_Model_length_254 : decode prog_8_method_14_code 254 = .ok (.iconst 0, 1) := by decide +kernel
theorem d_Model_length_255 : decode prog_8_method_14_code 255 = .ok (.goto 4, 3) := by decide +kernel
theorem d_Model_length_258 : decode prog_8_method_14_code 258 = .ok (.iload_n 3, 1) := by decide +kernel
theorem d_Model_length_259 : decode prog_8_method_14_code 259 = .ok (.ireturn, 1) := by decide +kernel
theorem d_Model_goals_0 : decode prog_8_method_15_code 0 = .ok (.aload_n 0, 1) := by decide +kernel
theorem d_Model_goals_1 : decode prog_8_method_15_code 1 = .ok (.getfield 45, 3) := by decide +kernel
theorem d_Model_goals_4 : decode prog_8_method_15_code 4 = .ok (.iload_n 1, 1) := by decide +kernel
theorem d_Model_goals_5 : decode prog_8_method_15_code 5 = .ok (.iaload, 1) := by decide +kernel
theorem d_Model_goals_6 : decode prog_8_method_15_code 6 = .ok (.istore_n 2, 1) := by decide +kernel
theorem d_Model_goals_7 : decode prog_8_method_15_code 7 = .ok (.iconst 4, 1) := by decide +kernel
theorem d_Model_goals_8 : decode prog_8_method_15_code 8 = .ok (.iload_n 1, 1) := by decide +kernel
theorem d_Model_goals_9 : decode prog_8_method_15_code 9 = .ok (.iconst 4, 1) := by decide +kernel
theorem d_Model_goals_10 : decode prog_8_method_15_code 10 = .ok (.irem, 1) := by decide +kernel
theorem d_Model_goals_11 : decode prog_8_method_15_code 11 = .ok (.isub, 1) := by decide +kernel
theorem d_Model_goals_12 : decode prog_8_method_15_code 12 = .ok (.iload_n 2, 1) := by decide +kernel
theorem d_Model_goals_13 : decode prog_8_method_15_code 13 = .ok (.sipush 170, 3) := by decide +kernel
theorem d_Model_goals_16 : decode prog_8_method_15_code 16 = .ok (.if_icmp .ne 8, 3) := by decide +kernel
theorem d_Model_goals_19 : decode prog_8_method_15_code 19 = .ok (.bipush 12, 2) := by decide +kernel
theorem d_Model_goals_21 : decode prog_8_method_15_code 21 = .ok (.goto 5, 3) := by decide +kernel
theorem d_Model_goals_24 : decode prog_8_method_15_code 24 = .ok (.bipush 8, 2) := by decide +kernel
theorem d_Model_goals_26 : decode prog_8_method_15_code 26 = .ok (.iadd, 1) := by decide +kernel
theorem d_Model_goals_27 : decode prog_8_method_15_code 27 = .ok (.istore_n 3, 1) := by decide +kernel
theorem d_Model_goals_28 : decode prog_8_method_15_code 28 = .ok (.iload_n 2, 1) := by decide +kernel
theorem d_Model_goals_29 : decode prog_8_method_15_code 29 = .ok (.invokestatic 95, 3) := by decide +kernel
theorem d_Model_goals_32 : decode prog_8_method_15_code 32 = .ok (.ifCond .ne 16, 3) := by decide +kernel
theorem d_Model_goals_35 : decode prog_8_method_15_code 35 = .ok (.iload_n 2, 1) := by decide +kernel
theorem d_Model_goals_36 : decode prog_8_method_15_code 36 = .ok (.invokestatic 104, 3) := by decide +kernel
theorem d_Model_goals_39 : decode prog_8_method_15_code 39 = .ok (.ifCond .eq 7, 3) := by decide +kernel
theorem d_Model_goals_42 : decode prog_8_method_15_code 42 = .ok (.iconst 1, 1) := by decide +kernel
theorem d_Model_goals_43 : decode prog_8_method_15_code 43 = .ok (.goto 4, 3) := by decide +kernel
theorem d_Model_goals_46 : decode prog_8_method_15_code 46 = .ok (.iconst 0, 1) := by decide +kernel
theorem d_Model_goals_47 : decode prog_8_method_15_code 47 = .ok (.ireturn, 1) := by decide +kernel
theorem d_Model_goals_48 : decode prog_8_method_15_code 48 = .ok (.iconst 1, 1) := by decide +kernel
theorem d_Model_goals_49 : decode prog_8_method_15_code 49 = .ok (.aload_n 0, 1) := by decide +kernel
theorem d_Model_goals_50 : decode prog_8_method_15_code 50 = .ok (.iload_n 1, 1) := by decide +kernel
theorem d_Model_goals_51 : decode prog_8_method_15_code 51 = .ok (.invokevirtual 107, 3) := by decide +kernel
theorem d_Model_goals_54 : decode prog_8_method_15_code 54 = .ok (.iload_n 3, 1) := by decide +kernel
theorem d_Model_goals_55 : decode prog_8_method_15_code 55 = .ok (.isub, 1) := by decide +kernel
theorem d_Model_goals_56 : decode prog_8_method_15_code 56 = .ok (.iload_n 2, 1) := by decide +kernel
theorem d_Model_goals_57 : decode prog_8_method_15_code 57 = .ok (.sipush 170, 3) := by decide +kernel
theorem d_Model_goals_60 : decode prog_8_method_15_code 60 = .ok (.if_icmp .ne 7, 3) := by decide +kernel
theorem d_Model_goals_63 : decode prog_8_method_15_code 63 = .ok (.iconst 4, 1) := by decide +kernel
theorem d_Model_goals_64 : decode prog_8_method_15_code 64 = .ok (.goto 5, 3) := by decide +kernel
theorem d_Model_goals_67 : decode prog_8_method_15_code 67 = .ok (.bipush 8, 2) := by decide +kernel
theorem d_Model_goals_69 : decode prog_8_method_15_code 69 = .ok (.idiv, 1) := by decide +kernel
theorem d_Model_goals_70 : decode prog_8_method_15_code 70 = .ok (.iadd, 1) := by decide +kernel
theorem d_Model_goals_71 : decode prog_8_method_15_code 71 = .ok (.ireturn, 1) := by decide +kernel
theorem d_Model_placeOfGoal_0 : decode prog_8_method_16_code 0 = .ok (.aload_n 0, 1) := by decide +kernel
theorem d_Model_placeOfGoal_1 : decode prog_8_method_16_code 1 = .ok (.getfield 45, 3) := by decide +kernel
theorem d_Model_placeOfGoal_4 : decode prog_8_method_16_code 4 = .ok (.iload_n 1, 1) := by decide +kernel
theorem d_Model_placeOfGoal_5 : decode prog_8_method_16_code 5 = .ok (.iaload, 1) := by decide +kernel
theorem d_Model_placeOfGoal_6 : decode prog_8_method_16_code 6 = .ok (.istore_n 3, 1) := by decide +kernel
theorem d_Model_placeOfGoal_7 : decode prog_8_method_16_code 7 = .ok (.iload_n 1, 1) := by decide +kernel
theorem d_Model_placeOfGoal_8 : decode prog_8_method_16_code 8 = .ok (.iconst 4, 1) := by decide +kernel
theorem d_Model_placeOfGoal_9 : decode prog_8_method_16_code 9 = .ok (.iadd, 1) := by decide +kernel
theorem d_Model_placeOfGoal_10 : decode prog_8_method_16_code 10 = .ok (.iload_n 1, 1) := by decide +kernel
theorem d_Model_placeOfGoal_11 : decode prog_8_method_16_code 11 = .ok (.iconst 4, 1) := by decide +kernel
theorem d_Model_placeOfGoal_12 : decode prog_8_method_16_code 12 = .ok (.irem, 1) := by decide +kernel
theorem d_Model_placeOfGoal_13 : decode prog_8_method_16_code 13 = .ok (.isub, 1) := by decide +kernel
theorem d_Model_placeOfGoal_14 : decode prog_8_method_16_code 14 = .ok (.istore 4, 2) := by decide +kernel
theorem d_Model_placeOfGoal_16 : decode prog_8_method_16_code 16 = .ok (.iload_n 2, 1) := by decide +kernel
theorem d_Model_placeOfGoal_17 : decode prog_8_method_16_code 17 = .ok (.ifCond .ne 8, 3) := by decide +kernel
theorem d_Model_placeOfGoal_20 : decode prog_8_method_16_code 20 = .ok (.iload 4, 2) := by decide +kernel
theorem d_Model_placeOfGoal_22 : decode prog_8_method_16_code 22 = .ok (.goto 31, 3) := by decide +kernel
theorem d_Model_placeOfGoal_25 : decode prog_8_method_16_code 25 = .ok (.iload_n 3, 1) := by decide +kernel
theorem d_Model_placeOfGoal_26 : decode prog_8_method_16_code 26 = .ok (.sipush 170, 3) := by decide +kernel
theorem d_Model_placeOfGoal_29 : decode prog_8_method_16_code 29 = .ok (.if_icmp .ne 15, 3) := by decide +kernel
theorem d_Model_placeOfGoal_32 : decode prog_8_method_16_code 32 = .ok (.iload 4, 2) := by decide +kernel
theorem d_Model_placeOfGoal_34 : decode prog_8_method_16_code 34 = .ok (.bipush 8, 2) := by decide +kernel
theorem d_Model_placeOfGoal_36 : decode prog_8_method_16_code 36 = .ok (.iadd, 1) := by decide +kernel
theorem d_Model_placeOfGoal_37 : decode prog_8_method_16_code 37 = .ok (.iconst 4, 1) := by decide +kernel
theorem d_Model_placeOfGoal_38 : decode prog_8_method_16_code 38 = .ok (.iload_n 2, 1) := by decide +kernel
theorem d_Model_placeOfGoal_39 : decode prog_8_method_16_code 39 = .ok (.imul, 1) := by decide +kernel
theorem d_Model_placeOfGoal_40 : decode prog_8_method_16_code 40 = .ok (.iadd, 1) := by decide +kernel
theorem d_Model_placeOfGoal_41 : decode prog_8_method_16_code 41 = .ok (.goto 12, 3) := by decide +kernel
theorem d_Model_placeOfGoal_44 : decode prog_8_method_16_code 44 = .ok (.iload 4, 2) := by decide +kernel
theorem d_Model_placeOfGoal_46 : decode prog_8_method_16_code 46 = .ok (.iconst 4, 1) := by decide +kernel
theorem d_Model_placeOfGoal_47 : decode prog_8_method_16_code 47 = .ok (.iadd, 1) := by decide +kernel
theorem d_Model_placeOfGoal_48 : decode prog_8_method_16_code 48 = .ok (.bipush 8, 2) := by decide +kernel
theorem d_Model_placeOfGoal_50 : decode prog_8_method_16_code 50 = .ok (.iload_n 2, 1) := by decide +kernel
theorem d_Model_placeOfGoal_51 : decode prog_8_method_16_code 51 = .ok (.imul, 1) := by decide +kernel
theorem d_Model_placeOfGoal_52 : decode prog_8_method_16_code 52 = .ok (.iadd, 1) := by decide +kernel
theorem d_Model_placeOfGoal_53 : decode prog_8_method_16_code 53 = .ok (.ireturn, 1) := by decide +kernel
theorem d_Model_goal_0 : decode prog_8_method_17_code 0 = .ok (.aload_n 0, 1) := by decide +kernel
theorem d_Model_goal_1 : decode prog_8_method_17_code 1 = .ok (.getfield 45, 3) := by decide +kernel
theorem d_Model_goal_4 : decode prog_8_method_17_code 4 = .ok (.iload_n 1, 1) := by decide +kernel
theorem d_Model_goal_5 : decode prog_8_method_17_code 5 = .ok (.iaload, 1) := by decide +kernel
theorem d_Model_goal_6 : decode prog_8_method_17_code 6 = .ok (.istore_n 3, 1) := by decide +kernel
theorem d_Model_goal_7 : decode prog_8_method_17_code 7 = .ok (.iload_n 3, 1) := by decide +kernel
theorem d_Model_goal_8 : decode prog_8_method_17_code 8 = .ok (.invokestatic 95, 3) := by decide +kernel
theorem d_Model_goal_11 : decode prog_8_method_17_code 11 = .ok (.ifCond .eq 16, 3) := by decide +kernel
theorem d_Model_goal_14 : decode prog_8_method_17_code 14 = .ok (.iload_n 1, 1) := by decide +kernel
theorem d_Model_goal_15 : decode prog_8_method_17_code 15 = .ok (.aload_n 0, 1) := by decide +kernel
theorem d_Model_goal_16 : decode prog_8_method_17_code 16 = .ok (.aload_n 0, 1) := by decide +kernel
theorem d_Model_goal_17 : decode prog_8_method_17_code 17 = .ok (.iload_n 1, 1) := by decide +kernel
theorem d_Model_goal_18 : decode prog_8_method_17_code 18 = .ok (.iload_n 2, 1) := by decide +kernel
theorem d_Model_goal_19 : decode prog_8_method_17_code 19 = .ok (.invokevirtual 110, 3) := by decide +kernel
theorem d_Model_goal_22 : decode prog_8_method_17_code 22 = .ok (.invokevirtual 99, 3) := by decide +kernel
theorem d_Model_goal_25 : decode prog_8_method_17_code 25 = .ok (.iadd, 1) := by decide +kernel
theorem d_Model_goal_26 : decode prog_8_method_17_code 26 = .ok (.ireturn, 1) := by decide +kernel
theorem d_Model_goal_27 : decode prog_8_method_17_code 27 = .ok (.iload_n 1, 1) := by decide +kernel
theorem d_Model_goal_28 : decode prog_8_method_17_code 28 = .ok (.iload_n 3, 1) := by decide +kernel
theorem d_Model_goal_29 : decode prog_8_method_17_code 29 = .ok (.sipush 200, 3) := by decide +kernel
theorem d_Model_goal_32 : decode prog_8_method_17_code 32 = .ok (.if_icmp .ne 13, 3) := by decide +kernel
theorem d_Model_goal_35 : decode prog_8_method_17_code 35 = .ok (.aload_n 0, 1) := by decide +kernel
theorem d_Model_goal_36 : decode prog_8_method_17_code 36 = .ok (.iload_n 1, 1) := by decide +kernel
theorem d_Model_goal_37 : decode prog_8_method_17_code 37 = .ok (.iconst 1, 1) := by decide +kernel
theorem d_Model_goal_38 : decode prog_8_method_17_code 38 = .ok (.iadd, 1) := by decide +kernel
theorem d_Model_goal_39 : decode prog_8_method_17_code 39 = .ok (.invokevirtual 99, 3) := by decide +kernel
theorem d_Model_goal_42 : decode prog_8_method_17_code 42 = .ok (.goto 24, 3) := by decide +kernel
theorem d_Model_goal_45 : decode prog_8_method_17_code 45 = .ok (.aload_n 0, 1) := by decide +kernel
theorem d_Model_goal_46 : decode prog_8_method_17_code 46 = .ok (.getfield 45, 3) := by decide +kernel
theorem d_Model_goal_49 : decode prog_8_method_17_code 49 = .ok (.iload_n 1, 1) := by decide +kernel
theorem d_Model_goal_50 : decode prog_8_method_17_code 50 = .ok (.iconst 1, 1) := by decide +kernel
theorem d_Model_goal_51 : decode prog_8_method_17_code 51 = .ok (.iadd, 1) := by decide +kernel
theorem d_Model_goal_52 : decode prog_8_method_17_code 52 = .ok (.iaload, 1) := by decide +kernel
theorem d_Model_goal_53 : decode prog_8_method_17_code 53 = .ok (.bipush 8, 2) := by decide +kernel
theorem d_Model_goal_55 : decode prog_8_method_17_code 55 = .ok (.ishl, 1) := by decide +kernel
theorem d_Model_goal_56 : decode prog_8_method_17_code 56 = .ok (.aload_n 0, 1) := by decide +kernel
theorem d_Model_goal_57 : decode prog_8_method_17_code 57 = .ok (.getfield 45, 3) := by decide +kernel
theorem d_Model_goal_60 : decode prog_8_method_17_code 60 = .ok (.iload_n 1, 1) := by decide +kernel
theorem d_Model_goal_61 : decode prog_8_method_17_code 61 = .ok (.iconst 2, 1) := by decide +kernel
theorem d_Model_goal_62 : decode prog_8_method_17_code 62 = .ok (.iadd, 1) := by decide +kernel
theorem d_Model_goal_63 : decode prog_8_method_17_code 63 = .ok (.iaload, 1) := by decide +kernel
theorem d_Model_goal_64 : decode prog_8_method_17_code 64 = .ok (.ior, 1) := by decide +kernel
theorem d_Model_goal_65 : decode prog_8_method_17_code 65 = .ok (.i2s, 1) := by decide +kernel
theorem d_Model_goal_66 : decode prog_8_method_17_code 66 = .ok (.iadd, 1) := by decide +kernel
theorem d_Model_goal_67 : decode prog_8_method_17_code 67 = .ok (.ireturn, 1) := by decide +kernel
theorem d_Model_begins_0 : decode prog_8_method_18_code 0 = .ok (.iload_n 1, 1) := by decide +kernel
theorem d_Model_begins_1 : decode prog_8_method_18_code 1 = .ok (.iconst 0, 1) := by decide +kernel
theorem d_Model_begins_2 : decode prog_8_method_18_code 2 = .ok (.aload_n 0, 1) := by decide +kernel
theorem d_Model_begins_3 : decode prog_8_method_18_code 3 = .ok (.getfield 92, 3) := by decide +kernel
theorem d_Model_begins_6 : decode prog_8_method_18_code 6 = .ok (.iconst 1, 1) := by decide +kernel
theorem d_Model_begins_7 : decode prog_8_method_18_code 7 = .ok (.isub, 1) := by decide +kernel
theorem d_Model_begins_8 : decode prog_8_method_18_code 8 = .ok (.invokestatic 75, 3) := by decide +kernel
theorem d_Model_begins_11 : decode prog_8_method_18_code 11 = .ok (.ifCond .eq 16, 3) := by decide +kernel
theorem d_Model_begins_14 : decode prog_8_method_18_code 14 = .ok (.aload_n 0, 1) := by decide +kernel
theorem d_Model_begins_15 : decode prog_8_method_18_code 15 = .ok (.getfield 39, 3) := by decide +kernel
theorem d_Model_begins_18 : decode prog_8_method_18_code 18 = .ok (.iload_n 1, 1) := by decide +kernel
theorem d_Model_begins_19 : decode prog_8_method_18_code 19 = .ok (.baload, 1) := by decide +kernel
theorem d_Model_begins_20 : decode prog_8_method_18_code 20 = .ok (.ifCond .eq 7, 3) := by decide +kernel
theorem d_Model_begins_23 : decode prog_8_method_18_code 23 = .ok (.iconst 1, 1) := by decide +kernel
theorem d_Model_begins_24 : decode prog_8_method_18_code 24 = .ok (.goto 4, 3) := by decide +kernel
theorem d_Model_begins_27 : decode prog_8_method_18_code 27 = .ok (.iconst 0, 1) := by decide +kernel
theorem d_Model_begins_28 : decode prog_8_method_18_code 28 = .ok (.ireturn, 1) := by decide +kernel
theorem d_Model_isFormed_0 : decode prog_8_method_19_code 0 = .ok (.aload_n 0, 1) := by decide +kernel
theorem d_Model_isFormed_1 : decode prog_8_method_19_code 1 = .ok (.getfield 92, 3) := by decide +kernel
theorem d_Model_isFormed_4 : decode prog_8_method_19_code 4 = .ok (.ifCond .ne 5, 3) := by decide +kernel
theorem d_Model_isFormed_7 : decode prog_8_method_19_code 7 = .ok (.iconst 0, 1) := by decide +kernel
theorem d_Model_isFormed_8 : decode prog_8_method_19_code 8 = .ok (.ireturn, 1) := by decide +kernel
theorem d_Model_isFormed_9 : decode prog_8_method_19_code 9 = .ok (.iconst 0, 1) := by decide +kernel
theorem d_Model_isFormed_10 : decode prog_8_method_19_code 10 = .ok (.istore_n 1, 1) := by decide +kernel
theorem d_Model_isFormed_11 : decode prog_8_method_19_code 11 = .ok (.iload_n 1, 1) := by decide +kernel
theorem d_Model_isFormed_12 : decode prog_8_method_19_code 12 = .ok (.sipush 200, 3) := by decide +kernel
theorem d_Model_isFormed_15 : decode prog_8_method_19_code 15 = .ok (.if_icmp .gt 16, 3) := by decide +kernel
theorem d_Model_isFormed_18 : decode prog_8_method_19_code 18 = .ok (.aload_n 0, 1) := by decide +kernel
theorem d_Model_isFormed_19 : decode prog_8_method_19_code 19 = .ok (.getfield 39, 3) := by decide +kernel
theorem d_Model_isFormed_22 : decode prog_8_method_19_code 22 = .ok (.iload_n 1, 1) := by decide +kernel
theorem d_Model_isFormed_23 : decode prog_8_method_19_code 23 = .ok (.iconst 0, 1) := by decide +kernel
theorem d_Model_isFormed_24 : decode prog_8_method_19_code 24 = .ok (.bastore, 1) := by decide +kernel
theorem d_Model_isFormed_25 : decode prog_8_method_19_code 25 = .ok (.iinc 1 1, 3) := by decide +kernel
theorem d_Model_isFormed_28 : decode prog_8_method_19_code 28 = .ok (.goto (-17), 3) := by decide +kernel
theorem d_Model_isFormed_31 : decode prog_8_method_19_code 31 = .ok (.iconst 0, 1) := by decide +kernel
theorem d_Model_isFormed_32 : decode prog_8_method_19_code 32 = .ok (.istore_n 1, 1) := by decide +kernel
theorem d_Model_isFormed_33 : decode prog_8_method_19_code 33 = .ok (.iload_n 1, 1) := by decide +kernel
theorem d_Model_isFormed_34 : decode prog_8_method_19_code 34 = .ok (.aload_n 0, 1) := by decide +kernel
theorem d_Model_isFormed_35 : decode prog_8_method_19_code 35 = .ok (.getfield 92, 3) := by decide +kernel
theorem d_Model_isFormed_38 : decode prog_8_method_19_code 38 = .ok (.if_icmp .ge 29, 3) := by decide +kernel
theorem d_Model_isFormed_41 : decode prog_8_method_19_code 41 = .ok (.aload_n 0, 1) := by decide +kernel
theorem d_Model_isFormed_42 : decode prog_8_method_19_code 42 = .ok (.iload_n 1, 1) := by decide +kernel
theorem d_Model_isFormed_43 : decode prog_8_method_19_code 43 = .ok (.invokevirtual 107, 3) := by decide +kernel
theorem d_Model_isFormed_46 : decode prog_8_method_19_code 46 = .ok (.istore_n 2, 1) := by decide +kernel
theorem d_Model_isFormed_47 : decode prog_8_method_19_code 47 = .ok (.iload_n 2, 1) := by decide +kernel
theorem d_Model_isFormed_48 : decode prog_8_method_19_code 48 = .ok (.ifCond .ne 5, 3) := by decide +kernel
theorem d_Model_isFormed_51 : decode prog_8_method_19_code 51 = .ok (.iconst 0, 1) := by decide +kernel
theorem d_Model_isFormed_52 : decode prog_8_method_19_code 52 = .ok (.ireturn, 1) := by decide +kernel
theorem d_Model_isFormed_53 : decode prog_8_method_19_code 53 = .ok (.aload_n 0, 1) := by decide +kernel
theorem d_Model_isFormed_54 : decode prog_8_method_19_code 54 = .ok (.getfield 39, 3) := by decide +kernel
theorem d_Model_isFormed_57 : decode prog_8_method_19_code 57 = .ok (.iload_n 1, 1) := by decide +kernel
theorem d_Model_isFormed_58 : decode prog_8_method_19_code 58 = .ok (.iconst 1, 1) := by decide +kernel
theorem d_Model_isFormed_59 : decode prog_8_method_19_code 59 = .ok (.bastore, 1) := by decide +kernel
theorem d_Model_isFormed_60 : decode prog_8_method_19_code 60 = .ok (.iload_n 1, 1) := by decide +kernel
theorem d_Model_isFormed_61 : decode prog_8_method_19_code 61 = .ok (.iload_n 2, 1) := by decide +kernel
theorem d_Model_isFormed_62 : decode prog_8_method_19_code 62 = .ok (.iadd, 1) := by decide +kernel
theorem d_Model_isFormed_63 : decode prog_8_method_19_code 63 = .ok (.istore_n 1, 1) := by decide +kernel
theorem d_Model_isFormed_64 : decode prog_8_method_19_code 64 = .ok (.goto (-31), 3) := by decide +kernel
theorem d_Model_isFormed_67 : decode prog_8_method_19_code 67 = .ok (.iconst 0, 1) := by decide +kernel
theorem d_Model_isFormed_68 : decode prog_8_method_19_code 68 = .ok (.istore_n 1, 1) := by decide +kernel
theorem d_Model_isFormed_69 : decode prog_8_method_19_code 69 = .ok (.iload_n 1, 1) := by decide +kernel
theorem d_Model_isFormed_70 : decode prog_8_method_19_code 70 = .ok (.aload_n 0, 1) := by decide +kernel
theorem d_Model_isFormed_71 : decode prog_8_method_19_code 71 = .ok (.getfield 92, 3) := by decide +kernel
theorem d_Model_isFormed_74 : decode prog_8_method_19_code 74 = .ok (.if_icmp .ge 60, 3) := by decide +kernel
theorem d_Model_isFormed_77 : decode prog_8_method_19_code 77 = .ok (.aload_n 0, 1) := by decide +kernel
theorem d_Model_isFormed_78 : decode prog_8_method_19_code 78 = .ok (.getfield 39, 3) := by decide +kernel
theorem d_Model_isFormed_81 : decode prog_8_method_19_code 81 = .ok (.iload_n 1, 1) := by decide +kernel
theorem d_Model_isFormed_82 : decode prog_8_method_19_code 82 = .ok (.baload, 1) := by decide +kernel
theorem d_Model_isFormed_83 : decode prog_8_method_19_code 83 = .ok (.ifCond .eq 11, 3) := by decide +kernel
theorem d_Model_isFormed_86 : decode prog_8_method_19_code 86 = .ok (.aload_n 0, 1) := by decide +kernel
theorem d_Model_isFormed_87 : decode prog_8_method_19_code 87 = .ok (.iload_n 1, 1) := by decide +kernel
theorem d_Model_isFormed_88 : decode prog_8_method_19_code 88 = .ok (.invokevirtual 114, 3) := by decide +kernel
theorem d_Model_isFormed_91 : decode prog_8_method_19_code 91 = .ok (.goto 4, 3) := by decide +kernel
theorem d_Model_isFormed_94 : decode prog_8_method_19_code 94 = .ok (.iconst 0, 1) := by decide +kernel
theorem d_Model_isFormed_95 : decode prog_8_method_19_code 95 = .ok (.istore_n 2, 1) := by decide +kernel
theorem d_Model_isFormed_96 : decode prog_8_method_19_code 96 = .ok (.iconst 0, 1) := by decide +kernel
theorem d_Model_isFormed_97 : decode prog_8_method_19_code 97 = .ok (.istore_n 3, 1) := by decide +kernel
theorem d_Model_isFormed_98 : decode prog_8_method_19_code 98 = .ok (.iload_n 3, 1) := by decide +kernel
theorem d_Model_isFormed_99 : decode prog_8_method_19_code 99 = .ok (.iload_n 2, 1) := by decide +kernel
theorem d_Model_isFormed_100 : decode prog_8_method_19_code 100 = .ok (.if_icmp .ge 28, 3) := by decide +kernel
theorem d_Model_isFormed_103 : decode prog_8_method_19_code 103 = .ok (.aload_n 0, 1) := by decide +kernel
theorem d_Model_isFormed_104 : decode prog_8_method_19_code 104 = .ok (.iload_n 1, 1) := by decide +kernel
theorem d_Model_isFormed_105 : decode prog_8_method_19_code 105 = .ok (.iload_n 3, 1) := by decide +kernel
theorem d_Model_isFormed_106 : decode prog_8_method_19_code 106 = .ok (.invokevirtual 117, 3) := by decide +kernel
theorem d_Model_isFormed_109 : decode prog_8_method_19_code 109 = .ok (.istore 4, 2) := by decide +kernel
theorem d_Model_isFormed_111 : decode prog_8_method_19_code 111 = .ok (.aload_n 0, 1) := by decide +kernel
theorem d_Model_isFormed_112 : decode prog_8_method_19_code 112 = .ok (.iload 4, 2) := by decide +kernel
theorem d_Model_isFormed_114 : decode prog_8_method_19_code 114 = .ok (.invokevirtual 120, 3) := by decide +kernel
theorem d_Model_isFormed_117 : decode prog_8_method_19_code 117 = .ok (.ifCond .ne 5, 3) := by decide +kernel
theorem d_Model_isFormed_120 : decode prog_8_method_19_code 120 = .ok (.iconst 0, 1) := by decide +kernel
theorem d_Model_isFormed_121 : decode prog_8_method_19_code 121 = .ok (.ireturn, 1) := by decide +kernel
theorem d_Model_isFormed_122 : decode prog_8_method_19_code 122 = .ok (.iinc 3 1, 3) := by decide +kernel
theorem d_Model_isFormed_125 : decode prog_8_method_19_code 125 = .ok (.goto (-27), 3) := by decide +kernel
theorem d_Model_isFormed_128 : decode prog_8_method_19_code 128 = .ok (.iinc 1 1, 3) := by decide +kernel
theorem d_Model_isFormed_131 : decode prog_8_method_19_code 131 = .ok (.goto (-62), 3) := by decide +kernel
theorem d_Model_isFormed_134 : decode prog_8_method_19_code 134 = .ok (.iconst 0, 1) := by decide +kernel
theorem d_Model_isFormed_135 : decode prog_8_method_19_code 135 = .ok (.istore_n 1, 1) := by decide +kernel
theorem d_Model_isFormed_136 : decode prog_8_method_19_code 136 = .ok (.iload_n 1, 1) := by decide +kernel
theorem d_Model_isFormed_137 : decode prog_8_method_19_code 137 = .ok (.aload_n 0, 1) := by decide +kernel
theorem d_Model_isFormed_138 : decode prog_8_method_19_code 138 = .ok (.getfield 84, 3) := by decide +kernel
theorem d_Model_isFormed_141 : decode prog_8_method_19_code 141 = .ok (.if_icmp .ge 78, 3) := by decide +kernel
theorem d_Model_isFormed_144 : decode prog_8_method_19_code 144 = .ok (.aload_n 0, 1) := by decide +kernel
theorem d_Model_isFormed_145 : decode prog_8_method_19_code 145 = .ok (.aload_n 0, 1) := by decide +kernel
theorem d_Model_isFormed_146 : decode prog_8_method_19_code 146 = .ok (.getfield 13, 3) := by decide +kernel
theorem d_Model_isFormed_149 : decode prog_8_method_19_code 149 = .ok (.iload_n 1, 1) := by decide +kernel
theorem d_Model_isFormed_150 : decode prog_8_method_19_code 150 = .ok (.iaload, 1) := by decide +kernel
theorem d_Model_isFormed_151 : decode prog_8_method_19_code 151 = .ok (.invokevirtual 120, 3) := by decide +kernel
theorem d_Model_isFormed_154 : decode prog_8_method_19_code 154 = .ok (.ifCond .eq 57, 3) := by decide +kernel
theorem d_Model_isFormed_157 : decode prog_8_method_19_code 157 = .ok (.aload_n 0, 1) := by decide +kernel
theorem d_Model_isFormed_158 : decode prog_8_method_19_code 158 = .ok (.aload_n 0, 1) := by decide +kernel
theorem d_Model_isFormed_159 : decode prog_8_method_19_code 159 = .ok (.getfield 19, 3) := by decide +kernel
theorem d_Model_isFormed_162 : decode prog_8_method_19_code 162 = .ok (.iload_n 1, 1) := by decide +kernel
theorem d_Model_isFormed_163 : decode prog_8_method_19_code 163 = .ok (.iaload, 1) := by decide +kernel
theorem d_Model_isFormed_164 : decode prog_8_method_19_code 164 = .ok (.invokevirtual 120, 3) := by decide +kernel
theorem d_Model_isFormed_167 : decode prog_8_method_19_code 167 = .ok (.ifCond .eq 44, 3) := by decide +kernel
theorem d_Model_isFormed_170 : decode prog_8_method_19_code 170 = .ok (.aload_n 0, 1) := by decide +kernel
theorem d_Model_isFormed_171 : decode prog_8_method_19_code 171 = .ok (.aload_n 0, 1) := by decide +kernel
theorem d_Model_isFormed_172 : decode prog_8_method_19_code 172 = .ok (.getfield 16, 3) := by decide +kernel
theorem d_Model_isFormed_175 : decode prog_8_method_19_code 175 = .ok (.iload_n 1, 1) := by decide +kernel
theorem d_Model_isFormed_176 : decode prog_8_method_19_code 176 = .ok (.iaload, 1) := by decide +kernel
theorem d_Model_isFormed_177 : decode prog_8_method_19_code 177 = .ok (.invokevirtual 120, 3) := by decide +kernel
theorem d_Model_isFormed_180 : decode prog_8_method_19_code 180 = .ok (.ifCond .ne 16, 3) := by decide +kernel
theorem d_Model_isFormed_183 : decode prog_8_method_19_code 183 = .ok (.aload_n 0, 1) := by decide +kernel
theorem d_Model_isFormed_184 : decode prog_8_method_19_code 184 = .ok (.getfield 16, 3) := by decide +kernel
theorem d_Model_isFormed_187 : decode prog_8_method_19_code 187 = .ok (.iload_n 1, 1) := by decide +kernel
theorem d_Model_isFormed_188 : decode prog_8_method_19_code 188 = .ok (.iaload, 1) := by decide +kernel
theorem d_Model_isFormed_189 : decode prog_8_method_19_code 189 = .ok (.aload_n 0, 1) := by decide +kernel
theorem d_Model_isFormed_190 : decode prog_8_method_19_code 190 = .ok (.getfield 92, 3) := by decide +kernel
theorem d_Model_isFormed_193 : decode prog_8_method_19_code 193 = .ok (.if_icmp .ne 18, 3) := by decide +kernel
theorem d_Model_isFormed_196 : decode prog_8_method_19_code 196 = .ok (.aload_n 0, 1) := by decide +kernel
theorem d_Model_isFormed_197 : decode prog_8_method_19_code 197 = .ok (.getfield 13, 3) := by decide +kernel
theorem d_Model_isFormed_200 : decode prog_8_method_19_code 200 = .ok (.iload_n 1, 1) := by decide +kernel
theorem d_Model_isFormed_201 : decode prog_8_method_19_code 201 = .ok (.iaload, 1) := by decide +kernel
theorem d_Model_isFormed_202 : decode prog_8_method_19_code 202 = .ok (.aload_n 0, 1) := by decide +kernel
theorem d_Model_isFormed_203 : decode prog_8_method_19_code 203 = .ok (.getfield 16, 3) := by decide +kernel
theorem d_Model_isFormed_206 : decode prog_8_method_19_code 206 = .ok (.iload_n 1, 1) := by decide +kernel
theorem d_Model_isFormed_207 : decode prog_8_method_19_code 207 = .ok (.iaload, 1) := by decide +kernel
theorem d_Model_isFormed_208 : decode prog_8_method_19_code 208 = .ok (.if_icmp .lt 5, 3) := by decide +kernel
theorem d_Model_isFormed_211 : decode prog_8_method_19_code 211 = .ok (.iconst 0, 1) := by decide +kernel
theorem d_Model_isFormed_212 : decode prog_8_method_19_code 212 = .ok (.ireturn, 1) := by decide +kernel
theorem d_Model_isFormed_213 : decode prog_8_method_19_code 213 = .ok (.iinc 1 1, 3) := by decide +kernel
theorem d_Model_isFormed_216 : decode prog_8_method_19_code 216 = .ok (.goto (-80), 3) := by decide +kernel
theorem d_Model_isFormed_219 : decode prog_8_method_19_code 219 = .ok (.iconst 1, 1) := by decide +kernel
theorem d_Model_isFormed_220 : decode prog_8_method_19_code 220 = .ok (.ireturn, 1) := by decide +kernel
theorem d_Model_looks_0 : decode prog_8_method_20_code 0 = .ok (.iconst 0, 1) := by decide +kernel
theorem d_Model_looks_1 : decode prog_8_method_20_code 1 = .ok (.istore_n 2, 1) := by decide +kernel
theorem d_Model_looks_2 : decode prog_8_method_20_code 2 = .ok (.iload_n 2, 1) := by decide +kernel
theorem d_Model_looks_3 : decode prog_8_method_20_code 3 = .ok (.aload_n 0, 1) := by decide +kernel
theorem d_Model_looks_4 : decode prog_8_method_20_code 4 = .ok (.getfield 84, 3) := by decide +kernel
theorem d_Model_looks_7 : decode prog_8_method_20_code 7 = .ok (.if_icmp .ge 44, 3) := by decide +kernel
theorem d_Model_looks_10 : decode prog_8_method_20_code 10 = .ok (.aload_n 0, 1) := by decide +kernel
theorem d_Model_looks_11 : decode prog_8_method_20_code 11 = .ok (.getfield 19, 3) := by decide +kernel
theorem d_Model_looks_14 : decode prog_8_method_20_code 14 = .ok (.iload_n 2, 1) := by decide +kernel
theorem d_Model_looks_15 : decode prog_8_method_20_code 15 = .ok (.iaload, 1) := by decide +kernel
theorem d_Model_looks_16 : decode prog_8_method_20_code 16 = .ok (.iload_n 1, 1) := by decide +kernel
theorem d_Model_looks_17 : decode prog_8_method_20_code 17 = .ok (.if_icmp .ne 28, 3) := by decide +kernel
theorem d_Model_looks_20 : decode prog_8_method_20_code 20 = .ok (.aload_n 0, 1) := by decide +kernel
theorem d_Model_looks_21 : decode prog_8_method_20_code 21 = .ok (.getfield 22, 3) := by decide +kernel
theorem d_Model_looks_24 : decode prog_8_method_20_code 24 = .ok (.iload_n 2, 1) := by decide +kernel
theorem d_Model_looks_25 : decode prog_8_method_20_code 25 = .ok (.iaload, 1) := by decide +kernel
theorem d_Model_looks_26 : decode prog_8_method_20_code 26 = .ok (.ifCond .eq 17, 3) := by decide +kernel
theorem d_Model_looks_29 : decode prog_8_method_20_code 29 = .ok (.aload_n 0, 1) := by decide +kernel
theorem d_Model_looks_30 : decode prog_8_method_20_code 30 = .ok (.getfield 28, 3) := by decide +kernel
theorem d_Model_looks_33 : decode prog_8_method_20_code 33 = .ok (.aload_n 0, 1) := by decide +kernel
theorem d_Model_looks_34 : decode prog_8_method_20_code 34 = .ok (.getfield 22, 3) := by decide +kernel
theorem d_Model_looks_37 : decode prog_8_method_20_code 37 = .ok (.iload_n 2, 1) := by decide +kernel
theorem d_Model_looks_38 : decode prog_8_method_20_code 38 = .ok (.iaload, 1) := by decide +kernel
theorem d_Model_looks_39 : decode prog_8_method_20_code 39 = .ok (.baload, 1) := by decide +kernel
theorem d_Model_looks_40 : decode prog_8_method_20_code 40 = .ok (.ifCond .eq 5, 3) := by decide +kernel
theorem d_Model_looks_43 : decode prog_8_method_20_code 43 = .ok (.iconst 1, 1) := by decide +kernel
theorem d_Model_looks_44 : decode prog_8_method_20_code 44 = .ok (.ireturn, 1) := by decide +kernel
theorem d_Model_looks_45 : decode prog_8_method_20_code 45 = .ok (.iinc 2 1, 3) := by decide +kernel
theorem d_Model_looks_48 : decode prog_8_method_20_code 48 = .ok (.goto (-46), 3) := by decide +kernel
theorem d_Model_looks_51 : decode prog_8_method_20_code 51 = .ok (.iconst 0, 1) := by decide +kernel
theorem d_Model_looks_52 : decode prog_8_method_20_code 52 = .ok (.ireturn, 1) := by decide +kernel
theorem d_Model_ends_0 : decode prog_8_method_21_code 0 = .ok (.iload_n 0, 1) := by decide +kernel
theorem d_Model_ends_1 : decode prog_8_method_21_code 1 = .ok (.sipush 153, 3) := by decide +kernel
theorem d_Model_ends_4 : decode prog_8_method_21_code 4 = .ok (.sipush 167, 3) := by decide +kernel
theorem d_Model_ends_7 : decode prog_8_method_21_code 7 = .ok (.invokestatic 75, 3) := by decide +kernel
theorem d_Model_ends_10 : decode prog_8_method_21_code 10 = .ok (.ifCond .ne 36, 3) := by decide +kernel
theorem d_Model_ends_13 : decode prog_8_method_21_code 13 = .ok (.iload_n 0, 1) := by decide +kernel
theorem d_Model_ends_14 : decode prog_8_method_21_code 14 = .ok (.sipush 170, 3) := by decide +kernel
theorem d_Model_ends_17 : decode prog_8_method_21_code 17 = .ok (.sipush 177, 3) := by decide +kernel
theorem d_Model_ends_20 : decode prog_8_method_21_code 20 = .ok (.invokestatic 75, 3) := by decide +kernel
theorem d_Model_ends_23 : decode prog_8_method_21_code 23 = .ok (.ifCond .ne 23, 3) := by decide +kernel
theorem d_Model_ends_26 : decode prog_8_method_21_code 26 = .ok (.iload_n 0, 1) := by decide +kernel
theorem d_Model_ends_27 : decode prog_8_method_21_code 27 = .ok (.sipush 191, 3) := by decide +kernel
theorem d_Model_ends_30 : decode prog_8_method_21_code 30 = .ok (.if_icmp .eq 16, 3) := by decide +kernel
theorem d_Model_ends_33 : decode prog_8_method_21_code 33 = .ok (.iload_n 0, 1) := by decide +kernel
theorem d_Model_ends_34 : decode prog_8_method_21_code 34 = .ok (.sipush 198, 3) := by decide +kernel
theorem d_Model_ends_37 : decode prog_8_method_21_code 37 = .ok (.sipush 200, 3) := by decide +kernel
theorem d_Model_ends_40 : decode prog_8_method_21_code 40 = .ok (.invokestatic 75, 3) := by decide +kernel
theorem d_Model_ends_43 : decode prog_8_method_21_code 43 = .ok (.ifCond .eq 7, 3) := by decide +kernel
theorem d_Model_ends_46 : decode prog_8_method_21_code 46 = .ok (.iconst 1, 1) := by decide +kernel
theorem d_Model_ends_47 : decode prog_8_method_21_code 47 = .ok (.goto 4, 3) := by decide +kernel
theorem d_Model_ends_50 : decode prog_8_method_21_code 50 = .ok (.iconst 0, 1) := by decide +kernel
theorem d_Model_ends_51 : decode prog_8_method_21_code 51 = .ok (.ireturn, 1) := by decide +kernel
theorem d_Model_findBlocks_0 : decode prog_8_method_22_code 0 = .ok (.iconst 0, 1) := by decide +kernel
theorem d_Model_findBlocks_1 : decode prog_8_method_22_code 1 = .ok (.istore_n 1, 1) := by decide +kernel
theorem d_Model_findBlocks_2 : decode prog_8_method_22_code 2 = .ok (.iload_n 1, 1) := by decide +kernel
theorem d_Model_findBlocks_3 : decode prog_8_method_22_code 3 = .ok (.sipush 200, 3) := by decide +kernel
theorem d_Model_findBlocks_6 : decode prog_8_method_22_code 6 = .ok (.if_icmp .gt 16, 3) := by decide +kernel
theorem d_Model_findBlocks_9 : decode prog_8_method_22_code 9 = .ok (.aload_n 0, 1) := by decide +kernel
theorem d_Model_findBlocks_10 : decode prog_8_method_22_code 10 = .ok (.getfield 57, 3) := by decide +kernel
theorem d_Model_findBlocks_13 : decode prog_8_method_22_code 13 = .ok (.iload_n 1, 1) := by decide +kernel
theorem d_Model_findBlocks_14 : decode prog_8_method_22_code 14 = .ok (.iconst (-1), 1) := by decide +kernel
theorem d_Model_findBlocks_15 : decode prog_8_method_22_code 15 = .ok (.iastore, 1) := by decide +kernel
theorem d_Model_findBlocks_16 : decode prog_8_method_22_code 16 = .ok (.iinc 1 1, 3) := by decide +kernel
theorem d_Model_findBlocks_19 : decode prog_8_method_22_code 19 = .ok (.goto (-17), 3) := by decide +kernel
theorem d_Model_findBlocks_22 : decode prog_8_method_22_code 22 = .ok (.aload_n 0, 1) := by decide +kernel
theorem d_Model_findBlocks_23 : decode prog_8_method_22_code 23 = .ok (.getfield 57, 3) := by decide +kernel
theorem d_Model_findBlocks_26 : decode prog_8_method_22_code 26 = .ok (.iconst 0, 1) := by decide +kernel
theorem d_Model_findBlocks_27 : decode prog_8_method_22_code 27 = .ok (.iconst 0, 1) := by decide +kernel
theorem d_Model_findBlocks_28 : decode prog_8_method_22_code 28 = .ok (.iastore, 1) := by decide +kernel
theorem d_Model_findBlocks_29 : decode prog_8_method_22_code 29 = .ok (.iconst 0, 1) := by decide +kernel
theorem d_Model_findBlocks_30 : decode prog_8_method_22_code 30 = .ok (.istore_n 1, 1) := by decide +kernel
theorem d_Model_findBlocks_31 : decode prog_8_method_22_code 31 = .ok (.iload_n 1, 1) := by decide +kernel
theorem d_Model_findBlocks_32 : decode prog_8_method_22_code 32 = .ok (.aload_n 0, 1) := by decide +kernel
theorem d_Model_findBlocks_33 : decode prog_8_method_22_code 33 = .ok (.getfield 92, 3) := by decide +kernel
theorem d_Model_findBlocks_36 : decode prog_8_method_22_code 36 = .ok (.if_icmp .ge 96, 3) := by decide +kernel
theorem d_Model_findBlocks_39 : decode prog_8_method_22_code 39 = .ok (.aload_n 0, 1) := by decide +kernel
theorem d_Model_findBlocks_40 : decode prog_8_method_22_code 40 = .ok (.getfield 39, 3) := by decide +kernel
theorem d_Model_findBlocks_43 : decode prog_8_method_22_code 43 = .ok (.iload_n 1, 1) := by decide +kernel
theorem d_Model_findBlocks_44 : decode prog_8_method_22_code 44 = .ok (.baload, 1) := by decide +kernel
theorem d_Model_findBlocks_45 : decode prog_8_method_22_code 45 = .ok (.ifCond .ne 6, 3) := by decide +kernel
theorem d_Model_findBlocks_48 : decode prog_8_method_22_code 48 = .ok (.goto 78, 3) := by decide +kernel
theorem d_Model_findBlocks_51 : decode prog_8_method_22_code 51 = .ok (.aload_n 0, 1) := by decide +kernel
theorem d_Model_findBlocks_52 : decode prog_8_method_22_code 52 = .ok (.iload_n 1, 1) := by decide +kernel
theorem d_Model_findBlocks_53 : decode prog_8_method_22_code 53 = .ok (.invokevirtual 107, 3) := by decide +kernel
theorem d_Model_findBlocks_56 : decode prog_8_method_22_code 56 = .ok (.istore_n 2, 1) := by decide +kernel
theorem d_Model_findBlocks_57 : decode prog_8_method_22_code 57 = .ok (.aload_n 0, 1) := by decide +kernel
theorem d_Model_findBlocks_58 : decode prog_8_method_22_code 58 = .ok (.iload_n 1, 1) := by decide +kernel
theorem d_Model_findBlocks_59 : decode prog_8_method_22_code 59 = .ok (.invokevirtual 114, 3) := by decide +kernel
theorem d_Model_findBlocks_62 : decode prog_8_method_22_code 62 = .ok (.istore_n 3, 1) := by decide +kernel
theorem d_Model_findBlocks_63 : decode prog_8_method_22_code 63 = .ok (.iconst 0, 1) := by decide +kernel
theorem d_Model_findBlocks_64 : decode prog_8_method_22_code 64 = .ok (.istore 4, 2) := by decide +kernel
theorem d_Model_findBlocks_66 : decode prog_8_method_22_code 66 = .ok (.iload 4, 2) := by decide +kernel
theorem d_Model_findBlocks_68 : decode prog_8_method_22_code 68 = .ok (.iload_n 3, 1) := by decide +kernel
theorem d_Model_findBlocks_69 : decode prog_8_method_22_code 69 = .ok (.if_icmp .ge 26, 3) := by decide +kernel
theorem d_Model_findBlocks_72 : decode prog_8_method_22_code 72 = .ok (.aload_n 0, 1) := by decide +kernel
theorem d_Model_findBlocks_73 : decode prog_8_method_22_code 73 = .ok (.iload_n 1, 1) := by decide +kernel
theorem d_Model_findBlocks_74 : decode prog_8_method_22_code 74 = .ok (.iload 4, 2) := by decide +kernel
theorem d_Model_findBlocks_76 : decode prog_8_method_22_code 76 = .ok (.invokevirtual 117, 3) := by decide +kernel
theorem d_Model_findBlocks_79 : decode prog_8_method_22_code 79 = .ok (.istore 5, 2) := by decide +kernel
theorem d_Model_findBlocks_81 : decode prog_8_method_22_code 81 = .ok (.aload_n 0, 1) := by decide +kernel
theorem d_Model_findBlocks_82 : decode prog_8_method_22_code 82 = .ok (.getfield 57, 3) := by decide +kernel
theorem d_Model_findBlocks_85 : decode prog_8_method_22_code 85 = .ok (.iload 5, 2) := by decide +kernel
theorem d_Model_findBlocks_87 : decode prog_8_method_22_code 87 = .ok (.iconst 0, 1) := by decide +kernel
theorem d_Model_findBlocks_88 : decode prog_8_method_22_code 88 = .ok (.iastore, 1) := by decide +kernel
theorem d_Model_findBlocks_89 : decode prog_8_method_22_code 89 = .ok (.iinc 4 1, 3) := by decide +kernel
theorem d_Model_findBlocks_92 : decode prog_8_method_22_code 92 = .ok (.goto (-26), 3) := by decide +kernel
theorem d_Model_findBlocks_95 : decode prog_8_method_22_code 95 = .ok (.aload_n 0, 1) := by decide +kernel
theorem d_Model_findBlocks_96 : decode prog_8_method_22_code 96 = .ok (.getfield 45, 3) := by decide +kernel
theorem d_Model_findBlocks_99 : decode prog_8_method_22_code 99 = .ok (.iload_n 1, 1) := by decide +kernel
theorem d_Model_findBlocks_100 : decode prog_8_method_22_code 100 = .ok (.iaload, 1) := by decide +kernel
theorem d_Model_findBlocks_101 : decode prog_8_method_22_code 101 = .ok (.invokestatic 123, 3) := by decide +kernel
theorem d_Model_findBlocks_104 : decode prog_8_method_22_code 104 = .ok (.ifCond .eq 22, 3) := by decide +kernel
theorem d_Model_findBlocks_107 : decode prog_8_method_22_code 107 = .ok (.iload_n 1, 1) := by decide +kernel
theorem d_Model_findBlocks_108 : decode prog_8_method_22_code 108 = .ok (.iload_n 2, 1) := by decide +kernel
theorem d_Model_findBlocks_109 : decode prog_8_method_22_code 109 = .ok (.iadd, 1) := by decide +kernel
theorem d_Model_findBlocks_110 : decode prog_8_method_22_code 110 = .ok (.aload_n 0, 1) := by decide +kernel
theorem d_Model_findBlocks_111 : decode prog_8_method_22_code 111 = .ok (.getfield 92, 3) := by decide +kernel
theorem d_Model_findBlocks_114 : decode prog_8_method_22_code 114 = .ok (.if_icmp .ge 12, 3) := by decide +kernel
theorem d_Model_findBlocks_117 : decode prog_8_method_22_code 117 = .ok (.aload_n 0, 1) := by decide +kernel
theorem d_Model_findBlocks_118 : decode prog_8_method_22_code 118 = .ok (.getfield 57, 3) := by decide +kernel
theorem d_Model_findBlocks_121 : decode prog_8_method_22_code 121 = .ok (.iload_n 1, 1) := by decide +kernel
theorem d_Model_findBlocks_122 : decode prog_8_method_22_code 122 = .ok (.iload_n 2, 1) := by decide +kernel
theorem d_Model_findBlocks_123 : decode prog_8_method_22_code 123 = .ok (.iadd, 1) := by decide +kernel
theorem d_Model_findBlocks_124 : decode prog_8_method_22_code 124 = .ok (.iconst 0, 1) := by decide +kernel
theorem d_Model_findBlocks_125 : decode prog_8_method_22_code 125 = .ok (.iastore, 1) := by decide +kernel
theorem d_Model_findBlocks_126 : decode prog_8_method_22_code 126 = .ok (.iinc 1 1, 3) := by decide +kernel
theorem d_Model_findBlocks_129 : decode prog_8_method_22_code 129 = .ok (.goto (-98), 3) := by decide +kernel
theorem d_Model_findBlocks_132 : decode prog_8_method_22_code 132 = .ok (.iconst 0, 1) := by decide +kernel
theorem d_Model_findBlocks_133 : decode prog_8_method_22_code 133 = .ok (.istore_n 1, 1) := by decide +kernel
theorem d_Model_findBlocks_134 : decode prog_8_method_22_code 134 = .ok (.iload_n 1, 1) := by decide +kernel
theorem d_Model_findBlocks_135 : decode prog_8_method_22_code 135 = .ok (.aload_n 0, 1) := by decide +kernel
theorem d_Model_findBlocks_136 : decode prog_8_method_22_code 136 = .ok (.getfield 84, 3) := by decide +kernel
theorem d_Model_findBlocks_139 : decode prog_8_method_22_code 139 = .ok (.if_icmp .ge 21, 3) := by decide +kernel
theorem d_Model_findBlocks_142 : decode prog_8_method_22_code 142 = .ok (.aload_n 0, 1) := by decide +kernel
theorem d_Model_findBlocks_143 : decode prog_8_method_22_code 143 = .ok (.getfield 57, 3) := by decide +kernel
theorem d_Model_findBlocks_146 : decode prog_8_method_22_code 146 = .ok (.aload_n 0, 1) := by decide +kernel
theorem d_Model_findBlocks_147 : decode prog_8_method_22_code 147 = .ok (.getfield 19, 3) := by decide +kernel
theorem d_Model_findBlocks_150 : decode prog_8_method_22_code 150 = .ok (.iload_n 1, 1) := by decide +kernel
theorem d_Model_findBlocks_151 : decode prog_8_method_22_code 151 = .ok (.iaload, 1) := by decide +kernel
theorem d_Model_findBlocks_152 : decode prog_8_method_22_code 152 = .ok (.iconst 0, 1) := by decide +kernel
theorem d_Model_findBlocks_153 : decode prog_8_method_22_code 153 = .ok (.iastore, 1) := by decide +kernel
theorem d_Model_findBlocks_154 : decode prog_8_method_22_code 154 = .ok (.iinc 1 1, 3) := by decide +kernel
theorem d_Model_findBlocks_157 : decode prog_8_method_22_code 157 = .ok (.goto (-23), 3) := by decide +kernel
theorem d_Model_findBlocks_160 : decode prog_8_method_22_code 160 = .ok (.iconst 0, 1) := by decide +kernel
theorem d_Model_findBlocks_161 : decode prog_8_method_22_code 161 = .ok (.istore_n 1, 1) := by decide +kernel
theorem d_Model_findBlocks_162 : decode prog_8_method_22_code 162 = .ok (.iconst 0, 1) := by decide +kernel
theorem d_Model_findBlocks_163 : decode prog_8_method_22_code 163 = .ok (.istore_n 2, 1) := by decide +kernel
theorem d_Model_findBlocks_164 : decode prog_8_method_22_code 164 = .ok (.iload_n 2, 1) := by decide +kernel
theorem d_Model_findBlocks_165 : decode prog_8_method_22_code 165 = .ok (.aload_n 0, 1) := by decide +kernel
theorem d_Model_findBlocks_166 : decode prog_8_method_22_code 166 = .ok (.getfield 92, 3) := by decide +kernel
theorem d_Model_findBlocks_169 : decode prog_8_method_22_code 169 = .ok (.if_icmp .ge 75, 3) := by decide +kernel
theorem d_Model_findBlocks_172 : decode prog_8_method_22_code 172 = .ok (.aload_n 0, 1) := by decide +kernel
theorem d_Model_findBlocks_173 : decode prog_8_method_22_code 173 = .ok (.getfield 39, 3) := by decide +kernel
theorem d_Model_findBlocks_176 : decode prog_8_method_22_code 176 = .ok (.iload_n 2, 1) := by decide +kernel
theorem d_Model_findBlocks_177 : decode prog_8_method_22_code 177 = .ok (.baload, 1) := by decide +kernel
theorem d_Model_findBlocks_178 : decode prog_8_method_22_code 178 = .ok (.ifCond .ne 6, 3) := by decide +kernel
theorem d_Model_findBlocks_181 : decode prog_8_method_22_code 181 = .ok (.goto 57, 3) := by decide +kernel
theorem d_Model_findBlocks_184 : decode prog_8_method_22_code 184 = .ok (.aload_n 0, 1) := by decide +kernel
theorem d_Model_findBlocks_185 : decode prog_8_method_22_code 185 = .ok (.getfield 57, 3) := by decide +kernel
theorem d_Model_findBlocks_188 : decode prog_8_method_22_code 188 = .ok (.iload_n 2, 1) := by decide +kernel
theorem d_Model_findBlocks_189 : decode prog_8_method_22_code 189 = .ok (.iaload, 1) := by decide +kernel
theorem d_Model_findBlocks_190 : decode prog_8_method_22_code 190 = .ok (.ifCond .lt 5, 3) := by decide +kernel
theorem d_Model_findBlocks_193 : decode prog_8_method_22_code 193 = .ok (.iload_n 2, 1) := by decide +kernel
theorem d_Model_findBlocks_194 : decode prog_8_method_22_code 194 = .ok (.istore_n 1, 1) := by decide +kernel
theorem d_Model_findBlocks_195 : decode prog_8_method_22_code 195 = .ok (.aload_n 0, 1) := by decide +kernel
theorem d_Model_findBlocks_196 : decode prog_8_method_22_code 196 = .ok (.getfield 57, 3) := by decide +kernel
theorem d_Model_findBlocks_199 : decode prog_8_method_22_code 199 = .ok (.iload_n 1, 1) := by decide +kernel
theorem d_Model_findBlocks_200 : decode prog_8_method_22_code 200 = .ok (.dup2, 1) := by decide +kernel
theorem d_Model_findBlocks_201 : decode prog_8_method_22_code 201 = .ok (.iaload, 1) := by decide +kernel
theorem d_Model_findBlocks_202 : decode prog_8_method_22_code 202 = .ok (.aload_n 0, 1) := by decide +kernel
theorem d_Model_findBlocks_203 : decode prog_8_method_22_code 203 = .ok (.getfield 25, 3) := by decide +kernel
theorem d_Model_findBlocks_206 : decode prog_8_method_22_code 206 = .ok (.aload_n 0, 1) := by decide +kernel
theorem d_Model_findBlocks_207 : decode prog_8_method_22_code 207 = .ok (.getfield 45, 3) := by decide +kernel
theorem d_Model_findBlocks_210 : decode prog_8_method_22_code 210 = .ok (.iload_n 2, 1) := by decide +kernel
theorem d_Model_findBlocks_211 : decode prog_8_method_22_code 211 = .ok (.iaload, 1) := by decide +kernel
theorem d_Model_findBlocks_212 : decode prog_8_method_22_code 212 = .ok (.sipush 196, 3) := by decide +kernel
theorem d_Model_findBlocks_215 : decode prog_8_method_22_code 215 = .ok (.if_icmp .ne 14, 3) := by decide +kernel
theorem d_Model_findBlocks_218 : decode prog_8_method_22_code 218 = .ok (.aload_n 0, 1) := by decide +kernel
theorem d_Model_findBlocks_219 : decode prog_8_method_22_code 219 = .ok (.getfield 45, 3) := by decide +kernel
theorem d_Model_findBlocks_222 : decode prog_8_method_22_code 222 = .ok (.iload_n 2, 1) := by decide +kernel
theorem d_Model_findBlocks_223 : decode prog_8_method_22_code 223 = .ok (.iconst 1, 1) := by decide +kernel
theorem d_Model_findBlocks_224 : decode prog_8_method_22_code 224 = .ok (.iadd, 1) := by decide +kernel
theorem d_Model_findBlocks_225 : decode prog_8_method_22_code 225 = .ok (.iaload, 1) := by decide +kernel
theorem d_Model_findBlocks_226 : decode prog_8_method_22_code 226 = .ok (.goto 9, 3) := by decide +kernel
theorem d_Model_findBlocks_229 : decode prog_8_method_22_code 229 = .ok (.aload_n 0, 1) := by decide +kernel
theorem d_Model_findBlocks_230 : decode prog_8_method_22_code 230 = .ok (.getfield 45, 3) := by decide +kernel
theorem d_Model_findBlocks_233 : decode prog_8_method_22_code 233 = .ok (.iload_n 2, 1) := by decide +kernel
theorem d_Model_findBlocks_234 : decode prog_8_method_22_code 234 = .ok (.iaload, 1) := by decide +kernel
theorem d_Model_findBlocks_235 : decode prog_8_method_22_code 235 = .ok (.iaload, 1) := by decide +kernel
theorem d_Model_findBlocks_236 : decode prog_8_method_22_code 236 = .ok (.iadd, 1) := by decide +kernel
theorem d_Model_findBlocks_237 : decode prog_8_method_22_code 237 = .ok (.iastore, 1) := by decide +kernel
theorem d_Model_findBlocks_238 : decode prog_8_method_22_code 238 = .ok (.iinc 2 1, 3) := by decide +kernel
theorem d_Model_findBlocks_241 : decode prog_8_method_22_code 241 = .ok (.goto (-77), 3) := by decide +kernel
theorem d_Model_findBlocks_244 : decode prog_8_method_22_code 244 = .ok (.return_, 1) := by decide +kernel
theorem d_Model_weigh_0 : decode prog_8_method_23_code 0 = .ok (.iload_n 0, 1) := by decide +kernel
theorem d_Model_weigh_1 : decode prog_8_method_23_code 1 = .ok (.bipush 6, 2) := by decide +kernel
theorem d_Model_weigh_3 : decode prog_8_method_23_code 3 = .ok (.if_icmp .ge 7, 3) := by decide +kernel
theorem d_Model_weigh_6 : decode prog_8_method_23_code 6 = .ok (.iconst 1, 1) := by decide +kernel
theorem d_Model_weigh_7 : decode prog_8_method_23_code 7 = .ok (.goto 15, 3) := by decide +kernel
theorem d_Model_weigh_10 : decode prog_8_method_23_code 10 = .ok (.iload_n 0, 1) := by decide +kernel
theorem d_Model_weigh_11 : decode prog_8_method_23_code 11 = .ok (.sipush 128, 3) := by decide +kernel
theorem d_Model_weigh_14 : decode prog_8_method_23_code 14 = .ok (.if_icmp .ge 7, 3) := by decide +kernel
theorem d_Model_weigh_17 : decode prog_8_method_23_code 17 = .ok (.iconst 2, 1) := by decide +kernel
theorem d_Model_weigh_18 : decode prog_8_method_23_code 18 = .ok (.goto 4, 3) := by decide +kernel
theorem d_Model_weigh_21 : decode prog_8_method_23_code 21 = .ok (.iconst 3, 1) := by decide +kernel
theorem d_Model_weigh_22 : decode prog_8_method_23_code 22 = .ok (.ireturn, 1) := by decide +kernel
theorem d_Model_front_0 : decode prog_8_method_24_code 0 = .ok (.aload_n 0, 1) := by decide +kernel
theorem d_Model_front_1 : decode prog_8_method_24_code 1 = .ok (.getfield 48, 3) := by decide +kernel
theorem d_Model_front_4 : decode prog_8_method_24_code 4 = .ok (.iload_n 1, 1) := by decide +kernel
theorem d_Model_front_5 : decode prog_8_method_24_code 5 = .ok (.iaload, 1) := by decide +kernel
theorem d_Model_front_6 : decode prog_8_method_24_code 6 = .ok (.iload_n 1, 1) := by decide +kernel
theorem d_Model_front_7 : decode prog_8_method_24_code 7 = .ok (.ifCond .ne 7, 3) := by decide +kernel
theorem d_Model_front_10 : decode prog_8_method_24_code 10 = .ok (.iconst 3, 1) := by decide +kernel
theorem d_Model_front_11 : decode prog_8_method_24_code 11 = .ok (.goto 4, 3) := by decide +kernel
theorem d_Model_front_14 : decode prog_8_method_24_code 14 = .ok (.iconst 0, 1) := by decide +kernel
theorem d_Model_front_15 : decode prog_8_method_24_code 15 = .ok (.iadd, 1) := by decide +kernel
theorem d_Model_front_16 : decode prog_8_method_24_code 16 = .ok (.ireturn, 1) := by decide +kernel
theorem d_Model_opcodeAt_0 : decode prog_8_method_25_code 0 = .ok (.aload_n 0, 1) := by decide +kernel
theorem d_Model_opcodeAt_1 : decode prog_8_method_25_code 1 = .ok (.getfield 48, 3) := by decide +kernel
theorem d_Model_opcodeAt_4 : decode prog_8_method_25_code 4 = .ok (.iload_n 1, 1) := by decide +kernel
theorem d_Model_opcodeAt_5 : decode prog_8_method_25_code 5 = .ok (.iaload, 1) := by decide +kernel
theorem d_Model_opcodeAt_6 : decode prog_8_method_25_code 6 = .ok (.aload_n 0, 1) := by decide +kernel
theorem d_Model_opcodeAt_7 : decode prog_8_method_25_code 7 = .ok (.getfield 51, 3) := by decide +kernel
theorem d_Model_opcodeAt_10 : decode prog_8_method_25_code 10 = .ok (.iload_n 1, 1) := by decide +kernel
theorem d_Model_opcodeAt_11 : decode prog_8_method_25_code 11 = .ok (.iaload, 1) := by decide +kernel
theorem d_Model_opcodeAt_12 : decode prog_8_method_25_code 12 = .ok (.iadd, 1) := by decide +kernel
theorem d_Model_opcodeAt_13 : decode prog_8_method_25_code 13 = .ok (.ireturn, 1) := by decide +kernel
theorem d_Model_layOut_0 : decode prog_8_method_26_code 0 = .ok (.iconst 0, 1) := by decide +kernel
theorem d_Model_layOut_1 : decode prog_8_method_26_code 1 = .ok (.istore_n 1, 1) := by decide +kernel
theorem d_Model_layOut_2 : decode prog_8_method_26_code 2 = .ok (.iconst 0, 1) := by decide +kernel
theorem d_Model_layOut_3 : decode prog_8_method_26_code 3 = .ok (.istore_n 2, 1) := by decide +kernel
theorem d_Model_layOut_4 : decode prog_8_method_26_code 4 = .ok (.iload_n 2, 1) := by decide +kernel
theorem d_Model_layOut_5 : decode prog_8_method_26_code 5 = .ok (.aload_n 0, 1) := by decide +kernel
theorem d_Model_layOut_6 : decode prog_8_method_26_code 6 = .ok (.getfield 92, 3) := by decide +kernel
theorem d_Model_layOut_9 : decode prog_8_method_26_code 9 = .ok (.if_icmp .ge 207, 3) := by decide +kernel
theorem d_Model_layOut_12 : decode prog_8_method_26_code 12 = .ok (.aload_n 0, 1) := by decide +kernel
theorem d_Model_layOut_13 : decode prog_8_method_26_code 13 = .ok (.getfield 39, 3) := by decide +kernel
theorem d_Model_layOut_16 : decode prog_8_method_26_code 16 = .ok (.iload_n 2, 1) := by decide +kernel
theorem d_Model_layOut_17 : decode prog_8_method_26_code 17 = .ok (.baload, 1) := by decide +kernel
theorem d_Model_layOut_18 : decode prog_8_method_26_code 18 = .ok (.ifCond .ne 6, 3) := by decide +kernel
theorem d_Model_layOut_21 : decode prog_8_method_26_code 21 = .ok (.goto 189, 3) := by decide +kernel
theorem d_Model_layOut_24 : decode prog_8_method_26_code 24 = .ok (.aload_n 0, 1) := by decide +kernel
theorem d_Model_layOut_25 : decode prog_8_method_26_code 25 = .ok (.getfield 45, 3) := by decide +kernel
theorem d_Model_layOut_28 : decode prog_8_method_26_code 28 = .ok (.iload_n 2, 1) := by decide +kernel
theorem d_Model_layOut_29 : decode prog_8_method_26_code 29 = .ok (.iaload, 1) := by decide +kernel
theorem d_Model_layOut_30 : decode prog_8_method_26_code 30 = .ok (.istore_n 3, 1) := by decide +kernel
theorem d_Model_layOut_31 : decode prog_8_method_26_code 31 = .ok (.aload_n 0, 1) := by decide +kernel
theorem d_Model_layOut_32 : decode prog_8_method_26_code 32 = .ok (.iload_n 2, 1) := by decide +kernel
theorem d_Model_layOut_33 : decode prog_8_method_26_code 33 = .ok (.invokevirtual 107, 3) := by decide +kernel
theorem d_Model_layOut_36 : decode prog_8_method_26_code 36 = .ok (.istore 4, 2) := by decide +kernel
theorem d_Model_layOut_38 : decode prog_8_method_26_code 38 = .ok (.aload_n 0, 1) := by decide +kernel
theorem d_Model_layOut_39 : decode prog_8_method_26_code 39 = .ok (.getfield 48, 3) := by decide +kernel
theorem d_Model_layOut_42 : decode prog_8_method_26_code 42 = .ok (.iload_n 2, 1) := by decide +kernel
theorem d_Model_layOut_43 : decode prog_8_method_26_code 43 = .ok (.iload_n 1, 1) := by decide +kernel
theorem d_Model_layOut_44 : decode prog_8_method_26_code 44 = .ok (.iastore, 1) := by decide +kernel
theorem d_Model_layOut_45 : decode prog_8_method_26_code 45 = .ok (.aload_n 0, 1) := by decide +kernel
theorem d_Model_layOut_46 : decode prog_8_method_26_code 46 = .ok (.getfield 51, 3) := by decide +kernel
theorem d_Model_layOut_49 : decode prog_8_method_26_code 49 = .ok (.iload_n 2, 1) := by decide +kernel
theorem d_Model_layOut_50 : decode prog_8_method_26_code 50 = .ok (.iload_n 2, 1) := by decide +kernel
theorem d_Model_layOut_51 : decode prog_8_method_26_code 51 = .ok (.ifCond .ne 7, 3) := by decide +kernel
theorem d_Model_layOut_54 : decode prog_8_method_26_code 54 = .ok (.iconst 3, 1) := by decide +kernel
theorem d_Model_layOut_55 : decode prog_8_method_26_code 55 = .ok (.goto 4, 3) := by decide +kernel
theorem d_Model_layOut_58 : decode prog_8_method_26_code 58 = .ok (.iconst 0, 1) := by decide +kernel
theorem d_Model_layOut_59 : decode prog_8_method_26_code 59 = .ok (.aload_n 0, 1) := by decide +kernel
theorem d_Model_layOut_60 : decode prog_8_method_26_code 60 = .ok (.iload_n 2, 1) := by decide +kernel
theorem d_Model_layOut_61 : decode prog_8_method_26_code 61 = .ok (.invokevirtual 126, 3) := by decide +kernel
theorem d_Model_layOut_64 : decode prog_8_method_26_code 64 = .ok (.ifCond .eq 7, 3) := by decide +kernel
theorem d_Model_layOut_67 : decode prog_8_method_26_code 67 = .ok (.iconst 4, 1) := by decide +kernel
theorem d_Model_layOut_68 : decode prog_8_method_26_code 68 = .ok (.goto 4, 3) := by decide +kernel
theorem d_Model_layOut_71 : decode prog_8_method_26_code 71 = .ok (.iconst 0, 1) := by decide +kernel
theorem d_Model_layOut_72 : decode prog_8_method_26_code 72 = .ok (.iadd, 1) := by decide +kernel
theorem d_Model_layOut_73 : decode prog_8_method_26_code 73 = .ok (.aload_n 0, 1) := by decide +kernel
theorem d_Model_layOut_74 : decode prog_8_method_26_code 74 = .ok (.getfield 57, 3) := by decide +kernel
theorem d_Model_layOut_77 : decode prog_8_method_26_code 77 = .ok (.iload_n 2, 1) := by decide +kernel
theorem d_Model_layOut_78 : decode prog_8_method_26_code 78 = .ok (.iaload, 1) := by decide +kernel
theorem d_Model_layOut_79 : decode prog_8_method_26_code 79 = .ok (.ifCond .le 17, 3) := by decide +kernel
theorem d_Model_layOut_82 : decode prog_8_method_26_code 82 = .ok (.aload_n 0, 1) := by decide +kernel
theorem d_Model_layOut_83 : decode prog_8_method_26_code 83 = .ok (.getfield 57, 3) := by decide +kernel
theorem d_Model_layOut_86 : decode prog_8_method_26_code 86 = .ok (.iload_n 2, 1) := by decide +kernel
theorem d_Model_layOut_87 : decode prog_8_method_26_code 87 = .ok (.iaload, 1) := by decide +kernel
theorem d_Model_layOut_88 : decode prog_8_method_26_code 88 = .ok (.invokestatic 129, 3) := by decide +kernel
theorem d_Model_layOut_91 : decode prog_8_method_26_code 91 = .ok (.iconst 3, 1) := by decide +kernel
theorem d_Model_layOut_92 : decode prog_8_method_26_code 92 = .ok (.iadd, 1) := by decide +kernel
theorem d_Model_layOut_93 : decode prog_8_method_26_code 93 = .ok (.goto 4, 3) := by decide +kernel
theorem d_Model_layOut_96 : decode prog_8_method_26_code 96 = .ok (.iconst 0, 1) := by decide +kernel
theorem d_Model_layOut_97 : decode prog_8_method_26_code 97 = .ok (.iadd, 1) := by decide +kernel
theorem d_Model_layOut_98 : decode prog_8_method_26_code 98 = .ok (.iload_n 3, 1) := by decide +kernel
theorem d_Model_layOut_99 : decode prog_8_method_26_code 99 = .ok (.sipush 172, 3) := by decide +kernel
theorem d_Model_layOut_102 : decode prog_8_method_26_code 102 = .ok (.sipush 177, 3) := by decide +kernel
theorem d_Model_layOut_105 : decode prog_8_method_26_code 105 = .ok (.invokestatic 75, 3) := by decide +kernel
theorem d_Model_layOut_108 : decode prog_8_method_26_code 108 = .ok (.ifCond .eq 7, 3) := by decide +kernel
theorem d_Model_layOut_111 : decode prog_8_method_26_code 111 = .ok (.iconst 3, 1) := by decide +kernel
theorem d_Model_layOut_112 : decode prog_8_method_26_code 112 = .ok (.goto 22, 3) := by decide +kernel
theorem d_Model_layOut_115 : decode prog_8_method_26_code 115 = .ok (.iload_n 3, 1) := by decide +kernel
theorem d_Model_layOut_116 : decode prog_8_method_26_code 116 = .ok (.sipush 188, 3) := by decide +kernel
theorem d_Model_layOut_119 : decode prog_8_method_26_code 119 = .ok (.if_icmp .eq 10, 3) := by decide +kernel
theorem d_Model_layOut_122 : decode prog_8_method_26_code 122 = .ok (.iload_n 3, 1) := by decide +kernel
theorem d_Model_layOut_123 : decode prog_8_method_26_code 123 = .ok (.sipush 189, 3) := by decide +kernel
theorem d_Model_layOut_126 : decode prog_8_method_26_code 126 = .ok (.if_icmp .ne 7, 3) := by decide +kernel
theorem d_Model_layOut_129 : decode prog_8_method_26_code 129 = .ok (.iconst 4, 1) := by decide +kernel
theorem d_Model_layOut_130 : decode prog_8_method_26_code 130 = .ok (.goto 4, 3) := by decide +kernel
theorem d_Model_layOut_133 : decode prog_8_method_26_code 133 = .ok (.iconst 0, 1) := by decide +kernel
theorem d_Model_layOut_134 : decode prog_8_method_26_code 134 = .ok (.iadd, 1) := by decide +kernel
theorem d_Model_layOut_135 : decode prog_8_method_26_code 135 = .ok (.iastore, 1) := by decide +kernel
theorem d_Model_layOut_136 : decode prog_8_method_26_code 136 = .ok (.iload_n 3, 1) := by decide +kernel
theorem d_Model_layOut_137 : decode prog_8_method_26_code 137 = .ok (.invokestatic 95, 3) := by decide +kernel
theorem d_Model_layOut_140 : decode prog_8_method_26_code 140 = .ok (.ifCond .eq 22, 3) := by decide +kernel
