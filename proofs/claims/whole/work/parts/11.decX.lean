theorem d_Source_append_0 : decode prog_5_method_2_code 0 = .ok (.aload_n 0, 1) := by decide +kernel
theorem d_Source_append_1 : decode prog_5_method_2_code 1 = .ok (.getfield 18, 3) := by decide +kernel
theorem d_Source_append_4 : decode prog_5_method_2_code 4 = .ok (.sipush 200, 3) := by decide +kernel
theorem d_Source_append_7 : decode prog_5_method_2_code 7 = .ok (.if_icmp .ge 20, 3) := by decide +kernel
theorem d_Source_append_10 : decode prog_5_method_2_code 10 = .ok (.aload_n 0, 1) := by decide +kernel
theorem d_Source_append_11 : decode prog_5_method_2_code 11 = .ok (.getfield 9, 3) := by decide +kernel
theorem d_Source_append_14 : decode prog_5_method_2_code 14 = .ok (.aload_n 0, 1) := by decide +kernel
theorem d_Source_append_15 : decode prog_5_method_2_code 15 = .ok (.dup, 1) := by decide +kernel
theorem d_Source_append_16 : decode prog_5_method_2_code 16 = .ok (.getfield 18, 3) := by decide +kernel
theorem d_Source_append_19 : decode prog_5_method_2_code 19 = .ok (.dup_x1, 1) := by decide +kernel
theorem d_Source_append_20 : decode prog_5_method_2_code 20 = .ok (.iconst 1, 1) := by decide +kernel
theorem d_Source_append_21 : decode prog_5_method_2_code 21 = .ok (.iadd, 1) := by decide +kernel
theorem d_Source_append_22 : decode prog_5_method_2_code 22 = .ok (.putfield 18, 3) := by decide +kernel
theorem d_Source_append_25 : decode prog_5_method_2_code 25 = .ok (.iload_n 1, 1) := by decide +kernel
theorem d_Source_append_26 : decode prog_5_method_2_code 26 = .ok (.iastore, 1) := by decide +kernel
theorem d_Source_append_27 : decode prog_5_method_2_code 27 = .ok (.return_, 1) := by decide +kernel
theorem d_Desk_code_0 : decode prog_1_method_2_code 0 = .ok (.iload_n 3, 1) := by decide +kernel
theorem d_Desk_code_1 : decode prog_1_method_2_code 1 = .ok (.iconst 1, 1) := by decide +kernel
theorem d_Desk_code_2 : decode prog_1_method_2_code 2 = .ok (.if_icmp .lt 9, 3) := by decide +kernel
theorem d_Desk_code_5 : decode prog_1_method_2_code 5 = .ok (.iload_n 3, 1) := by decide +kernel
theorem d_Desk_code_6 : decode prog_1_method_2_code 6 = .ok (.bipush 8, 2) := by decide +kernel
theorem d_Desk_code_8 : decode prog_1_method_2_code 8 = .ok (.if_icmp .le 5, 3) := by decide +kernel
theorem d_Desk_code_11 : decode prog_1_method_2_code 11 = .ok (.iconst (-1), 1) := by decide +kernel
theorem d_Desk_code_12 : decode prog_1_method_2_code 12 = .ok (.ireturn, 1) := by decide +kernel
theorem d_Desk_code_13 : decode prog_1_method_2_code 13 = .ok (.aload_n 0, 1) := by decide +kernel
theorem d_Desk_code_14 : decode prog_1_method_2_code 14 = .ok (.getfield 18, 3) := by decide +kernel
theorem d_Desk_code_17 : decode prog_1_method_2_code 17 = .ok (.getfield 41, 3) := by decide +kernel
theorem d_Desk_code_20 : decode prog_1_method_2_code 20 = .ok (.iload_n 3, 1) := by decide +kernel
theorem d_Desk_code_21 : decode prog_1_method_2_code 21 = .ok (.iadd, 1) := by decide +kernel
theorem d_Desk_code_22 : decode prog_1_method_2_code 22 = .ok (.sipush 200, 3) := by decide +kernel
theorem d_Desk_code_25 : decode prog_1_method_2_code 25 = .ok (.if_icmp .le 6, 3) := by decide +kernel
theorem d_Desk_code_28 : decode prog_1_method_2_code 28 = .ok (.bipush (-2), 2) := by decide +kernel
theorem d_Desk_code_30 : decode prog_1_method_2_code 30 = .ok (.ireturn, 1) := by decide +kernel
theorem d_Desk_code_31 : decode prog_1_method_2_code 31 = .ok (.iconst 0, 1) := by decide +kernel
theorem d_Desk_code_32 : decode prog_1_method_2_code 32 = .ok (.istore 4, 2) := by decide +kernel
theorem d_Desk_code_34 : decode prog_1_method_2_code 34 = .ok (.iload 4, 2) := by decide +kernel
theorem d_Desk_code_36 : decode prog_1_method_2_code 36 = .ok (.iload_n 3, 1) := by decide +kernel
theorem d_Desk_code_37 : decode prog_1_method_2_code 37 = .ok (.if_icmp .ge 31, 3) := by decide +kernel
theorem d_Desk_code_40 : decode prog_1_method_2_code 40 = .ok (.aload_n 0, 1) := by decide +kernel
theorem d_Desk_code_41 : decode prog_1_method_2_code 41 = .ok (.getfield 18, 3) := by decide +kernel
theorem d_Desk_code_44 : decode prog_1_method_2_code 44 = .ok (.lload_n 1, 1) := by decide +kernel
theorem d_Desk_code_45 : decode prog_1_method_2_code 45 = .ok (.bipush 56, 2) := by decide +kernel
theorem d_Desk_code_47 : decode prog_1_method_2_code 47 = .ok (.bipush 8, 2) := by decide +kernel
theorem d_Desk_code_49 : decode prog_1_method_2_code 49 = .ok (.iload 4, 2) := by decide +kernel
theorem d_Desk_code_51 : decode prog_1_method_2_code 51 = .ok (.imul, 1) := by decide +kernel
theorem d_Desk_code_52 : decode prog_1_method_2_code 52 = .ok (.isub, 1) := by decide +kernel
theorem d_Desk_code_53 : decode prog_1_method_2_code 53 = .ok (.lushr, 1) := by decide +kernel
theorem d_Desk_code_54 : decode prog_1_method_2_code 54 = .ok (.l2i, 1) := by decide +kernel
theorem d_Desk_code_55 : decode prog_1_method_2_code 55 = .ok (.sipush 255, 3) := by decide +kernel
theorem d_Desk_code_58 : decode prog_1_method_2_code 58 = .ok (.iand, 1) := by decide +kernel
theorem d_Desk_code_59 : decode prog_1_method_2_code 59 = .ok (.invokevirtual 45, 3) := by decide +kernel
theorem d_Desk_code_62 : decode prog_1_method_2_code 62 = .ok (.iinc 4 1, 3) := by decide +kernel
theorem d_Desk_code_65 : decode prog_1_method_2_code 65 = .ok (.goto (-31), 3) := by decide +kernel
theorem d_Desk_code_68 : decode prog_1_method_2_code 68 = .ok (.aload_n 0, 1) := by decide +kernel
theorem d_Desk_code_69 : decode prog_1_method_2_code 69 = .ok (.getfield 18, 3) := by decide +kernel
theorem d_Desk_code_72 : decode prog_1_method_2_code 72 = .ok (.getfield 41, 3) := by decide +kernel
theorem d_Desk_code_75 : decode prog_1_method_2_code 75 = .ok (.ireturn, 1) := by decide +kernel
theorem d_Desk_isOctet_0 : decode prog_1_method_16_code 0 = .ok (.iload_n 0, 1) := by decide +kernel
theorem d_Desk_isOctet_1 : decode prog_1_method_16_code 1 = .ok (.ifCond .lt 14, 3) := by decide +kernel
theorem d_Desk_isOctet_4 : decode prog_1_method_16_code 4 = .ok (.iload_n 0, 1) := by decide +kernel
theorem d_Desk_isOctet_5 : decode prog_1_method_16_code 5 = .ok (.sipush 255, 3) := by decide +kernel
theorem d_Desk_isOctet_8 : decode prog_1_method_16_code 8 = .ok (.if_icmp .gt 7, 3) := by decide +kernel
theorem d_Desk_isOctet_11 : decode prog_1_method_16_code 11 = .ok (.iconst 1, 1) := by decide +kernel
theorem d_Desk_isOctet_12 : decode prog_1_method_16_code 12 = .ok (.goto 4, 3) := by decide +kernel
theorem d_Desk_isOctet_15 : decode prog_1_method_16_code 15 = .ok (.iconst 0, 1) := by decide +kernel
theorem d_Desk_isOctet_16 : decode prog_1_method_16_code 16 = .ok (.ireturn, 1) := by decide +kernel
theorem d_Desk_change_0 : decode prog_1_method_3_code 0 = .ok (.iload_n 1, 1) := by decide +kernel
theorem d_Desk_change_1 : decode prog_1_method_3_code 1 = .ok (.ifCond .lt 21, 3) := by decide +kernel
theorem d_Desk_change_4 : decode prog_1_method_3_code 4 = .ok (.iload_n 1, 1) := by decide +kernel
theorem d_Desk_change_5 : decode prog_1_method_3_code 5 = .ok (.aload_n 0, 1) := by decide +kernel
theorem d_Desk_change_6 : decode prog_1_method_3_code 6 = .ok (.getfield 18, 3) := by decide +kernel
theorem d_Desk_change_9 : decode prog_1_method_3_code 9 = .ok (.getfield 41, 3) := by decide +kernel
theorem d_Desk_change_12 : decode prog_1_method_3_code 12 = .ok (.if_icmp .ge 10, 3) := by decide +kernel
theorem d_Desk_change_15 : decode prog_1_method_3_code 15 = .ok (.iload_n 2, 1) := by decide +kernel
theorem d_Desk_change_16 : decode prog_1_method_3_code 16 = .ok (.invokestatic 49, 3) := by decide +kernel
theorem d_Desk_change_19 : decode prog_1_method_3_code 19 = .ok (.ifCond .ne 5, 3) := by decide +kernel
theorem d_Desk_change_22 : decode prog_1_method_3_code 22 = .ok (.iconst (-1), 1) := by decide +kernel
theorem d_Desk_change_23 : decode prog_1_method_3_code 23 = .ok (.ireturn, 1) := by decide +kernel
theorem d_Desk_change_24 : decode prog_1_method_3_code 24 = .ok (.aload_n 0, 1) := by decide +kernel
theorem d_Desk_change_25 : decode prog_1_method_3_code 25 = .ok (.getfield 18, 3) := by decide +kernel
theorem d_Desk_change_28 : decode prog_1_method_3_code 28 = .ok (.getfield 53, 3) := by decide +kernel
theorem d_Desk_change_31 : decode prog_1_method_3_code 31 = .ok (.iload_n 1, 1) := by decide +kernel
theorem d_Desk_change_32 : decode prog_1_method_3_code 32 = .ok (.iaload, 1) := by decide +kernel
theorem d_Desk_change_33 : decode prog_1_method_3_code 33 = .ok (.istore_n 3, 1) := by decide +kernel
theorem d_Desk_change_34 : decode prog_1_method_3_code 34 = .ok (.aload_n 0, 1) := by decide +kernel
theorem d_Desk_change_35 : decode prog_1_method_3_code 35 = .ok (.getfield 18, 3) := by decide +kernel
theorem d_Desk_change_38 : decode prog_1_method_3_code 38 = .ok (.getfield 53, 3) := by decide +kernel
theorem d_Desk_change_41 : decode prog_1_method_3_code 41 = .ok (.iload_n 1, 1) := by decide +kernel
theorem d_Desk_change_42 : decode prog_1_method_3_code 42 = .ok (.iload_n 2, 1) := by decide +kernel
theorem d_Desk_change_43 : decode prog_1_method_3_code 43 = .ok (.iastore, 1) := by decide +kernel
theorem d_Desk_change_44 : decode prog_1_method_3_code 44 = .ok (.iload_n 3, 1) := by decide +kernel
theorem d_Desk_change_45 : decode prog_1_method_3_code 45 = .ok (.ireturn, 1) := by decide +kernel
theorem d_Desk_clear_0 : decode prog_1_method_4_code 0 = .ok (.aload_n 0, 1) := by decide +kernel
theorem d_Desk_clear_1 : decode prog_1_method_4_code 1 = .ok (.getfield 18, 3) := by decide +kernel
theorem d_Desk_clear_4 : decode prog_1_method_4_code 4 = .ok (.getfield 41, 3) := by decide +kernel
theorem d_Desk_clear_7 : decode prog_1_method_4_code 7 = .ok (.istore_n 1, 1) := by decide +kernel
theorem d_Desk_clear_8 : decode prog_1_method_4_code 8 = .ok (.aload_n 0, 1) := by decide +kernel
theorem d_Desk_clear_9 : decode prog_1_method_4_code 9 = .ok (.getfield 18, 3) := by decide +kernel
theorem d_Desk_clear_12 : decode prog_1_method_4_code 12 = .ok (.iconst 0, 1) := by decide +kernel
theorem d_Desk_clear_13 : decode prog_1_method_4_code 13 = .ok (.putfield 41, 3) := by decide +kernel
theorem d_Desk_clear_16 : decode prog_1_method_4_code 16 = .ok (.aload_n 0, 1) := by decide +kernel
theorem d_Desk_clear_17 : decode prog_1_method_4_code 17 = .ok (.getfield 18, 3) := by decide +kernel
theorem d_Desk_clear_20 : decode prog_1_method_4_code 20 = .ok (.iconst 0, 1) := by decide +kernel
theorem d_Desk_clear_21 : decode prog_1_method_4_code 21 = .ok (.putfield 57, 3) := by decide +kernel
theorem d_Desk_clear_24 : decode prog_1_method_4_code 24 = .ok (.iload_n 1, 1) := by decide +kernel
theorem d_Desk_clear_25 : decode prog_1_method_4_code 25 = .ok (.ireturn, 1) := by decide +kernel
theorem d_Desk_isPlace_0 : decode prog_1_method_17_code 0 = .ok (.iload_n 0, 1) := by decide +kernel
theorem d_Desk_isPlace_1 : decode prog_1_method_17_code 1 = .ok (.ifCond .lt 14, 3) := by decide +kernel
theorem d_Desk_isPlace_4 : decode prog_1_method_17_code 4 = .ok (.iload_n 0, 1) := by decide +kernel
theorem d_Desk_isPlace_5 : decode prog_1_method_17_code 5 = .ok (.sipush 200, 3) := by decide +kernel
theorem d_Desk_isPlace_8 : decode prog_1_method_17_code 8 = .ok (.if_icmp .gt 7, 3) := by decide +kernel
theorem d_Desk_isPlace_11 : decode prog_1_method_17_code 11 = .ok (.iconst 1, 1) := by decide +kernel
theorem d_Desk_isPlace_12 : decode prog_1_method_17_code 12 = .ok (.goto 4, 3) := by decide +kernel
theorem d_Desk_isPlace_15 : decode prog_1_method_17_code 15 = .ok (.iconst 0, 1) := by decide +kernel
theorem d_Desk_isPlace_16 : decode prog_1_method_17_code 16 = .ok (.ireturn, 1) := by decide +kernel
theorem d_Source_appendHandler_0 : decode prog_5_method_3_code 0 = .ok (.aload_n 0, 1) := by decide +kernel
theorem d_Source_appendHandler_1 : decode prog_5_method_3_code 1 = .ok (.getfield 22, 3) := by decide +kernel
theorem d_Source_appendHandler_4 : decode prog_5_method_3_code 4 = .ok (.iconst 4, 1) := by decide +kernel
theorem d_Source_appendHandler_5 : decode prog_5_method_3_code 5 = .ok (.if_icmp .ge 62, 3) := by decide +kernel
theorem d_Source_appendHandler_8 : decode prog_5_method_3_code 8 = .ok (.aload_n 0, 1) := by decide +kernel
theorem d_Source_appendHandler_9 : decode prog_5_method_3_code 9 = .ok (.getfield 22, 3) := by decide +kernel
theorem d_Source_appendHandler_12 : decode prog_5_method_3_code 12 = .ok (.iconst 4, 1) := by decide +kernel
theorem d_Source_appendHandler_13 : decode prog_5_method_3_code 13 = .ok (.imul, 1) := by decide +kernel
theorem d_Source_appendHandler_14 : decode prog_5_method_3_code 14 = .ok (.istore 5, 2) := by decide +kernel
theorem d_Source_appendHandler_16 : decode prog_5_method_3_code 16 = .ok (.aload_n 0, 1) := by decide +kernel
theorem d_Source_appendHandler_17 : decode prog_5_method_3_code 17 = .ok (.getfield 15, 3) := by decide +kernel
theorem d_Source_appendHandler_20 : decode prog_5_method_3_code 20 = .ok (.iload 5, 2) := by decide +kernel
theorem d_Source_appendHandler_22 : decode prog_5_method_3_code 22 = .ok (.iconst 0, 1) := by decide +kernel
theorem d_Source_appendHandler_23 : decode prog_5_method_3_code 23 = .ok (.iadd, 1) := by decide +kernel
theorem d_Source_appendHandler_24 : decode prog_5_method_3_code 24 = .ok (.iload_n 1, 1) := by decide +kernel
theorem d_Source_appendHandler_25 : decode prog_5_method_3_code 25 = .ok (.iastore, 1) := by decide +kernel
theorem d_Source_appendHandler_26 : decode prog_5_method_3_code 26 = .ok (.aload_n 0, 1) := by decide +kernel
theorem d_Source_appendHandler_27 : decode prog_5_method_3_code 27 = .ok (.getfield 15, 3) := by decide +kernel
theorem d_Source_appendHandler_30 : decode prog_5_method_3_code 30 = .ok (.iload 5, 2) := by decide +kernel
theorem d_Source_appendHandler_32 : decode prog_5_method_3_code 32 = .ok (.iconst 1, 1) := by decide +kernel
theorem d_Source_appendHandler_33 : decode prog_5_method_3_code 33 = .ok (.iadd, 1) := by decide +kernel
theorem d_Source_appendHandler_34 : decode prog_5_method_3_code 34 = .ok (.iload_n 2, 1) := by decide +kernel
theorem d_Source_appendHandler_35 : decode prog_5_method_3_code 35 = .ok (.iastore, 1) := by decide +kernel
theorem d_Source_appendHandler_36 : decode prog_5_method_3_code 36 = .ok (.aload_n 0, 1) := by decide +kernel
theorem d_Source_appendHandler_37 : decode prog_5_method_3_code 37 = .ok (.getfield 15, 3) := by decide +kernel
theorem d_Source_appendHandler_40 : decode prog_5_method_3_code 40 = .ok (.iload 5, 2) := by decide +kernel
theorem d_Source_appendHandler_42 : decode prog_5_method_3_code 42 = .ok (.iconst 2, 1) := by decide +kernel
theorem d_Source_appendHandler_43 : decode prog_5_method_3_code 43 = .ok (.iadd, 1) := by decide +kernel
theorem d_Source_appendHandler_44 : decode prog_5_method_3_code 44 = .ok (.iload_n 3, 1) := by decide +kernel
theorem d_Source_appendHandler_45 : decode prog_5_method_3_code 45 = .ok (.iastore, 1) := by decide +kernel
theorem d_Source_appendHandler_46 : decode prog_5_method_3_code 46 = .ok (.aload_n 0, 1) := by decide +kernel
theorem d_Source_appendHandler_47 : decode prog_5_method_3_code 47 = .ok (.getfield 15, 3) := by decide +kernel
theorem d_Source_appendHandler_50 : decode prog_5_method_3_code 50 = .ok (.iload 5, 2) := by decide +kernel
theorem d_Source_appendHandler_52 : decode prog_5_method_3_code 52 = .ok (.iconst 3, 1) := by decide +kernel
theorem d_Source_appendHandler_53 : decode prog_5_method_3_code 53 = .ok (.iadd, 1) := by decide +kernel
theorem d_Source_appendHandler_54 : decode prog_5_method_3_code 54 = .ok (.iload 4, 2) := by decide +kernel
theorem d_Source_appendHandler_56 : decode prog_5_method_3_code 56 = .ok (.iastore, 1) := by decide +kernel
theorem d_Source_appendHandler_57 : decode prog_5_method_3_code 57 = .ok (.aload_n 0, 1) := by decide +kernel
theorem d_Source_appendHandler_58 : decode prog_5_method_3_code 58 = .ok (.dup, 1) := by decide +kernel
theorem d_Source_appendHandler_59 : decode prog_5_method_3_code 59 = .ok (.getfield 22, 3) := by decide +kernel
theorem d_Source_appendHandler_62 : decode prog_5_method_3_code 62 = .ok (.iconst 1, 1) := by decide +kernel
theorem d_Source_appendHandler_63 : decode prog_5_method_3_code 63 = .ok (.iadd, 1) := by decide +kernel
theorem d_Source_appendHandler_64 : decode prog_5_method_3_code 64 = .ok (.putfield 22, 3) := by decide +kernel
theorem d_Source_appendHandler_67 : decode prog_5_method_3_code 67 = .ok (.return_, 1) := by decide +kernel
theorem d_Desk_handler_0 : decode prog_1_method_5_code 0 = .ok (.iload 4, 2) := by decide +kernel
theorem d_Desk_handler_2 : decode prog_1_method_5_code 2 = .ok (.invokestatic 49, 3) := by decide +kernel
theorem d_Desk_handler_5 : decode prog_1_method_5_code 5 = .ok (.ifCond .eq 24, 3) := by decide +kernel
theorem d_Desk_handler_8 : decode prog_1_method_5_code 8 = .ok (.iload_n 1, 1) := by decide +kernel
theorem d_Desk_handler_9 : decode prog_1_method_5_code 9 = .ok (.invokestatic 60, 3) := by decide +kernel
theorem d_Desk_handler_12 : decode prog_1_method_5_code 12 = .ok (.ifCond .eq 17, 3) := by decide +kernel
theorem d_Desk_handler_15 : decode prog_1_method_5_code 15 = .ok (.iload_n 2, 1) := by decide +kernel
theorem d_Desk_handler_16 : decode prog_1_method_5_code 16 = .ok (.invokestatic 60, 3) := by decide +kernel
theorem d_Desk_handler_19 : decode prog_1_method_5_code 19 = .ok (.ifCond .eq 10, 3) := by decide +kernel
theorem d_Desk_handler_22 : decode prog_1_method_5_code 22 = .ok (.iload_n 3, 1) := by decide +kernel
theorem d_Desk_handler_23 : decode prog_1_method_5_code 23 = .ok (.invokestatic 60, 3) := by decide +kernel
theorem d_Desk_handler_26 : decode prog_1_method_5_code 26 = .ok (.ifCond .ne 5, 3) := by decide +kernel
theorem d_Desk_handler_29 : decode prog_1_method_5_code 29 = .ok (.iconst (-1), 1) := by decide +kernel
theorem d_Desk_handler_30 : decode prog_1_method_5_code 30 = .ok (.ireturn, 1) := by decide +kernel
theorem d_Desk_handler_31 : decode prog_1_method_5_code 31 = .ok (.aload_n 0, 1) := by decide +kernel
theorem d_Desk_handler_32 : decode prog_1_method_5_code 32 = .ok (.getfield 18, 3) := by decide +kernel
theorem d_Desk_handler_35 : decode prog_1_method_5_code 35 = .ok (.getfield 57, 3) := by decide +kernel
theorem d_Desk_handler_38 : decode prog_1_method_5_code 38 = .ok (.iconst 4, 1) := by decide +kernel
theorem d_Desk_handler_39 : decode prog_1_method_5_code 39 = .ok (.if_icmp .lt 6, 3) := by decide +kernel
theorem d_Desk_handler_42 : decode prog_1_method_5_code 42 = .ok (.bipush (-2), 2) := by decide +kernel
theorem d_Desk_handler_44 : decode prog_1_method_5_code 44 = .ok (.ireturn, 1) := by decide +kernel
theorem d_Desk_handler_45 : decode prog_1_method_5_code 45 = .ok (.aload_n 0, 1) := by decide +kernel
theorem d_Desk_handler_46 : decode prog_1_method_5_code 46 = .ok (.getfield 18, 3) := by decide +kernel
theorem d_Desk_handler_49 : decode prog_1_method_5_code 49 = .ok (.iload_n 1, 1) := by decide +kernel
theorem d_Desk_handler_50 : decode prog_1_method_5_code 50 = .ok (.iload_n 2, 1) := by decide +kernel
theorem d_Desk_handler_51 : decode prog_1_method_5_code 51 = .ok (.iload_n 3, 1) := by decide +kernel
theorem d_Desk_handler_52 : decode prog_1_method_5_code 52 = .ok (.iload 4, 2) := by decide +kernel
theorem d_Desk_handler_54 : decode prog_1_method_5_code 54 = .ok (.invokevirtual 63, 3) := by decide +kernel
theorem d_Desk_handler_57 : decode prog_1_method_5_code 57 = .ok (.aload_n 0, 1) := by decide +kernel
theorem d_Desk_handler_58 : decode prog_1_method_5_code 58 = .ok (.getfield 18, 3) := by decide +kernel
theorem d_Desk_handler_61 : decode prog_1_method_5_code 61 = .ok (.getfield 57, 3) := by decide +kernel
theorem d_Desk_handler_64 : decode prog_1_method_5_code 64 = .ok (.ireturn, 1) := by decide +kernel
theorem d_Desk_mark_0 : decode prog_1_method_6_code 0 = .ok (.iload_n 1, 1) := by decide +kernel
theorem d_Desk_mark_1 : decode prog_1_method_6_code 1 = .ok (.iconst 1, 1) := by decide +kernel
theorem d_Desk_mark_2 : decode prog_1_method_6_code 2 = .ok (.if_icmp .lt 10, 3) := by decide +kernel
theorem d_Desk_mark_5 : decode prog_1_method_6_code 5 = .ok (.iload_n 1, 1) := by decide +kernel
theorem d_Desk_mark_6 : decode prog_1_method_6_code 6 = .ok (.sipush 255, 3) := by decide +kernel
theorem d_Desk_mark_9 : decode prog_1_method_6_code 9 = .ok (.if_icmp .le 5, 3) := by decide +kernel
theorem d_Desk_mark_12 : decode prog_1_method_6_code 12 = .ok (.iconst 0, 1) := by decide +kernel
theorem d_Desk_mark_13 : decode prog_1_method_6_code 13 = .ok (.ireturn, 1) := by decide +kernel
theorem d_Desk_mark_14 : decode prog_1_method_6_code 14 = .ok (.aload_n 0, 1) := by decide +kernel
theorem d_Desk_mark_15 : decode prog_1_method_6_code 15 = .ok (.getfield 24, 3) := by decide +kernel
theorem d_Desk_mark_18 : decode prog_1_method_6_code 18 = .ok (.getfield 67, 3) := by decide +kernel
theorem d_Desk_mark_21 : decode prog_1_method_6_code 21 = .ok (.iload_n 1, 1) := by decide +kernel
theorem d_Desk_mark_22 : decode prog_1_method_6_code 22 = .ok (.iload_n 2, 1) := by decide +kernel
theorem d_Desk_mark_23 : decode prog_1_method_6_code 23 = .ok (.bastore, 1) := by decide +kernel
theorem d_Desk_mark_24 : decode prog_1_method_6_code 24 = .ok (.iconst 1, 1) := by decide +kernel
theorem d_Desk_mark_25 : decode prog_1_method_6_code 25 = .ok (.ireturn, 1) := by decide +kernel
theorem d_Desk_cost_0 : decode prog_1_method_7_code 0 = .ok (.iload_n 1, 1) := by decide +kernel
theorem d_Desk_cost_1 : decode prog_1_method_7_code 1 = .ok (.ifCond .lt 20, 3) := by decide +kernel
theorem d_Desk_cost_4 : decode prog_1_method_7_code 4 = .ok (.iload_n 1, 1) := by decide +kernel
theorem d_Desk_cost_5 : decode prog_1_method_7_code 5 = .ok (.sipush 200, 3) := by decide +kernel
theorem d_Desk_cost_8 : decode prog_1_method_7_code 8 = .ok (.if_icmp .gt 13, 3) := by decide +kernel
theorem d_Desk_cost_11 : decode prog_1_method_7_code 11 = .ok (.iload_n 2, 1) := by decide +kernel
theorem d_Desk_cost_12 : decode prog_1_method_7_code 12 = .ok (.ifCond .lt 9, 3) := by decide +kernel
theorem d_Desk_cost_15 : decode prog_1_method_7_code 15 = .ok (.iload_n 2, 1) := by decide +kernel
theorem d_Desk_cost_16 : decode prog_1_method_7_code 16 = .ok (.bipush 99, 2) := by decide +kernel
theorem d_Desk_cost_18 : decode prog_1_method_7_code 18 = .ok (.if_icmp .le 5, 3) := by decide +kernel
theorem d_Desk_cost_21 : decode prog_1_method_7_code 21 = .ok (.iconst (-1), 1) := by decide +kernel
theorem d_Desk_cost_22 : decode prog_1_method_7_code 22 = .ok (.ireturn, 1) := by decide +kernel
theorem d_Desk_cost_23 : decode prog_1_method_7_code 23 = .ok (.aload_n 0, 1) := by decide +kernel
theorem d_Desk_cost_24 : decode prog_1_method_7_code 24 = .ok (.getfield 24, 3) := by decide +kernel
theorem d_Desk_cost_27 : decode prog_1_method_7_code 27 = .ok (.getfield 71, 3) := by decide +kernel
theorem d_Desk_cost_30 : decode prog_1_method_7_code 30 = .ok (.iload_n 1, 1) := by decide +kernel
theorem d_Desk_cost_31 : decode prog_1_method_7_code 31 = .ok (.iaload, 1) := by decide +kernel
theorem d_Desk_cost_32 : decode prog_1_method_7_code 32 = .ok (.istore_n 3, 1) := by decide +kernel
theorem d_Desk_cost_33 : decode prog_1_method_7_code 33 = .ok (.aload_n 0, 1) := by decide +kernel
theorem d_Desk_cost_34 : decode prog_1_method_7_code 34 = .ok (.getfield 24, 3) := by decide +kernel
theorem d_Desk_cost_37 : decode prog_1_method_7_code 37 = .ok (.getfield 71, 3) := by decide +kernel
theorem d_Desk_cost_40 : decode prog_1_method_7_code 40 = .ok (.iload_n 1, 1) := by decide +kernel
theorem d_Desk_cost_41 : decode prog_1_method_7_code 41 = .ok (.iload_n 2, 1) := by decide +kernel
theorem d_Desk_cost_42 : decode prog_1_method_7_code 42 = .ok (.iastore, 1) := by decide +kernel
theorem d_Desk_cost_43 : decode prog_1_method_7_code 43 = .ok (.iload_n 3, 1) := by decide +kernel
theorem d_Desk_cost_44 : decode prog_1_method_7_code 44 = .ok (.ireturn, 1) := by decide +kernel
theorem d_Desk_set_0 : decode prog_1_method_8_code 0 = .ok (.iload_n 1, 1) := by decide +kernel
theorem d_Desk_set_1 : decode prog_1_method_8_code 1 = .ok (.ifCond .lt 21, 3) := by decide +kernel
theorem d_Desk_set_4 : decode prog_1_method_8_code 4 = .ok (.iload_n 1, 1) := by decide +kernel
theorem d_Desk_set_5 : decode prog_1_method_8_code 5 = .ok (.ldc 74, 2) := by decide +kernel
theorem d_Desk_set_7 : decode prog_1_method_8_code 7 = .ok (.if_icmp .gt 15, 3) := by decide +kernel
theorem d_Desk_set_10 : decode prog_1_method_8_code 10 = .ok (.iload_n 2, 1) := by decide +kernel
theorem d_Desk_set_11 : decode prog_1_method_8_code 11 = .ok (.iconst 4, 1) := by decide +kernel
theorem d_Desk_set_12 : decode prog_1_method_8_code 12 = .ok (.if_icmp .lt 10, 3) := by decide +kernel
theorem d_Desk_set_15 : decode prog_1_method_8_code 15 = .ok (.iload_n 2, 1) := by decide +kernel
theorem d_Desk_set_16 : decode prog_1_method_8_code 16 = .ok (.sipush 32767, 3) := by decide +kernel
theorem d_Desk_set_19 : decode prog_1_method_8_code 19 = .ok (.if_icmp .le 5, 3) := by decide +kernel
theorem d_Desk_set_22 : decode prog_1_method_8_code 22 = .ok (.iconst 0, 1) := by decide +kernel
theorem d_Desk_set_23 : decode prog_1_method_8_code 23 = .ok (.ireturn, 1) := by decide +kernel
theorem d_Desk_set_24 : decode prog_1_method_8_code 24 = .ok (.aload_n 0, 1) := by decide +kernel
theorem d_Desk_set_25 : decode prog_1_method_8_code 25 = .ok (.getfield 24, 3) := by decide +kernel
theorem d_Desk_set_28 : decode prog_1_method_8_code 28 = .ok (.iload_n 1, 1) := by decide +kernel
theorem d_Desk_set_29 : decode prog_1_method_8_code 29 = .ok (.putfield 75, 3) := by decide +kernel
theorem d_Desk_set_32 : decode prog_1_method_8_code 32 = .ok (.aload_n 0, 1) := by decide +kernel
theorem d_Desk_set_33 : decode prog_1_method_8_code 33 = .ok (.getfield 24, 3) := by decide +kernel
theorem d_Desk_set_36 : decode prog_1_method_8_code 36 = .ok (.iload_n 2, 1) := by decide +kernel
theorem d_Desk_set_37 : decode prog_1_method_8_code 37 = .ok (.putfield 78, 3) := by decide +kernel
theorem d_Desk_set_40 : decode prog_1_method_8_code 40 = .ok (.iconst 1, 1) := by decide +kernel
theorem d_Desk_set_41 : decode prog_1_method_8_code 41 = .ok (.ireturn, 1) := by decide +kernel
theorem d_Output_forget_0 : decode prog_4_method_2_code 0 = .ok (.aload_n 0, 1) := by decide +kernel
theorem d_Output_forget_1 : decode prog_4_method_2_code 1 = .ok (.iconst 0, 1) := by decide +kernel
theorem d_Output_forget_2 : decode prog_4_method_2_code 2 = .ok (.putfield 32, 3) := by decide +kernel
theorem d_Output_forget_5 : decode prog_4_method_2_code 5 = .ok (.aload_n 0, 1) := by decide +kernel
theorem d_Output_forget_6 : decode prog_4_method_2_code 6 = .ok (.iconst 0, 1) := by decide +kernel
theorem d_Output_forget_7 : decode prog_4_method_2_code 7 = .ok (.putfield 36, 3) := by decide +kernel
theorem d_Output_forget_10 : decode prog_4_method_2_code 10 = .ok (.aload_n 0, 1) := by decide +kernel
theorem d_Output_forget_11 : decode prog_4_method_2_code 11 = .ok (.iconst 0, 1) := by decide +kernel
theorem d_Output_forget_12 : decode prog_4_method_2_code 12 = .ok (.putfield 39, 3) := by decide +kernel
theorem d_Output_forget_15 : decode prog_4_method_2_code 15 = .ok (.aload_n 0, 1) := by decide +kernel
theorem d_Output_forget_16 : decode prog_4_method_2_code 16 = .ok (.iconst 0, 1) := by decide +kernel
theorem d_Output_forget_17 : decode prog_4_method_2_code 17 = .ok (.putfield 42, 3) := by decide +kernel
theorem d_Output_forget_20 : decode prog_4_method_2_code 20 = .ok (.return_, 1) := by decide +kernel
theorem d_Arrays_fill_0 : decode prog_9_method_103_code 0 = .ok (.iconst 0, 1) := by decide +kernel
theorem d_Arrays_fill_1 : decode prog_9_method_103_code 1 = .ok (.istore_n 2, 1) := by decide +kernel
theorem d_Arrays_fill_2 : decode prog_9_method_103_code 2 = .ok (.aload_n 0, 1) := by decide +kernel
theorem d_Arrays_fill_3 : decode prog_9_method_103_code 3 = .ok (.arraylength, 1) := by decide +kernel
theorem d_Arrays_fill_4 : decode prog_9_method_103_code 4 = .ok (.istore_n 3, 1) := by decide +kernel
theorem d_Arrays_fill_5 : decode prog_9_method_103_code 5 = .ok (.iload_n 2, 1) := by decide +kernel
theorem d_Arrays_fill_6 : decode prog_9_method_103_code 6 = .ok (.iload_n 3, 1) := by decide +kernel
theorem d_Arrays_fill_7 : decode prog_9_method_103_code 7 = .ok (.if_icmp .ge 13, 3) := by decide +kernel
theorem d_Arrays_fill_10 : decode prog_9_method_103_code 10 = .ok (.aload_n 0, 1) := by decide +kernel
theorem d_Arrays_fill_11 : decode prog_9_method_103_code 11 = .ok (.iload_n 2, 1) := by decide +kernel
theorem d_Arrays_fill_12 : decode prog_9_method_103_code 12 = .ok (.iload_n 1, 1) := by decide +kernel
theorem d_Arrays_fill_13 : decode prog_9_method_103_code 13 = .ok (.iastore, 1) := by decide +kernel
theorem d_Arrays_fill_14 : decode prog_9_method_103_code 14 = .ok (.iinc 2 1, 3) := by decide +kernel
theorem d_Arrays_fill_17 : decode prog_9_method_103_code 17 = .ok (.goto (-12), 3) := by decide +kernel
theorem d_Arrays_fill_20 : decode prog_9_method_103_code 20 = .ok (.return_, 1) := by decide +kernel
theorem d_Layout_forget_0 : decode prog_2_method_4_code 0 = .ok (.aload_n 0, 1) := by decide +kernel
theorem d_Layout_forget_1 : decode prog_2_method_4_code 1 = .ok (.getfield 15, 3) := by decide +kernel
theorem d_Layout_forget_4 : decode prog_2_method_4_code 4 = .ok (.iconst 0, 1) := by decide +kernel
theorem d_Layout_forget_5 : decode prog_2_method_4_code 5 = .ok (.invokestatic 76, 3) := by decide +kernel
theorem d_Layout_forget_8 : decode prog_2_method_4_code 8 = .ok (.aload_n 0, 1) := by decide +kernel
theorem d_Layout_forget_9 : decode prog_2_method_4_code 9 = .ok (.getfield 21, 3) := by decide +kernel
theorem d_Layout_forget_12 : decode prog_2_method_4_code 12 = .ok (.iconst (-1), 1) := by decide +kernel
theorem d_Layout_forget_13 : decode prog_2_method_4_code 13 = .ok (.invokestatic 76, 3) := by decide +kernel
theorem d_Layout_forget_16 : decode prog_2_method_4_code 16 = .ok (.iconst 0, 1) := by decide +kernel
theorem d_Layout_forget_17 : decode prog_2_method_4_code 17 = .ok (.istore_n 1, 1) := by decide +kernel
theorem d_Layout_forget_18 : decode prog_2_method_4_code 18 = .ok (.iload_n 1, 1) := by decide +kernel
theorem d_Layout_forget_19 : decode prog_2_method_4_code 19 = .ok (.sipush 200, 3) := by decide +kernel
theorem d_Layout_forget_22 : decode prog_2_method_4_code 22 = .ok (.if_icmp .gt 23, 3) := by decide +kernel
theorem d_Layout_forget_25 : decode prog_2_method_4_code 25 = .ok (.aload_n 0, 1) := by decide +kernel
theorem d_Layout_forget_26 : decode prog_2_method_4_code 26 = .ok (.getfield 24, 3) := by decide +kernel
theorem d_Layout_forget_29 : decode prog_2_method_4_code 29 = .ok (.iload_n 1, 1) := by decide +kernel
theorem d_Layout_forget_30 : decode prog_2_method_4_code 30 = .ok (.iconst 0, 1) := by decide +kernel
theorem d_Layout_forget_31 : decode prog_2_method_4_code 31 = .ok (.bastore, 1) := by decide +kernel
theorem d_Layout_forget_32 : decode prog_2_method_4_code 32 = .ok (.aload_n 0, 1) := by decide +kernel
theorem d_Layout_forget_33 : decode prog_2_method_4_code 33 = .ok (.getfield 37, 3) := by decide +kernel
theorem d_Layout_forget_36 : decode prog_2_method_4_code 36 = .ok (.iload_n 1, 1) := by decide +kernel
theorem d_Layout_forget_37 : decode prog_2_method_4_code 37 = .ok (.iconst 0, 1) := by decide +kernel
theorem d_Layout_forget_38 : decode prog_2_method_4_code 38 = .ok (.bastore, 1) := by decide +kernel
theorem d_Layout_forget_39 : decode prog_2_method_4_code 39 = .ok (.iinc 1 1, 3) := by decide +kernel
theorem d_Layout_forget_42 : decode prog_2_method_4_code 42 = .ok (.goto (-24), 3) := by decide +kernel
theorem d_Layout_forget_45 : decode prog_2_method_4_code 45 = .ok (.aload_n 0, 1) := by decide +kernel
theorem d_Layout_forget_46 : decode prog_2_method_4_code 46 = .ok (.iconst 0, 1) := by decide +kernel
theorem d_Layout_forget_47 : decode prog_2_method_4_code 47 = .ok (.putfield 82, 3) := by decide +kernel
theorem d_Layout_forget_50 : decode prog_2_method_4_code 50 = .ok (.aload_n 0, 1) := by decide +kernel
theorem d_Layout_forget_51 : decode prog_2_method_4_code 51 = .ok (.iconst 0, 1) := by decide +kernel
theorem d_Layout_forget_52 : decode prog_2_method_4_code 52 = .ok (.putfield 85, 3) := by decide +kernel
theorem d_Layout_forget_55 : decode prog_2_method_4_code 55 = .ok (.aload_n 0, 1) := by decide +kernel
theorem d_Layout_forget_56 : decode prog_2_method_4_code 56 = .ok (.iconst 0, 1) := by decide +kernel
theorem d_Layout_forget_57 : decode prog_2_method_4_code 57 = .ok (.putfield 88, 3) := by decide +kernel
theorem d_Layout_forget_60 : decode prog_2_method_4_code 60 = .ok (.aload_n 0, 1) := by decide +kernel
theorem d_Layout_forget_61 : decode prog_2_method_4_code 61 = .ok (.iconst 0, 1) := by decide +kernel
theorem d_Layout_forget_62 : decode prog_2_method_4_code 62 = .ok (.putfield 91, 3) := by decide +kernel
theorem d_Layout_forget_65 : decode prog_2_method_4_code 65 = .ok (.aload_n 0, 1) := by decide +kernel
theorem d_Layout_forget_66 : decode prog_2_method_4_code 66 = .ok (.iconst 0, 1) := by decide +kernel
theorem d_Layout_forget_67 : decode prog_2_method_4_code 67 = .ok (.putfield 94, 3) := by decide +kernel
theorem d_Layout_forget_70 : decode prog_2_method_4_code 70 = .ok (.return_, 1) := by decide +kernel
theorem d_Source_u1_0 : decode prog_5_method_5_code 0 = .ok (.iload_n 1, 1) := by decide +kernel
theorem d_Source_u1_1 : decode prog_5_method_5_code 1 = .ok (.ifCond .lt 20, 3) := by decide +kernel
theorem d_Source_u1_4 : decode prog_5_method_5_code 4 = .ok (.iload_n 1, 1) := by decide +kernel
theorem d_Source_u1_5 : decode prog_5_method_5_code 5 = .ok (.aload_n 0, 1) := by decide +kernel
theorem d_Source_u1_6 : decode prog_5_method_5_code 6 = .ok (.getfield 18, 3) := by decide +kernel
theorem d_Source_u1_9 : decode prog_5_method_5_code 9 = .ok (.if_icmp .ge 12, 3) := by decide +kernel
theorem d_Source_u1_12 : decode prog_5_method_5_code 12 = .ok (.aload_n 0, 1) := by decide +kernel
theorem d_Source_u1_13 : decode prog_5_method_5_code 13 = .ok (.getfield 9, 3) := by decide +kernel
theorem d_Source_u1_16 : decode prog_5_method_5_code 16 = .ok (.iload_n 1, 1) := by decide +kernel
theorem d_Source_u1_17 : decode prog_5_method_5_code 17 = .ok (.iaload, 1) := by decide +kernel
theorem d_Source_u1_18 : decode prog_5_method_5_code 18 = .ok (.goto 4, 3) := by decide +kernel
theorem d_Source_u1_21 : decode prog_5_method_5_code 21 = .ok (.iconst 0, 1) := by decide +kernel
theorem d_Source_u1_22 : decode prog_5_method_5_code 22 = .ok (.ireturn, 1) := by decide +kernel
theorem d_Opcodes_exists_0 : decode prog_3_method_2_code 0 = .ok (.iload_n 0, 1) := by decide +kernel
theorem d_Opcodes_exists_1 : decode prog_3_method_2_code 1 = .ok (.ifCond .lt 28, 3) := by decide +kernel
theorem d_Opcodes_exists_4 : decode prog_3_method_2_code 4 = .ok (.iload_n 0, 1) := by decide +kernel
theorem d_Opcodes_exists_5 : decode prog_3_method_2_code 5 = .ok (.sipush 200, 3) := by decide +kernel
theorem d_Opcodes_exists_8 : decode prog_3_method_2_code 8 = .ok (.if_icmp .gt 21, 3) := by decide +kernel
theorem d_Opcodes_exists_11 : decode prog_3_method_2_code 11 = .ok (.iload_n 0, 1) := by decide +kernel
theorem d_Opcodes_exists_12 : decode prog_3_method_2_code 12 = .ok (.sipush 168, 3) := by decide +kernel
theorem d_Opcodes_exists_15 : decode prog_3_method_2_code 15 = .ok (.if_icmp .eq 14, 3) := by decide +kernel
theorem d_Opcodes_exists_18 : decode prog_3_method_2_code 18 = .ok (.iload_n 0, 1) := by decide +kernel
theorem d_Opcodes_exists_19 : decode prog_3_method_2_code 19 = .ok (.sipush 169, 3) := by decide +kernel
theorem d_Opcodes_exists_22 : decode prog_3_method_2_code 22 = .ok (.if_icmp .eq 7, 3) := by decide +kernel
theorem d_Opcodes_exists_25 : decode prog_3_method_2_code 25 = .ok (.iconst 1, 1) := by decide +kernel
theorem d_Opcodes_exists_26 : decode prog_3_method_2_code 26 = .ok (.goto 4, 3) := by decide +kernel
theorem d_Opcodes_exists_29 : decode prog_3_method_2_code 29 = .ok (.iconst 0, 1) := by decide +kernel
theorem d_Opcodes_exists_30 : decode prog_3_method_2_code 30 = .ok (.ireturn, 1) := by decide +kernel
theorem d_Opcodes_isSwitch_0 : decode prog_3_method_4_code 0 = .ok (.iload_n 0, 1) := by decide +kernel
theorem d_Opcodes_isSwitch_1 : decode prog_3_method_4_code 1 = .ok (.sipush 170, 3) := by decide +kernel
theorem d_Opcodes_isSwitch_4 : decode prog_3_method_4_code 4 = .ok (.if_icmp .eq 10, 3) := by decide +kernel
theorem d_Opcodes_isSwitch_7 : decode prog_3_method_4_code 7 = .ok (.iload_n 0, 1) := by decide +kernel
theorem d_Opcodes_isSwitch_8 : decode prog_3_method_4_code 8 = .ok (.sipush 171, 3) := by decide +kernel
theorem d_Opcodes_isSwitch_11 : decode prog_3_method_4_code 11 = .ok (.if_icmp .ne 7, 3) := by decide +kernel
theorem d_Opcodes_isSwitch_14 : decode prog_3_method_4_code 14 = .ok (.iconst 1, 1) := by decide +kernel
theorem d_Opcodes_isSwitch_15 : decode prog_3_method_4_code 15 = .ok (.goto 4, 3) := by decide +kernel
theorem d_Opcodes_isSwitch_18 : decode prog_3_method_4_code 18 = .ok (.iconst 0, 1) := by decide +kernel
theorem d_Opcodes_isSwitch_19 : decode prog_3_method_4_code 19 = .ok (.ireturn, 1) := by decide +kernel
theorem d_Opcodes_isLocal_0 : decode prog_3_method_8_code 0 = .ok (.iload_n 0, 1) := by decide +kernel
theorem d_Opcodes_isLocal_1 : decode prog_3_method_8_code 1 = .ok (.bipush 21, 2) := by decide +kernel
theorem d_Opcodes_isLocal_3 : decode prog_3_method_8_code 3 = .ok (.if_icmp .lt 9, 3) := by decide +kernel
theorem d_Opcodes_isLocal_6 : decode prog_3_method_8_code 6 = .ok (.iload_n 0, 1) := by decide +kernel
theorem d_Opcodes_isLocal_7 : decode prog_3_method_8_code 7 = .ok (.bipush 25, 2) := by decide +kernel
theorem d_Opcodes_isLocal_9 : decode prog_3_method_8_code 9 = .ok (.if_icmp .le 15, 3) := by decide +kernel
theorem d_Opcodes_isLocal_12 : decode prog_3_method_8_code 12 = .ok (.iload_n 0, 1) := by decide +kernel
theorem d_Opcodes_isLocal_13 : decode prog_3_method_8_code 13 = .ok (.bipush 54, 2) := by decide +kernel
theorem d_Opcodes_isLocal_15 : decode prog_3_method_8_code 15 = .ok (.if_icmp .lt 13, 3) := by decide +kernel
theorem d_Opcodes_isLocal_18 : decode prog_3_method_8_code 18 = .ok (.iload_n 0, 1) := by decide +kernel
theorem d_Opcodes_isLocal_19 : decode prog_3_method_8_code 19 = .ok (.bipush 58, 2) := by decide +kernel
theorem d_Opcodes_isLocal_21 : decode prog_3_method_8_code 21 = .ok (.if_icmp .gt 7, 3) := by decide +kernel
theorem d_Opcodes_isLocal_24 : decode prog_3_method_8_code 24 = .ok (.iconst 1, 1) := by decide +kernel
theorem d_Opcodes_isLocal_25 : decode prog_3_method_8_code 25 = .ok (.goto 4, 3) := by decide +kernel
theorem d_Opcodes_isLocal_28 : decode prog_3_method_8_code 28 = .ok (.iconst 0, 1) := by decide +kernel
theorem d_Opcodes_isLocal_29 : decode prog_3_method_8_code 29 = .ok (.ireturn, 1) := by decide +kernel
theorem d_Opcodes_isShortJump_0 : decode prog_3_method_3_code 0 = .ok (.iload_n 0, 1) := by decide +kernel
theorem d_Opcodes_isShortJump_1 : decode prog_3_method_3_code 1 = .ok (.sipush 153, 3) := by decide +kernel
theorem d_Opcodes_isShortJump_4 : decode prog_3_method_3_code 4 = .ok (.if_icmp .lt 10, 3) := by decide +kernel
theorem d_Opcodes_isShortJump_7 : decode prog_3_method_3_code 7 = .ok (.iload_n 0, 1) := by decide +kernel
theorem d_Opcodes_isShortJump_8 : decode prog_3_method_3_code 8 = .ok (.sipush 167, 3) := by decide +kernel
theorem d_Opcodes_isShortJump_11 : decode prog_3_method_3_code 11 = .ok (.if_icmp .le 17, 3) := by decide +kernel
theorem d_Opcodes_isShortJump_14 : decode prog_3_method_3_code 14 = .ok (.iload_n 0, 1) := by decide +kernel
theorem d_Opcodes_isShortJump_15 : decode prog_3_method_3_code 15 = .ok (.sipush 198, 3) := by decide +kernel
theorem d_Opcodes_isShortJump_18 : decode prog_3_method_3_code 18 = .ok (.if_icmp .eq 10, 3) := by decide +kernel
theorem d_Opcodes_isShortJump_21 : decode prog_3_method_3_code 21 = .ok (.iload_n 0, 1) := by decide +kernel
theorem d_Opcodes_isShortJump_22 : decode prog_3_method_3_code 22 = .ok (.sipush 199, 3) := by decide +kernel
theorem d_Opcodes_isShortJump_25 : decode prog_3_method_3_code 25 = .ok (.if_icmp .ne 7, 3) := by decide +kernel
theorem d_Opcodes_isShortJump_28 : decode prog_3_method_3_code 28 = .ok (.iconst 1, 1) := by decide +kernel
theorem d_Opcodes_isShortJump_29 : decode prog_3_method_3_code 29 = .ok (.goto 4, 3) := by decide +kernel
theorem d_Opcodes_isShortJump_32 : decode prog_3_method_3_code 32 = .ok (.iconst 0, 1) := by decide +kernel
theorem d_Opcodes_isShortJump_33 : decode prog_3_method_3_code 33 = .ok (.ireturn, 1) := by decide +kernel
theorem d_Opcodes_operands_0 : decode prog_3_method_9_code 0 = .ok (.iload_n 0, 1) := by decide +kernel
theorem d_Opcodes_operands_1 : decode prog_3_method_9_code 1 = .ok (.lookupswitch 139 #[(16, 131), (17, 133), (18, 131), (19, 133), (20, 133), (132, 133), (185, 137), (186, 137), (187, 133), (188, 131), (189, 133), (192, 133), (193, 133), (197, 135), (200, 137)], 131) := by decide +kernel
theorem d_Opcodes_operands_132 : decode prog_3_method_9_code 132 = .ok (.iconst 1, 1) := by decide +kernel
theorem d_Opcodes_operands_133 : decode prog_3_method_9_code 133 = .ok (.ireturn, 1) := by decide +kernel
theorem d_Opcodes_operands_134 : decode prog_3_method_9_code 134 = .ok (.iconst 2, 1) := by decide +kernel
theorem d_Opcodes_operands_135 : decode prog_3_method_9_code 135 = .ok (.ireturn, 1) := by decide +kernel
theorem d_Opcodes_operands_136 : decode prog_3_method_9_code 136 = .ok (.iconst 3, 1) := by decide +kernel
theorem d_Opcodes_operands_137 : decode prog_3_method_9_code 137 = .ok (.ireturn, 1) := by decide +kernel
theorem d_Opcodes_operands_138 : decode prog_3_method_9_code 138 = .ok (.iconst 4, 1) := by decide +kernel
theorem d_Opcodes_operands_139 : decode prog_3_method_9_code 139 = .ok (.ireturn, 1) := by decide +kernel
theorem d_Opcodes_operands_140 : decode prog_3_method_9_code 140 = .ok (.iload_n 0, 1) := by decide +kernel
theorem d_Opcodes_operands_141 : decode prog_3_method_9_code 141 = .ok (.invokestatic 21, 3) := by decide +kernel
theorem d_Opcodes_operands_144 : decode prog_3_method_9_code 144 = .ok (.ifCond .eq 5, 3) := by decide +kernel
theorem d_Opcodes_operands_147 : decode prog_3_method_9_code 147 = .ok (.iconst 1, 1) := by decide +kernel
theorem d_Opcodes_operands_148 : decode prog_3_method_9_code 148 = .ok (.ireturn, 1) := by decide +kernel
theorem d_Opcodes_operands_149 : decode prog_3_method_9_code 149 = .ok (.iload_n 0, 1) := by decide +kernel
theorem d_Opcodes_operands_150 : decode prog_3_method_9_code 150 = .ok (.invokestatic 11, 3) := by decide +kernel
theorem d_Opcodes_operands_153 : decode prog_3_method_9_code 153 = .ok (.ifCond .ne 17, 3) := by decide +kernel
theorem d_Opcodes_operands_156 : decode prog_3_method_9_code 156 = .ok (.iload_n 0, 1) := by decide +kernel
theorem d_Opcodes_operands_157 : decode prog_3_method_9_code 157 = .ok (.sipush 178, 3) := by decide +kernel
theorem d_Opcodes_operands_160 : decode prog_3_method_9_code 160 = .ok (.if_icmp .lt 14, 3) := by decide +kernel
theorem d_Opcodes_operands_163 : decode prog_3_method_9_code 163 = .ok (.iload_n 0, 1) := by decide +kernel
theorem d_Opcodes_operands_164 : decode prog_3_method_9_code 164 = .ok (.sipush 184, 3) := by decide +kernel
theorem d_Opcodes_operands_167 : decode prog_3_method_9_code 167 = .ok (.if_icmp .gt 7, 3) := by decide +kernel
theorem d_Opcodes_operands_170 : decode prog_3_method_9_code 170 = .ok (.iconst 2, 1) := by decide +kernel
theorem d_Opcodes_operands_171 : decode prog_3_method_9_code 171 = .ok (.goto 4, 3) := by decide +kernel
theorem d_Opcodes_operands_174 : decode prog_3_method_9_code 174 = .ok (.iconst 0, 1) := by decide +kernel
theorem d_Opcodes_operands_175 : decode prog_3_method_9_code 175 = .ok (.ireturn, 1) := by decide +kernel
theorem d_Source_wordsFrom_0 : decode prog_5_method_11_code 0 = .ok (.iload_n 0, 1) := by decide +kernel
theorem d_Source_wordsFrom_1 : decode prog_5_method_11_code 1 = .ok (.iconst 4, 1) := by decide +kernel
theorem d_Source_wordsFrom_2 : decode prog_5_method_11_code 2 = .ok (.iadd, 1) := by decide +kernel
theorem d_Source_wordsFrom_3 : decode prog_5_method_11_code 3 = .ok (.bipush (-4), 2) := by decide +kernel
theorem d_Source_wordsFrom_5 : decode prog_5_method_11_code 5 = .ok (.iand, 1) := by decide +kernel
theorem d_Source_wordsFrom_6 : decode prog_5_method_11_code 6 = .ok (.ireturn, 1) := by decide +kernel
theorem d_Source_s4_0 : decode prog_5_method_7_code 0 = .ok (.aload_n 0, 1) := by decide +kernel
theorem d_Source_s4_1 : decode prog_5_method_7_code 1 = .ok (.iload_n 1, 1) := by decide +kernel
theorem d_Source_s4_2 : decode prog_5_method_7_code 2 = .ok (.invokevirtual 25, 3) := by decide +kernel
theorem d_Source_s4_5 : decode prog_5_method_7_code 5 = .ok (.bipush 24, 2) := by decide +kernel
theorem d_Source_s4_7 : decode prog_5_method_7_code 7 = .ok (.ishl, 1) := by decide +kernel
theorem d_Source_s4_8 : decode prog_5_method_7_code 8 = .ok (.aload_n 0, 1) := by decide +kernel
theorem d_Source_s4_9 : decode prog_5_method_7_code 9 = .ok (.iload_n 1, 1) := by decide +kernel
theorem d_Source_s4_10 : decode prog_5_method_7_code 10 = .ok (.iconst 1, 1) := by decide +kernel
theorem d_Source_s4_11 : decode prog_5_method_7_code 11 = .ok (.iadd, 1) := by decide +kernel
theorem d_Source_s4_12 : decode prog_5_method_7_code 12 = .ok (.invokevirtual 25, 3) := by decide +kernel
theorem d_Source_s4_15 : decode prog_5_method_7_code 15 = .ok (.bipush 16, 2) := by decide +kernel
theorem d_Source_s4_17 : decode prog_5_method_7_code 17 = .ok (.ishl, 1) := by decide +kernel
theorem d_Source_s4_18 : decode prog_5_method_7_code 18 = .ok (.ior, 1) := by decide +kernel
theorem d_Source_s4_19 : decode prog_5_method_7_code 19 = .ok (.aload_n 0, 1) := by decide +kernel
theorem d_Source_s4_20 : decode prog_5_method_7_code 20 = .ok (.iload_n 1, 1) := by decide +kernel
theorem d_Source_s4_21 : decode prog_5_method_7_code 21 = .ok (.iconst 2, 1) := by decide +kernel
theorem d_Source_s4_22 : decode prog_5_method_7_code 22 = .ok (.iadd, 1) := by decide +kernel
theorem d_Source_s4_23 : decode prog_5_method_7_code 23 = .ok (.invokevirtual 25, 3) := by decide +kernel
theorem d_Source_s4_26 : decode prog_5_method_7_code 26 = .ok (.bipush 8, 2) := by decide +kernel
theorem d_Source_s4_28 : decode prog_5_method_7_code 28 = .ok (.ishl, 1) := by decide +kernel
theorem d_Source_s4_29 : decode prog_5_method_7_code 29 = .ok (.ior, 1) := by decide +kernel
theorem d_Source_s4_30 : decode prog_5_method_7_code 30 = .ok (.aload_n 0, 1) := by decide +kernel
theorem d_Source_s4_31 : decode prog_5_method_7_code 31 = .ok (.iload_n 1, 1) := by decide +kernel
theorem d_Source_s4_32 : decode prog_5_method_7_code 32 = .ok (.iconst 3, 1) := by decide +kernel
theorem d_Source_s4_33 : decode prog_5_method_7_code 33 = .ok (.iadd, 1) := by decide +kernel
theorem d_Source_s4_34 : decode prog_5_method_7_code 34 = .ok (.invokevirtual 25, 3) := by decide +kernel
theorem d_Source_s4_37 : decode prog_5_method_7_code 37 = .ok (.ior, 1) := by decide +kernel
theorem d_Source_s4_38 : decode prog_5_method_7_code 38 = .ok (.ireturn, 1) := by decide +kernel
theorem d_Source_switchLength_0 : decode prog_5_method_10_code 0 = .ok (.iload_n 1, 1) := by decide +kernel
theorem d_Source_switchLength_1 : decode prog_5_method_10_code 1 = .ok (.invokestatic 51, 3) := by decide +kernel
theorem d_Source_switchLength_4 : decode prog_5_method_10_code 4 = .ok (.istore_n 3, 1) := by decide +kernel
theorem d_Source_switchLength_5 : decode prog_5_method_10_code 5 = .ok (.iload_n 2, 1) := by decide +kernel
theorem d_Source_switchLength_6 : decode prog_5_method_10_code 6 = .ok (.sipush 170, 3) := by decide +kernel
theorem d_Source_switchLength_9 : decode prog_5_method_10_code 9 = .ok (.if_icmp .ne 7, 3) := by decide +kernel
theorem d_Source_switchLength_12 : decode prog_5_method_10_code 12 = .ok (.iconst 1, 1) := by decide +kernel
theorem d_Source_switchLength_13 : decode prog_5_method_10_code 13 = .ok (.goto 4, 3) := by decide +kernel
theorem d_Source_switchLength_16 : decode prog_5_method_10_code 16 = .ok (.iconst 0, 1) := by decide +kernel
theorem d_Source_switchLength_17 : decode prog_5_method_10_code 17 = .ok (.istore 4, 2) := by decide +kernel
theorem d_Source_switchLength_19 : decode prog_5_method_10_code 19 = .ok (.iload 4, 2) := by decide +kernel
theorem d_Source_switchLength_21 : decode prog_5_method_10_code 21 = .ok (.ifCond .eq 26, 3) := by decide +kernel
theorem d_Source_switchLength_24 : decode prog_5_method_10_code 24 = .ok (.aload_n 0, 1) := by decide +kernel
theorem d_Source_switchLength_25 : decode prog_5_method_10_code 25 = .ok (.iload_n 3, 1) := by decide +kernel
theorem d_Source_switchLength_26 : decode prog_5_method_10_code 26 = .ok (.bipush 8, 2) := by decide +kernel
theorem d_Source_switchLength_28 : decode prog_5_method_10_code 28 = .ok (.iadd, 1) := by decide +kernel
theorem d_Source_switchLength_29 : decode prog_5_method_10_code 29 = .ok (.invokevirtual 54, 3) := by decide +kernel
theorem d_Source_switchLength_32 : decode prog_5_method_10_code 32 = .ok (.i2l, 1) := by decide +kernel
theorem d_Source_switchLength_33 : decode prog_5_method_10_code 33 = .ok (.aload_n 0, 1) := by decide +kernel
theorem d_Source_switchLength_34 : decode prog_5_method_10_code 34 = .ok (.iload_n 3, 1) := by decide +kernel
theorem d_Source_switchLength_35 : decode prog_5_method_10_code 35 = .ok (.iconst 4, 1) := by decide +kernel
theorem d_Source_switchLength_36 : decode prog_5_method_10_code 36 = .ok (.iadd, 1) := by decide +kernel
theorem d_Source_switchLength_37 : decode prog_5_method_10_code 37 = .ok (.invokevirtual 54, 3) := by decide +kernel
theorem d_Source_switchLength_40 : decode prog_5_method_10_code 40 = .ok (.i2l, 1) := by decide +kernel
theorem d_Source_switchLength_41 : decode prog_5_method_10_code 41 = .ok (.lsub, 1) := by decide +kernel
theorem d_Source_switchLength_42 : decode prog_5_method_10_code 42 = .ok (.lconst 1, 1) := by decide +kernel
theorem d_Source_switchLength_43 : decode prog_5_method_10_code 43 = .ok (.ladd, 1) := by decide +kernel
theorem d_Source_switchLength_44 : decode prog_5_method_10_code 44 = .ok (.goto 11, 3) := by decide +kernel
theorem d_Source_switchLength_47 : decode prog_5_method_10_code 47 = .ok (.aload_n 0, 1) := by decide +kernel
theorem d_Source_switchLength_48 : decode prog_5_method_10_code 48 = .ok (.iload_n 3, 1) := by decide +kernel
theorem d_Source_switchLength_49 : decode prog_5_method_10_code 49 = .ok (.iconst 4, 1) := by decide +kernel
theorem d_Source_switchLength_50 : decode prog_5_method_10_code 50 = .ok (.iadd, 1) := by decide +kernel
theorem d_Source_switchLength_51 : decode prog_5_method_10_code 51 = .ok (.invokevirtual 54, 3) := by decide +kernel
theorem d_Source_switchLength_54 : decode prog_5_method_10_code 54 = .ok (.i2l, 1) := by decide +kernel
theorem d_Source_switchLength_55 : decode prog_5_method_10_code 55 = .ok (.lstore 5, 2) := by decide +kernel
theorem d_Source_switchLength_57 : decode prog_5_method_10_code 57 = .ok (.lload 5, 2) := by decide +kernel
theorem d_Source_switchLength_59 : decode prog_5_method_10_code 59 = .ok (.iload 4, 2) := by decide +kernel
theorem d_Source_switchLength_61 : decode prog_5_method_10_code 61 = .ok (.ifCond .eq 7, 3) := by decide +kernel
theorem d_Source_switchLength_64 : decode prog_5_method_10_code 64 = .ok (.iconst 1, 1) := by decide +kernel
theorem d_Source_switchLength_65 : decode prog_5_method_10_code 65 = .ok (.goto 4, 3) := by decide +kernel
theorem d_Source_switchLength_68 : decode prog_5_method_10_code 68 = .ok (.iconst 0, 1) := by decide +kernel
theorem d_Source_switchLength_69 : decode prog_5_method_10_code 69 = .ok (.i2l, 1) := by decide +kernel
theorem d_Source_switchLength_70 : decode prog_5_method_10_code 70 = .ok (.lcmp, 1) := by decide +kernel
theorem d_Source_switchLength_71 : decode prog_5_method_10_code 71 = .ok (.ifCond .lt 12, 3) := by decide +kernel
theorem d_Source_switchLength_74 : decode prog_5_method_10_code 74 = .ok (.lload 5, 2) := by decide +kernel
theorem d_Source_switchLength_76 : decode prog_5_method_10_code 76 = .ok (.ldc2_w 57, 3) := by decide +kernel
theorem d_Source_switchLength_79 : decode prog_5_method_10_code 79 = .ok (.lcmp, 1) := by decide +kernel
theorem d_Source_switchLength_80 : decode prog_5_method_10_code 80 = .ok (.ifCond .le 5, 3) := by decide +kernel
theorem d_Source_switchLength_83 : decode prog_5_method_10_code 83 = .ok (.iconst 0, 1) := by decide +kernel
theorem d_Source_switchLength_84 : decode prog_5_method_10_code 84 = .ok (.ireturn, 1) := by decide +kernel
theorem d_Source_switchLength_85 : decode prog_5_method_10_code 85 = .ok (.iload 4, 2) := by decide +kernel
theorem d_Source_switchLength_87 : decode prog_5_method_10_code 87 = .ok (.ifCond .eq 14, 3) := by decide +kernel
theorem d_Source_switchLength_90 : decode prog_5_method_10_code 90 = .ok (.bipush 12, 2) := by decide +kernel
theorem d_Source_switchLength_92 : decode prog_5_method_10_code 92 = .ok (.iconst 4, 1) := by decide +kernel
theorem d_Source_switchLength_93 : decode prog_5_method_10_code 93 = .ok (.lload 5, 2) := by decide +kernel
theorem d_Source_switchLength_95 : decode prog_5_method_10_code 95 = .ok (.l2i, 1) := by decide +kernel
theorem d_Source_switchLength_96 : decode prog_5_method_10_code 96 = .ok (.imul, 1) := by decide +kernel
theorem d_Source_switchLength_97 : decode prog_5_method_10_code 97 = .ok (.iadd, 1) := by decide +kernel
theorem d_Source_switchLength_98 : decode prog_5_method_10_code 98 = .ok (.goto 12, 3) := by decide +kernel
theorem d_Source_switchLength_101 : decode prog_5_method_10_code 101 = .ok (.bipush 8, 2) := by decide +kernel
theorem d_Source_switchLength_103 : decode prog_5_method_10_code 103 = .ok (.bipush 8, 2) := by decide +kernel
theorem d_Source_switchLength_105 : decode prog_5_method_10_code 105 = .ok (.lload 5, 2) := by decide +kernel
theorem d_Source_switchLength_107 : decode prog_5_method_10_code 107 = .ok (.l2i, 1) := by decide +kernel
theorem d_Source_switchLength_108 : decode prog_5_method_10_code 108 = .ok (.imul, 1) := by decide +kernel
theorem d_Source_switchLength_109 : decode prog_5_method_10_code 109 = .ok (.iadd, 1) := by decide +kernel
theorem d_Source_switchLength_110 : decode prog_5_method_10_code 110 = .ok (.istore 7, 2) := by decide +kernel
theorem d_Source_switchLength_112 : decode prog_5_method_10_code 112 = .ok (.iload_n 3, 1) := by decide +kernel
theorem d_Source_switchLength_113 : decode prog_5_method_10_code 113 = .ok (.iload_n 1, 1) := by decide +kernel
theorem d_Source_switchLength_114 : decode prog_5_method_10_code 114 = .ok (.isub, 1) := by decide +kernel
theorem d_Source_switchLength_115 : decode prog_5_method_10_code 115 = .ok (.iload 7, 2) := by decide +kernel
theorem d_Source_switchLength_117 : decode prog_5_method_10_code 117 = .ok (.iadd, 1) := by decide +kernel
theorem d_Source_switchLength_118 : decode prog_5_method_10_code 118 = .ok (.ireturn, 1) := by decide +kernel
theorem d_Source_wideLength_0 : decode prog_5_method_9_code 0 = .ok (.iload_n 1, 1) := by decide +kernel
theorem d_Source_wideLength_1 : decode prog_5_method_9_code 1 = .ok (.sipush 132, 3) := by decide +kernel
theorem d_Source_wideLength_4 : decode prog_5_method_9_code 4 = .ok (.if_icmp .ne 6, 3) := by decide +kernel
theorem d_Source_wideLength_7 : decode prog_5_method_9_code 7 = .ok (.bipush 6, 2) := by decide +kernel
theorem d_Source_wideLength_9 : decode prog_5_method_9_code 9 = .ok (.ireturn, 1) := by decide +kernel
theorem d_Source_wideLength_10 : decode prog_5_method_9_code 10 = .ok (.iload_n 1, 1) := by decide +kernel
theorem d_Source_wideLength_11 : decode prog_5_method_9_code 11 = .ok (.invokestatic 48, 3) := by decide +kernel
theorem d_Source_wideLength_14 : decode prog_5_method_9_code 14 = .ok (.ifCond .eq 7, 3) := by decide +kernel
theorem d_Source_wideLength_17 : decode prog_5_method_9_code 17 = .ok (.iconst 4, 1) := by decide +kernel
theorem d_Source_wideLength_18 : decode prog_5_method_9_code 18 = .ok (.goto 4, 3) := by decide +kernel
theorem d_Source_wideLength_21 : decode prog_5_method_9_code 21 = .ok (.iconst 0, 1) := by decide +kernel
theorem d_Source_wideLength_22 : decode prog_5_method_9_code 22 = .ok (.ireturn, 1) := by decide +kernel
theorem d_Source_lengthAt_0 : decode prog_5_method_8_code 0 = .ok (.aload_n 0, 1) := by decide +kernel
theorem d_Source_lengthAt_1 : decode prog_5_method_8_code 1 = .ok (.iload_n 1, 1) := by decide +kernel
theorem d_Source_lengthAt_2 : decode prog_5_method_8_code 2 = .ok (.invokevirtual 25, 3) := by decide +kernel
theorem d_Source_lengthAt_5 : decode prog_5_method_8_code 5 = .ok (.istore_n 2, 1) := by decide +kernel
theorem d_Source_lengthAt_6 : decode prog_5_method_8_code 6 = .ok (.iload_n 2, 1) := by decide +kernel
theorem d_Source_lengthAt_7 : decode prog_5_method_8_code 7 = .ok (.invokestatic 29, 3) := by decide +kernel
theorem d_Source_lengthAt_10 : decode prog_5_method_8_code 10 = .ok (.ifCond .ne 8, 3) := by decide +kernel
theorem d_Source_lengthAt_13 : decode prog_5_method_8_code 13 = .ok (.iconst 0, 1) := by decide +kernel
theorem d_Source_lengthAt_14 : decode prog_5_method_8_code 14 = .ok (.istore_n 3, 1) := by decide +kernel
theorem d_Source_lengthAt_15 : decode prog_5_method_8_code 15 = .ok (.goto 49, 3) := by decide +kernel
theorem d_Source_lengthAt_18 : decode prog_5_method_8_code 18 = .ok (.iload_n 2, 1) := by decide +kernel
theorem d_Source_lengthAt_19 : decode prog_5_method_8_code 19 = .ok (.sipush 196, 3) := by decide +kernel
theorem d_Source_lengthAt_22 : decode prog_5_method_8_code 22 = .ok (.if_icmp .ne 18, 3) := by decide +kernel
theorem d_Source_lengthAt_25 : decode prog_5_method_8_code 25 = .ok (.aload_n 0, 1) := by decide +kernel
theorem d_Source_lengthAt_26 : decode prog_5_method_8_code 26 = .ok (.aload_n 0, 1) := by decide +kernel
theorem d_Source_lengthAt_27 : decode prog_5_method_8_code 27 = .ok (.iload_n 1, 1) := by decide +kernel
theorem d_Source_lengthAt_28 : decode prog_5_method_8_code 28 = .ok (.iconst 1, 1) := by decide +kernel
theorem d_Source_lengthAt_29 : decode prog_5_method_8_code 29 = .ok (.iadd, 1) := by decide +kernel
theorem d_Source_lengthAt_30 : decode prog_5_method_8_code 30 = .ok (.invokevirtual 25, 3) := by decide +kernel
theorem d_Source_lengthAt_33 : decode prog_5_method_8_code 33 = .ok (.invokevirtual 35, 3) := by decide +kernel
theorem d_Source_lengthAt_36 : decode prog_5_method_8_code 36 = .ok (.istore_n 3, 1) := by decide +kernel
theorem d_Source_lengthAt_37 : decode prog_5_method_8_code 37 = .ok (.goto 27, 3) := by decide +kernel
theorem d_Source_lengthAt_40 : decode prog_5_method_8_code 40 = .ok (.iload_n 2, 1) := by decide +kernel
theorem d_Source_lengthAt_41 : decode prog_5_method_8_code 41 = .ok (.invokestatic 38, 3) := by decide +kernel
theorem d_Source_lengthAt_44 : decode prog_5_method_8_code 44 = .ok (.ifCond .eq 13, 3) := by decide +kernel
theorem d_Source_lengthAt_47 : decode prog_5_method_8_code 47 = .ok (.aload_n 0, 1) := by decide +kernel
theorem d_Source_lengthAt_48 : decode prog_5_method_8_code 48 = .ok (.iload_n 1, 1) := by decide +kernel
theorem d_Source_lengthAt_49 : decode prog_5_method_8_code 49 = .ok (.iload_n 2, 1) := by decide +kernel
theorem d_Source_lengthAt_50 : decode prog_5_method_8_code 50 = .ok (.invokevirtual 41, 3) := by decide +kernel
theorem d_Source_lengthAt_53 : decode prog_5_method_8_code 53 = .ok (.istore_n 3, 1) := by decide +kernel
theorem d_Source_lengthAt_54 : decode prog_5_method_8_code 54 = .ok (.goto 10, 3) := by decide +kernel
theorem d_Source_lengthAt_57 : decode prog_5_method_8_code 57 = .ok (.iconst 1, 1) := by decide +kernel
theorem d_Source_lengthAt_58 : decode prog_5_method_8_code 58 = .ok (.iload_n 2, 1) := by decide +kernel
theorem d_Source_lengthAt_59 : decode prog_5_method_8_code 59 = .ok (.invokestatic 45, 3) := by decide +kernel
theorem d_Source_lengthAt_62 : decode prog_5_method_8_code 62 = .ok (.iadd, 1) := by decide +kernel
theorem d_Source_lengthAt_63 : decode prog_5_method_8_code 63 = .ok (.istore_n 3, 1) := by decide +kernel
theorem d_Source_lengthAt_64 : decode prog_5_method_8_code 64 = .ok (.iload_n 1, 1) := by decide +kernel
theorem d_Source_lengthAt_65 : decode prog_5_method_8_code 65 = .ok (.iload_n 3, 1) := by decide +kernel
theorem d_Source_lengthAt_66 : decode prog_5_method_8_code 66 = .ok (.iadd, 1) := by decide +kernel
theorem d_Source_lengthAt_67 : decode prog_5_method_8_code 67 = .ok (.aload_n 0, 1) := by decide +kernel
theorem d_Source_lengthAt_68 : decode prog_5_method_8_code 68 = .ok (.getfield 18, 3) := by decide +kernel
theorem d_Source_lengthAt_71 : decode prog_5_method_8_code 71 = .ok (.if_icmp .gt 7, 3) := by decide +kernel
theorem d_Source_lengthAt_74 : decode prog_5_method_8_code 74 = .ok (.iload_n 3, 1) := by decide +kernel
theorem d_Source_lengthAt_75 : decode prog_5_method_8_code 75 = .ok (.goto 4, 3) := by decide +kernel
theorem d_Source_lengthAt_78 : decode prog_5_method_8_code 78 = .ok (.iconst 0, 1) := by decide +kernel
theorem d_Source_lengthAt_79 : decode prog_5_method_8_code 79 = .ok (.ireturn, 1) := by decide +kernel
theorem d_Layout_readInstructions_0 : decode prog_2_method_5_code 0 = .ok (.iconst 0, 1) := by decide +kernel
theorem d_Layout_readInstructions_1 : decode prog_2_method_5_code 1 = .ok (.istore_n 1, 1) := by decide +kernel
theorem d_Layout_readInstructions_2 : decode prog_2_method_5_code 2 = .ok (.iconst 0, 1) := by decide +kernel
theorem d_Layout_readInstructions_3 : decode prog_2_method_5_code 3 = .ok (.istore_n 2, 1) := by decide +kernel
theorem d_Layout_readInstructions_4 : decode prog_2_method_5_code 4 = .ok (.iload_n 2, 1) := by decide +kernel
theorem d_Layout_readInstructions_5 : decode prog_2_method_5_code 5 = .ok (.sipush 200, 3) := by decide +kernel
theorem d_Layout_readInstructions_8 : decode prog_2_method_5_code 8 = .ok (.if_icmp .ge 95, 3) := by decide +kernel
theorem d_Layout_readInstructions_11 : decode prog_2_method_5_code 11 = .ok (.iload_n 1, 1) := by decide +kernel
theorem d_Layout_readInstructions_12 : decode prog_2_method_5_code 12 = .ok (.aload_n 0, 1) := by decide +kernel
theorem d_Layout_readInstructions_13 : decode prog_2_method_5_code 13 = .ok (.getfield 40, 3) := by decide +kernel
theorem d_Layout_readInstructions_16 : decode prog_2_method_5_code 16 = .ok (.getfield 70, 3) := by decide +kernel
theorem d_Layout_readInstructions_19 : decode prog_2_method_5_code 19 = .ok (.if_icmp .ge 84, 3) := by decide +kernel
theorem d_Layout_readInstructions_22 : decode prog_2_method_5_code 22 = .ok (.iload_n 1, 1) := by decide +kernel
theorem d_Layout_readInstructions_23 : decode prog_2_method_5_code 23 = .ok (.istore_n 3, 1) := by decide +kernel
theorem d_Layout_readInstructions_24 : decode prog_2_method_5_code 24 = .ok (.aload_n 0, 1) := by decide +kernel
theorem d_Layout_readInstructions_25 : decode prog_2_method_5_code 25 = .ok (.getfield 15, 3) := by decide +kernel
theorem d_Layout_readInstructions_28 : decode prog_2_method_5_code 28 = .ok (.iload_n 3, 1) := by decide +kernel
theorem d_Layout_readInstructions_29 : decode prog_2_method_5_code 29 = .ok (.aload_n 0, 1) := by decide +kernel
theorem d_Layout_readInstructions_30 : decode prog_2_method_5_code 30 = .ok (.getfield 40, 3) := by decide +kernel
theorem d_Layout_readInstructions_33 : decode prog_2_method_5_code 33 = .ok (.iload_n 3, 1) := by decide +kernel
theorem d_Layout_readInstructions_34 : decode prog_2_method_5_code 34 = .ok (.invokevirtual 97, 3) := by decide +kernel
theorem d_Layout_readInstructions_37 : decode prog_2_method_5_code 37 = .ok (.iastore, 1) := by decide +kernel
theorem d_Layout_readInstructions_38 : decode prog_2_method_5_code 38 = .ok (.aload_n 0, 1) := by decide +kernel
theorem d_Layout_readInstructions_39 : decode prog_2_method_5_code 39 = .ok (.getfield 15, 3) := by decide +kernel
theorem d_Layout_readInstructions_42 : decode prog_2_method_5_code 42 = .ok (.iload_n 3, 1) := by decide +kernel
theorem d_Layout_readInstructions_43 : decode prog_2_method_5_code 43 = .ok (.iaload, 1) := by decide +kernel
theorem d_Layout_readInstructions_44 : decode prog_2_method_5_code 44 = .ok (.ifCond .ne 5, 3) := by decide +kernel
theorem d_Layout_readInstructions_47 : decode prog_2_method_5_code 47 = .ok (.iconst 0, 1) := by decide +kernel
theorem d_Layout_readInstructions_48 : decode prog_2_method_5_code 48 = .ok (.ireturn, 1) := by decide +kernel
theorem d_Layout_readInstructions_49 : decode prog_2_method_5_code 49 = .ok (.aload_n 0, 1) := by decide +kernel
theorem d_Layout_readInstructions_50 : decode prog_2_method_5_code 50 = .ok (.getfield 37, 3) := by decide +kernel
theorem d_Layout_readInstructions_53 : decode prog_2_method_5_code 53 = .ok (.iload_n 3, 1) := by decide +kernel
theorem d_Layout_readInstructions_54 : decode prog_2_method_5_code 54 = .ok (.aload_n 0, 1) := by decide +kernel
theorem d_Layout_readInstructions_55 : decode prog_2_method_5_code 55 = .ok (.getfield 40, 3) := by decide +kernel
theorem d_Layout_readInstructions_58 : decode prog_2_method_5_code 58 = .ok (.iload_n 3, 1) := by decide +kernel
theorem d_Layout_readInstructions_59 : decode prog_2_method_5_code 59 = .ok (.invokevirtual 101, 3) := by decide +kernel
theorem d_Layout_readInstructions_62 : decode prog_2_method_5_code 62 = .ok (.sipush 200, 3) := by decide +kernel
theorem d_Layout_readInstructions_65 : decode prog_2_method_5_code 65 = .ok (.if_icmp .ne 7, 3) := by decide +kernel
theorem d_Layout_readInstructions_68 : decode prog_2_method_5_code 68 = .ok (.iconst 1, 1) := by decide +kernel
theorem d_Layout_readInstructions_69 : decode prog_2_method_5_code 69 = .ok (.goto 4, 3) := by decide +kernel
theorem d_Layout_readInstructions_72 : decode prog_2_method_5_code 72 = .ok (.iconst 0, 1) := by decide +kernel
theorem d_Layout_readInstructions_73 : decode prog_2_method_5_code 73 = .ok (.bastore, 1) := by decide +kernel
theorem d_Layout_readInstructions_74 : decode prog_2_method_5_code 74 = .ok (.aload_n 0, 1) := by decide +kernel
theorem d_Layout_readInstructions_75 : decode prog_2_method_5_code 75 = .ok (.getfield 9, 3) := by decide +kernel
theorem d_Layout_readInstructions_78 : decode prog_2_method_5_code 78 = .ok (.iload_n 2, 1) := by decide +kernel
theorem d_Layout_readInstructions_79 : decode prog_2_method_5_code 79 = .ok (.iload_n 3, 1) := by decide +kernel
theorem d_Layout_readInstructions_80 : decode prog_2_method_5_code 80 = .ok (.iastore, 1) := by decide +kernel
theorem d_Layout_readInstructions_81 : decode prog_2_method_5_code 81 = .ok (.aload_n 0, 1) := by decide +kernel
theorem d_Layout_readInstructions_82 : decode prog_2_method_5_code 82 = .ok (.iload_n 2, 1) := by decide +kernel
theorem d_Layout_readInstructions_83 : decode prog_2_method_5_code 83 = .ok (.iconst 1, 1) := by decide +kernel
theorem d_Layout_readInstructions_84 : decode prog_2_method_5_code 84 = .ok (.iadd, 1) := by decide +kernel
theorem d_Layout_readInstructions_85 : decode prog_2_method_5_code 85 = .ok (.putfield 82, 3) := by decide +kernel
theorem d_Layout_readInstructions_88 : decode prog_2_method_5_code 88 = .ok (.iload_n 3, 1) := by decide +kernel
theorem d_Layout_readInstructions_89 : decode prog_2_method_5_code 89 = .ok (.aload_n 0, 1) := by decide +kernel
theorem d_Layout_readInstructions_90 : decode prog_2_method_5_code 90 = .ok (.getfield 15, 3) := by decide +kernel
theorem d_Layout_readInstructions_93 : decode prog_2_method_5_code 93 = .ok (.iload_n 3, 1) := by decide +kernel
theorem d_Layout_readInstructions_94 : decode prog_2_method_5_code 94 = .ok (.iaload, 1) := by decide +kernel
theorem d_Layout_readInstructions_95 : decode prog_2_method_5_code 95 = .ok (.iadd, 1) := by decide +kernel
theorem d_Layout_readInstructions_96 : decode prog_2_method_5_code 96 = .ok (.istore_n 1, 1) := by decide +kernel
theorem d_Layout_readInstructions_97 : decode prog_2_method_5_code 97 = .ok (.iinc 2 1, 3) := by decide +kernel
theorem d_Layout_readInstructions_100 : decode prog_2_method_5_code 100 = .ok (.goto (-96), 3) := by decide +kernel
theorem d_Layout_readInstructions_103 : decode prog_2_method_5_code 103 = .ok (.aload_n 0, 1) := by decide +kernel
theorem d_Layout_readInstructions_104 : decode prog_2_method_5_code 104 = .ok (.getfield 82, 3) := by decide +kernel
theorem d_Layout_readInstructions_107 : decode prog_2_method_5_code 107 = .ok (.ifCond .le 7, 3) := by decide +kernel
theorem d_Layout_readInstructions_110 : decode prog_2_method_5_code 110 = .ok (.iconst 1, 1) := by decide +kernel
theorem d_Layout_readInstructions_111 : decode prog_2_method_5_code 111 = .ok (.goto 4, 3) := by decide +kernel
theorem d_Layout_readInstructions_114 : decode prog_2_method_5_code 114 = .ok (.iconst 0, 1) := by decide +kernel
theorem d_Layout_readInstructions_115 : decode prog_2_method_5_code 115 = .ok (.ireturn, 1) := by decide +kernel
theorem d_Layout_wordsOf_0 : decode prog_2_method_8_code 0 = .ok (.iload_n 1, 1) := by decide +kernel
theorem d_Layout_wordsOf_1 : decode prog_2_method_8_code 1 = .ok (.aload_n 0, 1) := by decide +kernel
theorem d_Layout_wordsOf_2 : decode prog_2_method_8_code 2 = .ok (.getfield 15, 3) := by decide +kernel
theorem d_Layout_wordsOf_5 : decode prog_2_method_8_code 5 = .ok (.iload_n 1, 1) := by decide +kernel
theorem d_Layout_wordsOf_6 : decode prog_2_method_8_code 6 = .ok (.iaload, 1) := by decide +kernel
theorem d_Layout_wordsOf_7 : decode prog_2_method_8_code 7 = .ok (.iadd, 1) := by decide +kernel
theorem d_Layout_wordsOf_8 : decode prog_2_method_8_code 8 = .ok (.iload_n 1, 1) := by decide +kernel
theorem d_Layout_wordsOf_9 : decode prog_2_method_8_code 9 = .ok (.invokestatic 133, 3) := by decide +kernel
theorem d_Layout_wordsOf_12 : decode prog_2_method_8_code 12 = .ok (.isub, 1) := by decide +kernel
theorem d_Layout_wordsOf_13 : decode prog_2_method_8_code 13 = .ok (.iconst 4, 1) := by decide +kernel
theorem d_Layout_wordsOf_14 : decode prog_2_method_8_code 14 = .ok (.idiv, 1) := by decide +kernel
theorem d_Layout_wordsOf_15 : decode prog_2_method_8_code 15 = .ok (.ireturn, 1) := by decide +kernel
theorem d_Opcodes_isGoalWord_0 : decode prog_3_method_11_code 0 = .ok (.iload_n 1, 1) := by decide +kernel
theorem d_Opcodes_isGoalWord_1 : decode prog_3_method_11_code 1 = .ok (.ifCond .eq 22, 3) := by decide +kernel
theorem d_Opcodes_isGoalWord_4 : decode prog_3_method_11_code 4 = .ok (.iload_n 1, 1) := by decide +kernel
theorem d_Opcodes_isGoalWord_5 : decode prog_3_method_11_code 5 = .ok (.iconst 3, 1) := by decide +kernel
theorem d_Opcodes_isGoalWord_6 : decode prog_3_method_11_code 6 = .ok (.if_icmp .lt 21, 3) := by decide +kernel
theorem d_Opcodes_isGoalWord_9 : decode prog_3_method_11_code 9 = .ok (.iload_n 0, 1) := by decide +kernel
theorem d_Opcodes_isGoalWord_10 : decode prog_3_method_11_code 10 = .ok (.sipush 170, 3) := by decide +kernel
theorem d_Opcodes_isGoalWord_13 : decode prog_3_method_11_code 13 = .ok (.if_icmp .eq 10, 3) := by decide +kernel
theorem d_Opcodes_isGoalWord_16 : decode prog_3_method_11_code 16 = .ok (.iload_n 1, 1) := by decide +kernel
theorem d_Opcodes_isGoalWord_17 : decode prog_3_method_11_code 17 = .ok (.iconst 2, 1) := by decide +kernel
theorem d_Opcodes_isGoalWord_18 : decode prog_3_method_11_code 18 = .ok (.irem, 1) := by decide +kernel
theorem d_Opcodes_isGoalWord_19 : decode prog_3_method_11_code 19 = .ok (.iconst 1, 1) := by decide +kernel
theorem d_Opcodes_isGoalWord_20 : decode prog_3_method_11_code 20 = .ok (.if_icmp .ne 7, 3) := by decide +kernel
theorem d_Opcodes_isGoalWord_23 : decode prog_3_method_11_code 23 = .ok (.iconst 1, 1) := by decide +kernel
theorem d_Opcodes_isGoalWord_24 : decode prog_3_method_11_code 24 = .ok (.goto 4, 3) := by decide +kernel
theorem d_Opcodes_isGoalWord_27 : decode prog_3_method_11_code 27 = .ok (.iconst 0, 1) := by decide +kernel
theorem d_Opcodes_isGoalWord_28 : decode prog_3_method_11_code 28 = .ok (.ireturn, 1) := by decide +kernel
theorem d_Source_wordGoal_0 : decode prog_5_method_13_code 0 = .ok (.iload_n 1, 1) := by decide +kernel
theorem d_Source_wordGoal_1 : decode prog_5_method_13_code 1 = .ok (.aload_n 0, 1) := by decide +kernel
theorem d_Source_wordGoal_2 : decode prog_5_method_13_code 2 = .ok (.iload_n 1, 1) := by decide +kernel
theorem d_Source_wordGoal_3 : decode prog_5_method_13_code 3 = .ok (.invokestatic 51, 3) := by decide +kernel
theorem d_Source_wordGoal_6 : decode prog_5_method_13_code 6 = .ok (.iconst 4, 1) := by decide +kernel
theorem d_Source_wordGoal_7 : decode prog_5_method_13_code 7 = .ok (.iload_n 2, 1) := by decide +kernel
theorem d_Source_wordGoal_8 : decode prog_5_method_13_code 8 = .ok (.imul, 1) := by decide +kernel
theorem d_Source_wordGoal_9 : decode prog_5_method_13_code 9 = .ok (.iadd, 1) := by decide +kernel
theorem d_Source_wordGoal_10 : decode prog_5_method_13_code 10 = .ok (.invokevirtual 54, 3) := by decide +kernel
theorem d_Source_wordGoal_13 : decode prog_5_method_13_code 13 = .ok (.iadd, 1) := by decide +kernel
theorem d_Source_wordGoal_14 : decode prog_5_method_13_code 14 = .ok (.ireturn, 1) := by decide +kernel
theorem d_Layout_begins_0 : decode prog_2_method_2_code 0 = .ok (.iload_n 1, 1) := by decide +kernel
theorem d_Layout_begins_1 : decode prog_2_method_2_code 1 = .ok (.ifCond .lt 23, 3) := by decide +kernel
theorem d_Layout_begins_4 : decode prog_2_method_2_code 4 = .ok (.iload_n 1, 1) := by decide +kernel
theorem d_Layout_begins_5 : decode prog_2_method_2_code 5 = .ok (.sipush 200, 3) := by decide +kernel
theorem d_Layout_begins_8 : decode prog_2_method_2_code 8 = .ok (.if_icmp .gt 16, 3) := by decide +kernel
theorem d_Layout_begins_11 : decode prog_2_method_2_code 11 = .ok (.aload_n 0, 1) := by decide +kernel
theorem d_Layout_begins_12 : decode prog_2_method_2_code 12 = .ok (.getfield 15, 3) := by decide +kernel
theorem d_Layout_begins_15 : decode prog_2_method_2_code 15 = .ok (.iload_n 1, 1) := by decide +kernel
theorem d_Layout_begins_16 : decode prog_2_method_2_code 16 = .ok (.iaload, 1) := by decide +kernel
theorem d_Layout_begins_17 : decode prog_2_method_2_code 17 = .ok (.ifCond .le 7, 3) := by decide +kernel
theorem d_Layout_begins_20 : decode prog_2_method_2_code 20 = .ok (.iconst 1, 1) := by decide +kernel
theorem d_Layout_begins_21 : decode prog_2_method_2_code 21 = .ok (.goto 4, 3) := by decide +kernel
theorem d_Layout_begins_24 : decode prog_2_method_2_code 24 = .ok (.iconst 0, 1) := by decide +kernel
theorem d_Layout_begins_25 : decode prog_2_method_2_code 25 = .ok (.ireturn, 1) := by decide +kernel
theorem d_Layout_beginBlock_0 : decode prog_2_method_9_code 0 = .ok (.aload_n 0, 1) := by decide +kernel
theorem d_Layout_beginBlock_1 : decode prog_2_method_9_code 1 = .ok (.iload_n 1, 1) := by decide +kernel
theorem d_Layout_beginBlock_2 : decode prog_2_method_9_code 2 = .ok (.invokevirtual 136, 3) := by decide +kernel
theorem d_Layout_beginBlock_5 : decode prog_2_method_9_code 5 = .ok (.ifCond .ne 5, 3) := by decide +kernel
theorem d_Layout_beginBlock_8 : decode prog_2_method_9_code 8 = .ok (.iconst 0, 1) := by decide +kernel
theorem d_Layout_beginBlock_9 : decode prog_2_method_9_code 9 = .ok (.ireturn, 1) := by decide +kernel
theorem d_Layout_beginBlock_10 : decode prog_2_method_9_code 10 = .ok (.aload_n 0, 1) := by decide +kernel
theorem d_Layout_beginBlock_11 : decode prog_2_method_9_code 11 = .ok (.getfield 21, 3) := by decide +kernel
theorem d_Layout_beginBlock_14 : decode prog_2_method_9_code 14 = .ok (.iload_n 1, 1) := by decide +kernel
theorem d_Layout_beginBlock_15 : decode prog_2_method_9_code 15 = .ok (.iconst 0, 1) := by decide +kernel
theorem d_Layout_beginBlock_16 : decode prog_2_method_9_code 16 = .ok (.iastore, 1) := by decide +kernel
theorem d_Layout_beginBlock_17 : decode prog_2_method_9_code 17 = .ok (.iconst 1, 1) := by decide +kernel
theorem d_Layout_beginBlock_18 : decode prog_2_method_9_code 18 = .ok (.ireturn, 1) := by decide +kernel
theorem d_Layout_readWordGoals_0 : decode prog_2_method_7_code 0 = .ok (.aload_n 0, 1) := by decide +kernel
theorem d_Layout_readWordGoals_1 : decode prog_2_method_7_code 1 = .ok (.iload_n 1, 1) := by decide +kernel
theorem d_Layout_readWordGoals_2 : decode prog_2_method_7_code 2 = .ok (.invokevirtual 123, 3) := by decide +kernel
theorem d_Layout_readWordGoals_5 : decode prog_2_method_7_code 5 = .ok (.istore_n 3, 1) := by decide +kernel
theorem d_Layout_readWordGoals_6 : decode prog_2_method_7_code 6 = .ok (.iconst 0, 1) := by decide +kernel
theorem d_Layout_readWordGoals_7 : decode prog_2_method_7_code 7 = .ok (.istore 4, 2) := by decide +kernel
theorem d_Layout_readWordGoals_9 : decode prog_2_method_7_code 9 = .ok (.iload 4, 2) := by decide +kernel
theorem d_Layout_readWordGoals_11 : decode prog_2_method_7_code 11 = .ok (.iload_n 3, 1) := by decide +kernel
theorem d_Layout_readWordGoals_12 : decode prog_2_method_7_code 12 = .ok (.if_icmp .ge 37, 3) := by decide +kernel
theorem d_Layout_readWordGoals_15 : decode prog_2_method_7_code 15 = .ok (.iload_n 2, 1) := by decide +kernel
theorem d_Layout_readWordGoals_16 : decode prog_2_method_7_code 16 = .ok (.iload 4, 2) := by decide +kernel
theorem d_Layout_readWordGoals_18 : decode prog_2_method_7_code 18 = .ok (.invokestatic 126, 3) := by decide +kernel
theorem d_Layout_readWordGoals_21 : decode prog_2_method_7_code 21 = .ok (.ifCond .eq 22, 3) := by decide +kernel
theorem d_Layout_readWordGoals_24 : decode prog_2_method_7_code 24 = .ok (.aload_n 0, 1) := by decide +kernel
theorem d_Layout_readWordGoals_25 : decode prog_2_method_7_code 25 = .ok (.aload_n 0, 1) := by decide +kernel
theorem d_Layout_readWordGoals_26 : decode prog_2_method_7_code 26 = .ok (.getfield 40, 3) := by decide +kernel
theorem d_Layout_readWordGoals_29 : decode prog_2_method_7_code 29 = .ok (.iload_n 1, 1) := by decide +kernel
theorem d_Layout_readWordGoals_30 : decode prog_2_method_7_code 30 = .ok (.iload 4, 2) := by decide +kernel
theorem d_Layout_readWordGoals_32 : decode prog_2_method_7_code 32 = .ok (.invokevirtual 129, 3) := by decide +kernel
theorem d_Layout_readWordGoals_35 : decode prog_2_method_7_code 35 = .ok (.invokevirtual 120, 3) := by decide +kernel
theorem d_Layout_readWordGoals_38 : decode prog_2_method_7_code 38 = .ok (.ifCond .ne 5, 3) := by decide +kernel
theorem d_Layout_readWordGoals_41 : decode prog_2_method_7_code 41 = .ok (.iconst 0, 1) := by decide +kernel
theorem d_Layout_readWordGoals_42 : decode prog_2_method_7_code 42 = .ok (.ireturn, 1) := by decide +kernel
theorem d_Layout_readWordGoals_43 : decode prog_2_method_7_code 43 = .ok (.iinc 4 1, 3) := by decide +kernel
theorem d_Layout_readWordGoals_46 : decode prog_2_method_7_code 46 = .ok (.goto (-37), 3) := by decide +kernel
theorem d_Layout_readWordGoals_49 : decode prog_2_method_7_code 49 = .ok (.iconst 1, 1) := by decide +kernel
theorem d_Layout_readWordGoals_50 : decode prog_2_method_7_code 50 = .ok (.ireturn, 1) := by decide +kernel
theorem d_Source_s2_0 : decode prog_5_method_6_code 0 = .ok (.aload_n 0, 1) := by decide +kernel
theorem d_Source_s2_1 : decode prog_5_method_6_code 1 = .ok (.iload_n 1, 1) := by decide +kernel
theorem d_Source_s2_2 : decode prog_5_method_6_code 2 = .ok (.invokevirtual 25, 3) := by decide +kernel
theorem d_Source_s2_5 : decode prog_5_method_6_code 5 = .ok (.bipush 8, 2) := by decide +kernel
theorem d_Source_s2_7 : decode prog_5_method_6_code 7 = .ok (.ishl, 1) := by decide +kernel
theorem d_Source_s2_8 : decode prog_5_method_6_code 8 = .ok (.aload_n 0, 1) := by decide +kernel
theorem d_Source_s2_9 : decode prog_5_method_6_code 9 = .ok (.iload_n 1, 1) := by decide +kernel
theorem d_Source_s2_10 : decode prog_5_method_6_code 10 = .ok (.iconst 1, 1) := by decide +kernel
theorem d_Source_s2_11 : decode prog_5_method_6_code 11 = .ok (.iadd, 1) := by decide +kernel
theorem d_Source_s2_12 : decode prog_5_method_6_code 12 = .ok (.invokevirtual 25, 3) := by decide +kernel
theorem d_Source_s2_15 : decode prog_5_method_6_code 15 = .ok (.ior, 1) := by decide +kernel
theorem d_Source_s2_16 : decode prog_5_method_6_code 16 = .ok (.i2s, 1) := by decide +kernel
theorem d_Source_s2_17 : decode prog_5_method_6_code 17 = .ok (.ireturn, 1) := by decide +kernel
theorem d_Source_jumpGoal_0 : decode prog_5_method_12_code 0 = .ok (.iload_n 1, 1) := by decide +kernel
theorem d_Source_jumpGoal_1 : decode prog_5_method_12_code 1 = .ok (.aload_n 0, 1) := by decide +kernel
theorem d_Source_jumpGoal_2 : decode prog_5_method_12_code 2 = .ok (.iload_n 1, 1) := by decide +kernel
theorem d_Source_jumpGoal_3 : decode prog_5_method_12_code 3 = .ok (.invokevirtual 25, 3) := by decide +kernel
theorem d_Source_jumpGoal_6 : decode prog_5_method_12_code 6 = .ok (.sipush 200, 3) := by decide +kernel
theorem d_Source_jumpGoal_9 : decode prog_5_method_12_code 9 = .ok (.if_icmp .ne 13, 3) := by decide +kernel
theorem d_Source_jumpGoal_12 : decode prog_5_method_12_code 12 = .ok (.aload_n 0, 1) := by decide +kernel
theorem d_Source_jumpGoal_13 : decode prog_5_method_12_code 13 = .ok (.iload_n 1, 1) := by decide +kernel
theorem d_Source_jumpGoal_14 : decode prog_5_method_12_code 14 = .ok (.iconst 1, 1) := by decide +kernel
theorem d_Source_jumpGoal_15 : decode prog_5_method_12_code 15 = .ok (.iadd, 1) := by decide +kernel
theorem d_Source_jumpGoal_16 : decode prog_5_method_12_code 16 = .ok (.invokevirtual 54, 3) := by decide +kernel
theorem d_Source_jumpGoal_19 : decode prog_5_method_12_code 19 = .ok (.goto 10, 3) := by decide +kernel
theorem d_Source_jumpGoal_22 : decode prog_5_method_12_code 22 = .ok (.aload_n 0, 1) := by decide +kernel
theorem d_Source_jumpGoal_23 : decode prog_5_method_12_code 23 = .ok (.iload_n 1, 1) := by decide +kernel
theorem d_Source_jumpGoal_24 : decode prog_5_method_12_code 24 = .ok (.iconst 1, 1) := by decide +kernel
theorem d_Source_jumpGoal_25 : decode prog_5_method_12_code 25 = .ok (.iadd, 1) := by decide +kernel
theorem d_Source_jumpGoal_26 : decode prog_5_method_12_code 26 = .ok (.invokevirtual 59, 3) := by decide +kernel
theorem d_Source_jumpGoal_29 : decode prog_5_method_12_code 29 = .ok (.iadd, 1) := by decide +kernel
theorem d_Source_jumpGoal_30 : decode prog_5_method_12_code 30 = .ok (.ireturn, 1) := by decide +kernel
theorem d_Layout_readGoals_0 : decode prog_2_method_6_code 0 = .ok (.iconst 0, 1) := by decide +kernel
theorem d_Layout_readGoals_1 : decode prog_2_method_6_code 1 = .ok (.istore_n 1, 1) := by decide +kernel
theorem d_Layout_readGoals_2 : decode prog_2_method_6_code 2 = .ok (.iload_n 1, 1) := by decide +kernel
theorem d_Layout_readGoals_3 : decode prog_2_method_6_code 3 = .ok (.aload_n 0, 1) := by decide +kernel
theorem d_Layout_readGoals_4 : decode prog_2_method_6_code 4 = .ok (.getfield 82, 3) := by decide +kernel
theorem d_Layout_readGoals_7 : decode prog_2_method_6_code 7 = .ok (.if_icmp .ge 81, 3) := by decide +kernel
theorem d_Layout_readGoals_10 : decode prog_2_method_6_code 10 = .ok (.aload_n 0, 1) := by decide +kernel
theorem d_Layout_readGoals_11 : decode prog_2_method_6_code 11 = .ok (.getfield 9, 3) := by decide +kernel
theorem d_Layout_readGoals_14 : decode prog_2_method_6_code 14 = .ok (.iload_n 1, 1) := by decide +kernel
theorem d_Layout_readGoals_15 : decode prog_2_method_6_code 15 = .ok (.iaload, 1) := by decide +kernel
theorem d_Layout_readGoals_16 : decode prog_2_method_6_code 16 = .ok (.istore_n 2, 1) := by decide +kernel
theorem d_Layout_readGoals_17 : decode prog_2_method_6_code 17 = .ok (.aload_n 0, 1) := by decide +kernel
theorem d_Layout_readGoals_18 : decode prog_2_method_6_code 18 = .ok (.getfield 40, 3) := by decide +kernel
theorem d_Layout_readGoals_21 : decode prog_2_method_6_code 21 = .ok (.iload_n 2, 1) := by decide +kernel
theorem d_Layout_readGoals_22 : decode prog_2_method_6_code 22 = .ok (.invokevirtual 101, 3) := by decide +kernel
theorem d_Layout_readGoals_25 : decode prog_2_method_6_code 25 = .ok (.istore_n 3, 1) := by decide +kernel
theorem d_Layout_readGoals_26 : decode prog_2_method_6_code 26 = .ok (.iconst 1, 1) := by decide +kernel
theorem d_Layout_readGoals_27 : decode prog_2_method_6_code 27 = .ok (.istore 4, 2) := by decide +kernel
theorem d_Layout_readGoals_29 : decode prog_2_method_6_code 29 = .ok (.iload_n 3, 1) := by decide +kernel
theorem d_Layout_readGoals_30 : decode prog_2_method_6_code 30 = .ok (.invokestatic 106, 3) := by decide +kernel
theorem d_Layout_readGoals_33 : decode prog_2_method_6_code 33 = .ok (.ifCond .eq 14, 3) := by decide +kernel
theorem d_Layout_readGoals_36 : decode prog_2_method_6_code 36 = .ok (.aload_n 0, 1) := by decide +kernel
theorem d_Layout_readGoals_37 : decode prog_2_method_6_code 37 = .ok (.iload_n 2, 1) := by decide +kernel
theorem d_Layout_readGoals_38 : decode prog_2_method_6_code 38 = .ok (.iload_n 3, 1) := by decide +kernel
theorem d_Layout_readGoals_39 : decode prog_2_method_6_code 39 = .ok (.invokevirtual 110, 3) := by decide +kernel
theorem d_Layout_readGoals_42 : decode prog_2_method_6_code 42 = .ok (.istore 4, 2) := by decide +kernel
theorem d_Layout_readGoals_44 : decode prog_2_method_6_code 44 = .ok (.goto 31, 3) := by decide +kernel
theorem d_Layout_readGoals_47 : decode prog_2_method_6_code 47 = .ok (.iload_n 3, 1) := by decide +kernel
theorem d_Layout_readGoals_48 : decode prog_2_method_6_code 48 = .ok (.invokestatic 114, 3) := by decide +kernel
theorem d_Layout_readGoals_51 : decode prog_2_method_6_code 51 = .ok (.ifCond .ne 10, 3) := by decide +kernel
theorem d_Layout_readGoals_54 : decode prog_2_method_6_code 54 = .ok (.iload_n 3, 1) := by decide +kernel
theorem d_Layout_readGoals_55 : decode prog_2_method_6_code 55 = .ok (.sipush 200, 3) := by decide +kernel
theorem d_Layout_readGoals_58 : decode prog_2_method_6_code 58 = .ok (.if_icmp .ne 17, 3) := by decide +kernel
theorem d_Layout_readGoals_61 : decode prog_2_method_6_code 61 = .ok (.aload_n 0, 1) := by decide +kernel
theorem d_Layout_readGoals_62 : decode prog_2_method_6_code 62 = .ok (.aload_n 0, 1) := by decide +kernel
theorem d_Layout_readGoals_63 : decode prog_2_method_6_code 63 = .ok (.getfield 40, 3) := by decide +kernel
theorem d_Layout_readGoals_66 : decode prog_2_method_6_code 66 = .ok (.iload_n 2, 1) := by decide +kernel
theorem d_Layout_readGoals_67 : decode prog_2_method_6_code 67 = .ok (.invokevirtual 117, 3) := by decide +kernel
theorem d_Layout_readGoals_70 : decode prog_2_method_6_code 70 = .ok (.invokevirtual 120, 3) := by decide +kernel
theorem d_Layout_readGoals_73 : decode prog_2_method_6_code 73 = .ok (.istore 4, 2) := by decide +kernel
theorem d_Layout_readGoals_75 : decode prog_2_method_6_code 75 = .ok (.iload 4, 2) := by decide +kernel
theorem d_Layout_readGoals_77 : decode prog_2_method_6_code 77 = .ok (.ifCond .ne 5, 3) := by decide +kernel
theorem d_Layout_readGoals_80 : decode prog_2_method_6_code 80 = .ok (.iconst 0, 1) := by decide +kernel
theorem d_Layout_readGoals_81 : decode prog_2_method_6_code 81 = .ok (.ireturn, 1) := by decide +kernel
theorem d_Layout_readGoals_82 : decode prog_2_method_6_code 82 = .ok (.iinc 1 1, 3) := by decide +kernel
theorem d_Layout_readGoals_85 : decode prog_2_method_6_code 85 = .ok (.goto (-83), 3) := by decide +kernel
theorem d_Layout_readGoals_88 : decode prog_2_method_6_code 88 = .ok (.iconst 1, 1) := by decide +kernel
theorem d_Layout_readGoals_89 : decode prog_2_method_6_code 89 = .ok (.ireturn, 1) := by decide +kernel
theorem d_Source_part_0 : decode prog_5_method_4_code 0 = .ok (.aload_n 0, 1) := by decide +kernel
theorem d_Source_part_1 : decode prog_5_method_4_code 1 = .ok (.getfield 15, 3) := by decide +kernel
theorem d_Source_part_4 : decode prog_5_method_4_code 4 = .ok (.iload_n 1, 1) := by decide +kernel
theorem d_Source_part_5 : decode prog_5_method_4_code 5 = .ok (.iconst 4, 1) := by decide +kernel
theorem d_Source_part_6 : decode prog_5_method_4_code 6 = .ok (.imul, 1) := by decide +kernel
theorem d_Source_part_7 : decode prog_5_method_4_code 7 = .ok (.iload_n 2, 1) := by decide +kernel
theorem d_Source_part_8 : decode prog_5_method_4_code 8 = .ok (.iadd, 1) := by decide +kernel
theorem d_Source_part_9 : decode prog_5_method_4_code 9 = .ok (.iaload, 1) := by decide +kernel
theorem d_Source_part_10 : decode prog_5_method_4_code 10 = .ok (.ireturn, 1) := by decide +kernel
theorem d_Tariff_isDangerous_0 : decode prog_6_method_2_code 0 = .ok (.iload_n 1, 1) := by decide +kernel
theorem d_Tariff_isDangerous_1 : decode prog_6_method_2_code 1 = .ok (.ifCond .eq 12, 3) := by decide +kernel
theorem d_Tariff_isDangerous_4 : decode prog_6_method_2_code 4 = .ok (.aload_n 0, 1) := by decide +kernel
theorem d_Tariff_isDangerous_5 : decode prog_6_method_2_code 5 = .ok (.getfield 15, 3) := by decide +kernel
theorem d_Tariff_isDangerous_8 : decode prog_6_method_2_code 8 = .ok (.iload_n 1, 1) := by decide +kernel
theorem d_Tariff_isDangerous_9 : decode prog_6_method_2_code 9 = .ok (.baload, 1) := by decide +kernel
theorem d_Tariff_isDangerous_10 : decode prog_6_method_2_code 10 = .ok (.ifCond .eq 7, 3) := by decide +kernel
theorem d_Tariff_isDangerous_13 : decode prog_6_method_2_code 13 = .ok (.iconst 1, 1) := by decide +kernel
theorem d_Tariff_isDangerous_14 : decode prog_6_method_2_code 14 = .ok (.goto 4, 3) := by decide +kernel
theorem d_Tariff_isDangerous_17 : decode prog_6_method_2_code 17 = .ok (.iconst 0, 1) := by decide +kernel
theorem d_Tariff_isDangerous_18 : decode prog_6_method_2_code 18 = .ok (.ireturn, 1) := by decide +kernel
theorem d_Layout_readHandlers_0 : decode prog_2_method_10_code 0 = .ok (.iconst 0, 1) := by decide +kernel
theorem d_Layout_readHandlers_1 : decode prog_2_method_10_code 1 = .ok (.istore_n 1, 1) := by decide +kernel
theorem d_Layout_readHandlers_2 : decode prog_2_method_10_code 2 = .ok (.iload_n 1, 1) := by decide +kernel
theorem d_Layout_readHandlers_3 : decode prog_2_method_10_code 3 = .ok (.aload_n 0, 1) := by decide +kernel
theorem d_Layout_readHandlers_4 : decode prog_2_method_10_code 4 = .ok (.getfield 40, 3) := by decide +kernel
theorem d_Layout_readHandlers_7 : decode prog_2_method_10_code 7 = .ok (.getfield 139, 3) := by decide +kernel
theorem d_Layout_readHandlers_10 : decode prog_2_method_10_code 10 = .ok (.if_icmp .ge 122, 3) := by decide +kernel
theorem d_Layout_readHandlers_13 : decode prog_2_method_10_code 13 = .ok (.aload_n 0, 1) := by decide +kernel
theorem d_Layout_readHandlers_14 : decode prog_2_method_10_code 14 = .ok (.getfield 40, 3) := by decide +kernel
theorem d_Layout_readHandlers_17 : decode prog_2_method_10_code 17 = .ok (.iload_n 1, 1) := by decide +kernel
theorem d_Layout_readHandlers_18 : decode prog_2_method_10_code 18 = .ok (.iconst 0, 1) := by decide +kernel
theorem d_Layout_readHandlers_19 : decode prog_2_method_10_code 19 = .ok (.invokevirtual 142, 3) := by decide +kernel
theorem d_Layout_readHandlers_22 : decode prog_2_method_10_code 22 = .ok (.istore_n 2, 1) := by decide +kernel
theorem d_Layout_readHandlers_23 : decode prog_2_method_10_code 23 = .ok (.aload_n 0, 1) := by decide +kernel
theorem d_Layout_readHandlers_24 : decode prog_2_method_10_code 24 = .ok (.getfield 40, 3) := by decide +kernel
theorem d_Layout_readHandlers_27 : decode prog_2_method_10_code 27 = .ok (.iload_n 1, 1) := by decide +kernel
theorem d_Layout_readHandlers_28 : decode prog_2_method_10_code 28 = .ok (.iconst 1, 1) := by decide +kernel
theorem d_Layout_readHandlers_29 : decode prog_2_method_10_code 29 = .ok (.invokevirtual 142, 3) := by decide +kernel
theorem d_Layout_readHandlers_32 : decode prog_2_method_10_code 32 = .ok (.istore_n 3, 1) := by decide +kernel
theorem d_Layout_readHandlers_33 : decode prog_2_method_10_code 33 = .ok (.aload_n 0, 1) := by decide +kernel
theorem d_Layout_readHandlers_34 : decode prog_2_method_10_code 34 = .ok (.getfield 40, 3) := by decide +kernel
theorem d_Layout_readHandlers_37 : decode prog_2_method_10_code 37 = .ok (.iload_n 1, 1) := by decide +kernel
theorem d_Layout_readHandlers_38 : decode prog_2_method_10_code 38 = .ok (.iconst 2, 1) := by decide +kernel
theorem d_Layout_readHandlers_39 : decode prog_2_method_10_code 39 = .ok (.invokevirtual 142, 3) := by decide +kernel
theorem d_Layout_readHandlers_42 : decode prog_2_method_10_code 42 = .ok (.istore 4, 2) := by decide +kernel
theorem d_Layout_readHandlers_44 : decode prog_2_method_10_code 44 = .ok (.aload_n 0, 1) := by decide +kernel
theorem d_Layout_readHandlers_45 : decode prog_2_method_10_code 45 = .ok (.iload_n 3, 1) := by decide +kernel
theorem d_Layout_readHandlers_46 : decode prog_2_method_10_code 46 = .ok (.invokevirtual 136, 3) := by decide +kernel
theorem d_Layout_readHandlers_49 : decode prog_2_method_10_code 49 = .ok (.ifCond .ne 14, 3) := by decide +kernel
theorem d_Layout_readHandlers_52 : decode prog_2_method_10_code 52 = .ok (.iload_n 3, 1) := by decide +kernel
theorem d_Layout_readHandlers_53 : decode prog_2_method_10_code 53 = .ok (.aload_n 0, 1) := by decide +kernel
theorem d_Layout_readHandlers_54 : decode prog_2_method_10_code 54 = .ok (.getfield 40, 3) := by decide +kernel
theorem d_Layout_readHandlers_57 : decode prog_2_method_10_code 57 = .ok (.getfield 70, 3) := by decide +kernel
theorem d_Layout_readHandlers_60 : decode prog_2_method_10_code 60 = .ok (.if_icmp .ne 7, 3) := by decide +kernel
theorem d_Layout_readHandlers_63 : decode prog_2_method_10_code 63 = .ok (.iconst 1, 1) := by decide +kernel
theorem d_Layout_readHandlers_64 : decode prog_2_method_10_code 64 = .ok (.goto 4, 3) := by decide +kernel
theorem d_Layout_readHandlers_67 : decode prog_2_method_10_code 67 = .ok (.iconst 0, 1) := by decide +kernel
theorem d_Layout_readHandlers_68 : decode prog_2_method_10_code 68 = .ok (.istore 5, 2) := by decide +kernel
theorem d_Layout_readHandlers_70 : decode prog_2_method_10_code 70 = .ok (.aload_n 0, 1) := by decide +kernel
theorem d_Layout_readHandlers_71 : decode prog_2_method_10_code 71 = .ok (.iload_n 2, 1) := by decide +kernel
theorem d_Layout_readHandlers_72 : decode prog_2_method_10_code 72 = .ok (.invokevirtual 136, 3) := by decide +kernel
theorem d_Layout_readHandlers_75 : decode prog_2_method_10_code 75 = .ok (.ifCond .eq 22, 3) := by decide +kernel
theorem d_Layout_readHandlers_78 : decode prog_2_method_10_code 78 = .ok (.iload 5, 2) := by decide +kernel
theorem d_Layout_readHandlers_80 : decode prog_2_method_10_code 80 = .ok (.ifCond .eq 17, 3) := by decide +kernel
theorem d_Layout_readHandlers_83 : decode prog_2_method_10_code 83 = .ok (.iload_n 2, 1) := by decide +kernel
theorem d_Layout_readHandlers_84 : decode prog_2_method_10_code 84 = .ok (.iload_n 3, 1) := by decide +kernel
theorem d_Layout_readHandlers_85 : decode prog_2_method_10_code 85 = .ok (.if_icmp .ge 12, 3) := by decide +kernel
theorem d_Layout_readHandlers_88 : decode prog_2_method_10_code 88 = .ok (.aload_n 0, 1) := by decide +kernel
theorem d_Layout_readHandlers_89 : decode prog_2_method_10_code 89 = .ok (.iload 4, 2) := by decide +kernel
theorem d_Layout_readHandlers_91 : decode prog_2_method_10_code 91 = .ok (.invokevirtual 120, 3) := by decide +kernel
theorem d_Layout_readHandlers_94 : decode prog_2_method_10_code 94 = .ok (.ifCond .ne 5, 3) := by decide +kernel
theorem d_Layout_readHandlers_97 : decode prog_2_method_10_code 97 = .ok (.iconst 0, 1) := by decide +kernel
theorem d_Layout_readHandlers_98 : decode prog_2_method_10_code 98 = .ok (.ireturn, 1) := by decide +kernel
theorem d_Layout_readHandlers_99 : decode prog_2_method_10_code 99 = .ok (.aload_n 0, 1) := by decide +kernel
theorem d_Layout_readHandlers_100 : decode prog_2_method_10_code 100 = .ok (.getfield 44, 3) := by decide +kernel
theorem d_Layout_readHandlers_103 : decode prog_2_method_10_code 103 = .ok (.aload_n 0, 1) := by decide +kernel
theorem d_Layout_readHandlers_104 : decode prog_2_method_10_code 104 = .ok (.getfield 40, 3) := by decide +kernel
theorem d_Layout_readHandlers_107 : decode prog_2_method_10_code 107 = .ok (.iload_n 1, 1) := by decide +kernel
theorem d_Layout_readHandlers_108 : decode prog_2_method_10_code 108 = .ok (.iconst 3, 1) := by decide +kernel
theorem d_Layout_readHandlers_109 : decode prog_2_method_10_code 109 = .ok (.invokevirtual 142, 3) := by decide +kernel
theorem d_Layout_readHandlers_112 : decode prog_2_method_10_code 112 = .ok (.invokevirtual 145, 3) := by decide +kernel
theorem d_Layout_readHandlers_115 : decode prog_2_method_10_code 115 = .ok (.ifCond .eq 11, 3) := by decide +kernel
theorem d_Layout_readHandlers_118 : decode prog_2_method_10_code 118 = .ok (.aload_n 0, 1) := by decide +kernel
theorem d_Layout_readHandlers_119 : decode prog_2_method_10_code 119 = .ok (.getfield 24, 3) := by decide +kernel
theorem d_Layout_readHandlers_122 : decode prog_2_method_10_code 122 = .ok (.iload 4, 2) := by decide +kernel
theorem d_Layout_readHandlers_124 : decode prog_2_method_10_code 124 = .ok (.iconst 1, 1) := by decide +kernel
theorem d_Layout_readHandlers_125 : decode prog_2_method_10_code 125 = .ok (.bastore, 1) := by decide +kernel
theorem d_Layout_readHandlers_126 : decode prog_2_method_10_code 126 = .ok (.iinc 1 1, 3) := by decide +kernel
theorem d_Layout_readHandlers_129 : decode prog_2_method_10_code 129 = .ok (.goto (-127), 3) := by decide +kernel
theorem d_Layout_readHandlers_132 : decode prog_2_method_10_code 132 = .ok (.iconst 1, 1) := by decide +kernel
theorem d_Layout_readHandlers_133 : decode prog_2_method_10_code 133 = .ok (.ireturn, 1) := by decide +kernel
theorem d_Opcodes_isReturn_0 : decode prog_3_method_5_code 0 = .ok (.iload_n 0, 1) := by decide +kernel
theorem d_Opcodes_isReturn_1 : decode prog_3_method_5_code 1 = .ok (.sipush 172, 3) := by decide +kernel
theorem d_Opcodes_isReturn_4 : decode prog_3_method_5_code 4 = .ok (.if_icmp .lt 14, 3) := by decide +kernel
theorem d_Opcodes_isReturn_7 : decode prog_3_method_5_code 7 = .ok (.iload_n 0, 1) := by decide +kernel
theorem d_Opcodes_isReturn_8 : decode prog_3_method_5_code 8 = .ok (.sipush 177, 3) := by decide +kernel
theorem d_Opcodes_isReturn_11 : decode prog_3_method_5_code 11 = .ok (.if_icmp .gt 7, 3) := by decide +kernel
theorem d_Opcodes_isReturn_14 : decode prog_3_method_5_code 14 = .ok (.iconst 1, 1) := by decide +kernel
theorem d_Opcodes_isReturn_15 : decode prog_3_method_5_code 15 = .ok (.goto 4, 3) := by decide +kernel
theorem d_Opcodes_isReturn_18 : decode prog_3_method_5_code 18 = .ok (.iconst 0, 1) := by decide +kernel
theorem d_Opcodes_isReturn_19 : decode prog_3_method_5_code 19 = .ok (.ireturn, 1) := by decide +kernel
theorem d_Opcodes_endsBlock_0 : decode prog_3_method_7_code 0 = .ok (.iload_n 0, 1) := by decide +kernel
theorem d_Opcodes_endsBlock_1 : decode prog_3_method_7_code 1 = .ok (.invokestatic 11, 3) := by decide +kernel
theorem d_Opcodes_endsBlock_4 : decode prog_3_method_7_code 4 = .ok (.ifCond .ne 31, 3) := by decide +kernel
theorem d_Opcodes_endsBlock_7 : decode prog_3_method_7_code 7 = .ok (.iload_n 0, 1) := by decide +kernel
theorem d_Opcodes_endsBlock_8 : decode prog_3_method_7_code 8 = .ok (.invokestatic 15, 3) := by decide +kernel
theorem d_Opcodes_endsBlock_11 : decode prog_3_method_7_code 11 = .ok (.ifCond .ne 24, 3) := by decide +kernel
theorem d_Opcodes_endsBlock_14 : decode prog_3_method_7_code 14 = .ok (.iload_n 0, 1) := by decide +kernel
theorem d_Opcodes_endsBlock_15 : decode prog_3_method_7_code 15 = .ok (.invokestatic 18, 3) := by decide +kernel
theorem d_Opcodes_endsBlock_18 : decode prog_3_method_7_code 18 = .ok (.ifCond .ne 17, 3) := by decide +kernel
theorem d_Opcodes_endsBlock_21 : decode prog_3_method_7_code 21 = .ok (.iload_n 0, 1) := by decide +kernel
theorem d_Opcodes_endsBlock_22 : decode prog_3_method_7_code 22 = .ok (.sipush 191, 3) := by decide +kernel
theorem d_Opcodes_endsBlock_25 : decode prog_3_method_7_code 25 = .ok (.if_icmp .eq 10, 3) := by decide +kernel
theorem d_Opcodes_endsBlock_28 : decode prog_3_method_7_code 28 = .ok (.iload_n 0, 1) := by decide +kernel
theorem d_Opcodes_endsBlock_29 : decode prog_3_method_7_code 29 = .ok (.sipush 200, 3) := by decide +kernel
theorem d_Opcodes_endsBlock_32 : decode prog_3_method_7_code 32 = .ok (.if_icmp .ne 7, 3) := by decide +kernel
theorem d_Opcodes_endsBlock_35 : decode prog_3_method_7_code 35 = .ok (.iconst 1, 1) := by decide +kernel
theorem d_Opcodes_endsBlock_36 : decode prog_3_method_7_code 36 = .ok (.goto 4, 3) := by decide +kernel
theorem d_Opcodes_endsBlock_39 : decode prog_3_method_7_code 39 = .ok (.iconst 0, 1) := by decide +kernel
theorem d_Opcodes_endsBlock_40 : decode prog_3_method_7_code 40 = .ok (.ireturn, 1) := by decide +kernel
theorem d_Layout_sumBlocks_0 : decode prog_2_method_11_code 0 = .ok (.iconst 0, 1) := by decide +kernel
theorem d_Layout_sumBlocks_1 : decode prog_2_method_11_code 1 = .ok (.istore_n 1, 1) := by decide +kernel
theorem d_Layout_sumBlocks_2 : decode prog_2_method_11_code 2 = .ok (.iconst 1, 1) := by decide +kernel
theorem d_Layout_sumBlocks_3 : decode prog_2_method_11_code 3 = .ok (.istore_n 2, 1) := by decide +kernel
theorem d_Layout_sumBlocks_4 : decode prog_2_method_11_code 4 = .ok (.iconst 0, 1) := by decide +kernel
theorem d_Layout_sumBlocks_5 : decode prog_2_method_11_code 5 = .ok (.istore_n 3, 1) := by decide +kernel
theorem d_Layout_sumBlocks_6 : decode prog_2_method_11_code 6 = .ok (.iload_n 3, 1) := by decide +kernel
theorem d_Layout_sumBlocks_7 : decode prog_2_method_11_code 7 = .ok (.aload_n 0, 1) := by decide +kernel
theorem d_Layout_sumBlocks_8 : decode prog_2_method_11_code 8 = .ok (.getfield 82, 3) := by decide +kernel
theorem d_Layout_sumBlocks_11 : decode prog_2_method_11_code 11 = .ok (.if_icmp .ge 125, 3) := by decide +kernel
theorem d_Layout_sumBlocks_14 : decode prog_2_method_11_code 14 = .ok (.aload_n 0, 1) := by decide +kernel
theorem d_Layout_sumBlocks_15 : decode prog_2_method_11_code 15 = .ok (.getfield 9, 3) := by decide +kernel
theorem d_Layout_sumBlocks_18 : decode prog_2_method_11_code 18 = .ok (.iload_n 3, 1) := by decide +kernel
theorem d_Layout_sumBlocks_19 : decode prog_2_method_11_code 19 = .ok (.iaload, 1) := by decide +kernel
theorem d_Layout_sumBlocks_20 : decode prog_2_method_11_code 20 = .ok (.istore 4, 2) := by decide +kernel
theorem d_Layout_sumBlocks_22 : decode prog_2_method_11_code 22 = .ok (.aload_n 0, 1) := by decide +kernel
theorem d_Layout_sumBlocks_23 : decode prog_2_method_11_code 23 = .ok (.getfield 40, 3) := by decide +kernel
theorem d_Layout_sumBlocks_26 : decode prog_2_method_11_code 26 = .ok (.iload 4, 2) := by decide +kernel
theorem d_Layout_sumBlocks_28 : decode prog_2_method_11_code 28 = .ok (.invokevirtual 101, 3) := by decide +kernel
theorem d_Layout_sumBlocks_31 : decode prog_2_method_11_code 31 = .ok (.istore 5, 2) := by decide +kernel
theorem d_Layout_sumBlocks_33 : decode prog_2_method_11_code 33 = .ok (.iload_n 2, 1) := by decide +kernel
theorem d_Layout_sumBlocks_34 : decode prog_2_method_11_code 34 = .ok (.ifCond .ne 13, 3) := by decide +kernel
theorem d_Layout_sumBlocks_37 : decode prog_2_method_11_code 37 = .ok (.aload_n 0, 1) := by decide +kernel
theorem d_Layout_sumBlocks_38 : decode prog_2_method_11_code 38 = .ok (.getfield 21, 3) := by decide +kernel
theorem d_Layout_sumBlocks_41 : decode prog_2_method_11_code 41 = .ok (.iload 4, 2) := by decide +kernel
theorem d_Layout_sumBlocks_43 : decode prog_2_method_11_code 43 = .ok (.iaload, 1) := by decide +kernel
theorem d_Layout_sumBlocks_44 : decode prog_2_method_11_code 44 = .ok (.ifCond .lt 24, 3) := by decide +kernel
theorem d_Layout_sumBlocks_47 : decode prog_2_method_11_code 47 = .ok (.iload 4, 2) := by decide +kernel
theorem d_Layout_sumBlocks_49 : decode prog_2_method_11_code 49 = .ok (.istore_n 1, 1) := by decide +kernel
theorem d_Layout_sumBlocks_50 : decode prog_2_method_11_code 50 = .ok (.aload_n 0, 1) := by decide +kernel
theorem d_Layout_sumBlocks_51 : decode prog_2_method_11_code 51 = .ok (.getfield 21, 3) := by decide +kernel
theorem d_Layout_sumBlocks_54 : decode prog_2_method_11_code 54 = .ok (.iload 4, 2) := by decide +kernel
theorem d_Layout_sumBlocks_56 : decode prog_2_method_11_code 56 = .ok (.iconst 0, 1) := by decide +kernel
theorem d_Layout_sumBlocks_57 : decode prog_2_method_11_code 57 = .ok (.iastore, 1) := by decide +kernel
theorem d_Layout_sumBlocks_58 : decode prog_2_method_11_code 58 = .ok (.aload_n 0, 1) := by decide +kernel
theorem d_Layout_sumBlocks_59 : decode prog_2_method_11_code 59 = .ok (.dup, 1) := by decide +kernel
theorem d_Layout_sumBlocks_60 : decode prog_2_method_11_code 60 = .ok (.getfield 85, 3) := by decide +kernel
theorem d_Layout_sumBlocks_63 : decode prog_2_method_11_code 63 = .ok (.iconst 1, 1) := by decide +kernel
theorem d_Layout_sumBlocks_64 : decode prog_2_method_11_code 64 = .ok (.iadd, 1) := by decide +kernel
theorem d_Layout_sumBlocks_65 : decode prog_2_method_11_code 65 = .ok (.putfield 85, 3) := by decide +kernel
theorem d_Layout_sumBlocks_68 : decode prog_2_method_11_code 68 = .ok (.aload_n 0, 1) := by decide +kernel
theorem d_Layout_sumBlocks_69 : decode prog_2_method_11_code 69 = .ok (.getfield 44, 3) := by decide +kernel
theorem d_Layout_sumBlocks_72 : decode prog_2_method_11_code 72 = .ok (.getfield 150, 3) := by decide +kernel
theorem d_Layout_sumBlocks_75 : decode prog_2_method_11_code 75 = .ok (.iload 5, 2) := by decide +kernel
theorem d_Layout_sumBlocks_77 : decode prog_2_method_11_code 77 = .ok (.sipush 196, 3) := by decide +kernel
theorem d_Layout_sumBlocks_80 : decode prog_2_method_11_code 80 = .ok (.if_icmp .ne 17, 3) := by decide +kernel
theorem d_Layout_sumBlocks_83 : decode prog_2_method_11_code 83 = .ok (.aload_n 0, 1) := by decide +kernel
theorem d_Layout_sumBlocks_84 : decode prog_2_method_11_code 84 = .ok (.getfield 40, 3) := by decide +kernel
theorem d_Layout_sumBlocks_87 : decode prog_2_method_11_code 87 = .ok (.iload 4, 2) := by decide +kernel
theorem d_Layout_sumBlocks_89 : decode prog_2_method_11_code 89 = .ok (.iconst 1, 1) := by decide +kernel
theorem d_Layout_sumBlocks_90 : decode prog_2_method_11_code 90 = .ok (.iadd, 1) := by decide +kernel
theorem d_Layout_sumBlocks_91 : decode prog_2_method_11_code 91 = .ok (.invokevirtual 101, 3) := by decide +kernel
theorem d_Layout_sumBlocks_94 : decode prog_2_method_11_code 94 = .ok (.goto 5, 3) := by decide +kernel
theorem d_Layout_sumBlocks_97 : decode prog_2_method_11_code 97 = .ok (.iload 5, 2) := by decide +kernel
theorem d_Layout_sumBlocks_99 : decode prog_2_method_11_code 99 = .ok (.iaload, 1) := by decide +kernel
theorem d_Layout_sumBlocks_100 : decode prog_2_method_11_code 100 = .ok (.istore 6, 2) := by decide +kernel
theorem d_Layout_sumBlocks_102 : decode prog_2_method_11_code 102 = .ok (.aload_n 0, 1) := by decide +kernel
theorem d_Layout_sumBlocks_103 : decode prog_2_method_11_code 103 = .ok (.getfield 21, 3) := by decide +kernel
theorem d_Layout_sumBlocks_106 : decode prog_2_method_11_code 106 = .ok (.iload_n 1, 1) := by decide +kernel
theorem d_Layout_sumBlocks_107 : decode prog_2_method_11_code 107 = .ok (.dup2, 1) := by decide +kernel
theorem d_Layout_sumBlocks_108 : decode prog_2_method_11_code 108 = .ok (.iaload, 1) := by decide +kernel
theorem d_Layout_sumBlocks_109 : decode prog_2_method_11_code 109 = .ok (.iload 6, 2) := by decide +kernel
theorem d_Layout_sumBlocks_111 : decode prog_2_method_11_code 111 = .ok (.iadd, 1) := by decide +kernel
theorem d_Layout_sumBlocks_112 : decode prog_2_method_11_code 112 = .ok (.iastore, 1) := by decide +kernel
theorem d_Layout_sumBlocks_113 : decode prog_2_method_11_code 113 = .ok (.aload_n 0, 1) := by decide +kernel
theorem d_Layout_sumBlocks_114 : decode prog_2_method_11_code 114 = .ok (.dup, 1) := by decide +kernel
theorem d_Layout_sumBlocks_115 : decode prog_2_method_11_code 115 = .ok (.getfield 94, 3) := by decide +kernel
theorem d_Layout_sumBlocks_118 : decode prog_2_method_11_code 118 = .ok (.iload 6, 2) := by decide +kernel
theorem d_Layout_sumBlocks_120 : decode prog_2_method_11_code 120 = .ok (.iadd, 1) := by decide +kernel
theorem d_Layout_sumBlocks_121 : decode prog_2_method_11_code 121 = .ok (.putfield 94, 3) := by decide +kernel
theorem d_Layout_sumBlocks_124 : decode prog_2_method_11_code 124 = .ok (.iload 5, 2) := by decide +kernel
theorem d_Layout_sumBlocks_126 : decode prog_2_method_11_code 126 = .ok (.invokestatic 153, 3) := by decide +kernel
theorem d_Layout_sumBlocks_129 : decode prog_2_method_11_code 129 = .ok (.istore_n 2, 1) := by decide +kernel
theorem d_Layout_sumBlocks_130 : decode prog_2_method_11_code 130 = .ok (.iinc 3 1, 3) := by decide +kernel
theorem d_Layout_sumBlocks_133 : decode prog_2_method_11_code 133 = .ok (.goto (-127), 3) := by decide +kernel
theorem d_Layout_sumBlocks_136 : decode prog_2_method_11_code 136 = .ok (.return_, 1) := by decide +kernel
theorem d_Layout_pushLength_0 : decode prog_2_method_13_code 0 = .ok (.iload_n 0, 1) := by decide +kernel
theorem d_Layout_pushLength_1 : decode prog_2_method_13_code 1 = .ok (.iconst 5, 1) := by decide +kernel
theorem d_Layout_pushLength_2 : decode prog_2_method_13_code 2 = .ok (.if_icmp .gt 5, 3) := by decide +kernel
theorem d_Layout_pushLength_5 : decode prog_2_method_13_code 5 = .ok (.iconst 1, 1) := by decide +kernel
theorem d_Layout_pushLength_6 : decode prog_2_method_13_code 6 = .ok (.ireturn, 1) := by decide +kernel
theorem d_Layout_pushLength_7 : decode prog_2_method_13_code 7 = .ok (.iload_n 0, 1) := by decide +kernel
theorem d_Layout_pushLength_8 : decode prog_2_method_13_code 8 = .ok (.bipush 127, 2) := by decide +kernel
theorem d_Layout_pushLength_10 : decode prog_2_method_13_code 10 = .ok (.if_icmp .gt 7, 3) := by decide +kernel
theorem d_Layout_pushLength_13 : decode prog_2_method_13_code 13 = .ok (.iconst 2, 1) := by decide +kernel
theorem d_Layout_pushLength_14 : decode prog_2_method_13_code 14 = .ok (.goto 4, 3) := by decide +kernel
theorem d_Layout_pushLength_17 : decode prog_2_method_13_code 17 = .ok (.iconst 3, 1) := by decide +kernel
theorem d_Layout_pushLength_18 : decode prog_2_method_13_code 18 = .ok (.ireturn, 1) := by decide +kernel
theorem d_Opcodes_makesArray_0 : decode prog_3_method_6_code 0 = .ok (.iload_n 0, 1) := by decide +kernel
theorem d_Opcodes_makesArray_1 : decode prog_3_method_6_code 1 = .ok (.sipush 188, 3) := by decide +kernel
theorem d_Opcodes_makesArray_4 : decode prog_3_method_6_code 4 = .ok (.if_icmp .eq 10, 3) := by decide +kernel
theorem d_Opcodes_makesArray_7 : decode prog_3_method_6_code 7 = .ok (.iload_n 0, 1) := by decide +kernel
theorem d_Opcodes_makesArray_8 : decode prog_3_method_6_code 8 = .ok (.sipush 189, 3) := by decide +kernel
theorem d_Opcodes_makesArray_11 : decode prog_3_method_6_code 11 = .ok (.if_icmp .ne 7, 3) := by decide +kernel
theorem d_Opcodes_makesArray_14 : decode prog_3_method_6_code 14 = .ok (.iconst 1, 1) := by decide +kernel
theorem d_Opcodes_makesArray_15 : decode prog_3_method_6_code 15 = .ok (.goto 4, 3) := by decide +kernel
theorem d_Opcodes_makesArray_18 : decode prog_3_method_6_code 18 = .ok (.iconst 0, 1) := by decide +kernel
theorem d_Opcodes_makesArray_19 : decode prog_3_method_6_code 19 = .ok (.ireturn, 1) := by decide +kernel
theorem d_Layout_measureLeads_0 : decode prog_2_method_12_code 0 = .ok (.iconst 0, 1) := by decide +kernel
theorem d_Layout_measureLeads_1 : decode prog_2_method_12_code 1 = .ok (.istore_n 1, 1) := by decide +kernel
