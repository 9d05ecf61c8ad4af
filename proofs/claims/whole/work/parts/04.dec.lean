theorem d_Source_append_0 : decode prog_5_method_2_code 0 = .ok (.aload_n 0, 1) := by decide +kernel
theorem d_Source_append_1 : decode prog_5_method_2_code 1 = .ok (.getfield 18, 3) := by decide +kernel
theorem d_Source_append_4 : decode prog_5_method_2_code 4 = .ok (.sipush 200, 3) := by decide +kernel
theorem d_Source_append_7 : decode prog_5_method_2_code 7 = .ok (.if_icmp .ge 20, 3) := by decide +kernel
theorem d_Source_append_10 : decode prog_5_method_2_code 10 = .ok (.aload_n 0, 1) := by decide +kernel
theorem d_Source_append_11 : decode prog_5_method_2_code 11 = .ok (.getfield 9, 3) := by decide +kernel
theorem d_Source_append_14 : decode prog_5_method_2_code 14 = .ok (.aload_n 0, 1) := by decide +kernel
theorem d_Source_append_15 : decode prog_5_method_2_code 15 = .ok (.dup, 1) := by decide +kernel
theorem d_Source_append_16 : decode prog_5_method_2_code 16 = .ok (.getfield 18, 3) := by decide +kernel
theorem d_Source_append_19 : decode prog_5_method_2_code 19 = .ok (.dup_x1, 1) := by decide +kernel
theorem d_Source_append_20 : decode prog_5_method_2_code 20 = .ok (.iconst 1, 1) := by decide +kernel
theorem d_Source_append_21 : decode prog_5_method_2_code 21 = .ok (.iadd, 1) := by decide +kernel
theorem d_Source_append_22 : decode prog_5_method_2_code 22 = .ok (.putfield 18, 3) := by decide +kernel
theorem d_Source_append_25 : decode prog_5_method_2_code 25 = .ok (.iload_n 1, 1) := by decide +kernel
theorem d_Source_append_26 : decode prog_5_method_2_code 26 = .ok (.iastore, 1) := by decide +kernel
theorem d_Source_append_27 : decode prog_5_method_2_code 27 = .ok (.return_, 1) := by decide +kernel
theorem d_Source_u1_0 : decode prog_5_method_5_code 0 = .ok (.iload_n 1, 1) := by decide +kernel
theorem d_Source_u1_1 : decode prog_5_method_5_code 1 = .ok (.ifCond .lt 20, 3) := by decide +kernel
theorem d_Source_u1_4 : decode prog_5_method_5_code 4 = .ok (.iload_n 1, 1) := by decide +kernel
theorem d_Source_u1_5 : decode prog_5_method_5_code 5 = .ok (.aload_n 0, 1) := by decide +kernel
theorem d_Source_u1_6 : decode prog_5_method_5_code 6 = .ok (.getfield 18, 3) := by decide +kernel
theorem d_Source_u1_9 : decode prog_5_method_5_code 9 = .ok (.if_icmp .ge 12, 3) := by decide +kernel
theorem d_Source_u1_12 : decode prog_5_method_5_code 12 = .ok (.aload_n 0, 1) := by decide +kernel
theorem d_Source_u1_13 : decode prog_5_method_5_code 13 = .ok (.getfield 9, 3) := by decide +kernel
theorem d_Source_u1_16 : decode prog_5_method_5_code 16 = .ok (.iload_n 1, 1) := by decide +kernel
theorem d_Source_u1_17 : decode prog_5_method_5_code 17 = .ok (.iaload, 1) := by decide +kernel
theorem d_Source_u1_18 : decode prog_5_method_5_code 18 = .ok (.goto 4, 3) := by decide +kernel
theorem d_Source_u1_21 : decode prog_5_method_5_code 21 = .ok (.iconst 0, 1) := by decide +kernel
theorem d_Source_u1_22 : decode prog_5_method_5_code 22 = .ok (.ireturn, 1) := by decide +kernel
theorem d_Source_s2_0 : decode prog_5_method_6_code 0 = .ok (.aload_n 0, 1) := by decide +kernel
theorem d_Source_s2_1 : decode prog_5_method_6_code 1 = .ok (.iload_n 1, 1) := by decide +kernel
theorem d_Source_s2_2 : decode prog_5_method_6_code 2 = .ok (.invokevirtual 25, 3) := by decide +kernel
theorem d_Source_s2_5 : decode prog_5_method_6_code 5 = .ok (.bipush 8, 2) := by decide +kernel
theorem d_Source_s2_7 : decode prog_5_method_6_code 7 = .ok (.ishl, 1) := by decide +kernel
theorem d_Source_s2_8 : decode prog_5_method_6_code 8 = .ok (.aload_n 0, 1) := by decide +kernel
theorem d_Source_s2_9 : decode prog_5_method_6_code 9 = .ok (.iload_n 1, 1) := by decide +kernel
theorem d_Source_s2_10 : decode prog_5_method_6_code 10 = .ok (.iconst 1, 1) := by decide +kernel
theorem d_Source_s2_11 : decode prog_5_method_6_code 11 = .ok (.iadd, 1) := by decide +kernel
theorem d_Source_s2_12 : decode prog_5_method_6_code 12 = .ok (.invokevirtual 25, 3) := by decide +kernel
theorem d_Source_s2_15 : decode prog_5_method_6_code 15 = .ok (.ior, 1) := by decide +kernel
theorem d_Source_s2_16 : decode prog_5_method_6_code 16 = .ok (.i2s, 1) := by decide +kernel
theorem d_Source_s2_17 : decode prog_5_method_6_code 17 = .ok (.ireturn, 1) := by decide +kernel
theorem d_Source_part_0 : decode prog_5_method_4_code 0 = .ok (.aload_n 0, 1) := by decide +kernel
theorem d_Source_part_1 : decode prog_5_method_4_code 1 = .ok (.getfield 15, 3) := by decide +kernel
theorem d_Source_part_4 : decode prog_5_method_4_code 4 = .ok (.iload_n 1, 1) := by decide +kernel
theorem d_Source_part_5 : decode prog_5_method_4_code 5 = .ok (.iconst 4, 1) := by decide +kernel
theorem d_Source_part_6 : decode prog_5_method_4_code 6 = .ok (.imul, 1) := by decide +kernel
theorem d_Source_part_7 : decode prog_5_method_4_code 7 = .ok (.iload_n 2, 1) := by decide +kernel
theorem d_Source_part_8 : decode prog_5_method_4_code 8 = .ok (.iadd, 1) := by decide +kernel
theorem d_Source_part_9 : decode prog_5_method_4_code 9 = .ok (.iaload, 1) := by decide +kernel
theorem d_Source_part_10 : decode prog_5_method_4_code 10 = .ok (.ireturn, 1) := by decide +kernel
