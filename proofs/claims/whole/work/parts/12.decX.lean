theorem d_Layout_measureLeads_2 : decode prog_2_method_12_code 2 = .ok (.iload_n 1, 1) := by decide +kernel
theorem d_Layout_measureLeads_3 : decode prog_2_method_12_code 3 = .ok (.aload_n 0, 1) := by decide +kernel
theorem d_Layout_measureLeads_4 : decode prog_2_method_12_code 4 = .ok (.getfield 82, 3) := by decide +kernel
theorem d_Layout_measureLeads_7 : decode prog_2_method_12_code 7 = .ok (.if_icmp .ge 106, 3) := by decide +kernel
theorem d_Layout_measureLeads_10 : decode prog_2_method_12_code 10 = .ok (.aload_n 0, 1) := by decide +kernel
theorem d_Layout_measureLeads_11 : decode prog_2_method_12_code 11 = .ok (.getfield 9, 3) := by decide +kernel
theorem d_Layout_measureLeads_14 : decode prog_2_method_12_code 14 = .ok (.iload_n 1, 1) := by decide +kernel
theorem d_Layout_measureLeads_15 : decode prog_2_method_12_code 15 = .ok (.iaload, 1) := by decide +kernel
theorem d_Layout_measureLeads_16 : decode prog_2_method_12_code 16 = .ok (.istore_n 2, 1) := by decide +kernel
theorem d_Layout_measureLeads_17 : decode prog_2_method_12_code 17 = .ok (.aload_n 0, 1) := by decide +kernel
theorem d_Layout_measureLeads_18 : decode prog_2_method_12_code 18 = .ok (.getfield 40, 3) := by decide +kernel
theorem d_Layout_measureLeads_21 : decode prog_2_method_12_code 21 = .ok (.iload_n 2, 1) := by decide +kernel
theorem d_Layout_measureLeads_22 : decode prog_2_method_12_code 22 = .ok (.invokevirtual 101, 3) := by decide +kernel
theorem d_Layout_measureLeads_25 : decode prog_2_method_12_code 25 = .ok (.istore_n 3, 1) := by decide +kernel
theorem d_Layout_measureLeads_26 : decode prog_2_method_12_code 26 = .ok (.aload_n 0, 1) := by decide +kernel
theorem d_Layout_measureLeads_27 : decode prog_2_method_12_code 27 = .ok (.getfield 28, 3) := by decide +kernel
theorem d_Layout_measureLeads_30 : decode prog_2_method_12_code 30 = .ok (.iload_n 2, 1) := by decide +kernel
theorem d_Layout_measureLeads_31 : decode prog_2_method_12_code 31 = .ok (.iload_n 2, 1) := by decide +kernel
theorem d_Layout_measureLeads_32 : decode prog_2_method_12_code 32 = .ok (.ifCond .ne 7, 3) := by decide +kernel
theorem d_Layout_measureLeads_35 : decode prog_2_method_12_code 35 = .ok (.iconst 3, 1) := by decide +kernel
theorem d_Layout_measureLeads_36 : decode prog_2_method_12_code 36 = .ok (.goto 4, 3) := by decide +kernel
theorem d_Layout_measureLeads_39 : decode prog_2_method_12_code 39 = .ok (.iconst 0, 1) := by decide +kernel
theorem d_Layout_measureLeads_40 : decode prog_2_method_12_code 40 = .ok (.aload_n 0, 1) := by decide +kernel
theorem d_Layout_measureLeads_41 : decode prog_2_method_12_code 41 = .ok (.getfield 24, 3) := by decide +kernel
theorem d_Layout_measureLeads_44 : decode prog_2_method_12_code 44 = .ok (.iload_n 2, 1) := by decide +kernel
theorem d_Layout_measureLeads_45 : decode prog_2_method_12_code 45 = .ok (.baload, 1) := by decide +kernel
theorem d_Layout_measureLeads_46 : decode prog_2_method_12_code 46 = .ok (.ifCond .eq 7, 3) := by decide +kernel
theorem d_Layout_measureLeads_49 : decode prog_2_method_12_code 49 = .ok (.iconst 4, 1) := by decide +kernel
theorem d_Layout_measureLeads_50 : decode prog_2_method_12_code 50 = .ok (.goto 4, 3) := by decide +kernel
theorem d_Layout_measureLeads_53 : decode prog_2_method_12_code 53 = .ok (.iconst 0, 1) := by decide +kernel
theorem d_Layout_measureLeads_54 : decode prog_2_method_12_code 54 = .ok (.iadd, 1) := by decide +kernel
theorem d_Layout_measureLeads_55 : decode prog_2_method_12_code 55 = .ok (.aload_n 0, 1) := by decide +kernel
theorem d_Layout_measureLeads_56 : decode prog_2_method_12_code 56 = .ok (.getfield 21, 3) := by decide +kernel
theorem d_Layout_measureLeads_59 : decode prog_2_method_12_code 59 = .ok (.iload_n 2, 1) := by decide +kernel
theorem d_Layout_measureLeads_60 : decode prog_2_method_12_code 60 = .ok (.iaload, 1) := by decide +kernel
theorem d_Layout_measureLeads_61 : decode prog_2_method_12_code 61 = .ok (.ifCond .le 17, 3) := by decide +kernel
theorem d_Layout_measureLeads_64 : decode prog_2_method_12_code 64 = .ok (.aload_n 0, 1) := by decide +kernel
theorem d_Layout_measureLeads_65 : decode prog_2_method_12_code 65 = .ok (.getfield 21, 3) := by decide +kernel
theorem d_Layout_measureLeads_68 : decode prog_2_method_12_code 68 = .ok (.iload_n 2, 1) := by decide +kernel
theorem d_Layout_measureLeads_69 : decode prog_2_method_12_code 69 = .ok (.iaload, 1) := by decide +kernel
theorem d_Layout_measureLeads_70 : decode prog_2_method_12_code 70 = .ok (.invokestatic 156, 3) := by decide +kernel
theorem d_Layout_measureLeads_73 : decode prog_2_method_12_code 73 = .ok (.iconst 3, 1) := by decide +kernel
theorem d_Layout_measureLeads_74 : decode prog_2_method_12_code 74 = .ok (.iadd, 1) := by decide +kernel
theorem d_Layout_measureLeads_75 : decode prog_2_method_12_code 75 = .ok (.goto 4, 3) := by decide +kernel
theorem d_Layout_measureLeads_78 : decode prog_2_method_12_code 78 = .ok (.iconst 0, 1) := by decide +kernel
theorem d_Layout_measureLeads_79 : decode prog_2_method_12_code 79 = .ok (.iadd, 1) := by decide +kernel
theorem d_Layout_measureLeads_80 : decode prog_2_method_12_code 80 = .ok (.iload_n 3, 1) := by decide +kernel
theorem d_Layout_measureLeads_81 : decode prog_2_method_12_code 81 = .ok (.invokestatic 159, 3) := by decide +kernel
theorem d_Layout_measureLeads_84 : decode prog_2_method_12_code 84 = .ok (.ifCond .eq 7, 3) := by decide +kernel
theorem d_Layout_measureLeads_87 : decode prog_2_method_12_code 87 = .ok (.iconst 3, 1) := by decide +kernel
theorem d_Layout_measureLeads_88 : decode prog_2_method_12_code 88 = .ok (.goto 4, 3) := by decide +kernel
theorem d_Layout_measureLeads_91 : decode prog_2_method_12_code 91 = .ok (.iconst 0, 1) := by decide +kernel
theorem d_Layout_measureLeads_92 : decode prog_2_method_12_code 92 = .ok (.iadd, 1) := by decide +kernel
theorem d_Layout_measureLeads_93 : decode prog_2_method_12_code 93 = .ok (.iload_n 3, 1) := by decide +kernel
theorem d_Layout_measureLeads_94 : decode prog_2_method_12_code 94 = .ok (.invokestatic 162, 3) := by decide +kernel
theorem d_Layout_measureLeads_97 : decode prog_2_method_12_code 97 = .ok (.ifCond .eq 7, 3) := by decide +kernel
theorem d_Layout_measureLeads_100 : decode prog_2_method_12_code 100 = .ok (.iconst 4, 1) := by decide +kernel
theorem d_Layout_measureLeads_101 : decode prog_2_method_12_code 101 = .ok (.goto 4, 3) := by decide +kernel
theorem d_Layout_measureLeads_104 : decode prog_2_method_12_code 104 = .ok (.iconst 0, 1) := by decide +kernel
theorem d_Layout_measureLeads_105 : decode prog_2_method_12_code 105 = .ok (.iadd, 1) := by decide +kernel
theorem d_Layout_measureLeads_106 : decode prog_2_method_12_code 106 = .ok (.iastore, 1) := by decide +kernel
theorem d_Layout_measureLeads_107 : decode prog_2_method_12_code 107 = .ok (.iinc 1 1, 3) := by decide +kernel
theorem d_Layout_measureLeads_110 : decode prog_2_method_12_code 110 = .ok (.goto (-108), 3) := by decide +kernel
theorem d_Layout_measureLeads_113 : decode prog_2_method_12_code 113 = .ok (.return_, 1) := by decide +kernel
theorem d_Layout_lengthAtSpot_0 : decode prog_2_method_16_code 0 = .ok (.aload_n 0, 1) := by decide +kernel
theorem d_Layout_lengthAtSpot_1 : decode prog_2_method_16_code 1 = .ok (.getfield 40, 3) := by decide +kernel
theorem d_Layout_lengthAtSpot_4 : decode prog_2_method_16_code 4 = .ok (.iload_n 1, 1) := by decide +kernel
theorem d_Layout_lengthAtSpot_5 : decode prog_2_method_16_code 5 = .ok (.invokevirtual 101, 3) := by decide +kernel
theorem d_Layout_lengthAtSpot_8 : decode prog_2_method_16_code 8 = .ok (.istore_n 2, 1) := by decide +kernel
theorem d_Layout_lengthAtSpot_9 : decode prog_2_method_16_code 9 = .ok (.iload_n 2, 1) := by decide +kernel
theorem d_Layout_lengthAtSpot_10 : decode prog_2_method_16_code 10 = .ok (.invokestatic 106, 3) := by decide +kernel
theorem d_Layout_lengthAtSpot_13 : decode prog_2_method_16_code 13 = .ok (.ifCond .eq 28, 3) := by decide +kernel
theorem d_Layout_lengthAtSpot_16 : decode prog_2_method_16_code 16 = .ok (.aload_n 0, 1) := by decide +kernel
theorem d_Layout_lengthAtSpot_17 : decode prog_2_method_16_code 17 = .ok (.getfield 34, 3) := by decide +kernel
theorem d_Layout_lengthAtSpot_20 : decode prog_2_method_16_code 20 = .ok (.iload_n 1, 1) := by decide +kernel
theorem d_Layout_lengthAtSpot_21 : decode prog_2_method_16_code 21 = .ok (.iaload, 1) := by decide +kernel
theorem d_Layout_lengthAtSpot_22 : decode prog_2_method_16_code 22 = .ok (.invokestatic 133, 3) := by decide +kernel
theorem d_Layout_lengthAtSpot_25 : decode prog_2_method_16_code 25 = .ok (.aload_n 0, 1) := by decide +kernel
theorem d_Layout_lengthAtSpot_26 : decode prog_2_method_16_code 26 = .ok (.getfield 34, 3) := by decide +kernel
theorem d_Layout_lengthAtSpot_29 : decode prog_2_method_16_code 29 = .ok (.iload_n 1, 1) := by decide +kernel
theorem d_Layout_lengthAtSpot_30 : decode prog_2_method_16_code 30 = .ok (.iaload, 1) := by decide +kernel
theorem d_Layout_lengthAtSpot_31 : decode prog_2_method_16_code 31 = .ok (.isub, 1) := by decide +kernel
theorem d_Layout_lengthAtSpot_32 : decode prog_2_method_16_code 32 = .ok (.iconst 4, 1) := by decide +kernel
theorem d_Layout_lengthAtSpot_33 : decode prog_2_method_16_code 33 = .ok (.aload_n 0, 1) := by decide +kernel
theorem d_Layout_lengthAtSpot_34 : decode prog_2_method_16_code 34 = .ok (.iload_n 1, 1) := by decide +kernel
theorem d_Layout_lengthAtSpot_35 : decode prog_2_method_16_code 35 = .ok (.invokevirtual 123, 3) := by decide +kernel
theorem d_Layout_lengthAtSpot_38 : decode prog_2_method_16_code 38 = .ok (.imul, 1) := by decide +kernel
theorem d_Layout_lengthAtSpot_39 : decode prog_2_method_16_code 39 = .ok (.iadd, 1) := by decide +kernel
theorem d_Layout_lengthAtSpot_40 : decode prog_2_method_16_code 40 = .ok (.ireturn, 1) := by decide +kernel
theorem d_Layout_lengthAtSpot_41 : decode prog_2_method_16_code 41 = .ok (.aload_n 0, 1) := by decide +kernel
theorem d_Layout_lengthAtSpot_42 : decode prog_2_method_16_code 42 = .ok (.getfield 37, 3) := by decide +kernel
theorem d_Layout_lengthAtSpot_45 : decode prog_2_method_16_code 45 = .ok (.iload_n 1, 1) := by decide +kernel
theorem d_Layout_lengthAtSpot_46 : decode prog_2_method_16_code 46 = .ok (.baload, 1) := by decide +kernel
theorem d_Layout_lengthAtSpot_47 : decode prog_2_method_16_code 47 = .ok (.ifCond .eq 24, 3) := by decide +kernel
theorem d_Layout_lengthAtSpot_50 : decode prog_2_method_16_code 50 = .ok (.iload_n 2, 1) := by decide +kernel
theorem d_Layout_lengthAtSpot_51 : decode prog_2_method_16_code 51 = .ok (.sipush 167, 3) := by decide +kernel
theorem d_Layout_lengthAtSpot_54 : decode prog_2_method_16_code 54 = .ok (.if_icmp .eq 10, 3) := by decide +kernel
theorem d_Layout_lengthAtSpot_57 : decode prog_2_method_16_code 57 = .ok (.iload_n 2, 1) := by decide +kernel
theorem d_Layout_lengthAtSpot_58 : decode prog_2_method_16_code 58 = .ok (.sipush 200, 3) := by decide +kernel
theorem d_Layout_lengthAtSpot_61 : decode prog_2_method_16_code 61 = .ok (.if_icmp .ne 7, 3) := by decide +kernel
theorem d_Layout_lengthAtSpot_64 : decode prog_2_method_16_code 64 = .ok (.iconst 5, 1) := by decide +kernel
theorem d_Layout_lengthAtSpot_65 : decode prog_2_method_16_code 65 = .ok (.goto 5, 3) := by decide +kernel
theorem d_Layout_lengthAtSpot_68 : decode prog_2_method_16_code 68 = .ok (.bipush 8, 2) := by decide +kernel
theorem d_Layout_lengthAtSpot_70 : decode prog_2_method_16_code 70 = .ok (.ireturn, 1) := by decide +kernel
theorem d_Layout_lengthAtSpot_71 : decode prog_2_method_16_code 71 = .ok (.aload_n 0, 1) := by decide +kernel
theorem d_Layout_lengthAtSpot_72 : decode prog_2_method_16_code 72 = .ok (.getfield 15, 3) := by decide +kernel
theorem d_Layout_lengthAtSpot_75 : decode prog_2_method_16_code 75 = .ok (.iload_n 1, 1) := by decide +kernel
theorem d_Layout_lengthAtSpot_76 : decode prog_2_method_16_code 76 = .ok (.iaload, 1) := by decide +kernel
theorem d_Layout_lengthAtSpot_77 : decode prog_2_method_16_code 77 = .ok (.ireturn, 1) := by decide +kernel
theorem d_Layout_givePlaces_0 : decode prog_2_method_15_code 0 = .ok (.iconst 0, 1) := by decide +kernel
theorem d_Layout_givePlaces_1 : decode prog_2_method_15_code 1 = .ok (.istore_n 1, 1) := by decide +kernel
theorem d_Layout_givePlaces_2 : decode prog_2_method_15_code 2 = .ok (.iconst 0, 1) := by decide +kernel
theorem d_Layout_givePlaces_3 : decode prog_2_method_15_code 3 = .ok (.istore_n 2, 1) := by decide +kernel
theorem d_Layout_givePlaces_4 : decode prog_2_method_15_code 4 = .ok (.iload_n 2, 1) := by decide +kernel
theorem d_Layout_givePlaces_5 : decode prog_2_method_15_code 5 = .ok (.aload_n 0, 1) := by decide +kernel
theorem d_Layout_givePlaces_6 : decode prog_2_method_15_code 6 = .ok (.getfield 82, 3) := by decide +kernel
theorem d_Layout_givePlaces_9 : decode prog_2_method_15_code 9 = .ok (.if_icmp .ge 72, 3) := by decide +kernel
theorem d_Layout_givePlaces_12 : decode prog_2_method_15_code 12 = .ok (.aload_n 0, 1) := by decide +kernel
theorem d_Layout_givePlaces_13 : decode prog_2_method_15_code 13 = .ok (.getfield 9, 3) := by decide +kernel
theorem d_Layout_givePlaces_16 : decode prog_2_method_15_code 16 = .ok (.iload_n 2, 1) := by decide +kernel
theorem d_Layout_givePlaces_17 : decode prog_2_method_15_code 17 = .ok (.iaload, 1) := by decide +kernel
theorem d_Layout_givePlaces_18 : decode prog_2_method_15_code 18 = .ok (.istore_n 3, 1) := by decide +kernel
theorem d_Layout_givePlaces_19 : decode prog_2_method_15_code 19 = .ok (.aload_n 0, 1) := by decide +kernel
theorem d_Layout_givePlaces_20 : decode prog_2_method_15_code 20 = .ok (.getfield 31, 3) := by decide +kernel
theorem d_Layout_givePlaces_23 : decode prog_2_method_15_code 23 = .ok (.iload_n 3, 1) := by decide +kernel
theorem d_Layout_givePlaces_24 : decode prog_2_method_15_code 24 = .ok (.iload_n 1, 1) := by decide +kernel
theorem d_Layout_givePlaces_25 : decode prog_2_method_15_code 25 = .ok (.iload_n 3, 1) := by decide +kernel
theorem d_Layout_givePlaces_26 : decode prog_2_method_15_code 26 = .ok (.ifCond .ne 7, 3) := by decide +kernel
theorem d_Layout_givePlaces_29 : decode prog_2_method_15_code 29 = .ok (.iconst 3, 1) := by decide +kernel
theorem d_Layout_givePlaces_30 : decode prog_2_method_15_code 30 = .ok (.goto 4, 3) := by decide +kernel
theorem d_Layout_givePlaces_33 : decode prog_2_method_15_code 33 = .ok (.iconst 0, 1) := by decide +kernel
theorem d_Layout_givePlaces_34 : decode prog_2_method_15_code 34 = .ok (.iadd, 1) := by decide +kernel
theorem d_Layout_givePlaces_35 : decode prog_2_method_15_code 35 = .ok (.iastore, 1) := by decide +kernel
theorem d_Layout_givePlaces_36 : decode prog_2_method_15_code 36 = .ok (.aload_n 0, 1) := by decide +kernel
theorem d_Layout_givePlaces_37 : decode prog_2_method_15_code 37 = .ok (.getfield 34, 3) := by decide +kernel
theorem d_Layout_givePlaces_40 : decode prog_2_method_15_code 40 = .ok (.iload_n 3, 1) := by decide +kernel
theorem d_Layout_givePlaces_41 : decode prog_2_method_15_code 41 = .ok (.iload_n 1, 1) := by decide +kernel
theorem d_Layout_givePlaces_42 : decode prog_2_method_15_code 42 = .ok (.aload_n 0, 1) := by decide +kernel
theorem d_Layout_givePlaces_43 : decode prog_2_method_15_code 43 = .ok (.getfield 28, 3) := by decide +kernel
theorem d_Layout_givePlaces_46 : decode prog_2_method_15_code 46 = .ok (.iload_n 3, 1) := by decide +kernel
theorem d_Layout_givePlaces_47 : decode prog_2_method_15_code 47 = .ok (.iaload, 1) := by decide +kernel
theorem d_Layout_givePlaces_48 : decode prog_2_method_15_code 48 = .ok (.iadd, 1) := by decide +kernel
theorem d_Layout_givePlaces_49 : decode prog_2_method_15_code 49 = .ok (.iastore, 1) := by decide +kernel
theorem d_Layout_givePlaces_50 : decode prog_2_method_15_code 50 = .ok (.aload_n 0, 1) := by decide +kernel
theorem d_Layout_givePlaces_51 : decode prog_2_method_15_code 51 = .ok (.getfield 18, 3) := by decide +kernel
theorem d_Layout_givePlaces_54 : decode prog_2_method_15_code 54 = .ok (.iload_n 3, 1) := by decide +kernel
theorem d_Layout_givePlaces_55 : decode prog_2_method_15_code 55 = .ok (.aload_n 0, 1) := by decide +kernel
theorem d_Layout_givePlaces_56 : decode prog_2_method_15_code 56 = .ok (.iload_n 3, 1) := by decide +kernel
theorem d_Layout_givePlaces_57 : decode prog_2_method_15_code 57 = .ok (.invokevirtual 171, 3) := by decide +kernel
theorem d_Layout_givePlaces_60 : decode prog_2_method_15_code 60 = .ok (.iastore, 1) := by decide +kernel
theorem d_Layout_givePlaces_61 : decode prog_2_method_15_code 61 = .ok (.aload_n 0, 1) := by decide +kernel
theorem d_Layout_givePlaces_62 : decode prog_2_method_15_code 62 = .ok (.getfield 34, 3) := by decide +kernel
theorem d_Layout_givePlaces_65 : decode prog_2_method_15_code 65 = .ok (.iload_n 3, 1) := by decide +kernel
theorem d_Layout_givePlaces_66 : decode prog_2_method_15_code 66 = .ok (.iaload, 1) := by decide +kernel
theorem d_Layout_givePlaces_67 : decode prog_2_method_15_code 67 = .ok (.aload_n 0, 1) := by decide +kernel
theorem d_Layout_givePlaces_68 : decode prog_2_method_15_code 68 = .ok (.getfield 18, 3) := by decide +kernel
theorem d_Layout_givePlaces_71 : decode prog_2_method_15_code 71 = .ok (.iload_n 3, 1) := by decide +kernel
theorem d_Layout_givePlaces_72 : decode prog_2_method_15_code 72 = .ok (.iaload, 1) := by decide +kernel
theorem d_Layout_givePlaces_73 : decode prog_2_method_15_code 73 = .ok (.iadd, 1) := by decide +kernel
theorem d_Layout_givePlaces_74 : decode prog_2_method_15_code 74 = .ok (.istore_n 1, 1) := by decide +kernel
theorem d_Layout_givePlaces_75 : decode prog_2_method_15_code 75 = .ok (.iinc 2 1, 3) := by decide +kernel
theorem d_Layout_givePlaces_78 : decode prog_2_method_15_code 78 = .ok (.goto (-74), 3) := by decide +kernel
theorem d_Layout_givePlaces_81 : decode prog_2_method_15_code 81 = .ok (.aload_n 0, 1) := by decide +kernel
theorem d_Layout_givePlaces_82 : decode prog_2_method_15_code 82 = .ok (.getfield 31, 3) := by decide +kernel
theorem d_Layout_givePlaces_85 : decode prog_2_method_15_code 85 = .ok (.aload_n 0, 1) := by decide +kernel
theorem d_Layout_givePlaces_86 : decode prog_2_method_15_code 86 = .ok (.getfield 40, 3) := by decide +kernel
theorem d_Layout_givePlaces_89 : decode prog_2_method_15_code 89 = .ok (.getfield 70, 3) := by decide +kernel
theorem d_Layout_givePlaces_92 : decode prog_2_method_15_code 92 = .ok (.iload_n 1, 1) := by decide +kernel
theorem d_Layout_givePlaces_93 : decode prog_2_method_15_code 93 = .ok (.iastore, 1) := by decide +kernel
theorem d_Layout_givePlaces_94 : decode prog_2_method_15_code 94 = .ok (.return_, 1) := by decide +kernel
theorem d_Layout_stretchJumps_0 : decode prog_2_method_17_code 0 = .ok (.aload_n 0, 1) := by decide +kernel
theorem d_Layout_stretchJumps_1 : decode prog_2_method_17_code 1 = .ok (.getfield 91, 3) := by decide +kernel
theorem d_Layout_stretchJumps_4 : decode prog_2_method_17_code 4 = .ok (.istore_n 1, 1) := by decide +kernel
theorem d_Layout_stretchJumps_5 : decode prog_2_method_17_code 5 = .ok (.iconst 0, 1) := by decide +kernel
theorem d_Layout_stretchJumps_6 : decode prog_2_method_17_code 6 = .ok (.istore_n 2, 1) := by decide +kernel
theorem d_Layout_stretchJumps_7 : decode prog_2_method_17_code 7 = .ok (.iload_n 2, 1) := by decide +kernel
theorem d_Layout_stretchJumps_8 : decode prog_2_method_17_code 8 = .ok (.aload_n 0, 1) := by decide +kernel
theorem d_Layout_stretchJumps_9 : decode prog_2_method_17_code 9 = .ok (.getfield 82, 3) := by decide +kernel
theorem d_Layout_stretchJumps_12 : decode prog_2_method_17_code 12 = .ok (.if_icmp .ge 103, 3) := by decide +kernel
theorem d_Layout_stretchJumps_15 : decode prog_2_method_17_code 15 = .ok (.aload_n 0, 1) := by decide +kernel
theorem d_Layout_stretchJumps_16 : decode prog_2_method_17_code 16 = .ok (.getfield 9, 3) := by decide +kernel
theorem d_Layout_stretchJumps_19 : decode prog_2_method_17_code 19 = .ok (.iload_n 2, 1) := by decide +kernel
theorem d_Layout_stretchJumps_20 : decode prog_2_method_17_code 20 = .ok (.iaload, 1) := by decide +kernel
theorem d_Layout_stretchJumps_21 : decode prog_2_method_17_code 21 = .ok (.istore_n 3, 1) := by decide +kernel
theorem d_Layout_stretchJumps_22 : decode prog_2_method_17_code 22 = .ok (.aload_n 0, 1) := by decide +kernel
theorem d_Layout_stretchJumps_23 : decode prog_2_method_17_code 23 = .ok (.getfield 37, 3) := by decide +kernel
theorem d_Layout_stretchJumps_26 : decode prog_2_method_17_code 26 = .ok (.iload_n 3, 1) := by decide +kernel
theorem d_Layout_stretchJumps_27 : decode prog_2_method_17_code 27 = .ok (.baload, 1) := by decide +kernel
theorem d_Layout_stretchJumps_28 : decode prog_2_method_17_code 28 = .ok (.ifCond .ne 81, 3) := by decide +kernel
theorem d_Layout_stretchJumps_31 : decode prog_2_method_17_code 31 = .ok (.aload_n 0, 1) := by decide +kernel
theorem d_Layout_stretchJumps_32 : decode prog_2_method_17_code 32 = .ok (.getfield 40, 3) := by decide +kernel
theorem d_Layout_stretchJumps_35 : decode prog_2_method_17_code 35 = .ok (.iload_n 3, 1) := by decide +kernel
theorem d_Layout_stretchJumps_36 : decode prog_2_method_17_code 36 = .ok (.invokevirtual 101, 3) := by decide +kernel
theorem d_Layout_stretchJumps_39 : decode prog_2_method_17_code 39 = .ok (.invokestatic 114, 3) := by decide +kernel
theorem d_Layout_stretchJumps_42 : decode prog_2_method_17_code 42 = .ok (.ifCond .eq 67, 3) := by decide +kernel
theorem d_Layout_stretchJumps_45 : decode prog_2_method_17_code 45 = .ok (.aload_n 0, 1) := by decide +kernel
theorem d_Layout_stretchJumps_46 : decode prog_2_method_17_code 46 = .ok (.getfield 31, 3) := by decide +kernel
theorem d_Layout_stretchJumps_49 : decode prog_2_method_17_code 49 = .ok (.aload_n 0, 1) := by decide +kernel
theorem d_Layout_stretchJumps_50 : decode prog_2_method_17_code 50 = .ok (.getfield 40, 3) := by decide +kernel
theorem d_Layout_stretchJumps_53 : decode prog_2_method_17_code 53 = .ok (.iload_n 3, 1) := by decide +kernel
theorem d_Layout_stretchJumps_54 : decode prog_2_method_17_code 54 = .ok (.invokevirtual 117, 3) := by decide +kernel
theorem d_Layout_stretchJumps_57 : decode prog_2_method_17_code 57 = .ok (.iaload, 1) := by decide +kernel
theorem d_Layout_stretchJumps_58 : decode prog_2_method_17_code 58 = .ok (.aload_n 0, 1) := by decide +kernel
theorem d_Layout_stretchJumps_59 : decode prog_2_method_17_code 59 = .ok (.getfield 34, 3) := by decide +kernel
theorem d_Layout_stretchJumps_62 : decode prog_2_method_17_code 62 = .ok (.iload_n 3, 1) := by decide +kernel
theorem d_Layout_stretchJumps_63 : decode prog_2_method_17_code 63 = .ok (.iaload, 1) := by decide +kernel
theorem d_Layout_stretchJumps_64 : decode prog_2_method_17_code 64 = .ok (.isub, 1) := by decide +kernel
theorem d_Layout_stretchJumps_65 : decode prog_2_method_17_code 65 = .ok (.istore 4, 2) := by decide +kernel
theorem d_Layout_stretchJumps_67 : decode prog_2_method_17_code 67 = .ok (.iload 4, 2) := by decide +kernel
theorem d_Layout_stretchJumps_69 : decode prog_2_method_17_code 69 = .ok (.aload_n 0, 1) := by decide +kernel
theorem d_Layout_stretchJumps_70 : decode prog_2_method_17_code 70 = .ok (.getfield 44, 3) := by decide +kernel
theorem d_Layout_stretchJumps_73 : decode prog_2_method_17_code 73 = .ok (.getfield 174, 3) := by decide +kernel
theorem d_Layout_stretchJumps_76 : decode prog_2_method_17_code 76 = .ok (.ineg, 1) := by decide +kernel
theorem d_Layout_stretchJumps_77 : decode prog_2_method_17_code 77 = .ok (.if_icmp .lt 15, 3) := by decide +kernel
theorem d_Layout_stretchJumps_80 : decode prog_2_method_17_code 80 = .ok (.iload 4, 2) := by decide +kernel
theorem d_Layout_stretchJumps_82 : decode prog_2_method_17_code 82 = .ok (.aload_n 0, 1) := by decide +kernel
theorem d_Layout_stretchJumps_83 : decode prog_2_method_17_code 83 = .ok (.getfield 44, 3) := by decide +kernel
theorem d_Layout_stretchJumps_86 : decode prog_2_method_17_code 86 = .ok (.getfield 174, 3) := by decide +kernel
theorem d_Layout_stretchJumps_89 : decode prog_2_method_17_code 89 = .ok (.if_icmp .le 20, 3) := by decide +kernel
theorem d_Layout_stretchJumps_92 : decode prog_2_method_17_code 92 = .ok (.aload_n 0, 1) := by decide +kernel
theorem d_Layout_stretchJumps_93 : decode prog_2_method_17_code 93 = .ok (.getfield 37, 3) := by decide +kernel
theorem d_Layout_stretchJumps_96 : decode prog_2_method_17_code 96 = .ok (.iload_n 3, 1) := by decide +kernel
theorem d_Layout_stretchJumps_97 : decode prog_2_method_17_code 97 = .ok (.iconst 1, 1) := by decide +kernel
theorem d_Layout_stretchJumps_98 : decode prog_2_method_17_code 98 = .ok (.bastore, 1) := by decide +kernel
theorem d_Layout_stretchJumps_99 : decode prog_2_method_17_code 99 = .ok (.aload_n 0, 1) := by decide +kernel
theorem d_Layout_stretchJumps_100 : decode prog_2_method_17_code 100 = .ok (.dup, 1) := by decide +kernel
theorem d_Layout_stretchJumps_101 : decode prog_2_method_17_code 101 = .ok (.getfield 91, 3) := by decide +kernel
theorem d_Layout_stretchJumps_104 : decode prog_2_method_17_code 104 = .ok (.iconst 1, 1) := by decide +kernel
theorem d_Layout_stretchJumps_105 : decode prog_2_method_17_code 105 = .ok (.iadd, 1) := by decide +kernel
theorem d_Layout_stretchJumps_106 : decode prog_2_method_17_code 106 = .ok (.putfield 91, 3) := by decide +kernel
theorem d_Layout_stretchJumps_109 : decode prog_2_method_17_code 109 = .ok (.iinc 2 1, 3) := by decide +kernel
theorem d_Layout_stretchJumps_112 : decode prog_2_method_17_code 112 = .ok (.goto (-105), 3) := by decide +kernel
theorem d_Layout_stretchJumps_115 : decode prog_2_method_17_code 115 = .ok (.aload_n 0, 1) := by decide +kernel
theorem d_Layout_stretchJumps_116 : decode prog_2_method_17_code 116 = .ok (.getfield 91, 3) := by decide +kernel
theorem d_Layout_stretchJumps_119 : decode prog_2_method_17_code 119 = .ok (.iload_n 1, 1) := by decide +kernel
theorem d_Layout_stretchJumps_120 : decode prog_2_method_17_code 120 = .ok (.if_icmp .le 7, 3) := by decide +kernel
theorem d_Layout_stretchJumps_123 : decode prog_2_method_17_code 123 = .ok (.iconst 1, 1) := by decide +kernel
theorem d_Layout_stretchJumps_124 : decode prog_2_method_17_code 124 = .ok (.goto 4, 3) := by decide +kernel
theorem d_Layout_stretchJumps_127 : decode prog_2_method_17_code 127 = .ok (.iconst 0, 1) := by decide +kernel
theorem d_Layout_stretchJumps_128 : decode prog_2_method_17_code 128 = .ok (.ireturn, 1) := by decide +kernel
theorem d_Layout_settle_0 : decode prog_2_method_14_code 0 = .ok (.iconst 1, 1) := by decide +kernel
theorem d_Layout_settle_1 : decode prog_2_method_14_code 1 = .ok (.istore_n 1, 1) := by decide +kernel
theorem d_Layout_settle_2 : decode prog_2_method_14_code 2 = .ok (.iload_n 1, 1) := by decide +kernel
theorem d_Layout_settle_3 : decode prog_2_method_14_code 3 = .ok (.ifCond .eq 35, 3) := by decide +kernel
theorem d_Layout_settle_6 : decode prog_2_method_14_code 6 = .ok (.aload_n 0, 1) := by decide +kernel
theorem d_Layout_settle_7 : decode prog_2_method_14_code 7 = .ok (.getfield 88, 3) := by decide +kernel
theorem d_Layout_settle_10 : decode prog_2_method_14_code 10 = .ok (.sipush 200, 3) := by decide +kernel
theorem d_Layout_settle_13 : decode prog_2_method_14_code 13 = .ok (.if_icmp .gt 25, 3) := by decide +kernel
theorem d_Layout_settle_16 : decode prog_2_method_14_code 16 = .ok (.aload_n 0, 1) := by decide +kernel
theorem d_Layout_settle_17 : decode prog_2_method_14_code 17 = .ok (.dup, 1) := by decide +kernel
theorem d_Layout_settle_18 : decode prog_2_method_14_code 18 = .ok (.getfield 88, 3) := by decide +kernel
theorem d_Layout_settle_21 : decode prog_2_method_14_code 21 = .ok (.iconst 1, 1) := by decide +kernel
theorem d_Layout_settle_22 : decode prog_2_method_14_code 22 = .ok (.iadd, 1) := by decide +kernel
theorem d_Layout_settle_23 : decode prog_2_method_14_code 23 = .ok (.putfield 88, 3) := by decide +kernel
theorem d_Layout_settle_26 : decode prog_2_method_14_code 26 = .ok (.aload_n 0, 1) := by decide +kernel
theorem d_Layout_settle_27 : decode prog_2_method_14_code 27 = .ok (.invokevirtual 165, 3) := by decide +kernel
theorem d_Layout_settle_30 : decode prog_2_method_14_code 30 = .ok (.aload_n 0, 1) := by decide +kernel
theorem d_Layout_settle_31 : decode prog_2_method_14_code 31 = .ok (.invokevirtual 168, 3) := by decide +kernel
theorem d_Layout_settle_34 : decode prog_2_method_14_code 34 = .ok (.istore_n 1, 1) := by decide +kernel
theorem d_Layout_settle_35 : decode prog_2_method_14_code 35 = .ok (.goto (-33), 3) := by decide +kernel
theorem d_Layout_settle_38 : decode prog_2_method_14_code 38 = .ok (.return_, 1) := by decide +kernel
theorem d_Layout_make_0 : decode prog_2_method_3_code 0 = .ok (.aload_n 0, 1) := by decide +kernel
theorem d_Layout_make_1 : decode prog_2_method_3_code 1 = .ok (.invokevirtual 48, 3) := by decide +kernel
theorem d_Layout_make_4 : decode prog_2_method_3_code 4 = .ok (.iconst 1, 1) := by decide +kernel
theorem d_Layout_make_5 : decode prog_2_method_3_code 5 = .ok (.istore_n 1, 1) := by decide +kernel
theorem d_Layout_make_6 : decode prog_2_method_3_code 6 = .ok (.aload_n 0, 1) := by decide +kernel
theorem d_Layout_make_7 : decode prog_2_method_3_code 7 = .ok (.invokevirtual 51, 3) := by decide +kernel
theorem d_Layout_make_10 : decode prog_2_method_3_code 10 = .ok (.ifCond .eq 53, 3) := by decide +kernel
theorem d_Layout_make_13 : decode prog_2_method_3_code 13 = .ok (.aload_n 0, 1) := by decide +kernel
theorem d_Layout_make_14 : decode prog_2_method_3_code 14 = .ok (.invokevirtual 55, 3) := by decide +kernel
theorem d_Layout_make_17 : decode prog_2_method_3_code 17 = .ok (.ifCond .eq 46, 3) := by decide +kernel
theorem d_Layout_make_20 : decode prog_2_method_3_code 20 = .ok (.aload_n 0, 1) := by decide +kernel
theorem d_Layout_make_21 : decode prog_2_method_3_code 21 = .ok (.invokevirtual 58, 3) := by decide +kernel
theorem d_Layout_make_24 : decode prog_2_method_3_code 24 = .ok (.ifCond .eq 39, 3) := by decide +kernel
theorem d_Layout_make_27 : decode prog_2_method_3_code 27 = .ok (.aload_n 0, 1) := by decide +kernel
theorem d_Layout_make_28 : decode prog_2_method_3_code 28 = .ok (.invokevirtual 61, 3) := by decide +kernel
theorem d_Layout_make_31 : decode prog_2_method_3_code 31 = .ok (.aload_n 0, 1) := by decide +kernel
theorem d_Layout_make_32 : decode prog_2_method_3_code 32 = .ok (.invokevirtual 64, 3) := by decide +kernel
theorem d_Layout_make_35 : decode prog_2_method_3_code 35 = .ok (.aload_n 0, 1) := by decide +kernel
theorem d_Layout_make_36 : decode prog_2_method_3_code 36 = .ok (.invokevirtual 67, 3) := by decide +kernel
theorem d_Layout_make_39 : decode prog_2_method_3_code 39 = .ok (.aload_n 0, 1) := by decide +kernel
theorem d_Layout_make_40 : decode prog_2_method_3_code 40 = .ok (.getfield 31, 3) := by decide +kernel
theorem d_Layout_make_43 : decode prog_2_method_3_code 43 = .ok (.aload_n 0, 1) := by decide +kernel
theorem d_Layout_make_44 : decode prog_2_method_3_code 44 = .ok (.getfield 40, 3) := by decide +kernel
theorem d_Layout_make_47 : decode prog_2_method_3_code 47 = .ok (.getfield 70, 3) := by decide +kernel
theorem d_Layout_make_50 : decode prog_2_method_3_code 50 = .ok (.iaload, 1) := by decide +kernel
theorem d_Layout_make_51 : decode prog_2_method_3_code 51 = .ok (.sipush 1200, 3) := by decide +kernel
theorem d_Layout_make_54 : decode prog_2_method_3_code 54 = .ok (.if_icmp .le 7, 3) := by decide +kernel
theorem d_Layout_make_57 : decode prog_2_method_3_code 57 = .ok (.iconst 2, 1) := by decide +kernel
theorem d_Layout_make_58 : decode prog_2_method_3_code 58 = .ok (.goto 4, 3) := by decide +kernel
theorem d_Layout_make_61 : decode prog_2_method_3_code 61 = .ok (.iconst 0, 1) := by decide +kernel
theorem d_Layout_make_62 : decode prog_2_method_3_code 62 = .ok (.istore_n 1, 1) := by decide +kernel
theorem d_Layout_make_63 : decode prog_2_method_3_code 63 = .ok (.iload_n 1, 1) := by decide +kernel
theorem d_Layout_make_64 : decode prog_2_method_3_code 64 = .ok (.ifCond .eq 7, 3) := by decide +kernel
theorem d_Layout_make_67 : decode prog_2_method_3_code 67 = .ok (.aload_n 0, 1) := by decide +kernel
theorem d_Layout_make_68 : decode prog_2_method_3_code 68 = .ok (.invokevirtual 48, 3) := by decide +kernel
theorem d_Layout_make_71 : decode prog_2_method_3_code 71 = .ok (.iload_n 1, 1) := by decide +kernel
theorem d_Layout_make_72 : decode prog_2_method_3_code 72 = .ok (.ireturn, 1) := by decide +kernel
theorem d_Output_writeGuards_0 : decode prog_4_method_8_code 0 = .ok (.iconst 0, 1) := by decide +kernel
theorem d_Output_writeGuards_1 : decode prog_4_method_8_code 1 = .ok (.istore_n 1, 1) := by decide +kernel
theorem d_Output_writeGuards_2 : decode prog_4_method_8_code 2 = .ok (.iload_n 1, 1) := by decide +kernel
theorem d_Output_writeGuards_3 : decode prog_4_method_8_code 3 = .ok (.aload_n 0, 1) := by decide +kernel
theorem d_Output_writeGuards_4 : decode prog_4_method_8_code 4 = .ok (.getfield 20, 3) := by decide +kernel
theorem d_Output_writeGuards_7 : decode prog_4_method_8_code 7 = .ok (.getfield 149, 3) := by decide +kernel
theorem d_Output_writeGuards_10 : decode prog_4_method_8_code 10 = .ok (.if_icmp .ge 68, 3) := by decide +kernel
theorem d_Output_writeGuards_13 : decode prog_4_method_8_code 13 = .ok (.iload_n 1, 1) := by decide +kernel
theorem d_Output_writeGuards_14 : decode prog_4_method_8_code 14 = .ok (.iconst 4, 1) := by decide +kernel
theorem d_Output_writeGuards_15 : decode prog_4_method_8_code 15 = .ok (.imul, 1) := by decide +kernel
theorem d_Output_writeGuards_16 : decode prog_4_method_8_code 16 = .ok (.istore_n 2, 1) := by decide +kernel
theorem d_Output_writeGuards_17 : decode prog_4_method_8_code 17 = .ok (.iconst 0, 1) := by decide +kernel
theorem d_Output_writeGuards_18 : decode prog_4_method_8_code 18 = .ok (.istore_n 3, 1) := by decide +kernel
theorem d_Output_writeGuards_19 : decode prog_4_method_8_code 19 = .ok (.iload_n 3, 1) := by decide +kernel
theorem d_Output_writeGuards_20 : decode prog_4_method_8_code 20 = .ok (.iconst 2, 1) := by decide +kernel
theorem d_Output_writeGuards_21 : decode prog_4_method_8_code 21 = .ok (.if_icmp .gt 34, 3) := by decide +kernel
theorem d_Output_writeGuards_24 : decode prog_4_method_8_code 24 = .ok (.aload_n 0, 1) := by decide +kernel
theorem d_Output_writeGuards_25 : decode prog_4_method_8_code 25 = .ok (.getfield 17, 3) := by decide +kernel
theorem d_Output_writeGuards_28 : decode prog_4_method_8_code 28 = .ok (.iload_n 2, 1) := by decide +kernel
theorem d_Output_writeGuards_29 : decode prog_4_method_8_code 29 = .ok (.iload_n 3, 1) := by decide +kernel
theorem d_Output_writeGuards_30 : decode prog_4_method_8_code 30 = .ok (.iadd, 1) := by decide +kernel
theorem d_Output_writeGuards_31 : decode prog_4_method_8_code 31 = .ok (.aload_n 0, 1) := by decide +kernel
theorem d_Output_writeGuards_32 : decode prog_4_method_8_code 32 = .ok (.getfield 28, 3) := by decide +kernel
theorem d_Output_writeGuards_35 : decode prog_4_method_8_code 35 = .ok (.getfield 111, 3) := by decide +kernel
theorem d_Output_writeGuards_38 : decode prog_4_method_8_code 38 = .ok (.aload_n 0, 1) := by decide +kernel
theorem d_Output_writeGuards_39 : decode prog_4_method_8_code 39 = .ok (.getfield 20, 3) := by decide +kernel
theorem d_Output_writeGuards_42 : decode prog_4_method_8_code 42 = .ok (.iload_n 1, 1) := by decide +kernel
theorem d_Output_writeGuards_43 : decode prog_4_method_8_code 43 = .ok (.iload_n 3, 1) := by decide +kernel
theorem d_Output_writeGuards_44 : decode prog_4_method_8_code 44 = .ok (.invokevirtual 152, 3) := by decide +kernel
theorem d_Output_writeGuards_47 : decode prog_4_method_8_code 47 = .ok (.iaload, 1) := by decide +kernel
theorem d_Output_writeGuards_48 : decode prog_4_method_8_code 48 = .ok (.iastore, 1) := by decide +kernel
theorem d_Output_writeGuards_49 : decode prog_4_method_8_code 49 = .ok (.iinc 3 1, 3) := by decide +kernel
theorem d_Output_writeGuards_52 : decode prog_4_method_8_code 52 = .ok (.goto (-33), 3) := by decide +kernel
theorem d_Output_writeGuards_55 : decode prog_4_method_8_code 55 = .ok (.aload_n 0, 1) := by decide +kernel
theorem d_Output_writeGuards_56 : decode prog_4_method_8_code 56 = .ok (.getfield 17, 3) := by decide +kernel
theorem d_Output_writeGuards_59 : decode prog_4_method_8_code 59 = .ok (.iload_n 2, 1) := by decide +kernel
theorem d_Output_writeGuards_60 : decode prog_4_method_8_code 60 = .ok (.iconst 3, 1) := by decide +kernel
theorem d_Output_writeGuards_61 : decode prog_4_method_8_code 61 = .ok (.iadd, 1) := by decide +kernel
theorem d_Output_writeGuards_62 : decode prog_4_method_8_code 62 = .ok (.aload_n 0, 1) := by decide +kernel
theorem d_Output_writeGuards_63 : decode prog_4_method_8_code 63 = .ok (.getfield 20, 3) := by decide +kernel
theorem d_Output_writeGuards_66 : decode prog_4_method_8_code 66 = .ok (.iload_n 1, 1) := by decide +kernel
theorem d_Output_writeGuards_67 : decode prog_4_method_8_code 67 = .ok (.iconst 3, 1) := by decide +kernel
theorem d_Output_writeGuards_68 : decode prog_4_method_8_code 68 = .ok (.invokevirtual 152, 3) := by decide +kernel
theorem d_Output_writeGuards_71 : decode prog_4_method_8_code 71 = .ok (.iastore, 1) := by decide +kernel
theorem d_Output_writeGuards_72 : decode prog_4_method_8_code 72 = .ok (.iinc 1 1, 3) := by decide +kernel
theorem d_Output_writeGuards_75 : decode prog_4_method_8_code 75 = .ok (.goto (-73), 3) := by decide +kernel
theorem d_Output_writeGuards_78 : decode prog_4_method_8_code 78 = .ok (.aload_n 0, 1) := by decide +kernel
theorem d_Output_writeGuards_79 : decode prog_4_method_8_code 79 = .ok (.aload_n 0, 1) := by decide +kernel
theorem d_Output_writeGuards_80 : decode prog_4_method_8_code 80 = .ok (.getfield 20, 3) := by decide +kernel
theorem d_Output_writeGuards_83 : decode prog_4_method_8_code 83 = .ok (.getfield 149, 3) := by decide +kernel
theorem d_Output_writeGuards_86 : decode prog_4_method_8_code 86 = .ok (.putfield 36, 3) := by decide +kernel
theorem d_Output_writeGuards_89 : decode prog_4_method_8_code 89 = .ok (.return_, 1) := by decide +kernel
theorem d_Output_put1_0 : decode prog_4_method_12_code 0 = .ok (.aload_n 0, 1) := by decide +kernel
theorem d_Output_put1_1 : decode prog_4_method_12_code 1 = .ok (.getfield 32, 3) := by decide +kernel
theorem d_Output_put1_4 : decode prog_4_method_12_code 4 = .ok (.sipush 1200, 3) := by decide +kernel
theorem d_Output_put1_7 : decode prog_4_method_12_code 7 = .ok (.if_icmp .ge 24, 3) := by decide +kernel
theorem d_Output_put1_10 : decode prog_4_method_12_code 10 = .ok (.aload_n 0, 1) := by decide +kernel
theorem d_Output_put1_11 : decode prog_4_method_12_code 11 = .ok (.getfield 9, 3) := by decide +kernel
theorem d_Output_put1_14 : decode prog_4_method_12_code 14 = .ok (.aload_n 0, 1) := by decide +kernel
theorem d_Output_put1_15 : decode prog_4_method_12_code 15 = .ok (.dup, 1) := by decide +kernel
theorem d_Output_put1_16 : decode prog_4_method_12_code 16 = .ok (.getfield 32, 3) := by decide +kernel
theorem d_Output_put1_19 : decode prog_4_method_12_code 19 = .ok (.dup_x1, 1) := by decide +kernel
theorem d_Output_put1_20 : decode prog_4_method_12_code 20 = .ok (.iconst 1, 1) := by decide +kernel
theorem d_Output_put1_21 : decode prog_4_method_12_code 21 = .ok (.iadd, 1) := by decide +kernel
theorem d_Output_put1_22 : decode prog_4_method_12_code 22 = .ok (.putfield 32, 3) := by decide +kernel
theorem d_Output_put1_25 : decode prog_4_method_12_code 25 = .ok (.iload_n 1, 1) := by decide +kernel
theorem d_Output_put1_26 : decode prog_4_method_12_code 26 = .ok (.sipush 255, 3) := by decide +kernel
theorem d_Output_put1_29 : decode prog_4_method_12_code 29 = .ok (.iand, 1) := by decide +kernel
theorem d_Output_put1_30 : decode prog_4_method_12_code 30 = .ok (.iastore, 1) := by decide +kernel
theorem d_Output_put1_31 : decode prog_4_method_12_code 31 = .ok (.return_, 1) := by decide +kernel
theorem d_Output_put2_0 : decode prog_4_method_13_code 0 = .ok (.aload_n 0, 1) := by decide +kernel
theorem d_Output_put2_1 : decode prog_4_method_13_code 1 = .ok (.iload_n 1, 1) := by decide +kernel
theorem d_Output_put2_2 : decode prog_4_method_13_code 2 = .ok (.bipush 8, 2) := by decide +kernel
theorem d_Output_put2_4 : decode prog_4_method_13_code 4 = .ok (.ishr, 1) := by decide +kernel
theorem d_Output_put2_5 : decode prog_4_method_13_code 5 = .ok (.invokevirtual 108, 3) := by decide +kernel
theorem d_Output_put2_8 : decode prog_4_method_13_code 8 = .ok (.aload_n 0, 1) := by decide +kernel
theorem d_Output_put2_9 : decode prog_4_method_13_code 9 = .ok (.iload_n 1, 1) := by decide +kernel
theorem d_Output_put2_10 : decode prog_4_method_13_code 10 = .ok (.invokevirtual 108, 3) := by decide +kernel
theorem d_Output_put2_13 : decode prog_4_method_13_code 13 = .ok (.return_, 1) := by decide +kernel
theorem d_Output_putCall_0 : decode prog_4_method_9_code 0 = .ok (.aload_n 0, 1) := by decide +kernel
theorem d_Output_putCall_1 : decode prog_4_method_9_code 1 = .ok (.sipush 184, 3) := by decide +kernel
theorem d_Output_putCall_4 : decode prog_4_method_9_code 4 = .ok (.invokevirtual 108, 3) := by decide +kernel
theorem d_Output_putCall_7 : decode prog_4_method_9_code 7 = .ok (.aload_n 0, 1) := by decide +kernel
theorem d_Output_putCall_8 : decode prog_4_method_9_code 8 = .ok (.aload_n 0, 1) := by decide +kernel
theorem d_Output_putCall_9 : decode prog_4_method_9_code 9 = .ok (.getfield 24, 3) := by decide +kernel
theorem d_Output_putCall_12 : decode prog_4_method_9_code 12 = .ok (.getfield 155, 3) := by decide +kernel
theorem d_Output_putCall_15 : decode prog_4_method_9_code 15 = .ok (.iload_n 1, 1) := by decide +kernel
theorem d_Output_putCall_16 : decode prog_4_method_9_code 16 = .ok (.iadd, 1) := by decide +kernel
theorem d_Output_putCall_17 : decode prog_4_method_9_code 17 = .ok (.invokevirtual 120, 3) := by decide +kernel
theorem d_Output_putCall_20 : decode prog_4_method_9_code 20 = .ok (.aload_n 0, 1) := by decide +kernel
theorem d_Output_putCall_21 : decode prog_4_method_9_code 21 = .ok (.dup, 1) := by decide +kernel
theorem d_Output_putCall_22 : decode prog_4_method_9_code 22 = .ok (.getfield 39, 3) := by decide +kernel
theorem d_Output_putCall_25 : decode prog_4_method_9_code 25 = .ok (.iconst 1, 1) := by decide +kernel
theorem d_Output_putCall_26 : decode prog_4_method_9_code 26 = .ok (.iadd, 1) := by decide +kernel
theorem d_Output_putCall_27 : decode prog_4_method_9_code 27 = .ok (.putfield 39, 3) := by decide +kernel
theorem d_Output_putCall_30 : decode prog_4_method_9_code 30 = .ok (.return_, 1) := by decide +kernel
theorem d_Output_putDuplicate_0 : decode prog_4_method_10_code 0 = .ok (.aload_n 0, 1) := by decide +kernel
theorem d_Output_putDuplicate_1 : decode prog_4_method_10_code 1 = .ok (.bipush 89, 2) := by decide +kernel
theorem d_Output_putDuplicate_3 : decode prog_4_method_10_code 3 = .ok (.invokevirtual 108, 3) := by decide +kernel
theorem d_Output_putDuplicate_6 : decode prog_4_method_10_code 6 = .ok (.aload_n 0, 1) := by decide +kernel
theorem d_Output_putDuplicate_7 : decode prog_4_method_10_code 7 = .ok (.dup, 1) := by decide +kernel
theorem d_Output_putDuplicate_8 : decode prog_4_method_10_code 8 = .ok (.getfield 42, 3) := by decide +kernel
theorem d_Output_putDuplicate_11 : decode prog_4_method_10_code 11 = .ok (.iconst 1, 1) := by decide +kernel
theorem d_Output_putDuplicate_12 : decode prog_4_method_10_code 12 = .ok (.iadd, 1) := by decide +kernel
theorem d_Output_putDuplicate_13 : decode prog_4_method_10_code 13 = .ok (.putfield 42, 3) := by decide +kernel
theorem d_Output_putDuplicate_16 : decode prog_4_method_10_code 16 = .ok (.return_, 1) := by decide +kernel
theorem d_Output_putCost_0 : decode prog_4_method_11_code 0 = .ok (.iload_n 1, 1) := by decide +kernel
theorem d_Output_putCost_1 : decode prog_4_method_11_code 1 = .ok (.iconst 5, 1) := by decide +kernel
theorem d_Output_putCost_2 : decode prog_4_method_11_code 2 = .ok (.if_icmp .gt 13, 3) := by decide +kernel
theorem d_Output_putCost_5 : decode prog_4_method_11_code 5 = .ok (.aload_n 0, 1) := by decide +kernel
theorem d_Output_putCost_6 : decode prog_4_method_11_code 6 = .ok (.iconst 3, 1) := by decide +kernel
theorem d_Output_putCost_7 : decode prog_4_method_11_code 7 = .ok (.iload_n 1, 1) := by decide +kernel
theorem d_Output_putCost_8 : decode prog_4_method_11_code 8 = .ok (.iadd, 1) := by decide +kernel
theorem d_Output_putCost_9 : decode prog_4_method_11_code 9 = .ok (.invokevirtual 108, 3) := by decide +kernel
theorem d_Output_putCost_12 : decode prog_4_method_11_code 12 = .ok (.goto 34, 3) := by decide +kernel
theorem d_Output_putCost_15 : decode prog_4_method_11_code 15 = .ok (.iload_n 1, 1) := by decide +kernel
theorem d_Output_putCost_16 : decode prog_4_method_11_code 16 = .ok (.bipush 127, 2) := by decide +kernel
theorem d_Output_putCost_18 : decode prog_4_method_11_code 18 = .ok (.if_icmp .gt 17, 3) := by decide +kernel
theorem d_Output_putCost_21 : decode prog_4_method_11_code 21 = .ok (.aload_n 0, 1) := by decide +kernel
theorem d_Output_putCost_22 : decode prog_4_method_11_code 22 = .ok (.bipush 16, 2) := by decide +kernel
theorem d_Output_putCost_24 : decode prog_4_method_11_code 24 = .ok (.invokevirtual 108, 3) := by decide +kernel
theorem d_Output_putCost_27 : decode prog_4_method_11_code 27 = .ok (.aload_n 0, 1) := by decide +kernel
theorem d_Output_putCost_28 : decode prog_4_method_11_code 28 = .ok (.iload_n 1, 1) := by decide +kernel
theorem d_Output_putCost_29 : decode prog_4_method_11_code 29 = .ok (.invokevirtual 108, 3) := by decide +kernel
theorem d_Output_putCost_32 : decode prog_4_method_11_code 32 = .ok (.goto 14, 3) := by decide +kernel
theorem d_Output_putCost_35 : decode prog_4_method_11_code 35 = .ok (.aload_n 0, 1) := by decide +kernel
theorem d_Output_putCost_36 : decode prog_4_method_11_code 36 = .ok (.bipush 17, 2) := by decide +kernel
theorem d_Output_putCost_38 : decode prog_4_method_11_code 38 = .ok (.invokevirtual 108, 3) := by decide +kernel
theorem d_Output_putCost_41 : decode prog_4_method_11_code 41 = .ok (.aload_n 0, 1) := by decide +kernel
theorem d_Output_putCost_42 : decode prog_4_method_11_code 42 = .ok (.iload_n 1, 1) := by decide +kernel
theorem d_Output_putCost_43 : decode prog_4_method_11_code 43 = .ok (.invokevirtual 120, 3) := by decide +kernel
theorem d_Output_putCost_46 : decode prog_4_method_11_code 46 = .ok (.aload_n 0, 1) := by decide +kernel
theorem d_Output_putCost_47 : decode prog_4_method_11_code 47 = .ok (.dup, 1) := by decide +kernel
theorem d_Output_putCost_48 : decode prog_4_method_11_code 48 = .ok (.getfield 42, 3) := by decide +kernel
theorem d_Output_putCost_51 : decode prog_4_method_11_code 51 = .ok (.iconst 1, 1) := by decide +kernel
theorem d_Output_putCost_52 : decode prog_4_method_11_code 52 = .ok (.iadd, 1) := by decide +kernel
theorem d_Output_putCost_53 : decode prog_4_method_11_code 53 = .ok (.putfield 42, 3) := by decide +kernel
theorem d_Output_putCost_56 : decode prog_4_method_11_code 56 = .ok (.return_, 1) := by decide +kernel
theorem d_Output_writeLead_0 : decode prog_4_method_4_code 0 = .ok (.aload_n 0, 1) := by decide +kernel
theorem d_Output_writeLead_1 : decode prog_4_method_4_code 1 = .ok (.getfield 20, 3) := by decide +kernel
theorem d_Output_writeLead_4 : decode prog_4_method_4_code 4 = .ok (.iload_n 1, 1) := by decide +kernel
theorem d_Output_writeLead_5 : decode prog_4_method_4_code 5 = .ok (.invokevirtual 63, 3) := by decide +kernel
theorem d_Output_writeLead_8 : decode prog_4_method_4_code 8 = .ok (.istore_n 2, 1) := by decide +kernel
theorem d_Output_writeLead_9 : decode prog_4_method_4_code 9 = .ok (.iload_n 1, 1) := by decide +kernel
theorem d_Output_writeLead_10 : decode prog_4_method_4_code 10 = .ok (.ifCond .ne 8, 3) := by decide +kernel
theorem d_Output_writeLead_13 : decode prog_4_method_4_code 13 = .ok (.aload_n 0, 1) := by decide +kernel
theorem d_Output_writeLead_14 : decode prog_4_method_4_code 14 = .ok (.iconst 2, 1) := by decide +kernel
theorem d_Output_writeLead_15 : decode prog_4_method_4_code 15 = .ok (.invokevirtual 67, 3) := by decide +kernel
theorem d_Output_writeLead_18 : decode prog_4_method_4_code 18 = .ok (.aload_n 0, 1) := by decide +kernel
theorem d_Output_writeLead_19 : decode prog_4_method_4_code 19 = .ok (.getfield 28, 3) := by decide +kernel
theorem d_Output_writeLead_22 : decode prog_4_method_4_code 22 = .ok (.getfield 70, 3) := by decide +kernel
theorem d_Output_writeLead_25 : decode prog_4_method_4_code 25 = .ok (.iload_n 1, 1) := by decide +kernel
theorem d_Output_writeLead_26 : decode prog_4_method_4_code 26 = .ok (.baload, 1) := by decide +kernel
theorem d_Output_writeLead_27 : decode prog_4_method_4_code 27 = .ok (.ifCond .eq 12, 3) := by decide +kernel
theorem d_Output_writeLead_30 : decode prog_4_method_4_code 30 = .ok (.aload_n 0, 1) := by decide +kernel
theorem d_Output_writeLead_31 : decode prog_4_method_4_code 31 = .ok (.invokevirtual 74, 3) := by decide +kernel
theorem d_Output_writeLead_34 : decode prog_4_method_4_code 34 = .ok (.aload_n 0, 1) := by decide +kernel
theorem d_Output_writeLead_35 : decode prog_4_method_4_code 35 = .ok (.iconst 4, 1) := by decide +kernel
theorem d_Output_writeLead_36 : decode prog_4_method_4_code 36 = .ok (.invokevirtual 67, 3) := by decide +kernel
theorem d_Output_writeLead_39 : decode prog_4_method_4_code 39 = .ok (.aload_n 0, 1) := by decide +kernel
theorem d_Output_writeLead_40 : decode prog_4_method_4_code 40 = .ok (.getfield 28, 3) := by decide +kernel
theorem d_Output_writeLead_43 : decode prog_4_method_4_code 43 = .ok (.getfield 77, 3) := by decide +kernel
theorem d_Output_writeLead_46 : decode prog_4_method_4_code 46 = .ok (.iload_n 1, 1) := by decide +kernel
theorem d_Output_writeLead_47 : decode prog_4_method_4_code 47 = .ok (.iaload, 1) := by decide +kernel
theorem d_Output_writeLead_48 : decode prog_4_method_4_code 48 = .ok (.ifCond .le 21, 3) := by decide +kernel
theorem d_Output_writeLead_51 : decode prog_4_method_4_code 51 = .ok (.aload_n 0, 1) := by decide +kernel
theorem d_Output_writeLead_52 : decode prog_4_method_4_code 52 = .ok (.aload_n 0, 1) := by decide +kernel
theorem d_Output_writeLead_53 : decode prog_4_method_4_code 53 = .ok (.getfield 28, 3) := by decide +kernel
theorem d_Output_writeLead_56 : decode prog_4_method_4_code 56 = .ok (.getfield 77, 3) := by decide +kernel
theorem d_Output_writeLead_59 : decode prog_4_method_4_code 59 = .ok (.iload_n 1, 1) := by decide +kernel
theorem d_Output_writeLead_60 : decode prog_4_method_4_code 60 = .ok (.iaload, 1) := by decide +kernel
theorem d_Output_writeLead_61 : decode prog_4_method_4_code 61 = .ok (.invokevirtual 80, 3) := by decide +kernel
theorem d_Output_writeLead_64 : decode prog_4_method_4_code 64 = .ok (.aload_n 0, 1) := by decide +kernel
theorem d_Output_writeLead_65 : decode prog_4_method_4_code 65 = .ok (.iconst 0, 1) := by decide +kernel
theorem d_Output_writeLead_66 : decode prog_4_method_4_code 66 = .ok (.invokevirtual 67, 3) := by decide +kernel
theorem d_Output_writeLead_69 : decode prog_4_method_4_code 69 = .ok (.iload_n 2, 1) := by decide +kernel
theorem d_Output_writeLead_70 : decode prog_4_method_4_code 70 = .ok (.invokestatic 83, 3) := by decide +kernel
theorem d_Output_writeLead_73 : decode prog_4_method_4_code 73 = .ok (.ifCond .eq 8, 3) := by decide +kernel
theorem d_Output_writeLead_76 : decode prog_4_method_4_code 76 = .ok (.aload_n 0, 1) := by decide +kernel
theorem d_Output_writeLead_77 : decode prog_4_method_4_code 77 = .ok (.iconst 3, 1) := by decide +kernel
theorem d_Output_writeLead_78 : decode prog_4_method_4_code 78 = .ok (.invokevirtual 67, 3) := by decide +kernel
theorem d_Output_writeLead_81 : decode prog_4_method_4_code 81 = .ok (.iload_n 2, 1) := by decide +kernel
theorem d_Output_writeLead_82 : decode prog_4_method_4_code 82 = .ok (.invokestatic 89, 3) := by decide +kernel
theorem d_Output_writeLead_85 : decode prog_4_method_4_code 85 = .ok (.ifCond .eq 12, 3) := by decide +kernel
theorem d_Output_writeLead_88 : decode prog_4_method_4_code 88 = .ok (.aload_n 0, 1) := by decide +kernel
theorem d_Output_writeLead_89 : decode prog_4_method_4_code 89 = .ok (.invokevirtual 74, 3) := by decide +kernel
theorem d_Output_writeLead_92 : decode prog_4_method_4_code 92 = .ok (.aload_n 0, 1) := by decide +kernel
theorem d_Output_writeLead_93 : decode prog_4_method_4_code 93 = .ok (.iconst 1, 1) := by decide +kernel
theorem d_Output_writeLead_94 : decode prog_4_method_4_code 94 = .ok (.invokevirtual 67, 3) := by decide +kernel
theorem d_Output_writeLead_97 : decode prog_4_method_4_code 97 = .ok (.return_, 1) := by decide +kernel
theorem d_Opcodes_opposite_0 : decode prog_3_method_10_code 0 = .ok (.iload_n 0, 1) := by decide +kernel
theorem d_Opcodes_opposite_1 : decode prog_3_method_10_code 1 = .ok (.sipush 167, 3) := by decide +kernel
theorem d_Opcodes_opposite_4 : decode prog_3_method_10_code 4 = .ok (.if_icmp .ge 17, 3) := by decide +kernel
theorem d_Opcodes_opposite_7 : decode prog_3_method_10_code 7 = .ok (.iload_n 0, 1) := by decide +kernel
theorem d_Opcodes_opposite_8 : decode prog_3_method_10_code 8 = .ok (.sipush 153, 3) := by decide +kernel
theorem d_Opcodes_opposite_11 : decode prog_3_method_10_code 11 = .ok (.isub, 1) := by decide +kernel
theorem d_Opcodes_opposite_12 : decode prog_3_method_10_code 12 = .ok (.iconst 1, 1) := by decide +kernel
theorem d_Opcodes_opposite_13 : decode prog_3_method_10_code 13 = .ok (.ixor, 1) := by decide +kernel
theorem d_Opcodes_opposite_14 : decode prog_3_method_10_code 14 = .ok (.sipush 153, 3) := by decide +kernel
theorem d_Opcodes_opposite_17 : decode prog_3_method_10_code 17 = .ok (.iadd, 1) := by decide +kernel
theorem d_Opcodes_opposite_18 : decode prog_3_method_10_code 18 = .ok (.goto 6, 3) := by decide +kernel
theorem d_Opcodes_opposite_21 : decode prog_3_method_10_code 21 = .ok (.iload_n 0, 1) := by decide +kernel
theorem d_Opcodes_opposite_22 : decode prog_3_method_10_code 22 = .ok (.iconst 1, 1) := by decide +kernel
theorem d_Opcodes_opposite_23 : decode prog_3_method_10_code 23 = .ok (.ixor, 1) := by decide +kernel
theorem d_Opcodes_opposite_24 : decode prog_3_method_10_code 24 = .ok (.ireturn, 1) := by decide +kernel
theorem d_Output_put4_0 : decode prog_4_method_14_code 0 = .ok (.aload_n 0, 1) := by decide +kernel
theorem d_Output_put4_1 : decode prog_4_method_14_code 1 = .ok (.iload_n 1, 1) := by decide +kernel
theorem d_Output_put4_2 : decode prog_4_method_14_code 2 = .ok (.bipush 16, 2) := by decide +kernel
theorem d_Output_put4_4 : decode prog_4_method_14_code 4 = .ok (.ishr, 1) := by decide +kernel
theorem d_Output_put4_5 : decode prog_4_method_14_code 5 = .ok (.invokevirtual 120, 3) := by decide +kernel
theorem d_Output_put4_8 : decode prog_4_method_14_code 8 = .ok (.aload_n 0, 1) := by decide +kernel
theorem d_Output_put4_9 : decode prog_4_method_14_code 9 = .ok (.iload_n 1, 1) := by decide +kernel
theorem d_Output_put4_10 : decode prog_4_method_14_code 10 = .ok (.invokevirtual 120, 3) := by decide +kernel
theorem d_Output_put4_13 : decode prog_4_method_14_code 13 = .ok (.return_, 1) := by decide +kernel
theorem d_Output_writeFarJump_0 : decode prog_4_method_6_code 0 = .ok (.iload_n 2, 1) := by decide +kernel
theorem d_Output_writeFarJump_1 : decode prog_4_method_6_code 1 = .ok (.sipush 167, 3) := by decide +kernel
theorem d_Output_writeFarJump_4 : decode prog_4_method_6_code 4 = .ok (.if_icmp .eq 24, 3) := by decide +kernel
theorem d_Output_writeFarJump_7 : decode prog_4_method_6_code 7 = .ok (.iload_n 2, 1) := by decide +kernel
theorem d_Output_writeFarJump_8 : decode prog_4_method_6_code 8 = .ok (.sipush 200, 3) := by decide +kernel
theorem d_Output_writeFarJump_11 : decode prog_4_method_6_code 11 = .ok (.if_icmp .eq 17, 3) := by decide +kernel
theorem d_Output_writeFarJump_14 : decode prog_4_method_6_code 14 = .ok (.aload_n 0, 1) := by decide +kernel
theorem d_Output_writeFarJump_15 : decode prog_4_method_6_code 15 = .ok (.iload_n 2, 1) := by decide +kernel
theorem d_Output_writeFarJump_16 : decode prog_4_method_6_code 16 = .ok (.invokestatic 126, 3) := by decide +kernel
theorem d_Output_writeFarJump_19 : decode prog_4_method_6_code 19 = .ok (.invokevirtual 108, 3) := by decide +kernel
theorem d_Output_writeFarJump_22 : decode prog_4_method_6_code 22 = .ok (.aload_n 0, 1) := by decide +kernel
theorem d_Output_writeFarJump_23 : decode prog_4_method_6_code 23 = .ok (.bipush 8, 2) := by decide +kernel
theorem d_Output_writeFarJump_25 : decode prog_4_method_6_code 25 = .ok (.invokevirtual 120, 3) := by decide +kernel
theorem d_Output_writeFarJump_28 : decode prog_4_method_6_code 28 = .ok (.aload_n 0, 1) := by decide +kernel
theorem d_Output_writeFarJump_29 : decode prog_4_method_6_code 29 = .ok (.getfield 32, 3) := by decide +kernel
theorem d_Output_writeFarJump_32 : decode prog_4_method_6_code 32 = .ok (.istore_n 3, 1) := by decide +kernel
theorem d_Output_writeFarJump_33 : decode prog_4_method_6_code 33 = .ok (.aload_n 0, 1) := by decide +kernel
theorem d_Output_writeFarJump_34 : decode prog_4_method_6_code 34 = .ok (.sipush 200, 3) := by decide +kernel
theorem d_Output_writeFarJump_37 : decode prog_4_method_6_code 37 = .ok (.invokevirtual 108, 3) := by decide +kernel
theorem d_Output_writeFarJump_40 : decode prog_4_method_6_code 40 = .ok (.aload_n 0, 1) := by decide +kernel
theorem d_Output_writeFarJump_41 : decode prog_4_method_6_code 41 = .ok (.aload_n 0, 1) := by decide +kernel
theorem d_Output_writeFarJump_42 : decode prog_4_method_6_code 42 = .ok (.getfield 28, 3) := by decide +kernel
theorem d_Output_writeFarJump_45 : decode prog_4_method_6_code 45 = .ok (.getfield 111, 3) := by decide +kernel
theorem d_Output_writeFarJump_48 : decode prog_4_method_6_code 48 = .ok (.aload_n 0, 1) := by decide +kernel
theorem d_Output_writeFarJump_49 : decode prog_4_method_6_code 49 = .ok (.getfield 20, 3) := by decide +kernel
theorem d_Output_writeFarJump_52 : decode prog_4_method_6_code 52 = .ok (.iload_n 1, 1) := by decide +kernel
theorem d_Output_writeFarJump_53 : decode prog_4_method_6_code 53 = .ok (.invokevirtual 114, 3) := by decide +kernel
theorem d_Output_writeFarJump_56 : decode prog_4_method_6_code 56 = .ok (.iaload, 1) := by decide +kernel
theorem d_Output_writeFarJump_57 : decode prog_4_method_6_code 57 = .ok (.iload_n 3, 1) := by decide +kernel
theorem d_Output_writeFarJump_58 : decode prog_4_method_6_code 58 = .ok (.isub, 1) := by decide +kernel
theorem d_Output_writeFarJump_59 : decode prog_4_method_6_code 59 = .ok (.invokevirtual 129, 3) := by decide +kernel
theorem d_Output_writeFarJump_62 : decode prog_4_method_6_code 62 = .ok (.return_, 1) := by decide +kernel
theorem d_Output_writeSwitch_0 : decode prog_4_method_7_code 0 = .ok (.aload_n 0, 1) := by decide +kernel
theorem d_Output_writeSwitch_1 : decode prog_4_method_7_code 1 = .ok (.iload_n 2, 1) := by decide +kernel
theorem d_Output_writeSwitch_2 : decode prog_4_method_7_code 2 = .ok (.invokevirtual 108, 3) := by decide +kernel
theorem d_Output_writeSwitch_5 : decode prog_4_method_7_code 5 = .ok (.aload_n 0, 1) := by decide +kernel
theorem d_Output_writeSwitch_6 : decode prog_4_method_7_code 6 = .ok (.getfield 28, 3) := by decide +kernel
theorem d_Output_writeSwitch_9 : decode prog_4_method_7_code 9 = .ok (.getfield 117, 3) := by decide +kernel
theorem d_Output_writeSwitch_12 : decode prog_4_method_7_code 12 = .ok (.iload_n 1, 1) := by decide +kernel
theorem d_Output_writeSwitch_13 : decode prog_4_method_7_code 13 = .ok (.iaload, 1) := by decide +kernel
theorem d_Output_writeSwitch_14 : decode prog_4_method_7_code 14 = .ok (.invokestatic 132, 3) := by decide +kernel
theorem d_Output_writeSwitch_17 : decode prog_4_method_7_code 17 = .ok (.aload_n 0, 1) := by decide +kernel
theorem d_Output_writeSwitch_18 : decode prog_4_method_7_code 18 = .ok (.getfield 28, 3) := by decide +kernel
theorem d_Output_writeSwitch_21 : decode prog_4_method_7_code 21 = .ok (.getfield 117, 3) := by decide +kernel
theorem d_Output_writeSwitch_24 : decode prog_4_method_7_code 24 = .ok (.iload_n 1, 1) := by decide +kernel
theorem d_Output_writeSwitch_25 : decode prog_4_method_7_code 25 = .ok (.iaload, 1) := by decide +kernel
theorem d_Output_writeSwitch_26 : decode prog_4_method_7_code 26 = .ok (.isub, 1) := by decide +kernel
theorem d_Output_writeSwitch_27 : decode prog_4_method_7_code 27 = .ok (.iconst 1, 1) := by decide +kernel
theorem d_Output_writeSwitch_28 : decode prog_4_method_7_code 28 = .ok (.isub, 1) := by decide +kernel
theorem d_Output_writeSwitch_29 : decode prog_4_method_7_code 29 = .ok (.istore_n 3, 1) := by decide +kernel
theorem d_Output_writeSwitch_30 : decode prog_4_method_7_code 30 = .ok (.iconst 0, 1) := by decide +kernel
theorem d_Output_writeSwitch_31 : decode prog_4_method_7_code 31 = .ok (.istore 4, 2) := by decide +kernel
theorem d_Output_writeSwitch_33 : decode prog_4_method_7_code 33 = .ok (.iload 4, 2) := by decide +kernel
theorem d_Output_writeSwitch_35 : decode prog_4_method_7_code 35 = .ok (.iload_n 3, 1) := by decide +kernel
theorem d_Output_writeSwitch_36 : decode prog_4_method_7_code 36 = .ok (.if_icmp .ge 14, 3) := by decide +kernel
theorem d_Output_writeSwitch_39 : decode prog_4_method_7_code 39 = .ok (.aload_n 0, 1) := by decide +kernel
theorem d_Output_writeSwitch_40 : decode prog_4_method_7_code 40 = .ok (.iconst 0, 1) := by decide +kernel
theorem d_Output_writeSwitch_41 : decode prog_4_method_7_code 41 = .ok (.invokevirtual 108, 3) := by decide +kernel
theorem d_Output_writeSwitch_44 : decode prog_4_method_7_code 44 = .ok (.iinc 4 1, 3) := by decide +kernel
theorem d_Output_writeSwitch_47 : decode prog_4_method_7_code 47 = .ok (.goto (-14), 3) := by decide +kernel
theorem d_Output_writeSwitch_50 : decode prog_4_method_7_code 50 = .ok (.aload_n 0, 1) := by decide +kernel
theorem d_Output_writeSwitch_51 : decode prog_4_method_7_code 51 = .ok (.getfield 28, 3) := by decide +kernel
theorem d_Output_writeSwitch_54 : decode prog_4_method_7_code 54 = .ok (.iload_n 1, 1) := by decide +kernel
theorem d_Output_writeSwitch_55 : decode prog_4_method_7_code 55 = .ok (.invokevirtual 135, 3) := by decide +kernel
theorem d_Output_writeSwitch_58 : decode prog_4_method_7_code 58 = .ok (.istore 4, 2) := by decide +kernel
theorem d_Output_writeSwitch_60 : decode prog_4_method_7_code 60 = .ok (.iconst 0, 1) := by decide +kernel
theorem d_Output_writeSwitch_61 : decode prog_4_method_7_code 61 = .ok (.istore 5, 2) := by decide +kernel
theorem d_Output_writeSwitch_63 : decode prog_4_method_7_code 63 = .ok (.iload 5, 2) := by decide +kernel
theorem d_Output_writeSwitch_65 : decode prog_4_method_7_code 65 = .ok (.iload 4, 2) := by decide +kernel
theorem d_Output_writeSwitch_67 : decode prog_4_method_7_code 67 = .ok (.if_icmp .ge 73, 3) := by decide +kernel
theorem d_Output_writeSwitch_70 : decode prog_4_method_7_code 70 = .ok (.iload_n 2, 1) := by decide +kernel
theorem d_Output_writeSwitch_71 : decode prog_4_method_7_code 71 = .ok (.iload 5, 2) := by decide +kernel
theorem d_Output_writeSwitch_73 : decode prog_4_method_7_code 73 = .ok (.invokestatic 138, 3) := by decide +kernel
theorem d_Output_writeSwitch_76 : decode prog_4_method_7_code 76 = .ok (.ifCond .eq 38, 3) := by decide +kernel
theorem d_Output_writeSwitch_79 : decode prog_4_method_7_code 79 = .ok (.aload_n 0, 1) := by decide +kernel
theorem d_Output_writeSwitch_80 : decode prog_4_method_7_code 80 = .ok (.aload_n 0, 1) := by decide +kernel
theorem d_Output_writeSwitch_81 : decode prog_4_method_7_code 81 = .ok (.getfield 28, 3) := by decide +kernel
theorem d_Output_writeSwitch_84 : decode prog_4_method_7_code 84 = .ok (.getfield 111, 3) := by decide +kernel
theorem d_Output_writeSwitch_87 : decode prog_4_method_7_code 87 = .ok (.aload_n 0, 1) := by decide +kernel
theorem d_Output_writeSwitch_88 : decode prog_4_method_7_code 88 = .ok (.getfield 20, 3) := by decide +kernel
theorem d_Output_writeSwitch_91 : decode prog_4_method_7_code 91 = .ok (.iload_n 1, 1) := by decide +kernel
theorem d_Output_writeSwitch_92 : decode prog_4_method_7_code 92 = .ok (.iload 5, 2) := by decide +kernel
theorem d_Output_writeSwitch_94 : decode prog_4_method_7_code 94 = .ok (.invokevirtual 142, 3) := by decide +kernel
theorem d_Output_writeSwitch_97 : decode prog_4_method_7_code 97 = .ok (.iaload, 1) := by decide +kernel
theorem d_Output_writeSwitch_98 : decode prog_4_method_7_code 98 = .ok (.aload_n 0, 1) := by decide +kernel
theorem d_Output_writeSwitch_99 : decode prog_4_method_7_code 99 = .ok (.getfield 28, 3) := by decide +kernel
theorem d_Output_writeSwitch_102 : decode prog_4_method_7_code 102 = .ok (.getfield 117, 3) := by decide +kernel
theorem d_Output_writeSwitch_105 : decode prog_4_method_7_code 105 = .ok (.iload_n 1, 1) := by decide +kernel
theorem d_Output_writeSwitch_106 : decode prog_4_method_7_code 106 = .ok (.iaload, 1) := by decide +kernel
theorem d_Output_writeSwitch_107 : decode prog_4_method_7_code 107 = .ok (.isub, 1) := by decide +kernel
theorem d_Output_writeSwitch_108 : decode prog_4_method_7_code 108 = .ok (.invokevirtual 129, 3) := by decide +kernel
theorem d_Output_writeSwitch_111 : decode prog_4_method_7_code 111 = .ok (.goto 23, 3) := by decide +kernel
theorem d_Output_writeSwitch_114 : decode prog_4_method_7_code 114 = .ok (.aload_n 0, 1) := by decide +kernel
theorem d_Output_writeSwitch_115 : decode prog_4_method_7_code 115 = .ok (.aload_n 0, 1) := by decide +kernel
theorem d_Output_writeSwitch_116 : decode prog_4_method_7_code 116 = .ok (.getfield 20, 3) := by decide +kernel
theorem d_Output_writeSwitch_119 : decode prog_4_method_7_code 119 = .ok (.iload_n 1, 1) := by decide +kernel
theorem d_Output_writeSwitch_120 : decode prog_4_method_7_code 120 = .ok (.invokestatic 132, 3) := by decide +kernel
theorem d_Output_writeSwitch_123 : decode prog_4_method_7_code 123 = .ok (.iconst 4, 1) := by decide +kernel
theorem d_Output_writeSwitch_124 : decode prog_4_method_7_code 124 = .ok (.iload 5, 2) := by decide +kernel
theorem d_Output_writeSwitch_126 : decode prog_4_method_7_code 126 = .ok (.imul, 1) := by decide +kernel
theorem d_Output_writeSwitch_127 : decode prog_4_method_7_code 127 = .ok (.iadd, 1) := by decide +kernel
theorem d_Output_writeSwitch_128 : decode prog_4_method_7_code 128 = .ok (.invokevirtual 146, 3) := by decide +kernel
theorem d_Output_writeSwitch_131 : decode prog_4_method_7_code 131 = .ok (.invokevirtual 129, 3) := by decide +kernel
theorem d_Output_writeSwitch_134 : decode prog_4_method_7_code 134 = .ok (.iinc 5 1, 3) := by decide +kernel
theorem d_Output_writeSwitch_137 : decode prog_4_method_7_code 137 = .ok (.goto (-74), 3) := by decide +kernel
theorem d_Output_writeSwitch_140 : decode prog_4_method_7_code 140 = .ok (.return_, 1) := by decide +kernel
theorem d_Output_writeInstruction_0 : decode prog_4_method_5_code 0 = .ok (.aload_n 0, 1) := by decide +kernel
theorem d_Output_writeInstruction_1 : decode prog_4_method_5_code 1 = .ok (.getfield 20, 3) := by decide +kernel
theorem d_Output_writeInstruction_4 : decode prog_4_method_5_code 4 = .ok (.iload_n 1, 1) := by decide +kernel
theorem d_Output_writeInstruction_5 : decode prog_4_method_5_code 5 = .ok (.invokevirtual 63, 3) := by decide +kernel
theorem d_Output_writeInstruction_8 : decode prog_4_method_5_code 8 = .ok (.istore_n 2, 1) := by decide +kernel
theorem d_Output_writeInstruction_9 : decode prog_4_method_5_code 9 = .ok (.iload_n 2, 1) := by decide +kernel
theorem d_Output_writeInstruction_10 : decode prog_4_method_5_code 10 = .ok (.invokestatic 92, 3) := by decide +kernel
theorem d_Output_writeInstruction_13 : decode prog_4_method_5_code 13 = .ok (.ifCond .eq 12, 3) := by decide +kernel
theorem d_Output_writeInstruction_16 : decode prog_4_method_5_code 16 = .ok (.aload_n 0, 1) := by decide +kernel
theorem d_Output_writeInstruction_17 : decode prog_4_method_5_code 17 = .ok (.iload_n 1, 1) := by decide +kernel
theorem d_Output_writeInstruction_18 : decode prog_4_method_5_code 18 = .ok (.iload_n 2, 1) := by decide +kernel
theorem d_Output_writeInstruction_19 : decode prog_4_method_5_code 19 = .ok (.invokevirtual 95, 3) := by decide +kernel
theorem d_Output_writeInstruction_22 : decode prog_4_method_5_code 22 = .ok (.goto 104, 3) := by decide +kernel
theorem d_Output_writeInstruction_25 : decode prog_4_method_5_code 25 = .ok (.aload_n 0, 1) := by decide +kernel
theorem d_Output_writeInstruction_26 : decode prog_4_method_5_code 26 = .ok (.getfield 28, 3) := by decide +kernel
theorem d_Output_writeInstruction_29 : decode prog_4_method_5_code 29 = .ok (.getfield 99, 3) := by decide +kernel
theorem d_Output_writeInstruction_32 : decode prog_4_method_5_code 32 = .ok (.iload_n 1, 1) := by decide +kernel
theorem d_Output_writeInstruction_33 : decode prog_4_method_5_code 33 = .ok (.baload, 1) := by decide +kernel
theorem d_Output_writeInstruction_34 : decode prog_4_method_5_code 34 = .ok (.ifCond .eq 12, 3) := by decide +kernel
theorem d_Output_writeInstruction_37 : decode prog_4_method_5_code 37 = .ok (.aload_n 0, 1) := by decide +kernel
theorem d_Output_writeInstruction_38 : decode prog_4_method_5_code 38 = .ok (.iload_n 1, 1) := by decide +kernel
theorem d_Output_writeInstruction_39 : decode prog_4_method_5_code 39 = .ok (.iload_n 2, 1) := by decide +kernel
theorem d_Output_writeInstruction_40 : decode prog_4_method_5_code 40 = .ok (.invokevirtual 102, 3) := by decide +kernel
theorem d_Output_writeInstruction_43 : decode prog_4_method_5_code 43 = .ok (.goto 83, 3) := by decide +kernel
theorem d_Output_writeInstruction_46 : decode prog_4_method_5_code 46 = .ok (.iload_n 2, 1) := by decide +kernel
theorem d_Output_writeInstruction_47 : decode prog_4_method_5_code 47 = .ok (.invokestatic 105, 3) := by decide +kernel
theorem d_Output_writeInstruction_50 : decode prog_4_method_5_code 50 = .ok (.ifCond .eq 41, 3) := by decide +kernel
theorem d_Output_writeInstruction_53 : decode prog_4_method_5_code 53 = .ok (.aload_n 0, 1) := by decide +kernel
theorem d_Output_writeInstruction_54 : decode prog_4_method_5_code 54 = .ok (.iload_n 2, 1) := by decide +kernel
theorem d_Output_writeInstruction_55 : decode prog_4_method_5_code 55 = .ok (.invokevirtual 108, 3) := by decide +kernel
theorem d_Output_writeInstruction_58 : decode prog_4_method_5_code 58 = .ok (.aload_n 0, 1) := by decide +kernel
theorem d_Output_writeInstruction_59 : decode prog_4_method_5_code 59 = .ok (.aload_n 0, 1) := by decide +kernel
theorem d_Output_writeInstruction_60 : decode prog_4_method_5_code 60 = .ok (.getfield 28, 3) := by decide +kernel
theorem d_Output_writeInstruction_63 : decode prog_4_method_5_code 63 = .ok (.getfield 111, 3) := by decide +kernel
theorem d_Output_writeInstruction_66 : decode prog_4_method_5_code 66 = .ok (.aload_n 0, 1) := by decide +kernel
theorem d_Output_writeInstruction_67 : decode prog_4_method_5_code 67 = .ok (.getfield 20, 3) := by decide +kernel
theorem d_Output_writeInstruction_70 : decode prog_4_method_5_code 70 = .ok (.iload_n 1, 1) := by decide +kernel
theorem d_Output_writeInstruction_71 : decode prog_4_method_5_code 71 = .ok (.invokevirtual 114, 3) := by decide +kernel
theorem d_Output_writeInstruction_74 : decode prog_4_method_5_code 74 = .ok (.iaload, 1) := by decide +kernel
theorem d_Output_writeInstruction_75 : decode prog_4_method_5_code 75 = .ok (.aload_n 0, 1) := by decide +kernel
theorem d_Output_writeInstruction_76 : decode prog_4_method_5_code 76 = .ok (.getfield 28, 3) := by decide +kernel
theorem d_Output_writeInstruction_79 : decode prog_4_method_5_code 79 = .ok (.getfield 117, 3) := by decide +kernel
theorem d_Output_writeInstruction_82 : decode prog_4_method_5_code 82 = .ok (.iload_n 1, 1) := by decide +kernel
theorem d_Output_writeInstruction_83 : decode prog_4_method_5_code 83 = .ok (.iaload, 1) := by decide +kernel
theorem d_Output_writeInstruction_84 : decode prog_4_method_5_code 84 = .ok (.isub, 1) := by decide +kernel
theorem d_Output_writeInstruction_85 : decode prog_4_method_5_code 85 = .ok (.invokevirtual 120, 3) := by decide +kernel
theorem d_Output_writeInstruction_88 : decode prog_4_method_5_code 88 = .ok (.goto 38, 3) := by decide +kernel
theorem d_Output_writeInstruction_91 : decode prog_4_method_5_code 91 = .ok (.iconst 0, 1) := by decide +kernel
theorem d_Output_writeInstruction_92 : decode prog_4_method_5_code 92 = .ok (.istore_n 3, 1) := by decide +kernel
theorem d_Output_writeInstruction_93 : decode prog_4_method_5_code 93 = .ok (.iload_n 3, 1) := by decide +kernel
theorem d_Output_writeInstruction_94 : decode prog_4_method_5_code 94 = .ok (.aload_n 0, 1) := by decide +kernel
theorem d_Output_writeInstruction_95 : decode prog_4_method_5_code 95 = .ok (.getfield 28, 3) := by decide +kernel
theorem d_Output_writeInstruction_98 : decode prog_4_method_5_code 98 = .ok (.getfield 123, 3) := by decide +kernel
theorem d_Output_writeInstruction_101 : decode prog_4_method_5_code 101 = .ok (.iload_n 1, 1) := by decide +kernel
theorem d_Output_writeInstruction_102 : decode prog_4_method_5_code 102 = .ok (.iaload, 1) := by decide +kernel
theorem d_Output_writeInstruction_103 : decode prog_4_method_5_code 103 = .ok (.if_icmp .ge 23, 3) := by decide +kernel
theorem d_Output_writeInstruction_106 : decode prog_4_method_5_code 106 = .ok (.aload_n 0, 1) := by decide +kernel
theorem d_Output_writeInstruction_107 : decode prog_4_method_5_code 107 = .ok (.aload_n 0, 1) := by decide +kernel
theorem d_Output_writeInstruction_108 : decode prog_4_method_5_code 108 = .ok (.getfield 20, 3) := by decide +kernel
theorem d_Output_writeInstruction_111 : decode prog_4_method_5_code 111 = .ok (.iload_n 1, 1) := by decide +kernel
theorem d_Output_writeInstruction_112 : decode prog_4_method_5_code 112 = .ok (.iload_n 3, 1) := by decide +kernel
theorem d_Output_writeInstruction_113 : decode prog_4_method_5_code 113 = .ok (.iadd, 1) := by decide +kernel
theorem d_Output_writeInstruction_114 : decode prog_4_method_5_code 114 = .ok (.invokevirtual 63, 3) := by decide +kernel
theorem d_Output_writeInstruction_117 : decode prog_4_method_5_code 117 = .ok (.invokevirtual 108, 3) := by decide +kernel
theorem d_Output_writeInstruction_120 : decode prog_4_method_5_code 120 = .ok (.iinc 3 1, 3) := by decide +kernel
theorem d_Output_writeInstruction_123 : decode prog_4_method_5_code 123 = .ok (.goto (-30), 3) := by decide +kernel
theorem d_Output_writeInstruction_126 : decode prog_4_method_5_code 126 = .ok (.return_, 1) := by decide +kernel
theorem d_Output_write_0 : decode prog_4_method_3_code 0 = .ok (.iconst 0, 1) := by decide +kernel
theorem d_Output_write_1 : decode prog_4_method_3_code 1 = .ok (.istore_n 1, 1) := by decide +kernel
theorem d_Output_write_2 : decode prog_4_method_3_code 2 = .ok (.iload_n 1, 1) := by decide +kernel
theorem d_Output_write_3 : decode prog_4_method_3_code 3 = .ok (.aload_n 0, 1) := by decide +kernel
theorem d_Output_write_4 : decode prog_4_method_3_code 4 = .ok (.getfield 28, 3) := by decide +kernel
theorem d_Output_write_7 : decode prog_4_method_3_code 7 = .ok (.getfield 45, 3) := by decide +kernel
theorem d_Output_write_10 : decode prog_4_method_3_code 10 = .ok (.if_icmp .ge 29, 3) := by decide +kernel
theorem d_Output_write_13 : decode prog_4_method_3_code 13 = .ok (.aload_n 0, 1) := by decide +kernel
theorem d_Output_write_14 : decode prog_4_method_3_code 14 = .ok (.getfield 28, 3) := by decide +kernel
theorem d_Output_write_17 : decode prog_4_method_3_code 17 = .ok (.getfield 50, 3) := by decide +kernel
theorem d_Output_write_20 : decode prog_4_method_3_code 20 = .ok (.iload_n 1, 1) := by decide +kernel
theorem d_Output_write_21 : decode prog_4_method_3_code 21 = .ok (.iaload, 1) := by decide +kernel
theorem d_Output_write_22 : decode prog_4_method_3_code 22 = .ok (.istore_n 2, 1) := by decide +kernel
theorem d_Output_write_23 : decode prog_4_method_3_code 23 = .ok (.aload_n 0, 1) := by decide +kernel
theorem d_Output_write_24 : decode prog_4_method_3_code 24 = .ok (.iload_n 2, 1) := by decide +kernel
theorem d_Output_write_25 : decode prog_4_method_3_code 25 = .ok (.invokevirtual 53, 3) := by decide +kernel
theorem d_Output_write_28 : decode prog_4_method_3_code 28 = .ok (.aload_n 0, 1) := by decide +kernel
theorem d_Output_write_29 : decode prog_4_method_3_code 29 = .ok (.iload_n 2, 1) := by decide +kernel
theorem d_Output_write_30 : decode prog_4_method_3_code 30 = .ok (.invokevirtual 57, 3) := by decide +kernel
theorem d_Output_write_33 : decode prog_4_method_3_code 33 = .ok (.iinc 1 1, 3) := by decide +kernel
theorem d_Output_write_36 : decode prog_4_method_3_code 36 = .ok (.goto (-34), 3) := by decide +kernel
theorem d_Output_write_39 : decode prog_4_method_3_code 39 = .ok (.aload_n 0, 1) := by decide +kernel
theorem d_Output_write_40 : decode prog_4_method_3_code 40 = .ok (.invokevirtual 60, 3) := by decide +kernel
theorem d_Output_write_43 : decode prog_4_method_3_code 43 = .ok (.return_, 1) := by decide +kernel
theorem d_Desk_rewrite_0 : decode prog_1_method_9_code 0 = .ok (.aload_n 0, 1) := by decide +kernel
theorem d_Desk_rewrite_1 : decode prog_1_method_9_code 1 = .ok (.getfield 37, 3) := by decide +kernel
theorem d_Desk_rewrite_4 : decode prog_1_method_9_code 4 = .ok (.invokevirtual 81, 3) := by decide +kernel
theorem d_Desk_rewrite_7 : decode prog_1_method_9_code 7 = .ok (.aload_n 0, 1) := by decide +kernel
theorem d_Desk_rewrite_8 : decode prog_1_method_9_code 8 = .ok (.getfield 28, 3) := by decide +kernel
theorem d_Desk_rewrite_11 : decode prog_1_method_9_code 11 = .ok (.invokevirtual 84, 3) := by decide +kernel
theorem d_Desk_rewrite_14 : decode prog_1_method_9_code 14 = .ok (.istore_n 1, 1) := by decide +kernel
theorem d_Desk_rewrite_15 : decode prog_1_method_9_code 15 = .ok (.iload_n 1, 1) := by decide +kernel
theorem d_Desk_rewrite_16 : decode prog_1_method_9_code 16 = .ok (.ifCond .ne 20, 3) := by decide +kernel
theorem d_Desk_rewrite_19 : decode prog_1_method_9_code 19 = .ok (.aload_n 0, 1) := by decide +kernel
theorem d_Desk_rewrite_20 : decode prog_1_method_9_code 20 = .ok (.getfield 37, 3) := by decide +kernel
theorem d_Desk_rewrite_23 : decode prog_1_method_9_code 23 = .ok (.invokevirtual 88, 3) := by decide +kernel
theorem d_Desk_rewrite_26 : decode prog_1_method_9_code 26 = .ok (.aload_n 0, 1) := by decide +kernel
theorem d_Desk_rewrite_27 : decode prog_1_method_9_code 27 = .ok (.dup, 1) := by decide +kernel
theorem d_Desk_rewrite_28 : decode prog_1_method_9_code 28 = .ok (.getfield 91, 3) := by decide +kernel
theorem d_Desk_rewrite_31 : decode prog_1_method_9_code 31 = .ok (.iconst 1, 1) := by decide +kernel
theorem d_Desk_rewrite_32 : decode prog_1_method_9_code 32 = .ok (.iadd, 1) := by decide +kernel
theorem d_Desk_rewrite_33 : decode prog_1_method_9_code 33 = .ok (.putfield 91, 3) := by decide +kernel
theorem d_Desk_rewrite_36 : decode prog_1_method_9_code 36 = .ok (.iload_n 1, 1) := by decide +kernel
theorem d_Desk_rewrite_37 : decode prog_1_method_9_code 37 = .ok (.ireturn, 1) := by decide +kernel
theorem d_Desk_octet_0 : decode prog_1_method_10_code 0 = .ok (.iload_n 1, 1) := by decide +kernel
theorem d_Desk_octet_1 : decode prog_1_method_10_code 1 = .ok (.ifCond .lt 26, 3) := by decide +kernel
theorem d_Desk_octet_4 : decode prog_1_method_10_code 4 = .ok (.iload_n 1, 1) := by decide +kernel
theorem d_Desk_octet_5 : decode prog_1_method_10_code 5 = .ok (.aload_n 0, 1) := by decide +kernel
theorem d_Desk_octet_6 : decode prog_1_method_10_code 6 = .ok (.getfield 37, 3) := by decide +kernel
theorem d_Desk_octet_9 : decode prog_1_method_10_code 9 = .ok (.getfield 94, 3) := by decide +kernel
theorem d_Desk_octet_12 : decode prog_1_method_10_code 12 = .ok (.if_icmp .ge 15, 3) := by decide +kernel
theorem d_Desk_octet_15 : decode prog_1_method_10_code 15 = .ok (.aload_n 0, 1) := by decide +kernel
theorem d_Desk_octet_16 : decode prog_1_method_10_code 16 = .ok (.getfield 37, 3) := by decide +kernel
theorem d_Desk_octet_19 : decode prog_1_method_10_code 19 = .ok (.getfield 95, 3) := by decide +kernel
theorem d_Desk_octet_22 : decode prog_1_method_10_code 22 = .ok (.iload_n 1, 1) := by decide +kernel
theorem d_Desk_octet_23 : decode prog_1_method_10_code 23 = .ok (.iaload, 1) := by decide +kernel
theorem d_Desk_octet_24 : decode prog_1_method_10_code 24 = .ok (.goto 4, 3) := by decide +kernel
theorem d_Desk_octet_27 : decode prog_1_method_10_code 27 = .ok (.iconst (-1), 1) := by decide +kernel
theorem d_Desk_octet_28 : decode prog_1_method_10_code 28 = .ok (.ireturn, 1) := by decide +kernel
theorem d_Desk_moved_0 : decode prog_1_method_11_code 0 = .ok (.aload_n 0, 1) := by decide +kernel
theorem d_Desk_moved_1 : decode prog_1_method_11_code 1 = .ok (.getfield 28, 3) := by decide +kernel
theorem d_Desk_moved_4 : decode prog_1_method_11_code 4 = .ok (.iload_n 1, 1) := by decide +kernel
theorem d_Desk_moved_5 : decode prog_1_method_11_code 5 = .ok (.invokevirtual 96, 3) := by decide +kernel
theorem d_Desk_moved_8 : decode prog_1_method_11_code 8 = .ok (.ifCond .ne 5, 3) := by decide +kernel
theorem d_Desk_moved_11 : decode prog_1_method_11_code 11 = .ok (.iconst (-1), 1) := by decide +kernel
theorem d_Desk_moved_12 : decode prog_1_method_11_code 12 = .ok (.ireturn, 1) := by decide +kernel
theorem d_Desk_moved_13 : decode prog_1_method_11_code 13 = .ok (.iload_n 2, 1) := by decide +kernel
theorem d_Desk_moved_14 : decode prog_1_method_11_code 14 = .ok (.tableswitch 102 0 4 #[34, 44, 54, 74, 84], 34) := by decide +kernel
theorem d_Desk_moved_48 : decode prog_1_method_11_code 48 = .ok (.aload_n 0, 1) := by decide +kernel
theorem d_Desk_moved_49 : decode prog_1_method_11_code 49 = .ok (.getfield 28, 3) := by decide +kernel
theorem d_Desk_moved_52 : decode prog_1_method_11_code 52 = .ok (.getfield 99, 3) := by decide +kernel
theorem d_Desk_moved_55 : decode prog_1_method_11_code 55 = .ok (.iload_n 1, 1) := by decide +kernel
theorem d_Desk_moved_56 : decode prog_1_method_11_code 56 = .ok (.iaload, 1) := by decide +kernel
theorem d_Desk_moved_57 : decode prog_1_method_11_code 57 = .ok (.ireturn, 1) := by decide +kernel
theorem d_Desk_moved_58 : decode prog_1_method_11_code 58 = .ok (.aload_n 0, 1) := by decide +kernel
theorem d_Desk_moved_59 : decode prog_1_method_11_code 59 = .ok (.getfield 28, 3) := by decide +kernel
theorem d_Desk_moved_62 : decode prog_1_method_11_code 62 = .ok (.getfield 102, 3) := by decide +kernel
theorem d_Desk_moved_65 : decode prog_1_method_11_code 65 = .ok (.iload_n 1, 1) := by decide +kernel
theorem d_Desk_moved_66 : decode prog_1_method_11_code 66 = .ok (.iaload, 1) := by decide +kernel
theorem d_Desk_moved_67 : decode prog_1_method_11_code 67 = .ok (.ireturn, 1) := by decide +kernel
theorem d_Desk_moved_68 : decode prog_1_method_11_code 68 = .ok (.aload_n 0, 1) := by decide +kernel
theorem d_Desk_moved_69 : decode prog_1_method_11_code 69 = .ok (.getfield 28, 3) := by decide +kernel
theorem d_Desk_moved_72 : decode prog_1_method_11_code 72 = .ok (.getfield 105, 3) := by decide +kernel
theorem d_Desk_moved_75 : decode prog_1_method_11_code 75 = .ok (.iload_n 1, 1) := by decide +kernel
theorem d_Desk_moved_76 : decode prog_1_method_11_code 76 = .ok (.iaload, 1) := by decide +kernel
theorem d_Desk_moved_77 : decode prog_1_method_11_code 77 = .ok (.aload_n 0, 1) := by decide +kernel
theorem d_Desk_moved_78 : decode prog_1_method_11_code 78 = .ok (.getfield 28, 3) := by decide +kernel
theorem d_Desk_moved_81 : decode prog_1_method_11_code 81 = .ok (.getfield 108, 3) := by decide +kernel
theorem d_Desk_moved_84 : decode prog_1_method_11_code 84 = .ok (.iload_n 1, 1) := by decide +kernel
theorem d_Desk_moved_85 : decode prog_1_method_11_code 85 = .ok (.iaload, 1) := by decide +kernel
theorem d_Desk_moved_86 : decode prog_1_method_11_code 86 = .ok (.iadd, 1) := by decide +kernel
theorem d_Desk_moved_87 : decode prog_1_method_11_code 87 = .ok (.ireturn, 1) := by decide +kernel
theorem d_Desk_moved_88 : decode prog_1_method_11_code 88 = .ok (.aload_n 0, 1) := by decide +kernel
theorem d_Desk_moved_89 : decode prog_1_method_11_code 89 = .ok (.getfield 28, 3) := by decide +kernel
theorem d_Desk_moved_92 : decode prog_1_method_11_code 92 = .ok (.getfield 111, 3) := by decide +kernel
theorem d_Desk_moved_95 : decode prog_1_method_11_code 95 = .ok (.iload_n 1, 1) := by decide +kernel
theorem d_Desk_moved_96 : decode prog_1_method_11_code 96 = .ok (.iaload, 1) := by decide +kernel
theorem d_Desk_moved_97 : decode prog_1_method_11_code 97 = .ok (.ireturn, 1) := by decide +kernel
theorem d_Desk_moved_98 : decode prog_1_method_11_code 98 = .ok (.aload_n 0, 1) := by decide +kernel
theorem d_Desk_moved_99 : decode prog_1_method_11_code 99 = .ok (.getfield 28, 3) := by decide +kernel
theorem d_Desk_moved_102 : decode prog_1_method_11_code 102 = .ok (.getfield 114, 3) := by decide +kernel
theorem d_Desk_moved_105 : decode prog_1_method_11_code 105 = .ok (.iload_n 1, 1) := by decide +kernel
theorem d_Desk_moved_106 : decode prog_1_method_11_code 106 = .ok (.baload, 1) := by decide +kernel
theorem d_Desk_moved_107 : decode prog_1_method_11_code 107 = .ok (.ifCond .eq 7, 3) := by decide +kernel
theorem d_Desk_moved_110 : decode prog_1_method_11_code 110 = .ok (.iconst 1, 1) := by decide +kernel
theorem d_Desk_moved_111 : decode prog_1_method_11_code 111 = .ok (.goto 4, 3) := by decide +kernel
theorem d_Desk_moved_114 : decode prog_1_method_11_code 114 = .ok (.iconst 0, 1) := by decide +kernel
theorem d_Desk_moved_115 : decode prog_1_method_11_code 115 = .ok (.ireturn, 1) := by decide +kernel
theorem d_Desk_moved_116 : decode prog_1_method_11_code 116 = .ok (.iconst (-1), 1) := by decide +kernel
theorem d_Desk_moved_117 : decode prog_1_method_11_code 117 = .ok (.ireturn, 1) := by decide +kernel
theorem d_Desk_back_0 : decode prog_1_method_12_code 0 = .ok (.iconst 0, 1) := by decide +kernel
theorem d_Desk_back_1 : decode prog_1_method_12_code 1 = .ok (.istore_n 2, 1) := by decide +kernel
theorem d_Desk_back_2 : decode prog_1_method_12_code 2 = .ok (.iload_n 2, 1) := by decide +kernel
theorem d_Desk_back_3 : decode prog_1_method_12_code 3 = .ok (.aload_n 0, 1) := by decide +kernel
theorem d_Desk_back_4 : decode prog_1_method_12_code 4 = .ok (.getfield 28, 3) := by decide +kernel
theorem d_Desk_back_7 : decode prog_1_method_12_code 7 = .ok (.getfield 117, 3) := by decide +kernel
theorem d_Desk_back_10 : decode prog_1_method_12_code 10 = .ok (.if_icmp .ge 34, 3) := by decide +kernel
theorem d_Desk_back_13 : decode prog_1_method_12_code 13 = .ok (.aload_n 0, 1) := by decide +kernel
theorem d_Desk_back_14 : decode prog_1_method_12_code 14 = .ok (.getfield 28, 3) := by decide +kernel
theorem d_Desk_back_17 : decode prog_1_method_12_code 17 = .ok (.getfield 120, 3) := by decide +kernel
theorem d_Desk_back_20 : decode prog_1_method_12_code 20 = .ok (.iload_n 2, 1) := by decide +kernel
theorem d_Desk_back_21 : decode prog_1_method_12_code 21 = .ok (.iaload, 1) := by decide +kernel
theorem d_Desk_back_22 : decode prog_1_method_12_code 22 = .ok (.istore_n 3, 1) := by decide +kernel
theorem d_Desk_back_23 : decode prog_1_method_12_code 23 = .ok (.aload_n 0, 1) := by decide +kernel
theorem d_Desk_back_24 : decode prog_1_method_12_code 24 = .ok (.getfield 28, 3) := by decide +kernel
theorem d_Desk_back_27 : decode prog_1_method_12_code 27 = .ok (.getfield 102, 3) := by decide +kernel
theorem d_Desk_back_30 : decode prog_1_method_12_code 30 = .ok (.iload_n 3, 1) := by decide +kernel
theorem d_Desk_back_31 : decode prog_1_method_12_code 31 = .ok (.iaload, 1) := by decide +kernel
theorem d_Desk_back_32 : decode prog_1_method_12_code 32 = .ok (.iload_n 1, 1) := by decide +kernel
theorem d_Desk_back_33 : decode prog_1_method_12_code 33 = .ok (.if_icmp .ne 5, 3) := by decide +kernel
theorem d_Desk_back_36 : decode prog_1_method_12_code 36 = .ok (.iload_n 3, 1) := by decide +kernel
theorem d_Desk_back_37 : decode prog_1_method_12_code 37 = .ok (.ireturn, 1) := by decide +kernel
theorem d_Desk_back_38 : decode prog_1_method_12_code 38 = .ok (.iinc 2 1, 3) := by decide +kernel
theorem d_Desk_back_41 : decode prog_1_method_12_code 41 = .ok (.goto (-39), 3) := by decide +kernel
theorem d_Desk_back_44 : decode prog_1_method_12_code 44 = .ok (.iconst (-1), 1) := by decide +kernel
theorem d_Desk_back_45 : decode prog_1_method_12_code 45 = .ok (.ireturn, 1) := by decide +kernel
theorem d_Desk_guard_0 : decode prog_1_method_13_code 0 = .ok (.iload_n 1, 1) := by decide +kernel
theorem d_Desk_guard_1 : decode prog_1_method_13_code 1 = .ok (.ifCond .lt 23, 3) := by decide +kernel
theorem d_Desk_guard_4 : decode prog_1_method_13_code 4 = .ok (.iload_n 1, 1) := by decide +kernel
theorem d_Desk_guard_5 : decode prog_1_method_13_code 5 = .ok (.aload_n 0, 1) := by decide +kernel
theorem d_Desk_guard_6 : decode prog_1_method_13_code 6 = .ok (.getfield 37, 3) := by decide +kernel
theorem d_Desk_guard_9 : decode prog_1_method_13_code 9 = .ok (.getfield 123, 3) := by decide +kernel
theorem d_Desk_guard_12 : decode prog_1_method_13_code 12 = .ok (.if_icmp .ge 12, 3) := by decide +kernel
theorem d_Desk_guard_15 : decode prog_1_method_13_code 15 = .ok (.iload_n 2, 1) := by decide +kernel
theorem d_Desk_guard_16 : decode prog_1_method_13_code 16 = .ok (.ifCond .lt 8, 3) := by decide +kernel
theorem d_Desk_guard_19 : decode prog_1_method_13_code 19 = .ok (.iload_n 2, 1) := by decide +kernel
theorem d_Desk_guard_20 : decode prog_1_method_13_code 20 = .ok (.iconst 4, 1) := by decide +kernel
theorem d_Desk_guard_21 : decode prog_1_method_13_code 21 = .ok (.if_icmp .lt 5, 3) := by decide +kernel
theorem d_Desk_guard_24 : decode prog_1_method_13_code 24 = .ok (.iconst (-1), 1) := by decide +kernel
theorem d_Desk_guard_25 : decode prog_1_method_13_code 25 = .ok (.ireturn, 1) := by decide +kernel
theorem d_Desk_guard_26 : decode prog_1_method_13_code 26 = .ok (.aload_n 0, 1) := by decide +kernel
theorem d_Desk_guard_27 : decode prog_1_method_13_code 27 = .ok (.getfield 37, 3) := by decide +kernel
theorem d_Desk_guard_30 : decode prog_1_method_13_code 30 = .ok (.getfield 126, 3) := by decide +kernel
theorem d_Desk_guard_33 : decode prog_1_method_13_code 33 = .ok (.iload_n 1, 1) := by decide +kernel
theorem d_Desk_guard_34 : decode prog_1_method_13_code 34 = .ok (.iconst 4, 1) := by decide +kernel
theorem d_Desk_guard_35 : decode prog_1_method_13_code 35 = .ok (.imul, 1) := by decide +kernel
theorem d_Desk_guard_36 : decode prog_1_method_13_code 36 = .ok (.iload_n 2, 1) := by decide +kernel
theorem d_Desk_guard_37 : decode prog_1_method_13_code 37 = .ok (.iadd, 1) := by decide +kernel
theorem d_Desk_guard_38 : decode prog_1_method_13_code 38 = .ok (.iaload, 1) := by decide +kernel
theorem d_Desk_guard_39 : decode prog_1_method_13_code 39 = .ok (.ireturn, 1) := by decide +kernel
theorem d_Desk_about_0 : decode prog_1_method_14_code 0 = .ok (.iload_n 1, 1) := by decide +kernel
theorem d_Desk_about_1 : decode prog_1_method_14_code 1 = .ok (.tableswitch 111 0 7 #[47, 55, 63, 71, 79, 87, 95, 103], 47) := by decide +kernel
theorem d_Desk_about_48 : decode prog_1_method_14_code 48 = .ok (.aload_n 0, 1) := by decide +kernel
theorem d_Desk_about_49 : decode prog_1_method_14_code 49 = .ok (.getfield 37, 3) := by decide +kernel
theorem d_Desk_about_52 : decode prog_1_method_14_code 52 = .ok (.getfield 94, 3) := by decide +kernel
theorem d_Desk_about_55 : decode prog_1_method_14_code 55 = .ok (.ireturn, 1) := by decide +kernel
theorem d_Desk_about_56 : decode prog_1_method_14_code 56 = .ok (.aload_n 0, 1) := by decide +kernel
theorem d_Desk_about_57 : decode prog_1_method_14_code 57 = .ok (.getfield 28, 3) := by decide +kernel
theorem d_Desk_about_60 : decode prog_1_method_14_code 60 = .ok (.getfield 117, 3) := by decide +kernel
theorem d_Desk_about_63 : decode prog_1_method_14_code 63 = .ok (.ireturn, 1) := by decide +kernel
theorem d_Desk_about_64 : decode prog_1_method_14_code 64 = .ok (.aload_n 0, 1) := by decide +kernel
theorem d_Desk_about_65 : decode prog_1_method_14_code 65 = .ok (.getfield 28, 3) := by decide +kernel
theorem d_Desk_about_68 : decode prog_1_method_14_code 68 = .ok (.getfield 129, 3) := by decide +kernel
theorem d_Desk_about_71 : decode prog_1_method_14_code 71 = .ok (.ireturn, 1) := by decide +kernel
theorem d_Desk_about_72 : decode prog_1_method_14_code 72 = .ok (.aload_n 0, 1) := by decide +kernel
theorem d_Desk_about_73 : decode prog_1_method_14_code 73 = .ok (.getfield 28, 3) := by decide +kernel
theorem d_Desk_about_76 : decode prog_1_method_14_code 76 = .ok (.getfield 132, 3) := by decide +kernel
theorem d_Desk_about_79 : decode prog_1_method_14_code 79 = .ok (.ireturn, 1) := by decide +kernel
theorem d_Desk_about_80 : decode prog_1_method_14_code 80 = .ok (.aload_n 0, 1) := by decide +kernel
theorem d_Desk_about_81 : decode prog_1_method_14_code 81 = .ok (.getfield 28, 3) := by decide +kernel
theorem d_Desk_about_84 : decode prog_1_method_14_code 84 = .ok (.getfield 135, 3) := by decide +kernel
theorem d_Desk_about_87 : decode prog_1_method_14_code 87 = .ok (.ireturn, 1) := by decide +kernel
theorem d_Desk_about_88 : decode prog_1_method_14_code 88 = .ok (.aload_n 0, 1) := by decide +kernel
theorem d_Desk_about_89 : decode prog_1_method_14_code 89 = .ok (.getfield 28, 3) := by decide +kernel
theorem d_Desk_about_92 : decode prog_1_method_14_code 92 = .ok (.getfield 138, 3) := by decide +kernel
theorem d_Desk_about_95 : decode prog_1_method_14_code 95 = .ok (.ireturn, 1) := by decide +kernel
theorem d_Desk_about_96 : decode prog_1_method_14_code 96 = .ok (.aload_n 0, 1) := by decide +kernel
theorem d_Desk_about_97 : decode prog_1_method_14_code 97 = .ok (.getfield 37, 3) := by decide +kernel
theorem d_Desk_about_100 : decode prog_1_method_14_code 100 = .ok (.getfield 141, 3) := by decide +kernel
theorem d_Desk_about_103 : decode prog_1_method_14_code 103 = .ok (.ireturn, 1) := by decide +kernel
theorem d_Desk_about_104 : decode prog_1_method_14_code 104 = .ok (.aload_n 0, 1) := by decide +kernel
theorem d_Desk_about_105 : decode prog_1_method_14_code 105 = .ok (.getfield 37, 3) := by decide +kernel
theorem d_Desk_about_108 : decode prog_1_method_14_code 108 = .ok (.getfield 144, 3) := by decide +kernel
theorem d_Desk_about_111 : decode prog_1_method_14_code 111 = .ok (.ireturn, 1) := by decide +kernel
theorem d_Desk_about_112 : decode prog_1_method_14_code 112 = .ok (.iconst (-1), 1) := by decide +kernel
theorem d_Desk_about_113 : decode prog_1_method_14_code 113 = .ok (.ireturn, 1) := by decide +kernel
theorem d_Desk_count_0 : decode prog_1_method_15_code 0 = .ok (.iload_n 1, 1) := by decide +kernel
theorem d_Desk_count_1 : decode prog_1_method_15_code 1 = .ok (.tableswitch 48 0 2 #[27, 35, 43], 27) := by decide +kernel
theorem d_Desk_count_28 : decode prog_1_method_15_code 28 = .ok (.aload_n 0, 1) := by decide +kernel
theorem d_Desk_count_29 : decode prog_1_method_15_code 29 = .ok (.getfield 18, 3) := by decide +kernel
theorem d_Desk_count_32 : decode prog_1_method_15_code 32 = .ok (.getfield 41, 3) := by decide +kernel
theorem d_Desk_count_35 : decode prog_1_method_15_code 35 = .ok (.ireturn, 1) := by decide +kernel
theorem d_Desk_count_36 : decode prog_1_method_15_code 36 = .ok (.aload_n 0, 1) := by decide +kernel
theorem d_Desk_count_37 : decode prog_1_method_15_code 37 = .ok (.getfield 18, 3) := by decide +kernel
theorem d_Desk_count_40 : decode prog_1_method_15_code 40 = .ok (.getfield 57, 3) := by decide +kernel
theorem d_Desk_count_43 : decode prog_1_method_15_code 43 = .ok (.ireturn, 1) := by decide +kernel
theorem d_Desk_count_44 : decode prog_1_method_15_code 44 = .ok (.aload_n 0, 1) := by decide +kernel
theorem d_Desk_count_45 : decode prog_1_method_15_code 45 = .ok (.getfield 91, 3) := by decide +kernel
theorem d_Desk_count_48 : decode prog_1_method_15_code 48 = .ok (.ireturn, 1) := by decide +kernel
theorem d_Desk_count_49 : decode prog_1_method_15_code 49 = .ok (.iconst (-1), 1) := by decide +kernel
theorem d_Desk_count_50 : decode prog_1_method_15_code 50 = .ok (.ireturn, 1) := by decide +kernel
