theorem d_Model_layOut_143 : decode prog_8_method_26_code 143 = .ok (.iload 4, 2) := by decide +kernel
theorem d_Model_layOut_145 : decode prog_8_method_26_code 145 = .ok (.iload_n 2, 1) := by decide +kernel
theorem d_Model_layOut_146 : decode prog_8_method_26_code 146 = .ok (.iconst 4, 1) := by decide +kernel
theorem d_Model_layOut_147 : decode prog_8_method_26_code 147 = .ok (.irem, 1) := by decide +kernel
theorem d_Model_layOut_148 : decode prog_8_method_26_code 148 = .ok (.aload_n 0, 1) := by decide +kernel
theorem d_Model_layOut_149 : decode prog_8_method_26_code 149 = .ok (.iload_n 2, 1) := by decide +kernel
theorem d_Model_layOut_150 : decode prog_8_method_26_code 150 = .ok (.invokevirtual 132, 3) := by decide +kernel
theorem d_Model_layOut_153 : decode prog_8_method_26_code 153 = .ok (.iconst 4, 1) := by decide +kernel
theorem d_Model_layOut_154 : decode prog_8_method_26_code 154 = .ok (.irem, 1) := by decide +kernel
theorem d_Model_layOut_155 : decode prog_8_method_26_code 155 = .ok (.isub, 1) := by decide +kernel
theorem d_Model_layOut_156 : decode prog_8_method_26_code 156 = .ok (.iadd, 1) := by decide +kernel
theorem d_Model_layOut_157 : decode prog_8_method_26_code 157 = .ok (.istore 4, 2) := by decide +kernel
theorem d_Model_layOut_159 : decode prog_8_method_26_code 159 = .ok (.goto 27, 3) := by decide +kernel
theorem d_Model_layOut_162 : decode prog_8_method_26_code 162 = .ok (.aload_n 0, 1) := by decide +kernel
theorem d_Model_layOut_163 : decode prog_8_method_26_code 163 = .ok (.getfield 42, 3) := by decide +kernel
theorem d_Model_layOut_166 : decode prog_8_method_26_code 166 = .ok (.iload_n 2, 1) := by decide +kernel
theorem d_Model_layOut_167 : decode prog_8_method_26_code 167 = .ok (.baload, 1) := by decide +kernel
theorem d_Model_layOut_168 : decode prog_8_method_26_code 168 = .ok (.ifCond .eq 18, 3) := by decide +kernel
theorem d_Model_layOut_171 : decode prog_8_method_26_code 171 = .ok (.iload_n 3, 1) := by decide +kernel
theorem d_Model_layOut_172 : decode prog_8_method_26_code 172 = .ok (.sipush 167, 3) := by decide +kernel
theorem d_Model_layOut_175 : decode prog_8_method_26_code 175 = .ok (.if_icmp .ne 7, 3) := by decide +kernel
theorem d_Model_layOut_178 : decode prog_8_method_26_code 178 = .ok (.iconst 5, 1) := by decide +kernel
theorem d_Model_layOut_179 : decode prog_8_method_26_code 179 = .ok (.goto 5, 3) := by decide +kernel
theorem d_Model_layOut_182 : decode prog_8_method_26_code 182 = .ok (.bipush 8, 2) := by decide +kernel
theorem d_Model_layOut_184 : decode prog_8_method_26_code 184 = .ok (.istore 4, 2) := by decide +kernel
theorem d_Model_layOut_186 : decode prog_8_method_26_code 186 = .ok (.aload_n 0, 1) := by decide +kernel
theorem d_Model_layOut_187 : decode prog_8_method_26_code 187 = .ok (.getfield 54, 3) := by decide +kernel
theorem d_Model_layOut_190 : decode prog_8_method_26_code 190 = .ok (.iload_n 2, 1) := by decide +kernel
theorem d_Model_layOut_191 : decode prog_8_method_26_code 191 = .ok (.aload_n 0, 1) := by decide +kernel
theorem d_Model_layOut_192 : decode prog_8_method_26_code 192 = .ok (.getfield 51, 3) := by decide +kernel
theorem d_Model_layOut_195 : decode prog_8_method_26_code 195 = .ok (.iload_n 2, 1) := by decide +kernel
theorem d_Model_layOut_196 : decode prog_8_method_26_code 196 = .ok (.iaload, 1) := by decide +kernel
theorem d_Model_layOut_197 : decode prog_8_method_26_code 197 = .ok (.iload 4, 2) := by decide +kernel
theorem d_Model_layOut_199 : decode prog_8_method_26_code 199 = .ok (.iadd, 1) := by decide +kernel
theorem d_Model_layOut_200 : decode prog_8_method_26_code 200 = .ok (.iastore, 1) := by decide +kernel
theorem d_Model_layOut_201 : decode prog_8_method_26_code 201 = .ok (.iload_n 1, 1) := by decide +kernel
theorem d_Model_layOut_202 : decode prog_8_method_26_code 202 = .ok (.aload_n 0, 1) := by decide +kernel
theorem d_Model_layOut_203 : decode prog_8_method_26_code 203 = .ok (.getfield 54, 3) := by decide +kernel
theorem d_Model_layOut_206 : decode prog_8_method_26_code 206 = .ok (.iload_n 2, 1) := by decide +kernel
theorem d_Model_layOut_207 : decode prog_8_method_26_code 207 = .ok (.iaload, 1) := by decide +kernel
theorem d_Model_layOut_208 : decode prog_8_method_26_code 208 = .ok (.iadd, 1) := by decide +kernel
theorem d_Model_layOut_209 : decode prog_8_method_26_code 209 = .ok (.istore_n 1, 1) := by decide +kernel
theorem d_Model_layOut_210 : decode prog_8_method_26_code 210 = .ok (.iinc 2 1, 3) := by decide +kernel
theorem d_Model_layOut_213 : decode prog_8_method_26_code 213 = .ok (.goto (-209), 3) := by decide +kernel
theorem d_Model_layOut_216 : decode prog_8_method_26_code 216 = .ok (.aload_n 0, 1) := by decide +kernel
theorem d_Model_layOut_217 : decode prog_8_method_26_code 217 = .ok (.getfield 48, 3) := by decide +kernel
theorem d_Model_layOut_220 : decode prog_8_method_26_code 220 = .ok (.aload_n 0, 1) := by decide +kernel
theorem d_Model_layOut_221 : decode prog_8_method_26_code 221 = .ok (.getfield 92, 3) := by decide +kernel
theorem d_Model_layOut_224 : decode prog_8_method_26_code 224 = .ok (.iload_n 1, 1) := by decide +kernel
theorem d_Model_layOut_225 : decode prog_8_method_26_code 225 = .ok (.iastore, 1) := by decide +kernel
theorem d_Model_layOut_226 : decode prog_8_method_26_code 226 = .ok (.aload_n 0, 1) := by decide +kernel
theorem d_Model_layOut_227 : decode prog_8_method_26_code 227 = .ok (.iload_n 1, 1) := by decide +kernel
theorem d_Model_layOut_228 : decode prog_8_method_26_code 228 = .ok (.putfield 135, 3) := by decide +kernel
theorem d_Model_layOut_231 : decode prog_8_method_26_code 231 = .ok (.return_, 1) := by decide +kernel
theorem d_Model_put_0 : decode prog_8_method_28_code 0 = .ok (.iload_n 2, 1) := by decide +kernel
theorem d_Model_put_1 : decode prog_8_method_28_code 1 = .ok (.iconst 1, 1) := by decide +kernel
theorem d_Model_put_2 : decode prog_8_method_28_code 2 = .ok (.isub, 1) := by decide +kernel
theorem d_Model_put_3 : decode prog_8_method_28_code 3 = .ok (.istore_n 3, 1) := by decide +kernel
theorem d_Model_put_4 : decode prog_8_method_28_code 4 = .ok (.iload_n 3, 1) := by decide +kernel
theorem d_Model_put_5 : decode prog_8_method_28_code 5 = .ok (.ifCond .lt 38, 3) := by decide +kernel
theorem d_Model_put_8 : decode prog_8_method_28_code 8 = .ok (.aload_n 0, 1) := by decide +kernel
theorem d_Model_put_9 : decode prog_8_method_28_code 9 = .ok (.getfield 60, 3) := by decide +kernel
theorem d_Model_put_12 : decode prog_8_method_28_code 12 = .ok (.aload_n 0, 1) := by decide +kernel
theorem d_Model_put_13 : decode prog_8_method_28_code 13 = .ok (.getfield 164, 3) := by decide +kernel
theorem d_Model_put_16 : decode prog_8_method_28_code 16 = .ok (.iload_n 1, 1) := by decide +kernel
theorem d_Model_put_17 : decode prog_8_method_28_code 17 = .ok (.bipush 8, 2) := by decide +kernel
theorem d_Model_put_19 : decode prog_8_method_28_code 19 = .ok (.iload_n 3, 1) := by decide +kernel
theorem d_Model_put_20 : decode prog_8_method_28_code 20 = .ok (.imul, 1) := by decide +kernel
theorem d_Model_put_21 : decode prog_8_method_28_code 21 = .ok (.ishr, 1) := by decide +kernel
theorem d_Model_put_22 : decode prog_8_method_28_code 22 = .ok (.sipush 255, 3) := by decide +kernel
theorem d_Model_put_25 : decode prog_8_method_28_code 25 = .ok (.iand, 1) := by decide +kernel
theorem d_Model_put_26 : decode prog_8_method_28_code 26 = .ok (.iastore, 1) := by decide +kernel
theorem d_Model_put_27 : decode prog_8_method_28_code 27 = .ok (.aload_n 0, 1) := by decide +kernel
theorem d_Model_put_28 : decode prog_8_method_28_code 28 = .ok (.dup, 1) := by decide +kernel
theorem d_Model_put_29 : decode prog_8_method_28_code 29 = .ok (.getfield 164, 3) := by decide +kernel
theorem d_Model_put_32 : decode prog_8_method_28_code 32 = .ok (.iconst 1, 1) := by decide +kernel
theorem d_Model_put_33 : decode prog_8_method_28_code 33 = .ok (.iadd, 1) := by decide +kernel
theorem d_Model_put_34 : decode prog_8_method_28_code 34 = .ok (.putfield 164, 3) := by decide +kernel
theorem d_Model_put_37 : decode prog_8_method_28_code 37 = .ok (.iinc 3 (-1), 3) := by decide +kernel
theorem d_Model_put_40 : decode prog_8_method_28_code 40 = .ok (.goto (-36), 3) := by decide +kernel
theorem d_Model_put_43 : decode prog_8_method_28_code 43 = .ok (.return_, 1) := by decide +kernel
theorem d_Model_call_0 : decode prog_8_method_29_code 0 = .ok (.aload_n 0, 1) := by decide +kernel
theorem d_Model_call_1 : decode prog_8_method_29_code 1 = .ok (.sipush 184, 3) := by decide +kernel
theorem d_Model_call_4 : decode prog_8_method_29_code 4 = .ok (.iconst 1, 1) := by decide +kernel
theorem d_Model_call_5 : decode prog_8_method_29_code 5 = .ok (.invokevirtual 167, 3) := by decide +kernel
theorem d_Model_call_8 : decode prog_8_method_29_code 8 = .ok (.aload_n 0, 1) := by decide +kernel
theorem d_Model_call_9 : decode prog_8_method_29_code 9 = .ok (.aload_n 0, 1) := by decide +kernel
theorem d_Model_call_10 : decode prog_8_method_29_code 10 = .ok (.getfield 32, 3) := by decide +kernel
theorem d_Model_call_13 : decode prog_8_method_29_code 13 = .ok (.iload_n 1, 1) := by decide +kernel
theorem d_Model_call_14 : decode prog_8_method_29_code 14 = .ok (.iadd, 1) := by decide +kernel
theorem d_Model_call_15 : decode prog_8_method_29_code 15 = .ok (.iconst 2, 1) := by decide +kernel
theorem d_Model_call_16 : decode prog_8_method_29_code 16 = .ok (.invokevirtual 167, 3) := by decide +kernel
theorem d_Model_call_19 : decode prog_8_method_29_code 19 = .ok (.aload_n 0, 1) := by decide +kernel
theorem d_Model_call_20 : decode prog_8_method_29_code 20 = .ok (.dup, 1) := by decide +kernel
theorem d_Model_call_21 : decode prog_8_method_29_code 21 = .ok (.getfield 171, 3) := by decide +kernel
theorem d_Model_call_24 : decode prog_8_method_29_code 24 = .ok (.iconst 1, 1) := by decide +kernel
theorem d_Model_call_25 : decode prog_8_method_29_code 25 = .ok (.iadd, 1) := by decide +kernel
theorem d_Model_call_26 : decode prog_8_method_29_code 26 = .ok (.putfield 171, 3) := by decide +kernel
theorem d_Model_call_29 : decode prog_8_method_29_code 29 = .ok (.return_, 1) := by decide +kernel
theorem d_Model_twice_0 : decode prog_8_method_30_code 0 = .ok (.aload_n 0, 1) := by decide +kernel
theorem d_Model_twice_1 : decode prog_8_method_30_code 1 = .ok (.bipush 89, 2) := by decide +kernel
theorem d_Model_twice_3 : decode prog_8_method_30_code 3 = .ok (.iconst 1, 1) := by decide +kernel
theorem d_Model_twice_4 : decode prog_8_method_30_code 4 = .ok (.invokevirtual 167, 3) := by decide +kernel
theorem d_Model_twice_7 : decode prog_8_method_30_code 7 = .ok (.aload_n 0, 1) := by decide +kernel
theorem d_Model_twice_8 : decode prog_8_method_30_code 8 = .ok (.dup, 1) := by decide +kernel
theorem d_Model_twice_9 : decode prog_8_method_30_code 9 = .ok (.getfield 174, 3) := by decide +kernel
theorem d_Model_twice_12 : decode prog_8_method_30_code 12 = .ok (.iconst 1, 1) := by decide +kernel
theorem d_Model_twice_13 : decode prog_8_method_30_code 13 = .ok (.iadd, 1) := by decide +kernel
theorem d_Model_twice_14 : decode prog_8_method_30_code 14 = .ok (.putfield 174, 3) := by decide +kernel
theorem d_Model_twice_17 : decode prog_8_method_30_code 17 = .ok (.aload_n 0, 1) := by decide +kernel
theorem d_Model_twice_18 : decode prog_8_method_30_code 18 = .ok (.iload_n 1, 1) := by decide +kernel
theorem d_Model_twice_19 : decode prog_8_method_30_code 19 = .ok (.invokevirtual 177, 3) := by decide +kernel
theorem d_Model_twice_22 : decode prog_8_method_30_code 22 = .ok (.return_, 1) := by decide +kernel
theorem d_Model_table_0 : decode prog_8_method_34_code 0 = .ok (.iload_n 1, 1) := by decide +kernel
theorem d_Model_table_1 : decode prog_8_method_34_code 1 = .ok (.iconst 4, 1) := by decide +kernel
theorem d_Model_table_2 : decode prog_8_method_34_code 2 = .ok (.iadd, 1) := by decide +kernel
theorem d_Model_table_3 : decode prog_8_method_34_code 3 = .ok (.iload_n 1, 1) := by decide +kernel
theorem d_Model_table_4 : decode prog_8_method_34_code 4 = .ok (.iconst 4, 1) := by decide +kernel
theorem d_Model_table_5 : decode prog_8_method_34_code 5 = .ok (.irem, 1) := by decide +kernel
theorem d_Model_table_6 : decode prog_8_method_34_code 6 = .ok (.isub, 1) := by decide +kernel
theorem d_Model_table_7 : decode prog_8_method_34_code 7 = .ok (.istore 5, 2) := by decide +kernel
theorem d_Model_table_9 : decode prog_8_method_34_code 9 = .ok (.aload_n 0, 1) := by decide +kernel
theorem d_Model_table_10 : decode prog_8_method_34_code 10 = .ok (.iload_n 1, 1) := by decide +kernel
theorem d_Model_table_11 : decode prog_8_method_34_code 11 = .ok (.iconst 0, 1) := by decide +kernel
theorem d_Model_table_12 : decode prog_8_method_34_code 12 = .ok (.invokevirtual 117, 3) := by decide +kernel
theorem d_Model_table_15 : decode prog_8_method_34_code 15 = .ok (.istore 6, 2) := by decide +kernel
theorem d_Model_table_17 : decode prog_8_method_34_code 17 = .ok (.aload_n 0, 1) := by decide +kernel
theorem d_Model_table_18 : decode prog_8_method_34_code 18 = .ok (.iload_n 1, 1) := by decide +kernel
theorem d_Model_table_19 : decode prog_8_method_34_code 19 = .ok (.invokevirtual 114, 3) := by decide +kernel
theorem d_Model_table_22 : decode prog_8_method_34_code 22 = .ok (.istore 7, 2) := by decide +kernel
theorem d_Model_table_24 : decode prog_8_method_34_code 24 = .ok (.aload_n 0, 1) := by decide +kernel
theorem d_Model_table_25 : decode prog_8_method_34_code 25 = .ok (.iload_n 2, 1) := by decide +kernel
theorem d_Model_table_26 : decode prog_8_method_34_code 26 = .ok (.iconst 1, 1) := by decide +kernel
theorem d_Model_table_27 : decode prog_8_method_34_code 27 = .ok (.invokevirtual 167, 3) := by decide +kernel
theorem d_Model_table_30 : decode prog_8_method_34_code 30 = .ok (.aload_n 0, 1) := by decide +kernel
theorem d_Model_table_31 : decode prog_8_method_34_code 31 = .ok (.iconst 0, 1) := by decide +kernel
theorem d_Model_table_32 : decode prog_8_method_34_code 32 = .ok (.iconst 3, 1) := by decide +kernel
theorem d_Model_table_33 : decode prog_8_method_34_code 33 = .ok (.iload 4, 2) := by decide +kernel
theorem d_Model_table_35 : decode prog_8_method_34_code 35 = .ok (.iconst 4, 1) := by decide +kernel
theorem d_Model_table_36 : decode prog_8_method_34_code 36 = .ok (.irem, 1) := by decide +kernel
theorem d_Model_table_37 : decode prog_8_method_34_code 37 = .ok (.isub, 1) := by decide +kernel
theorem d_Model_table_38 : decode prog_8_method_34_code 38 = .ok (.invokevirtual 167, 3) := by decide +kernel
theorem d_Model_table_41 : decode prog_8_method_34_code 41 = .ok (.aload_n 0, 1) := by decide +kernel
theorem d_Model_table_42 : decode prog_8_method_34_code 42 = .ok (.aload_n 0, 1) := by decide +kernel
theorem d_Model_table_43 : decode prog_8_method_34_code 43 = .ok (.iload 6, 2) := by decide +kernel
theorem d_Model_table_45 : decode prog_8_method_34_code 45 = .ok (.invokevirtual 155, 3) := by decide +kernel
theorem d_Model_table_48 : decode prog_8_method_34_code 48 = .ok (.iload 4, 2) := by decide +kernel
theorem d_Model_table_50 : decode prog_8_method_34_code 50 = .ok (.isub, 1) := by decide +kernel
theorem d_Model_table_51 : decode prog_8_method_34_code 51 = .ok (.iconst 4, 1) := by decide +kernel
theorem d_Model_table_52 : decode prog_8_method_34_code 52 = .ok (.invokevirtual 167, 3) := by decide +kernel
theorem d_Model_table_55 : decode prog_8_method_34_code 55 = .ok (.aload_n 0, 1) := by decide +kernel
theorem d_Model_table_56 : decode prog_8_method_34_code 56 = .ok (.aload_n 0, 1) := by decide +kernel
theorem d_Model_table_57 : decode prog_8_method_34_code 57 = .ok (.iload 5, 2) := by decide +kernel
theorem d_Model_table_59 : decode prog_8_method_34_code 59 = .ok (.iconst 4, 1) := by decide +kernel
theorem d_Model_table_60 : decode prog_8_method_34_code 60 = .ok (.iadd, 1) := by decide +kernel
theorem d_Model_table_61 : decode prog_8_method_34_code 61 = .ok (.invokevirtual 99, 3) := by decide +kernel
theorem d_Model_table_64 : decode prog_8_method_34_code 64 = .ok (.iconst 4, 1) := by decide +kernel
theorem d_Model_table_65 : decode prog_8_method_34_code 65 = .ok (.invokevirtual 167, 3) := by decide +kernel
theorem d_Model_table_68 : decode prog_8_method_34_code 68 = .ok (.iload_n 2, 1) := by decide +kernel
theorem d_Model_table_69 : decode prog_8_method_34_code 69 = .ok (.sipush 170, 3) := by decide +kernel
theorem d_Model_table_72 : decode prog_8_method_34_code 72 = .ok (.if_icmp .ne 17, 3) := by decide +kernel
theorem d_Model_table_75 : decode prog_8_method_34_code 75 = .ok (.aload_n 0, 1) := by decide +kernel
theorem d_Model_table_76 : decode prog_8_method_34_code 76 = .ok (.aload_n 0, 1) := by decide +kernel
theorem d_Model_table_77 : decode prog_8_method_34_code 77 = .ok (.iload 5, 2) := by decide +kernel
theorem d_Model_table_79 : decode prog_8_method_34_code 79 = .ok (.bipush 8, 2) := by decide +kernel
theorem d_Model_table_81 : decode prog_8_method_34_code 81 = .ok (.iadd, 1) := by decide +kernel
theorem d_Model_table_82 : decode prog_8_method_34_code 82 = .ok (.invokevirtual 99, 3) := by decide +kernel
theorem d_Model_table_85 : decode prog_8_method_34_code 85 = .ok (.iconst 4, 1) := by decide +kernel
theorem d_Model_table_86 : decode prog_8_method_34_code 86 = .ok (.invokevirtual 167, 3) := by decide +kernel
theorem d_Model_table_89 : decode prog_8_method_34_code 89 = .ok (.iconst 1, 1) := by decide +kernel
theorem d_Model_table_90 : decode prog_8_method_34_code 90 = .ok (.istore 8, 2) := by decide +kernel
theorem d_Model_table_92 : decode prog_8_method_34_code 92 = .ok (.iload 8, 2) := by decide +kernel
theorem d_Model_table_94 : decode prog_8_method_34_code 94 = .ok (.iload 7, 2) := by decide +kernel
theorem d_Model_table_96 : decode prog_8_method_34_code 96 = .ok (.if_icmp .ge 57, 3) := by decide +kernel
theorem d_Model_table_99 : decode prog_8_method_34_code 99 = .ok (.iload_n 2, 1) := by decide +kernel
theorem d_Model_table_100 : decode prog_8_method_34_code 100 = .ok (.sipush 171, 3) := by decide +kernel
theorem d_Model_table_103 : decode prog_8_method_34_code 103 = .ok (.if_icmp .ne 21, 3) := by decide +kernel
theorem d_Model_table_106 : decode prog_8_method_34_code 106 = .ok (.aload_n 0, 1) := by decide +kernel
theorem d_Model_table_107 : decode prog_8_method_34_code 107 = .ok (.aload_n 0, 1) := by decide +kernel
theorem d_Model_table_108 : decode prog_8_method_34_code 108 = .ok (.aload_n 0, 1) := by decide +kernel
theorem d_Model_table_109 : decode prog_8_method_34_code 109 = .ok (.iload_n 1, 1) := by decide +kernel
theorem d_Model_table_110 : decode prog_8_method_34_code 110 = .ok (.iload 8, 2) := by decide +kernel
theorem d_Model_table_112 : decode prog_8_method_34_code 112 = .ok (.invokevirtual 110, 3) := by decide +kernel
theorem d_Model_table_115 : decode prog_8_method_34_code 115 = .ok (.iconst 4, 1) := by decide +kernel
theorem d_Model_table_116 : decode prog_8_method_34_code 116 = .ok (.isub, 1) := by decide +kernel
theorem d_Model_table_117 : decode prog_8_method_34_code 117 = .ok (.invokevirtual 99, 3) := by decide +kernel
theorem d_Model_table_120 : decode prog_8_method_34_code 120 = .ok (.iconst 4, 1) := by decide +kernel
theorem d_Model_table_121 : decode prog_8_method_34_code 121 = .ok (.invokevirtual 167, 3) := by decide +kernel
theorem d_Model_table_124 : decode prog_8_method_34_code 124 = .ok (.aload_n 0, 1) := by decide +kernel
theorem d_Model_table_125 : decode prog_8_method_34_code 125 = .ok (.iload_n 1, 1) := by decide +kernel
theorem d_Model_table_126 : decode prog_8_method_34_code 126 = .ok (.iload 8, 2) := by decide +kernel
theorem d_Model_table_128 : decode prog_8_method_34_code 128 = .ok (.invokevirtual 117, 3) := by decide +kernel
theorem d_Model_table_131 : decode prog_8_method_34_code 131 = .ok (.istore 6, 2) := by decide +kernel
theorem d_Model_table_133 : decode prog_8_method_34_code 133 = .ok (.aload_n 0, 1) := by decide +kernel
theorem d_Model_table_134 : decode prog_8_method_34_code 134 = .ok (.aload_n 0, 1) := by decide +kernel
theorem d_Model_table_135 : decode prog_8_method_34_code 135 = .ok (.iload 6, 2) := by decide +kernel
theorem d_Model_table_137 : decode prog_8_method_34_code 137 = .ok (.invokevirtual 155, 3) := by decide +kernel
theorem d_Model_table_140 : decode prog_8_method_34_code 140 = .ok (.iload 4, 2) := by decide +kernel
theorem d_Model_table_142 : decode prog_8_method_34_code 142 = .ok (.isub, 1) := by decide +kernel
theorem d_Model_table_143 : decode prog_8_method_34_code 143 = .ok (.iconst 4, 1) := by decide +kernel
theorem d_Model_table_144 : decode prog_8_method_34_code 144 = .ok (.invokevirtual 167, 3) := by decide +kernel
theorem d_Model_table_147 : decode prog_8_method_34_code 147 = .ok (.iinc 8 1, 3) := by decide +kernel
theorem d_Model_table_150 : decode prog_8_method_34_code 150 = .ok (.goto (-58), 3) := by decide +kernel
theorem d_Model_table_153 : decode prog_8_method_34_code 153 = .ok (.return_, 1) := by decide +kernel
theorem d_Model_opposite_0 : decode prog_8_method_32_code 0 = .ok (.iload_n 0, 1) := by decide +kernel
theorem d_Model_opposite_1 : decode prog_8_method_32_code 1 = .ok (.sipush 197, 3) := by decide +kernel
theorem d_Model_opposite_4 : decode prog_8_method_32_code 4 = .ok (.if_icmp .le 11, 3) := by decide +kernel
theorem d_Model_opposite_7 : decode prog_8_method_32_code 7 = .ok (.sipush 397, 3) := by decide +kernel
theorem d_Model_opposite_10 : decode prog_8_method_32_code 10 = .ok (.iload_n 0, 1) := by decide +kernel
theorem d_Model_opposite_11 : decode prog_8_method_32_code 11 = .ok (.isub, 1) := by decide +kernel
theorem d_Model_opposite_12 : decode prog_8_method_32_code 12 = .ok (.goto 19, 3) := by decide +kernel
theorem d_Model_opposite_15 : decode prog_8_method_32_code 15 = .ok (.iload_n 0, 1) := by decide +kernel
theorem d_Model_opposite_16 : decode prog_8_method_32_code 16 = .ok (.iconst 2, 1) := by decide +kernel
theorem d_Model_opposite_17 : decode prog_8_method_32_code 17 = .ok (.irem, 1) := by decide +kernel
theorem d_Model_opposite_18 : decode prog_8_method_32_code 18 = .ok (.iconst 1, 1) := by decide +kernel
theorem d_Model_opposite_19 : decode prog_8_method_32_code 19 = .ok (.if_icmp .ne 9, 3) := by decide +kernel
theorem d_Model_opposite_22 : decode prog_8_method_32_code 22 = .ok (.iload_n 0, 1) := by decide +kernel
theorem d_Model_opposite_23 : decode prog_8_method_32_code 23 = .ok (.iconst 1, 1) := by decide +kernel
theorem d_Model_opposite_24 : decode prog_8_method_32_code 24 = .ok (.iadd, 1) := by decide +kernel
theorem d_Model_opposite_25 : decode prog_8_method_32_code 25 = .ok (.goto 6, 3) := by decide +kernel
theorem d_Model_opposite_28 : decode prog_8_method_32_code 28 = .ok (.iload_n 0, 1) := by decide +kernel
theorem d_Model_opposite_29 : decode prog_8_method_32_code 29 = .ok (.iconst 1, 1) := by decide +kernel
theorem d_Model_opposite_30 : decode prog_8_method_32_code 30 = .ok (.isub, 1) := by decide +kernel
theorem d_Model_opposite_31 : decode prog_8_method_32_code 31 = .ok (.ireturn, 1) := by decide +kernel
theorem d_Model_instruction_0 : decode prog_8_method_33_code 0 = .ok (.aload_n 0, 1) := by decide +kernel
theorem d_Model_instruction_1 : decode prog_8_method_33_code 1 = .ok (.iload_n 1, 1) := by decide +kernel
theorem d_Model_instruction_2 : decode prog_8_method_33_code 2 = .ok (.invokevirtual 107, 3) := by decide +kernel
theorem d_Model_instruction_5 : decode prog_8_method_33_code 5 = .ok (.istore_n 3, 1) := by decide +kernel
theorem d_Model_instruction_6 : decode prog_8_method_33_code 6 = .ok (.aload_n 0, 1) := by decide +kernel
theorem d_Model_instruction_7 : decode prog_8_method_33_code 7 = .ok (.getfield 164, 3) := by decide +kernel
theorem d_Model_instruction_10 : decode prog_8_method_33_code 10 = .ok (.istore 4, 2) := by decide +kernel
theorem d_Model_instruction_12 : decode prog_8_method_33_code 12 = .ok (.iload_n 2, 1) := by decide +kernel
theorem d_Model_instruction_13 : decode prog_8_method_33_code 13 = .ok (.invokestatic 95, 3) := by decide +kernel
theorem d_Model_instruction_16 : decode prog_8_method_33_code 16 = .ok (.ifCond .eq 13, 3) := by decide +kernel
theorem d_Model_instruction_19 : decode prog_8_method_33_code 19 = .ok (.aload_n 0, 1) := by decide +kernel
theorem d_Model_instruction_20 : decode prog_8_method_33_code 20 = .ok (.iload_n 1, 1) := by decide +kernel
theorem d_Model_instruction_21 : decode prog_8_method_33_code 21 = .ok (.iload_n 2, 1) := by decide +kernel
theorem d_Model_instruction_22 : decode prog_8_method_33_code 22 = .ok (.iload_n 3, 1) := by decide +kernel
theorem d_Model_instruction_23 : decode prog_8_method_33_code 23 = .ok (.iload 4, 2) := by decide +kernel
theorem d_Model_instruction_25 : decode prog_8_method_33_code 25 = .ok (.invokevirtual 202, 3) := by decide +kernel
theorem d_Model_instruction_28 : decode prog_8_method_33_code 28 = .ok (.return_, 1) := by decide +kernel
theorem d_Model_instruction_29 : decode prog_8_method_33_code 29 = .ok (.iload_n 2, 1) := by decide +kernel
theorem d_Model_instruction_30 : decode prog_8_method_33_code 30 = .ok (.invokestatic 104, 3) := by decide +kernel
theorem d_Model_instruction_33 : decode prog_8_method_33_code 33 = .ok (.ifCond .ne 33, 3) := by decide +kernel
theorem d_Model_instruction_36 : decode prog_8_method_33_code 36 = .ok (.iconst 0, 1) := by decide +kernel
theorem d_Model_instruction_37 : decode prog_8_method_33_code 37 = .ok (.istore 5, 2) := by decide +kernel
theorem d_Model_instruction_39 : decode prog_8_method_33_code 39 = .ok (.iload 5, 2) := by decide +kernel
theorem d_Model_instruction_41 : decode prog_8_method_33_code 41 = .ok (.iload_n 3, 1) := by decide +kernel
theorem d_Model_instruction_42 : decode prog_8_method_33_code 42 = .ok (.if_icmp .ge 23, 3) := by decide +kernel
theorem d_Model_instruction_45 : decode prog_8_method_33_code 45 = .ok (.aload_n 0, 1) := by decide +kernel
theorem d_Model_instruction_46 : decode prog_8_method_33_code 46 = .ok (.aload_n 0, 1) := by decide +kernel
theorem d_Model_instruction_47 : decode prog_8_method_33_code 47 = .ok (.getfield 45, 3) := by decide +kernel
theorem d_Model_instruction_50 : decode prog_8_method_33_code 50 = .ok (.iload_n 1, 1) := by decide +kernel
theorem d_Model_instruction_51 : decode prog_8_method_33_code 51 = .ok (.iload 5, 2) := by decide +kernel
theorem d_Model_instruction_53 : decode prog_8_method_33_code 53 = .ok (.iadd, 1) := by decide +kernel
theorem d_Model_instruction_54 : decode prog_8_method_33_code 54 = .ok (.iaload, 1) := by decide +kernel
theorem d_Model_instruction_55 : decode prog_8_method_33_code 55 = .ok (.iconst 1, 1) := by decide +kernel
theorem d_Model_instruction_56 : decode prog_8_method_33_code 56 = .ok (.invokevirtual 167, 3) := by decide +kernel
theorem d_Model_instruction_59 : decode prog_8_method_33_code 59 = .ok (.iinc 5 1, 3) := by decide +kernel
theorem d_Model_instruction_62 : decode prog_8_method_33_code 62 = .ok (.goto (-23), 3) := by decide +kernel
theorem d_Model_instruction_65 : decode prog_8_method_33_code 65 = .ok (.return_, 1) := by decide +kernel
theorem d_Model_instruction_66 : decode prog_8_method_33_code 66 = .ok (.aload_n 0, 1) := by decide +kernel
theorem d_Model_instruction_67 : decode prog_8_method_33_code 67 = .ok (.iload_n 1, 1) := by decide +kernel
theorem d_Model_instruction_68 : decode prog_8_method_33_code 68 = .ok (.iconst 0, 1) := by decide +kernel
theorem d_Model_instruction_69 : decode prog_8_method_33_code 69 = .ok (.invokevirtual 117, 3) := by decide +kernel
theorem d_Model_instruction_72 : decode prog_8_method_33_code 72 = .ok (.istore 5, 2) := by decide +kernel
theorem d_Model_instruction_74 : decode prog_8_method_33_code 74 = .ok (.aload_n 0, 1) := by decide +kernel
theorem d_Model_instruction_75 : decode prog_8_method_33_code 75 = .ok (.iload 5, 2) := by decide +kernel
theorem d_Model_instruction_77 : decode prog_8_method_33_code 77 = .ok (.invokevirtual 155, 3) := by decide +kernel
theorem d_Model_instruction_80 : decode prog_8_method_33_code 80 = .ok (.istore 6, 2) := by decide +kernel
theorem d_Model_instruction_82 : decode prog_8_method_33_code 82 = .ok (.iload_n 2, 1) := by decide +kernel
theorem d_Model_instruction_83 : decode prog_8_method_33_code 83 = .ok (.sipush 200, 3) := by decide +kernel
theorem d_Model_instruction_86 : decode prog_8_method_33_code 86 = .ok (.if_icmp .eq 19, 3) := by decide +kernel
theorem d_Model_instruction_89 : decode prog_8_method_33_code 89 = .ok (.aload_n 0, 1) := by decide +kernel
theorem d_Model_instruction_90 : decode prog_8_method_33_code 90 = .ok (.getfield 42, 3) := by decide +kernel
theorem d_Model_instruction_93 : decode prog_8_method_33_code 93 = .ok (.iload_n 1, 1) := by decide +kernel
theorem d_Model_instruction_94 : decode prog_8_method_33_code 94 = .ok (.baload, 1) := by decide +kernel
theorem d_Model_instruction_95 : decode prog_8_method_33_code 95 = .ok (.ifCond .eq 31, 3) := by decide +kernel
theorem d_Model_instruction_98 : decode prog_8_method_33_code 98 = .ok (.iload_n 2, 1) := by decide +kernel
theorem d_Model_instruction_99 : decode prog_8_method_33_code 99 = .ok (.sipush 167, 3) := by decide +kernel
theorem d_Model_instruction_102 : decode prog_8_method_33_code 102 = .ok (.if_icmp .ne 24, 3) := by decide +kernel
theorem d_Model_instruction_105 : decode prog_8_method_33_code 105 = .ok (.aload_n 0, 1) := by decide +kernel
theorem d_Model_instruction_106 : decode prog_8_method_33_code 106 = .ok (.sipush 200, 3) := by decide +kernel
theorem d_Model_instruction_109 : decode prog_8_method_33_code 109 = .ok (.iconst 1, 1) := by decide +kernel
theorem d_Model_instruction_110 : decode prog_8_method_33_code 110 = .ok (.invokevirtual 167, 3) := by decide +kernel
theorem d_Model_instruction_113 : decode prog_8_method_33_code 113 = .ok (.aload_n 0, 1) := by decide +kernel
theorem d_Model_instruction_114 : decode prog_8_method_33_code 114 = .ok (.iload 6, 2) := by decide +kernel
theorem d_Model_instruction_116 : decode prog_8_method_33_code 116 = .ok (.iload 4, 2) := by decide +kernel
theorem d_Model_instruction_118 : decode prog_8_method_33_code 118 = .ok (.isub, 1) := by decide +kernel
theorem d_Model_instruction_119 : decode prog_8_method_33_code 119 = .ok (.iconst 4, 1) := by decide +kernel
theorem d_Model_instruction_120 : decode prog_8_method_33_code 120 = .ok (.invokevirtual 167, 3) := by decide +kernel
theorem d_Model_instruction_123 : decode prog_8_method_33_code 123 = .ok (.goto 67, 3) := by decide +kernel
theorem d_Model_instruction_126 : decode prog_8_method_33_code 126 = .ok (.aload_n 0, 1) := by decide +kernel
theorem d_Model_instruction_127 : decode prog_8_method_33_code 127 = .ok (.getfield 42, 3) := by decide +kernel
theorem d_Model_instruction_130 : decode prog_8_method_33_code 130 = .ok (.iload_n 1, 1) := by decide +kernel
theorem d_Model_instruction_131 : decode prog_8_method_33_code 131 = .ok (.baload, 1) := by decide +kernel
theorem d_Model_instruction_132 : decode prog_8_method_33_code 132 = .ok (.ifCond .eq 42, 3) := by decide +kernel
theorem d_Model_instruction_135 : decode prog_8_method_33_code 135 = .ok (.aload_n 0, 1) := by decide +kernel
theorem d_Model_instruction_136 : decode prog_8_method_33_code 136 = .ok (.iload_n 2, 1) := by decide +kernel
theorem d_Model_instruction_137 : decode prog_8_method_33_code 137 = .ok (.invokestatic 206, 3) := by decide +kernel
theorem d_Model_instruction_140 : decode prog_8_method_33_code 140 = .ok (.iconst 1, 1) := by decide +kernel
theorem d_Model_instruction_141 : decode prog_8_method_33_code 141 = .ok (.invokevirtual 167, 3) := by decide +kernel
theorem d_Model_instruction_144 : decode prog_8_method_33_code 144 = .ok (.aload_n 0, 1) := by decide +kernel
theorem d_Model_instruction_145 : decode prog_8_method_33_code 145 = .ok (.bipush 8, 2) := by decide +kernel
theorem d_Model_instruction_147 : decode prog_8_method_33_code 147 = .ok (.iconst 2, 1) := by decide +kernel
theorem d_Model_instruction_148 : decode prog_8_method_33_code 148 = .ok (.invokevirtual 167, 3) := by decide +kernel
theorem d_Model_instruction_151 : decode prog_8_method_33_code 151 = .ok (.aload_n 0, 1) := by decide +kernel
theorem d_Model_instruction_152 : decode prog_8_method_33_code 152 = .ok (.sipush 200, 3) := by decide +kernel
theorem d_Model_instruction_155 : decode prog_8_method_33_code 155 = .ok (.iconst 1, 1) := by decide +kernel
theorem d_Model_instruction_156 : decode prog_8_method_33_code 156 = .ok (.invokevirtual 167, 3) := by decide +kernel
theorem d_Model_instruction_159 : decode prog_8_method_33_code 159 = .ok (.aload_n 0, 1) := by decide +kernel
theorem d_Model_instruction_160 : decode prog_8_method_33_code 160 = .ok (.iload 6, 2) := by decide +kernel
theorem d_Model_instruction_162 : decode prog_8_method_33_code 162 = .ok (.iload 4, 2) := by decide +kernel
theorem d_Model_instruction_164 : decode prog_8_method_33_code 164 = .ok (.isub, 1) := by decide +kernel
theorem d_Model_instruction_165 : decode prog_8_method_33_code 165 = .ok (.iconst 3, 1) := by decide +kernel
theorem d_Model_instruction_166 : decode prog_8_method_33_code 166 = .ok (.isub, 1) := by decide +kernel
theorem d_Model_instruction_167 : decode prog_8_method_33_code 167 = .ok (.iconst 4, 1) := by decide +kernel
theorem d_Model_instruction_168 : decode prog_8_method_33_code 168 = .ok (.invokevirtual 167, 3) := by decide +kernel
theorem d_Model_instruction_171 : decode prog_8_method_33_code 171 = .ok (.goto 19, 3) := by decide +kernel
theorem d_Model_instruction_174 : decode prog_8_method_33_code 174 = .ok (.aload_n 0, 1) := by decide +kernel
theorem d_Model_instruction_175 : decode prog_8_method_33_code 175 = .ok (.iload_n 2, 1) := by decide +kernel
theorem d_Model_instruction_176 : decode prog_8_method_33_code 176 = .ok (.iconst 1, 1) := by decide +kernel
theorem d_Model_instruction_177 : decode prog_8_method_33_code 177 = .ok (.invokevirtual 167, 3) := by decide +kernel
theorem d_Model_instruction_180 : decode prog_8_method_33_code 180 = .ok (.aload_n 0, 1) := by decide +kernel
theorem d_Model_instruction_181 : decode prog_8_method_33_code 181 = .ok (.iload 6, 2) := by decide +kernel
theorem d_Model_instruction_183 : decode prog_8_method_33_code 183 = .ok (.iload 4, 2) := by decide +kernel
theorem d_Model_instruction_185 : decode prog_8_method_33_code 185 = .ok (.isub, 1) := by decide +kernel
theorem d_Model_instruction_186 : decode prog_8_method_33_code 186 = .ok (.iconst 2, 1) := by decide +kernel
theorem d_Model_instruction_187 : decode prog_8_method_33_code 187 = .ok (.invokevirtual 167, 3) := by decide +kernel
theorem d_Model_instruction_190 : decode prog_8_method_33_code 190 = .ok (.aload_n 0, 1) := by decide +kernel
theorem d_Model_instruction_191 : decode prog_8_method_33_code 191 = .ok (.getfield 42, 3) := by decide +kernel
theorem d_Model_instruction_194 : decode prog_8_method_33_code 194 = .ok (.iload_n 1, 1) := by decide +kernel
theorem d_Model_instruction_195 : decode prog_8_method_33_code 195 = .ok (.baload, 1) := by decide +kernel
theorem d_Model_instruction_196 : decode prog_8_method_33_code 196 = .ok (.ifCond .eq 13, 3) := by decide +kernel
theorem d_Model_instruction_199 : decode prog_8_method_33_code 199 = .ok (.aload_n 0, 1) := by decide +kernel
theorem d_Model_instruction_200 : decode prog_8_method_33_code 200 = .ok (.dup, 1) := by decide +kernel
theorem d_Model_instruction_201 : decode prog_8_method_33_code 201 = .ok (.getfield 187, 3) := by decide +kernel
theorem d_Model_instruction_204 : decode prog_8_method_33_code 204 = .ok (.iconst 1, 1) := by decide +kernel
theorem d_Model_instruction_205 : decode prog_8_method_33_code 205 = .ok (.iadd, 1) := by decide +kernel
theorem d_Model_instruction_206 : decode prog_8_method_33_code 206 = .ok (.putfield 187, 3) := by decide +kernel
theorem d_Model_instruction_209 : decode prog_8_method_33_code 209 = .ok (.return_, 1) := by decide +kernel
theorem d_Model_write_0 : decode prog_8_method_31_code 0 = .ok (.aload_n 0, 1) := by decide +kernel
theorem d_Model_write_1 : decode prog_8_method_31_code 1 = .ok (.iconst 0, 1) := by decide +kernel
theorem d_Model_write_2 : decode prog_8_method_31_code 2 = .ok (.putfield 164, 3) := by decide +kernel
theorem d_Model_write_5 : decode prog_8_method_31_code 5 = .ok (.aload_n 0, 1) := by decide +kernel
theorem d_Model_write_6 : decode prog_8_method_31_code 6 = .ok (.iconst 0, 1) := by decide +kernel
theorem d_Model_write_7 : decode prog_8_method_31_code 7 = .ok (.putfield 181, 3) := by decide +kernel
theorem d_Model_write_10 : decode prog_8_method_31_code 10 = .ok (.aload_n 0, 1) := by decide +kernel
theorem d_Model_write_11 : decode prog_8_method_31_code 11 = .ok (.iconst 0, 1) := by decide +kernel
theorem d_Model_write_12 : decode prog_8_method_31_code 12 = .ok (.putfield 184, 3) := by decide +kernel
theorem d_Model_write_15 : decode prog_8_method_31_code 15 = .ok (.aload_n 0, 1) := by decide +kernel
theorem d_Model_write_16 : decode prog_8_method_31_code 16 = .ok (.iconst 0, 1) := by decide +kernel
theorem d_Model_write_17 : decode prog_8_method_31_code 17 = .ok (.putfield 187, 3) := by decide +kernel
theorem d_Model_write_20 : decode prog_8_method_31_code 20 = .ok (.aload_n 0, 1) := by decide +kernel
theorem d_Model_write_21 : decode prog_8_method_31_code 21 = .ok (.iconst 0, 1) := by decide +kernel
theorem d_Model_write_22 : decode prog_8_method_31_code 22 = .ok (.putfield 190, 3) := by decide +kernel
theorem d_Model_write_25 : decode prog_8_method_31_code 25 = .ok (.aload_n 0, 1) := by decide +kernel
theorem d_Model_write_26 : decode prog_8_method_31_code 26 = .ok (.iconst 0, 1) := by decide +kernel
theorem d_Model_write_27 : decode prog_8_method_31_code 27 = .ok (.putfield 171, 3) := by decide +kernel
theorem d_Model_write_30 : decode prog_8_method_31_code 30 = .ok (.aload_n 0, 1) := by decide +kernel
theorem d_Model_write_31 : decode prog_8_method_31_code 31 = .ok (.iconst 0, 1) := by decide +kernel
theorem d_Model_write_32 : decode prog_8_method_31_code 32 = .ok (.putfield 174, 3) := by decide +kernel
theorem d_Model_write_35 : decode prog_8_method_31_code 35 = .ok (.iconst 0, 1) := by decide +kernel
theorem d_Model_write_36 : decode prog_8_method_31_code 36 = .ok (.istore_n 1, 1) := by decide +kernel
theorem d_Model_write_37 : decode prog_8_method_31_code 37 = .ok (.iload_n 1, 1) := by decide +kernel
theorem d_Model_write_38 : decode prog_8_method_31_code 38 = .ok (.aload_n 0, 1) := by decide +kernel
theorem d_Model_write_39 : decode prog_8_method_31_code 39 = .ok (.getfield 92, 3) := by decide +kernel
theorem d_Model_write_42 : decode prog_8_method_31_code 42 = .ok (.if_icmp .ge 206, 3) := by decide +kernel
theorem d_Model_write_45 : decode prog_8_method_31_code 45 = .ok (.aload_n 0, 1) := by decide +kernel
theorem d_Model_write_46 : decode prog_8_method_31_code 46 = .ok (.getfield 39, 3) := by decide +kernel
theorem d_Model_write_49 : decode prog_8_method_31_code 49 = .ok (.iload_n 1, 1) := by decide +kernel
theorem d_Model_write_50 : decode prog_8_method_31_code 50 = .ok (.baload, 1) := by decide +kernel
theorem d_Model_write_51 : decode prog_8_method_31_code 51 = .ok (.ifCond .ne 6, 3) := by decide +kernel
theorem d_Model_write_54 : decode prog_8_method_31_code 54 = .ok (.goto 188, 3) := by decide +kernel
theorem d_Model_write_57 : decode prog_8_method_31_code 57 = .ok (.aload_n 0, 1) := by decide +kernel
theorem d_Model_write_58 : decode prog_8_method_31_code 58 = .ok (.getfield 45, 3) := by decide +kernel
theorem d_Model_write_61 : decode prog_8_method_31_code 61 = .ok (.iload_n 1, 1) := by decide +kernel
theorem d_Model_write_62 : decode prog_8_method_31_code 62 = .ok (.iaload, 1) := by decide +kernel
theorem d_Model_write_63 : decode prog_8_method_31_code 63 = .ok (.istore_n 2, 1) := by decide +kernel
theorem d_Model_write_64 : decode prog_8_method_31_code 64 = .ok (.aload_n 0, 1) := by decide +kernel
theorem d_Model_write_65 : decode prog_8_method_31_code 65 = .ok (.getfield 57, 3) := by decide +kernel
theorem d_Model_write_68 : decode prog_8_method_31_code 68 = .ok (.iload_n 1, 1) := by decide +kernel
theorem d_Model_write_69 : decode prog_8_method_31_code 69 = .ok (.iaload, 1) := by decide +kernel
theorem d_Model_write_70 : decode prog_8_method_31_code 70 = .ok (.istore_n 3, 1) := by decide +kernel
theorem d_Model_write_71 : decode prog_8_method_31_code 71 = .ok (.aload_n 0, 1) := by decide +kernel
theorem d_Model_write_72 : decode prog_8_method_31_code 72 = .ok (.dup, 1) := by decide +kernel
theorem d_Model_write_73 : decode prog_8_method_31_code 73 = .ok (.getfield 181, 3) := by decide +kernel
theorem d_Model_write_76 : decode prog_8_method_31_code 76 = .ok (.iconst 1, 1) := by decide +kernel
theorem d_Model_write_77 : decode prog_8_method_31_code 77 = .ok (.iadd, 1) := by decide +kernel
theorem d_Model_write_78 : decode prog_8_method_31_code 78 = .ok (.putfield 181, 3) := by decide +kernel
theorem d_Model_write_81 : decode prog_8_method_31_code 81 = .ok (.iload_n 3, 1) := by decide +kernel
theorem d_Model_write_82 : decode prog_8_method_31_code 82 = .ok (.ifCond .lt 23, 3) := by decide +kernel
theorem d_Model_write_85 : decode prog_8_method_31_code 85 = .ok (.aload_n 0, 1) := by decide +kernel
theorem d_Model_write_86 : decode prog_8_method_31_code 86 = .ok (.dup, 1) := by decide +kernel
theorem d_Model_write_87 : decode prog_8_method_31_code 87 = .ok (.getfield 184, 3) := by decide +kernel
theorem d_Model_write_90 : decode prog_8_method_31_code 90 = .ok (.iconst 1, 1) := by decide +kernel
theorem d_Model_write_91 : decode prog_8_method_31_code 91 = .ok (.iadd, 1) := by decide +kernel
theorem d_Model_write_92 : decode prog_8_method_31_code 92 = .ok (.putfield 184, 3) := by decide +kernel
theorem d_Model_write_95 : decode prog_8_method_31_code 95 = .ok (.aload_n 0, 1) := by decide +kernel
theorem d_Model_write_96 : decode prog_8_method_31_code 96 = .ok (.dup, 1) := by decide +kernel
theorem d_Model_write_97 : decode prog_8_method_31_code 97 = .ok (.getfield 190, 3) := by decide +kernel
theorem d_Model_write_100 : decode prog_8_method_31_code 100 = .ok (.iload_n 3, 1) := by decide +kernel
theorem d_Model_write_101 : decode prog_8_method_31_code 101 = .ok (.iadd, 1) := by decide +kernel
theorem d_Model_write_102 : decode prog_8_method_31_code 102 = .ok (.putfield 190, 3) := by decide +kernel
theorem d_Model_write_105 : decode prog_8_method_31_code 105 = .ok (.iload_n 1, 1) := by decide +kernel
theorem d_Model_write_106 : decode prog_8_method_31_code 106 = .ok (.ifCond .ne 8, 3) := by decide +kernel
theorem d_Model_write_109 : decode prog_8_method_31_code 109 = .ok (.aload_n 0, 1) := by decide +kernel
theorem d_Model_write_110 : decode prog_8_method_31_code 110 = .ok (.iconst 2, 1) := by decide +kernel
theorem d_Model_write_111 : decode prog_8_method_31_code 111 = .ok (.invokevirtual 177, 3) := by decide +kernel
theorem d_Model_write_114 : decode prog_8_method_31_code 114 = .ok (.aload_n 0, 1) := by decide +kernel
theorem d_Model_write_115 : decode prog_8_method_31_code 115 = .ok (.iload_n 1, 1) := by decide +kernel
theorem d_Model_write_116 : decode prog_8_method_31_code 116 = .ok (.invokevirtual 126, 3) := by decide +kernel
theorem d_Model_write_119 : decode prog_8_method_31_code 119 = .ok (.ifCond .eq 8, 3) := by decide +kernel
theorem d_Model_write_122 : decode prog_8_method_31_code 122 = .ok (.aload_n 0, 1) := by decide +kernel
theorem d_Model_write_123 : decode prog_8_method_31_code 123 = .ok (.iconst 4, 1) := by decide +kernel
theorem d_Model_write_124 : decode prog_8_method_31_code 124 = .ok (.invokevirtual 193, 3) := by decide +kernel
theorem d_Model_write_127 : decode prog_8_method_31_code 127 = .ok (.iload_n 3, 1) := by decide +kernel
theorem d_Model_write_128 : decode prog_8_method_31_code 128 = .ok (.ifCond .le 71, 3) := by decide +kernel
theorem d_Model_write_131 : decode prog_8_method_31_code 131 = .ok (.iload_n 3, 1) := by decide +kernel
theorem d_Model_write_132 : decode prog_8_method_31_code 132 = .ok (.bipush 6, 2) := by decide +kernel
theorem d_Model_write_134 : decode prog_8_method_31_code 134 = .ok (.if_icmp .ge 14, 3) := by decide +kernel
theorem d_Model_write_137 : decode prog_8_method_31_code 137 = .ok (.aload_n 0, 1) := by decide +kernel
theorem d_Model_write_138 : decode prog_8_method_31_code 138 = .ok (.iconst 3, 1) := by decide +kernel
theorem d_Model_write_139 : decode prog_8_method_31_code 139 = .ok (.iload_n 3, 1) := by decide +kernel
theorem d_Model_write_140 : decode prog_8_method_31_code 140 = .ok (.iadd, 1) := by decide +kernel
theorem d_Model_write_141 : decode prog_8_method_31_code 141 = .ok (.iconst 1, 1) := by decide +kernel
theorem d_Model_write_142 : decode prog_8_method_31_code 142 = .ok (.invokevirtual 167, 3) := by decide +kernel
theorem d_Model_write_145 : decode prog_8_method_31_code 145 = .ok (.goto 39, 3) := by decide +kernel
theorem d_Model_write_148 : decode prog_8_method_31_code 148 = .ok (.aload_n 0, 1) := by decide +kernel
theorem d_Model_write_149 : decode prog_8_method_31_code 149 = .ok (.iload_n 3, 1) := by decide +kernel
theorem d_Model_write_150 : decode prog_8_method_31_code 150 = .ok (.sipush 128, 3) := by decide +kernel
theorem d_Model_write_153 : decode prog_8_method_31_code 153 = .ok (.if_icmp .ge 8, 3) := by decide +kernel
theorem d_Model_write_156 : decode prog_8_method_31_code 156 = .ok (.bipush 16, 2) := by decide +kernel
theorem d_Model_write_158 : decode prog_8_method_31_code 158 = .ok (.goto 5, 3) := by decide +kernel
theorem d_Model_write_161 : decode prog_8_method_31_code 161 = .ok (.bipush 17, 2) := by decide +kernel
theorem d_Model_write_163 : decode prog_8_method_31_code 163 = .ok (.iconst 1, 1) := by decide +kernel
theorem d_Model_write_164 : decode prog_8_method_31_code 164 = .ok (.invokevirtual 167, 3) := by decide +kernel
theorem d_Model_write_167 : decode prog_8_method_31_code 167 = .ok (.aload_n 0, 1) := by decide +kernel
theorem d_Model_write_168 : decode prog_8_method_31_code 168 = .ok (.iload_n 3, 1) := by decide +kernel
theorem d_Model_write_169 : decode prog_8_method_31_code 169 = .ok (.iload_n 3, 1) := by decide +kernel
theorem d_Model_write_170 : decode prog_8_method_31_code 170 = .ok (.sipush 128, 3) := by decide +kernel
theorem d_Model_write_173 : decode prog_8_method_31_code 173 = .ok (.if_icmp .ge 7, 3) := by decide +kernel
theorem d_Model_write_176 : decode prog_8_method_31_code 176 = .ok (.iconst 1, 1) := by decide +kernel
theorem d_Model_write_177 : decode prog_8_method_31_code 177 = .ok (.goto 4, 3) := by decide +kernel
theorem d_Model_write_180 : decode prog_8_method_31_code 180 = .ok (.iconst 2, 1) := by decide +kernel
theorem d_Model_write_181 : decode prog_8_method_31_code 181 = .ok (.invokevirtual 167, 3) := by decide +kernel
theorem d_Model_write_184 : decode prog_8_method_31_code 184 = .ok (.aload_n 0, 1) := by decide +kernel
theorem d_Model_write_185 : decode prog_8_method_31_code 185 = .ok (.dup, 1) := by decide +kernel
theorem d_Model_write_186 : decode prog_8_method_31_code 186 = .ok (.getfield 174, 3) := by decide +kernel
theorem d_Model_write_189 : decode prog_8_method_31_code 189 = .ok (.iconst 1, 1) := by decide +kernel
theorem d_Model_write_190 : decode prog_8_method_31_code 190 = .ok (.iadd, 1) := by decide +kernel
theorem d_Model_write_191 : decode prog_8_method_31_code 191 = .ok (.putfield 174, 3) := by decide +kernel
theorem d_Model_write_194 : decode prog_8_method_31_code 194 = .ok (.aload_n 0, 1) := by decide +kernel
theorem d_Model_write_195 : decode prog_8_method_31_code 195 = .ok (.iconst 0, 1) := by decide +kernel
theorem d_Model_write_196 : decode prog_8_method_31_code 196 = .ok (.invokevirtual 177, 3) := by decide +kernel
theorem d_Model_write_199 : decode prog_8_method_31_code 199 = .ok (.iload_n 2, 1) := by decide +kernel
theorem d_Model_write_200 : decode prog_8_method_31_code 200 = .ok (.sipush 172, 3) := by decide +kernel
theorem d_Model_write_203 : decode prog_8_method_31_code 203 = .ok (.sipush 177, 3) := by decide +kernel
theorem d_Model_write_206 : decode prog_8_method_31_code 206 = .ok (.invokestatic 75, 3) := by decide +kernel
theorem d_Model_write_209 : decode prog_8_method_31_code 209 = .ok (.ifCond .eq 8, 3) := by decide +kernel
theorem d_Model_write_212 : decode prog_8_method_31_code 212 = .ok (.aload_n 0, 1) := by decide +kernel
theorem d_Model_write_213 : decode prog_8_method_31_code 213 = .ok (.iconst 3, 1) := by decide +kernel
theorem d_Model_write_214 : decode prog_8_method_31_code 214 = .ok (.invokevirtual 177, 3) := by decide +kernel
theorem d_Model_write_217 : decode prog_8_method_31_code 217 = .ok (.iload_n 2, 1) := by decide +kernel
theorem d_Model_write_218 : decode prog_8_method_31_code 218 = .ok (.sipush 188, 3) := by decide +kernel
theorem d_Model_write_221 : decode prog_8_method_31_code 221 = .ok (.if_icmp .eq 10, 3) := by decide +kernel
theorem d_Model_write_224 : decode prog_8_method_31_code 224 = .ok (.iload_n 2, 1) := by decide +kernel
theorem d_Model_write_225 : decode prog_8_method_31_code 225 = .ok (.sipush 189, 3) := by decide +kernel
theorem d_Model_write_228 : decode prog_8_method_31_code 228 = .ok (.if_icmp .ne 8, 3) := by decide +kernel
theorem d_Model_write_231 : decode prog_8_method_31_code 231 = .ok (.aload_n 0, 1) := by decide +kernel
theorem d_Model_write_232 : decode prog_8_method_31_code 232 = .ok (.iconst 1, 1) := by decide +kernel
theorem d_Model_write_233 : decode prog_8_method_31_code 233 = .ok (.invokevirtual 193, 3) := by decide +kernel
theorem d_Model_write_236 : decode prog_8_method_31_code 236 = .ok (.aload_n 0, 1) := by decide +kernel
theorem d_Model_write_237 : decode prog_8_method_31_code 237 = .ok (.iload_n 1, 1) := by decide +kernel
theorem d_Model_write_238 : decode prog_8_method_31_code 238 = .ok (.iload_n 2, 1) := by decide +kernel
theorem d_Model_write_239 : decode prog_8_method_31_code 239 = .ok (.invokevirtual 196, 3) := by decide +kernel
theorem d_Model_write_242 : decode prog_8_method_31_code 242 = .ok (.iinc 1 1, 3) := by decide +kernel
theorem d_Model_write_245 : decode prog_8_method_31_code 245 = .ok (.goto (-208), 3) := by decide +kernel
theorem d_Model_write_248 : decode prog_8_method_31_code 248 = .ok (.aload_n 0, 1) := by decide +kernel
theorem d_Model_write_249 : decode prog_8_method_31_code 249 = .ok (.aload_n 0, 1) := by decide +kernel
theorem d_Model_write_250 : decode prog_8_method_31_code 250 = .ok (.getfield 84, 3) := by decide +kernel
theorem d_Model_write_253 : decode prog_8_method_31_code 253 = .ok (.putfield 199, 3) := by decide +kernel
theorem d_Model_write_256 : decode prog_8_method_31_code 256 = .ok (.iconst 0, 1) := by decide +kernel
theorem d_Model_write_257 : decode prog_8_method_31_code 257 = .ok (.istore_n 1, 1) := by decide +kernel
theorem d_Model_write_258 : decode prog_8_method_31_code 258 = .ok (.iload_n 1, 1) := by decide +kernel
theorem d_Model_write_259 : decode prog_8_method_31_code 259 = .ok (.aload_n 0, 1) := by decide +kernel
theorem d_Model_write_260 : decode prog_8_method_31_code 260 = .ok (.getfield 84, 3) := by decide +kernel
theorem d_Model_write_263 : decode prog_8_method_31_code 263 = .ok (.if_icmp .ge 89, 3) := by decide +kernel
theorem d_Model_write_266 : decode prog_8_method_31_code 266 = .ok (.aload_n 0, 1) := by decide +kernel
theorem d_Model_write_267 : decode prog_8_method_31_code 267 = .ok (.getfield 63, 3) := by decide +kernel
theorem d_Model_write_270 : decode prog_8_method_31_code 270 = .ok (.iload_n 1, 1) := by decide +kernel
theorem d_Model_write_271 : decode prog_8_method_31_code 271 = .ok (.aload_n 0, 1) := by decide +kernel
theorem d_Model_write_272 : decode prog_8_method_31_code 272 = .ok (.aload_n 0, 1) := by decide +kernel
theorem d_Model_write_273 : decode prog_8_method_31_code 273 = .ok (.getfield 13, 3) := by decide +kernel
theorem d_Model_write_276 : decode prog_8_method_31_code 276 = .ok (.iload_n 1, 1) := by decide +kernel
theorem d_Model_write_277 : decode prog_8_method_31_code 277 = .ok (.iaload, 1) := by decide +kernel
theorem d_Model_write_278 : decode prog_8_method_31_code 278 = .ok (.invokevirtual 155, 3) := by decide +kernel
theorem d_Model_write_281 : decode prog_8_method_31_code 281 = .ok (.iastore, 1) := by decide +kernel
theorem d_Model_write_282 : decode prog_8_method_31_code 282 = .ok (.aload_n 0, 1) := by decide +kernel
theorem d_Model_write_283 : decode prog_8_method_31_code 283 = .ok (.getfield 66, 3) := by decide +kernel
theorem d_Model_write_286 : decode prog_8_method_31_code 286 = .ok (.iload_n 1, 1) := by decide +kernel
theorem d_Model_write_287 : decode prog_8_method_31_code 287 = .ok (.aload_n 0, 1) := by decide +kernel
theorem d_Model_write_288 : decode prog_8_method_31_code 288 = .ok (.getfield 16, 3) := by decide +kernel
theorem d_Model_write_291 : decode prog_8_method_31_code 291 = .ok (.iload_n 1, 1) := by decide +kernel
theorem d_Model_write_292 : decode prog_8_method_31_code 292 = .ok (.iaload, 1) := by decide +kernel
theorem d_Model_write_293 : decode prog_8_method_31_code 293 = .ok (.aload_n 0, 1) := by decide +kernel
theorem d_Model_write_294 : decode prog_8_method_31_code 294 = .ok (.getfield 92, 3) := by decide +kernel
theorem d_Model_write_297 : decode prog_8_method_31_code 297 = .ok (.if_icmp .ne 10, 3) := by decide +kernel
theorem d_Model_write_300 : decode prog_8_method_31_code 300 = .ok (.aload_n 0, 1) := by decide +kernel
theorem d_Model_write_301 : decode prog_8_method_31_code 301 = .ok (.getfield 135, 3) := by decide +kernel
theorem d_Model_write_304 : decode prog_8_method_31_code 304 = .ok (.goto 13, 3) := by decide +kernel
theorem d_Model_write_307 : decode prog_8_method_31_code 307 = .ok (.aload_n 0, 1) := by decide +kernel
theorem d_Model_write_308 : decode prog_8_method_31_code 308 = .ok (.aload_n 0, 1) := by decide +kernel
theorem d_Model_write_309 : decode prog_8_method_31_code 309 = .ok (.getfield 16, 3) := by decide +kernel
theorem d_Model_write_312 : decode prog_8_method_31_code 312 = .ok (.iload_n 1, 1) := by decide +kernel
theorem d_Model_write_313 : decode prog_8_method_31_code 313 = .ok (.iaload, 1) := by decide +kernel
theorem d_Model_write_314 : decode prog_8_method_31_code 314 = .ok (.invokevirtual 155, 3) := by decide +kernel
theorem d_Model_write_317 : decode prog_8_method_31_code 317 = .ok (.iastore, 1) := by decide +kernel
theorem d_Model_write_318 : decode prog_8_method_31_code 318 = .ok (.aload_n 0, 1) := by decide +kernel
theorem d_Model_write_319 : decode prog_8_method_31_code 319 = .ok (.getfield 69, 3) := by decide +kernel
theorem d_Model_write_322 : decode prog_8_method_31_code 322 = .ok (.iload_n 1, 1) := by decide +kernel
theorem d_Model_write_323 : decode prog_8_method_31_code 323 = .ok (.aload_n 0, 1) := by decide +kernel
theorem d_Model_write_324 : decode prog_8_method_31_code 324 = .ok (.aload_n 0, 1) := by decide +kernel
theorem d_Model_write_325 : decode prog_8_method_31_code 325 = .ok (.getfield 19, 3) := by decide +kernel
theorem d_Model_write_328 : decode prog_8_method_31_code 328 = .ok (.iload_n 1, 1) := by decide +kernel
theorem d_Model_write_329 : decode prog_8_method_31_code 329 = .ok (.iaload, 1) := by decide +kernel
theorem d_Model_write_330 : decode prog_8_method_31_code 330 = .ok (.invokevirtual 155, 3) := by decide +kernel
theorem d_Model_write_333 : decode prog_8_method_31_code 333 = .ok (.iastore, 1) := by decide +kernel
theorem d_Model_write_334 : decode prog_8_method_31_code 334 = .ok (.aload_n 0, 1) := by decide +kernel
theorem d_Model_write_335 : decode prog_8_method_31_code 335 = .ok (.getfield 72, 3) := by decide +kernel
theorem d_Model_write_338 : decode prog_8_method_31_code 338 = .ok (.iload_n 1, 1) := by decide +kernel
theorem d_Model_write_339 : decode prog_8_method_31_code 339 = .ok (.aload_n 0, 1) := by decide +kernel
theorem d_Model_write_340 : decode prog_8_method_31_code 340 = .ok (.getfield 22, 3) := by decide +kernel
theorem d_Model_write_343 : decode prog_8_method_31_code 343 = .ok (.iload_n 1, 1) := by decide +kernel
theorem d_Model_write_344 : decode prog_8_method_31_code 344 = .ok (.iaload, 1) := by decide +kernel
theorem d_Model_write_345 : decode prog_8_method_31_code 345 = .ok (.iastore, 1) := by decide +kernel
theorem d_Model_write_346 : decode prog_8_method_31_code 346 = .ok (.iinc 1 1, 3) := by decide +kernel
theorem d_Model_write_349 : decode prog_8_method_31_code 349 = .ok (.goto (-91), 3) := by decide +kernel
theorem d_Model_write_352 : decode prog_8_method_31_code 352 = .ok (.return_, 1) := by decide +kernel
theorem d_Model_rewrite_0 : decode prog_8_method_27_code 0 = .ok (.iconst 0, 1) := by decide +kernel
theorem d_Model_rewrite_1 : decode prog_8_method_27_code 1 = .ok (.istore_n 1, 1) := by decide +kernel
theorem d_Model_rewrite_2 : decode prog_8_method_27_code 2 = .ok (.iload_n 1, 1) := by decide +kernel
theorem d_Model_rewrite_3 : decode prog_8_method_27_code 3 = .ok (.aload_n 0, 1) := by decide +kernel
theorem d_Model_rewrite_4 : decode prog_8_method_27_code 4 = .ok (.getfield 79, 3) := by decide +kernel
theorem d_Model_rewrite_7 : decode prog_8_method_27_code 7 = .ok (.if_icmp .ge 21, 3) := by decide +kernel
theorem d_Model_rewrite_10 : decode prog_8_method_27_code 10 = .ok (.aload_n 0, 1) := by decide +kernel
theorem d_Model_rewrite_11 : decode prog_8_method_27_code 11 = .ok (.getfield 45, 3) := by decide +kernel
theorem d_Model_rewrite_14 : decode prog_8_method_27_code 14 = .ok (.iload_n 1, 1) := by decide +kernel
theorem d_Model_rewrite_15 : decode prog_8_method_27_code 15 = .ok (.aload_n 0, 1) := by decide +kernel
theorem d_Model_rewrite_16 : decode prog_8_method_27_code 16 = .ok (.getfield 7, 3) := by decide +kernel
theorem d_Model_rewrite_19 : decode prog_8_method_27_code 19 = .ok (.iload_n 1, 1) := by decide +kernel
theorem d_Model_rewrite_20 : decode prog_8_method_27_code 20 = .ok (.iaload, 1) := by decide +kernel
theorem d_Model_rewrite_21 : decode prog_8_method_27_code 21 = .ok (.iastore, 1) := by decide +kernel
theorem d_Model_rewrite_22 : decode prog_8_method_27_code 22 = .ok (.iinc 1 1, 3) := by decide +kernel
theorem d_Model_rewrite_25 : decode prog_8_method_27_code 25 = .ok (.goto (-23), 3) := by decide +kernel
theorem d_Model_rewrite_28 : decode prog_8_method_27_code 28 = .ok (.aload_n 0, 1) := by decide +kernel
theorem d_Model_rewrite_29 : decode prog_8_method_27_code 29 = .ok (.aload_n 0, 1) := by decide +kernel
theorem d_Model_rewrite_30 : decode prog_8_method_27_code 30 = .ok (.getfield 79, 3) := by decide +kernel
theorem d_Model_rewrite_33 : decode prog_8_method_27_code 33 = .ok (.putfield 92, 3) := by decide +kernel
theorem d_Model_rewrite_36 : decode prog_8_method_27_code 36 = .ok (.aload_n 0, 1) := by decide +kernel
theorem d_Model_rewrite_37 : decode prog_8_method_27_code 37 = .ok (.iconst 0, 1) := by decide +kernel
theorem d_Model_rewrite_38 : decode prog_8_method_27_code 38 = .ok (.putfield 138, 3) := by decide +kernel
theorem d_Model_rewrite_41 : decode prog_8_method_27_code 41 = .ok (.iconst 0, 1) := by decide +kernel
theorem d_Model_rewrite_42 : decode prog_8_method_27_code 42 = .ok (.istore_n 1, 1) := by decide +kernel
theorem d_Model_rewrite_43 : decode prog_8_method_27_code 43 = .ok (.iload_n 1, 1) := by decide +kernel
theorem d_Model_rewrite_44 : decode prog_8_method_27_code 44 = .ok (.sipush 200, 3) := by decide +kernel
theorem d_Model_rewrite_47 : decode prog_8_method_27_code 47 = .ok (.if_icmp .gt 16, 3) := by decide +kernel
theorem d_Model_rewrite_50 : decode prog_8_method_27_code 50 = .ok (.aload_n 0, 1) := by decide +kernel
theorem d_Model_rewrite_51 : decode prog_8_method_27_code 51 = .ok (.getfield 42, 3) := by decide +kernel
theorem d_Model_rewrite_54 : decode prog_8_method_27_code 54 = .ok (.iload_n 1, 1) := by decide +kernel
theorem d_Model_rewrite_55 : decode prog_8_method_27_code 55 = .ok (.iconst 0, 1) := by decide +kernel
theorem d_Model_rewrite_56 : decode prog_8_method_27_code 56 = .ok (.bastore, 1) := by decide +kernel
theorem d_Model_rewrite_57 : decode prog_8_method_27_code 57 = .ok (.iinc 1 1, 3) := by decide +kernel
theorem d_Model_rewrite_60 : decode prog_8_method_27_code 60 = .ok (.goto (-17), 3) := by decide +kernel
theorem d_Model_rewrite_63 : decode prog_8_method_27_code 63 = .ok (.aload_n 0, 1) := by decide +kernel
theorem d_Model_rewrite_64 : decode prog_8_method_27_code 64 = .ok (.invokevirtual 142, 3) := by decide +kernel
theorem d_Model_rewrite_67 : decode prog_8_method_27_code 67 = .ok (.istore_n 1, 1) := by decide +kernel
theorem d_Model_rewrite_68 : decode prog_8_method_27_code 68 = .ok (.iload_n 1, 1) := by decide +kernel
theorem d_Model_rewrite_69 : decode prog_8_method_27_code 69 = .ok (.ifCond .ne 5, 3) := by decide +kernel
theorem d_Model_rewrite_72 : decode prog_8_method_27_code 72 = .ok (.iconst 1, 1) := by decide +kernel
theorem d_Model_rewrite_73 : decode prog_8_method_27_code 73 = .ok (.ireturn, 1) := by decide +kernel
theorem d_Model_rewrite_74 : decode prog_8_method_27_code 74 = .ok (.aload_n 0, 1) := by decide +kernel
theorem d_Model_rewrite_75 : decode prog_8_method_27_code 75 = .ok (.invokevirtual 146, 3) := by decide +kernel
theorem d_Model_rewrite_78 : decode prog_8_method_27_code 78 = .ok (.aload_n 0, 1) := by decide +kernel
theorem d_Model_rewrite_79 : decode prog_8_method_27_code 79 = .ok (.iconst 0, 1) := by decide +kernel
theorem d_Model_rewrite_80 : decode prog_8_method_27_code 80 = .ok (.putfield 149, 3) := by decide +kernel
theorem d_Model_rewrite_83 : decode prog_8_method_27_code 83 = .ok (.iconst 1, 1) := by decide +kernel
theorem d_Model_rewrite_84 : decode prog_8_method_27_code 84 = .ok (.istore_n 2, 1) := by decide +kernel
theorem d_Model_rewrite_85 : decode prog_8_method_27_code 85 = .ok (.iload_n 2, 1) := by decide +kernel
theorem d_Model_rewrite_86 : decode prog_8_method_27_code 86 = .ok (.ifCond .eq 134, 3) := by decide +kernel
theorem d_Model_rewrite_89 : decode prog_8_method_27_code 89 = .ok (.iconst 0, 1) := by decide +kernel
theorem d_Model_rewrite_90 : decode prog_8_method_27_code 90 = .ok (.istore_n 2, 1) := by decide +kernel
theorem d_Model_rewrite_91 : decode prog_8_method_27_code 91 = .ok (.aload_n 0, 1) := by decide +kernel
theorem d_Model_rewrite_92 : decode prog_8_method_27_code 92 = .ok (.invokevirtual 152, 3) := by decide +kernel
theorem d_Model_rewrite_95 : decode prog_8_method_27_code 95 = .ok (.aload_n 0, 1) := by decide +kernel
theorem d_Model_rewrite_96 : decode prog_8_method_27_code 96 = .ok (.dup, 1) := by decide +kernel
theorem d_Model_rewrite_97 : decode prog_8_method_27_code 97 = .ok (.getfield 149, 3) := by decide +kernel
theorem d_Model_rewrite_100 : decode prog_8_method_27_code 100 = .ok (.iconst 1, 1) := by decide +kernel
theorem d_Model_rewrite_101 : decode prog_8_method_27_code 101 = .ok (.iadd, 1) := by decide +kernel
theorem d_Model_rewrite_102 : decode prog_8_method_27_code 102 = .ok (.putfield 149, 3) := by decide +kernel
theorem d_Model_rewrite_105 : decode prog_8_method_27_code 105 = .ok (.iconst 0, 1) := by decide +kernel
theorem d_Model_rewrite_106 : decode prog_8_method_27_code 106 = .ok (.istore_n 3, 1) := by decide +kernel
theorem d_Model_rewrite_107 : decode prog_8_method_27_code 107 = .ok (.iload_n 3, 1) := by decide +kernel
theorem d_Model_rewrite_108 : decode prog_8_method_27_code 108 = .ok (.aload_n 0, 1) := by decide +kernel
theorem d_Model_rewrite_109 : decode prog_8_method_27_code 109 = .ok (.getfield 92, 3) := by decide +kernel
theorem d_Model_rewrite_112 : decode prog_8_method_27_code 112 = .ok (.if_icmp .ge 105, 3) := by decide +kernel
theorem d_Model_rewrite_115 : decode prog_8_method_27_code 115 = .ok (.aload_n 0, 1) := by decide +kernel
theorem d_Model_rewrite_116 : decode prog_8_method_27_code 116 = .ok (.getfield 39, 3) := by decide +kernel
theorem d_Model_rewrite_119 : decode prog_8_method_27_code 119 = .ok (.iload_n 3, 1) := by decide +kernel
theorem d_Model_rewrite_120 : decode prog_8_method_27_code 120 = .ok (.baload, 1) := by decide +kernel
theorem d_Model_rewrite_121 : decode prog_8_method_27_code 121 = .ok (.ifCond .eq 90, 3) := by decide +kernel
theorem d_Model_rewrite_124 : decode prog_8_method_27_code 124 = .ok (.aload_n 0, 1) := by decide +kernel
theorem d_Model_rewrite_125 : decode prog_8_method_27_code 125 = .ok (.getfield 45, 3) := by decide +kernel
theorem d_Model_rewrite_128 : decode prog_8_method_27_code 128 = .ok (.iload_n 3, 1) := by decide +kernel
theorem d_Model_rewrite_129 : decode prog_8_method_27_code 129 = .ok (.iaload, 1) := by decide +kernel
theorem d_Model_rewrite_130 : decode prog_8_method_27_code 130 = .ok (.invokestatic 104, 3) := by decide +kernel
theorem d_Model_rewrite_133 : decode prog_8_method_27_code 133 = .ok (.ifCond .eq 78, 3) := by decide +kernel
theorem d_Model_rewrite_136 : decode prog_8_method_27_code 136 = .ok (.aload_n 0, 1) := by decide +kernel
theorem d_Model_rewrite_137 : decode prog_8_method_27_code 137 = .ok (.getfield 45, 3) := by decide +kernel
theorem d_Model_rewrite_140 : decode prog_8_method_27_code 140 = .ok (.iload_n 3, 1) := by decide +kernel
theorem d_Model_rewrite_141 : decode prog_8_method_27_code 141 = .ok (.iaload, 1) := by decide +kernel
theorem d_Model_rewrite_142 : decode prog_8_method_27_code 142 = .ok (.sipush 200, 3) := by decide +kernel
theorem d_Model_rewrite_145 : decode prog_8_method_27_code 145 = .ok (.if_icmp .eq 66, 3) := by decide +kernel
theorem d_Model_rewrite_148 : decode prog_8_method_27_code 148 = .ok (.aload_n 0, 1) := by decide +kernel
theorem d_Model_rewrite_149 : decode prog_8_method_27_code 149 = .ok (.getfield 42, 3) := by decide +kernel
theorem d_Model_rewrite_152 : decode prog_8_method_27_code 152 = .ok (.iload_n 3, 1) := by decide +kernel
theorem d_Model_rewrite_153 : decode prog_8_method_27_code 153 = .ok (.baload, 1) := by decide +kernel
theorem d_Model_rewrite_154 : decode prog_8_method_27_code 154 = .ok (.ifCond .eq 6, 3) := by decide +kernel
theorem d_Model_rewrite_157 : decode prog_8_method_27_code 157 = .ok (.goto 54, 3) := by decide +kernel
theorem d_Model_rewrite_160 : decode prog_8_method_27_code 160 = .ok (.aload_n 0, 1) := by decide +kernel
theorem d_Model_rewrite_161 : decode prog_8_method_27_code 161 = .ok (.iload_n 3, 1) := by decide +kernel
theorem d_Model_rewrite_162 : decode prog_8_method_27_code 162 = .ok (.iconst 0, 1) := by decide +kernel
theorem d_Model_rewrite_163 : decode prog_8_method_27_code 163 = .ok (.invokevirtual 117, 3) := by decide +kernel
theorem d_Model_rewrite_166 : decode prog_8_method_27_code 166 = .ok (.istore 4, 2) := by decide +kernel
theorem d_Model_rewrite_168 : decode prog_8_method_27_code 168 = .ok (.aload_n 0, 1) := by decide +kernel
theorem d_Model_rewrite_169 : decode prog_8_method_27_code 169 = .ok (.iload 4, 2) := by decide +kernel
theorem d_Model_rewrite_171 : decode prog_8_method_27_code 171 = .ok (.invokevirtual 155, 3) := by decide +kernel
theorem d_Model_rewrite_174 : decode prog_8_method_27_code 174 = .ok (.aload_n 0, 1) := by decide +kernel
theorem d_Model_rewrite_175 : decode prog_8_method_27_code 175 = .ok (.iload_n 3, 1) := by decide +kernel
theorem d_Model_rewrite_176 : decode prog_8_method_27_code 176 = .ok (.invokevirtual 132, 3) := by decide +kernel
theorem d_Model_rewrite_179 : decode prog_8_method_27_code 179 = .ok (.isub, 1) := by decide +kernel
theorem d_Model_rewrite_180 : decode prog_8_method_27_code 180 = .ok (.istore 5, 2) := by decide +kernel
theorem d_Model_rewrite_182 : decode prog_8_method_27_code 182 = .ok (.iload 5, 2) := by decide +kernel
theorem d_Model_rewrite_184 : decode prog_8_method_27_code 184 = .ok (.aload_n 0, 1) := by decide +kernel
theorem d_Model_rewrite_185 : decode prog_8_method_27_code 185 = .ok (.getfield 36, 3) := by decide +kernel
theorem d_Model_rewrite_188 : decode prog_8_method_27_code 188 = .ok (.ineg, 1) := by decide +kernel
theorem d_Model_rewrite_189 : decode prog_8_method_27_code 189 = .ok (.aload_n 0, 1) := by decide +kernel
theorem d_Model_rewrite_190 : decode prog_8_method_27_code 190 = .ok (.getfield 36, 3) := by decide +kernel
theorem d_Model_rewrite_193 : decode prog_8_method_27_code 193 = .ok (.invokestatic 75, 3) := by decide +kernel
theorem d_Model_rewrite_196 : decode prog_8_method_27_code 196 = .ok (.ifCond .eq 6, 3) := by decide +kernel
theorem d_Model_rewrite_199 : decode prog_8_method_27_code 199 = .ok (.goto 12, 3) := by decide +kernel
theorem d_Model_rewrite_202 : decode prog_8_method_27_code 202 = .ok (.aload_n 0, 1) := by decide +kernel
theorem d_Model_rewrite_203 : decode prog_8_method_27_code 203 = .ok (.getfield 42, 3) := by decide +kernel
theorem d_Model_rewrite_206 : decode prog_8_method_27_code 206 = .ok (.iload_n 3, 1) := by decide +kernel
theorem d_Model_rewrite_207 : decode prog_8_method_27_code 207 = .ok (.iconst 1, 1) := by decide +kernel
theorem d_Model_rewrite_208 : decode prog_8_method_27_code 208 = .ok (.bastore, 1) := by decide +kernel
theorem d_Model_rewrite_209 : decode prog_8_method_27_code 209 = .ok (.iconst 1, 1) := by decide +kernel
theorem d_Model_rewrite_210 : decode prog_8_method_27_code 210 = .ok (.istore_n 2, 1) := by decide +kernel
theorem d_Model_rewrite_211 : decode prog_8_method_27_code 211 = .ok (.iinc 3 1, 3) := by decide +kernel
theorem d_Model_rewrite_214 : decode prog_8_method_27_code 214 = .ok (.goto (-107), 3) := by decide +kernel
theorem d_Model_rewrite_217 : decode prog_8_method_27_code 217 = .ok (.goto (-132), 3) := by decide +kernel
theorem d_Model_rewrite_220 : decode prog_8_method_27_code 220 = .ok (.aload_n 0, 1) := by decide +kernel
theorem d_Model_rewrite_221 : decode prog_8_method_27_code 221 = .ok (.getfield 135, 3) := by decide +kernel
theorem d_Model_rewrite_224 : decode prog_8_method_27_code 224 = .ok (.sipush 1200, 3) := by decide +kernel
theorem d_Model_rewrite_227 : decode prog_8_method_27_code 227 = .ok (.if_icmp .le 5, 3) := by decide +kernel
theorem d_Model_rewrite_230 : decode prog_8_method_27_code 230 = .ok (.iconst 2, 1) := by decide +kernel
theorem d_Model_rewrite_231 : decode prog_8_method_27_code 231 = .ok (.ireturn, 1) := by decide +kernel
theorem d_Model_rewrite_232 : decode prog_8_method_27_code 232 = .ok (.aload_n 0, 1) := by decide +kernel
theorem d_Model_rewrite_233 : decode prog_8_method_27_code 233 = .ok (.invokevirtual 158, 3) := by decide +kernel
theorem d_Model_rewrite_236 : decode prog_8_method_27_code 236 = .ok (.aload_n 0, 1) := by decide +kernel
theorem d_Model_rewrite_237 : decode prog_8_method_27_code 237 = .ok (.iconst 1, 1) := by decide +kernel
theorem d_Model_rewrite_238 : decode prog_8_method_27_code 238 = .ok (.putfield 138, 3) := by decide +kernel
theorem d_Model_rewrite_241 : decode prog_8_method_27_code 241 = .ok (.aload_n 0, 1) := by decide +kernel
theorem d_Model_rewrite_242 : decode prog_8_method_27_code 242 = .ok (.dup, 1) := by decide +kernel
theorem d_Model_rewrite_243 : decode prog_8_method_27_code 243 = .ok (.getfield 161, 3) := by decide +kernel
theorem d_Model_rewrite_246 : decode prog_8_method_27_code 246 = .ok (.iconst 1, 1) := by decide +kernel
theorem d_Model_rewrite_247 : decode prog_8_method_27_code 247 = .ok (.iadd, 1) := by decide +kernel
theorem d_Model_rewrite_248 : decode prog_8_method_27_code 248 = .ok (.putfield 161, 3) := by decide +kernel
theorem d_Model_rewrite_251 : decode prog_8_method_27_code 251 = .ok (.iconst 0, 1) := by decide +kernel
theorem d_Model_rewrite_252 : decode prog_8_method_27_code 252 = .ok (.ireturn, 1) := by decide +kernel
theorem d_Model_octet_0 : decode prog_8_method_35_code 0 = .ok (.aload_n 0, 1) := by decide +kernel
theorem d_Model_octet_1 : decode prog_8_method_35_code 1 = .ok (.getfield 138, 3) := by decide +kernel
theorem d_Model_octet_4 : decode prog_8_method_35_code 4 = .ok (.ifCond .eq 26, 3) := by decide +kernel
theorem d_Model_octet_7 : decode prog_8_method_35_code 7 = .ok (.iload_n 1, 1) := by decide +kernel
theorem d_Model_octet_8 : decode prog_8_method_35_code 8 = .ok (.iconst 0, 1) := by decide +kernel
theorem d_Model_octet_9 : decode prog_8_method_35_code 9 = .ok (.aload_n 0, 1) := by decide +kernel
theorem d_Model_octet_10 : decode prog_8_method_35_code 10 = .ok (.getfield 135, 3) := by decide +kernel
theorem d_Model_octet_13 : decode prog_8_method_35_code 13 = .ok (.iconst 1, 1) := by decide +kernel
theorem d_Model_octet_14 : decode prog_8_method_35_code 14 = .ok (.isub, 1) := by decide +kernel
theorem d_Model_octet_15 : decode prog_8_method_35_code 15 = .ok (.invokestatic 75, 3) := by decide +kernel
theorem d_Model_octet_18 : decode prog_8_method_35_code 18 = .ok (.ifCond .eq 12, 3) := by decide +kernel
theorem d_Model_octet_21 : decode prog_8_method_35_code 21 = .ok (.aload_n 0, 1) := by decide +kernel
theorem d_Model_octet_22 : decode prog_8_method_35_code 22 = .ok (.getfield 60, 3) := by decide +kernel
theorem d_Model_octet_25 : decode prog_8_method_35_code 25 = .ok (.iload_n 1, 1) := by decide +kernel
theorem d_Model_octet_26 : decode prog_8_method_35_code 26 = .ok (.iaload, 1) := by decide +kernel
theorem d_Model_octet_27 : decode prog_8_method_35_code 27 = .ok (.goto 4, 3) := by decide +kernel
theorem d_Model_octet_30 : decode prog_8_method_35_code 30 = .ok (.iconst (-1), 1) := by decide +kernel
theorem d_Model_octet_31 : decode prog_8_method_35_code 31 = .ok (.ireturn, 1) := by decide +kernel
theorem d_Model_moved_0 : decode prog_8_method_36_code 0 = .ok (.aload_n 0, 1) := by decide +kernel
theorem d_Model_moved_1 : decode prog_8_method_36_code 1 = .ok (.getfield 138, 3) := by decide +kernel
theorem d_Model_moved_4 : decode prog_8_method_36_code 4 = .ok (.ifCond .eq 11, 3) := by decide +kernel
theorem d_Model_moved_7 : decode prog_8_method_36_code 7 = .ok (.aload_n 0, 1) := by decide +kernel
theorem d_Model_moved_8 : decode prog_8_method_36_code 8 = .ok (.iload_n 1, 1) := by decide +kernel
theorem d_Model_moved_9 : decode prog_8_method_36_code 9 = .ok (.invokevirtual 120, 3) := by decide +kernel
theorem d_Model_moved_12 : decode prog_8_method_36_code 12 = .ok (.ifCond .ne 5, 3) := by decide +kernel
theorem d_Model_moved_15 : decode prog_8_method_36_code 15 = .ok (.iconst (-1), 1) := by decide +kernel
theorem d_Model_moved_16 : decode prog_8_method_36_code 16 = .ok (.ireturn, 1) := by decide +kernel
theorem d_Model_moved_17 : decode prog_8_method_36_code 17 = .ok (.iload_n 2, 1) := by decide +kernel
theorem d_Model_moved_18 : decode prog_8_method_36_code 18 = .ok (.tableswitch 87 0 4 #[34, 40, 46, 53, 60], 34) := by decide +kernel
theorem d_Model_moved_52 : decode prog_8_method_36_code 52 = .ok (.aload_n 0, 1) := by decide +kernel
theorem d_Model_moved_53 : decode prog_8_method_36_code 53 = .ok (.iload_n 1, 1) := by decide +kernel
theorem d_Model_moved_54 : decode prog_8_method_36_code 54 = .ok (.invokevirtual 155, 3) := by decide +kernel
theorem d_Model_moved_57 : decode prog_8_method_36_code 57 = .ok (.ireturn, 1) := by decide +kernel
theorem d_Model_moved_58 : decode prog_8_method_36_code 58 = .ok (.aload_n 0, 1) := by decide +kernel
theorem d_Model_moved_59 : decode prog_8_method_36_code 59 = .ok (.iload_n 1, 1) := by decide +kernel
theorem d_Model_moved_60 : decode prog_8_method_36_code 60 = .ok (.invokevirtual 132, 3) := by decide +kernel
theorem d_Model_moved_63 : decode prog_8_method_36_code 63 = .ok (.ireturn, 1) := by decide +kernel
theorem d_Model_moved_64 : decode prog_8_method_36_code 64 = .ok (.aload_n 0, 1) := by decide +kernel
theorem d_Model_moved_65 : decode prog_8_method_36_code 65 = .ok (.getfield 54, 3) := by decide +kernel
theorem d_Model_moved_68 : decode prog_8_method_36_code 68 = .ok (.iload_n 1, 1) := by decide +kernel
theorem d_Model_moved_69 : decode prog_8_method_36_code 69 = .ok (.iaload, 1) := by decide +kernel
theorem d_Model_moved_70 : decode prog_8_method_36_code 70 = .ok (.ireturn, 1) := by decide +kernel
theorem d_Model_moved_71 : decode prog_8_method_36_code 71 = .ok (.aload_n 0, 1) := by decide +kernel
theorem d_Model_moved_72 : decode prog_8_method_36_code 72 = .ok (.getfield 57, 3) := by decide +kernel
theorem d_Model_moved_75 : decode prog_8_method_36_code 75 = .ok (.iload_n 1, 1) := by decide +kernel
theorem d_Model_moved_76 : decode prog_8_method_36_code 76 = .ok (.iaload, 1) := by decide +kernel
theorem d_Model_moved_77 : decode prog_8_method_36_code 77 = .ok (.ireturn, 1) := by decide +kernel
theorem d_Model_moved_78 : decode prog_8_method_36_code 78 = .ok (.aload_n 0, 1) := by decide +kernel
theorem d_Model_moved_79 : decode prog_8_method_36_code 79 = .ok (.getfield 42, 3) := by decide +kernel
theorem d_Model_moved_82 : decode prog_8_method_36_code 82 = .ok (.iload_n 1, 1) := by decide +kernel
theorem d_Model_moved_83 : decode prog_8_method_36_code 83 = .ok (.baload, 1) := by decide +kernel
theorem d_Model_moved_84 : decode prog_8_method_36_code 84 = .ok (.ifCond .ne 15, 3) := by decide +kernel
theorem d_Model_moved_87 : decode prog_8_method_36_code 87 = .ok (.aload_n 0, 1) := by decide +kernel
theorem d_Model_moved_88 : decode prog_8_method_36_code 88 = .ok (.getfield 45, 3) := by decide +kernel
theorem d_Model_moved_91 : decode prog_8_method_36_code 91 = .ok (.iload_n 1, 1) := by decide +kernel
theorem d_Model_moved_92 : decode prog_8_method_36_code 92 = .ok (.iaload, 1) := by decide +kernel
theorem d_Model_moved_93 : decode prog_8_method_36_code 93 = .ok (.sipush 200, 3) := by decide +kernel
theorem d_Model_moved_96 : decode prog_8_method_36_code 96 = .ok (.if_icmp .ne 7, 3) := by decide +kernel
theorem d_Model_moved_99 : decode prog_8_method_36_code 99 = .ok (.iconst 1, 1) := by decide +kernel
theorem d_Model_moved_100 : decode prog_8_method_36_code 100 = .ok (.goto 4, 3) := by decide +kernel
theorem d_Model_moved_103 : decode prog_8_method_36_code 103 = .ok (.iconst 0, 1) := by decide +kernel
theorem d_Model_moved_104 : decode prog_8_method_36_code 104 = .ok (.ireturn, 1) := by decide +kernel
theorem d_Model_moved_105 : decode prog_8_method_36_code 105 = .ok (.iconst (-1), 1) := by decide +kernel
theorem d_Model_moved_106 : decode prog_8_method_36_code 106 = .ok (.ireturn, 1) := by decide +kernel
theorem d_Model_back_0 : decode prog_8_method_37_code 0 = .ok (.iconst 0, 1) := by decide +kernel
theorem d_Model_back_1 : decode prog_8_method_37_code 1 = .ok (.istore_n 2, 1) := by decide +kernel
theorem d_Model_back_2 : decode prog_8_method_37_code 2 = .ok (.iload_n 2, 1) := by decide +kernel
theorem d_Model_back_3 : decode prog_8_method_37_code 3 = .ok (.aload_n 0, 1) := by decide +kernel
theorem d_Model_back_4 : decode prog_8_method_37_code 4 = .ok (.getfield 92, 3) := by decide +kernel
theorem d_Model_back_7 : decode prog_8_method_37_code 7 = .ok (.if_icmp .ge 36, 3) := by decide +kernel
theorem d_Model_back_10 : decode prog_8_method_37_code 10 = .ok (.aload_n 0, 1) := by decide +kernel
theorem d_Model_back_11 : decode prog_8_method_37_code 11 = .ok (.getfield 138, 3) := by decide +kernel
theorem d_Model_back_14 : decode prog_8_method_37_code 14 = .ok (.ifCond .eq 29, 3) := by decide +kernel
theorem d_Model_back_17 : decode prog_8_method_37_code 17 = .ok (.aload_n 0, 1) := by decide +kernel
theorem d_Model_back_18 : decode prog_8_method_37_code 18 = .ok (.getfield 39, 3) := by decide +kernel
theorem d_Model_back_21 : decode prog_8_method_37_code 21 = .ok (.iload_n 2, 1) := by decide +kernel
theorem d_Model_back_22 : decode prog_8_method_37_code 22 = .ok (.baload, 1) := by decide +kernel
theorem d_Model_back_23 : decode prog_8_method_37_code 23 = .ok (.ifCond .eq 14, 3) := by decide +kernel
theorem d_Model_back_26 : decode prog_8_method_37_code 26 = .ok (.aload_n 0, 1) := by decide +kernel
theorem d_Model_back_27 : decode prog_8_method_37_code 27 = .ok (.iload_n 2, 1) := by decide +kernel
theorem d_Model_back_28 : decode prog_8_method_37_code 28 = .ok (.invokevirtual 132, 3) := by decide +kernel
theorem d_Model_back_31 : decode prog_8_method_37_code 31 = .ok (.iload_n 1, 1) := by decide +kernel
theorem d_Model_back_32 : decode prog_8_method_37_code 32 = .ok (.if_icmp .ne 5, 3) := by decide +kernel
theorem d_Model_back_35 : decode prog_8_method_37_code 35 = .ok (.iload_n 2, 1) := by decide +kernel
theorem d_Model_back_36 : decode prog_8_method_37_code 36 = .ok (.ireturn, 1) := by decide +kernel
theorem d_Model_back_37 : decode prog_8_method_37_code 37 = .ok (.iinc 2 1, 3) := by decide +kernel
theorem d_Model_back_40 : decode prog_8_method_37_code 40 = .ok (.goto (-38), 3) := by decide +kernel
theorem d_Model_back_43 : decode prog_8_method_37_code 43 = .ok (.iconst (-1), 1) := by decide +kernel
theorem d_Model_back_44 : decode prog_8_method_37_code 44 = .ok (.ireturn, 1) := by decide +kernel
theorem d_Model_guard_0 : decode prog_8_method_38_code 0 = .ok (.aload_n 0, 1) := by decide +kernel
theorem d_Model_guard_1 : decode prog_8_method_38_code 1 = .ok (.getfield 138, 3) := by decide +kernel
theorem d_Model_guard_4 : decode prog_8_method_38_code 4 = .ok (.ifCond .eq 17, 3) := by decide +kernel
theorem d_Model_guard_7 : decode prog_8_method_38_code 7 = .ok (.iload_n 1, 1) := by decide +kernel
theorem d_Model_guard_8 : decode prog_8_method_38_code 8 = .ok (.iconst 0, 1) := by decide +kernel
theorem d_Model_guard_9 : decode prog_8_method_38_code 9 = .ok (.aload_n 0, 1) := by decide +kernel
theorem d_Model_guard_10 : decode prog_8_method_38_code 10 = .ok (.getfield 199, 3) := by decide +kernel
theorem d_Model_guard_13 : decode prog_8_method_38_code 13 = .ok (.iconst 1, 1) := by decide +kernel
theorem d_Model_guard_14 : decode prog_8_method_38_code 14 = .ok (.isub, 1) := by decide +kernel
theorem d_Model_guard_15 : decode prog_8_method_38_code 15 = .ok (.invokestatic 75, 3) := by decide +kernel
theorem d_Model_guard_18 : decode prog_8_method_38_code 18 = .ok (.ifCond .ne 5, 3) := by decide +kernel
theorem d_Model_guard_21 : decode prog_8_method_38_code 21 = .ok (.iconst (-1), 1) := by decide +kernel
theorem d_Model_guard_22 : decode prog_8_method_38_code 22 = .ok (.ireturn, 1) := by decide +kernel
theorem d_Model_guard_23 : decode prog_8_method_38_code 23 = .ok (.iload_n 2, 1) := by decide +kernel
theorem d_Model_guard_24 : decode prog_8_method_38_code 24 = .ok (.tableswitch 60 0 3 #[32, 39, 46, 53], 32) := by decide +kernel
theorem d_Model_guard_56 : decode prog_8_method_38_code 56 = .ok (.aload_n 0, 1) := by decide +kernel
theorem d_Model_guard_57 : decode prog_8_method_38_code 57 = .ok (.getfield 63, 3) := by decide +kernel
theorem d_Model_guard_60 : decode prog_8_method_38_code 60 = .ok (.iload_n 1, 1) := by decide +kernel
theorem d_Model_guard_61 : decode prog_8_method_38_code 61 = .ok (.iaload, 1) := by decide +kernel
theorem d_Model_guard_62 : decode prog_8_method_38_code 62 = .ok (.ireturn, 1) := by decide +kernel
theorem d_Model_guard_63 : decode prog_8_method_38_code 63 = .ok (.aload_n 0, 1) := by decide +kernel
theorem d_Model_guard_64 : decode prog_8_method_38_code 64 = .ok (.getfield 66, 3) := by decide +kernel
theorem d_Model_guard_67 : decode prog_8_method_38_code 67 = .ok (.iload_n 1, 1) := by decide +kernel
theorem d_Model_guard_68 : decode prog_8_method_38_code 68 = .ok (.iaload, 1) := by decide +kernel
theorem d_Model_guard_69 : decode prog_8_method_38_code 69 = .ok (.ireturn, 1) := by decide +kernel
theorem d_Model_guard_70 : decode prog_8_method_38_code 70 = .ok (.aload_n 0, 1) := by decide +kernel
theorem d_Model_guard_71 : decode prog_8_method_38_code 71 = .ok (.getfield 69, 3) := by decide +kernel
theorem d_Model_guard_74 : decode prog_8_method_38_code 74 = .ok (.iload_n 1, 1) := by decide +kernel
theorem d_Model_guard_75 : decode prog_8_method_38_code 75 = .ok (.iaload, 1) := by decide +kernel
theorem d_Model_guard_76 : decode prog_8_method_38_code 76 = .ok (.ireturn, 1) := by decide +kernel
theorem d_Model_guard_77 : decode prog_8_method_38_code 77 = .ok (.aload_n 0, 1) := by decide +kernel
theorem d_Model_guard_78 : decode prog_8_method_38_code 78 = .ok (.getfield 72, 3) := by decide +kernel
theorem d_Model_guard_81 : decode prog_8_method_38_code 81 = .ok (.iload_n 1, 1) := by decide +kernel
theorem d_Model_guard_82 : decode prog_8_method_38_code 82 = .ok (.iaload, 1) := by decide +kernel
theorem d_Model_guard_83 : decode prog_8_method_38_code 83 = .ok (.ireturn, 1) := by decide +kernel
theorem d_Model_guard_84 : decode prog_8_method_38_code 84 = .ok (.iconst (-1), 1) := by decide +kernel
theorem d_Model_guard_85 : decode prog_8_method_38_code 85 = .ok (.ireturn, 1) := by decide +kernel
theorem d_Model_about_0 : decode prog_8_method_39_code 0 = .ok (.iload_n 1, 1) := by decide +kernel
theorem d_Model_about_1 : decode prog_8_method_39_code 1 = .ok (.iconst 0, 1) := by decide +kernel
theorem d_Model_about_2 : decode prog_8_method_39_code 2 = .ok (.bipush 7, 2) := by decide +kernel
theorem d_Model_about_4 : decode prog_8_method_39_code 4 = .ok (.invokestatic 75, 3) := by decide +kernel
theorem d_Model_about_7 : decode prog_8_method_39_code 7 = .ok (.ifCond .ne 5, 3) := by decide +kernel
theorem d_Model_about_10 : decode prog_8_method_39_code 10 = .ok (.iconst (-1), 1) := by decide +kernel
theorem d_Model_about_11 : decode prog_8_method_39_code 11 = .ok (.ireturn, 1) := by decide +kernel
theorem d_Model_about_12 : decode prog_8_method_39_code 12 = .ok (.aload_n 0, 1) := by decide +kernel
theorem d_Model_about_13 : decode prog_8_method_39_code 13 = .ok (.getfield 138, 3) := by decide +kernel
theorem d_Model_about_16 : decode prog_8_method_39_code 16 = .ok (.ifCond .ne 5, 3) := by decide +kernel
theorem d_Model_about_19 : decode prog_8_method_39_code 19 = .ok (.iconst 0, 1) := by decide +kernel
theorem d_Model_about_20 : decode prog_8_method_39_code 20 = .ok (.ireturn, 1) := by decide +kernel
theorem d_Model_about_21 : decode prog_8_method_39_code 21 = .ok (.iload_n 1, 1) := by decide +kernel
theorem d_Model_about_22 : decode prog_8_method_39_code 22 = .ok (.tableswitch 77 0 6 #[42, 47, 52, 57, 62, 67, 72], 42) := by decide +kernel
theorem d_Model_about_64 : decode prog_8_method_39_code 64 = .ok (.aload_n 0, 1) := by decide +kernel
theorem d_Model_about_65 : decode prog_8_method_39_code 65 = .ok (.getfield 135, 3) := by decide +kernel
theorem d_Model_about_68 : decode prog_8_method_39_code 68 = .ok (.ireturn, 1) := by decide +kernel
theorem d_Model_about_69 : decode prog_8_method_39_code 69 = .ok (.aload_n 0, 1) := by decide +kernel
theorem d_Model_about_70 : decode prog_8_method_39_code 70 = .ok (.getfield 181, 3) := by decide +kernel
theorem d_Model_about_73 : decode prog_8_method_39_code 73 = .ok (.ireturn, 1) := by decide +kernel
theorem d_Model_about_74 : decode prog_8_method_39_code 74 = .ok (.aload_n 0, 1) := by decide +kernel
theorem d_Model_about_75 : decode prog_8_method_39_code 75 = .ok (.getfield 184, 3) := by decide +kernel
theorem d_Model_about_78 : decode prog_8_method_39_code 78 = .ok (.ireturn, 1) := by decide +kernel
theorem d_Model_about_79 : decode prog_8_method_39_code 79 = .ok (.aload_n 0, 1) := by decide +kernel
theorem d_Model_about_80 : decode prog_8_method_39_code 80 = .ok (.getfield 149, 3) := by decide +kernel
theorem d_Model_about_83 : decode prog_8_method_39_code 83 = .ok (.ireturn, 1) := by decide +kernel
theorem d_Model_about_84 : decode prog_8_method_39_code 84 = .ok (.aload_n 0, 1) := by decide +kernel
theorem d_Model_about_85 : decode prog_8_method_39_code 85 = .ok (.getfield 187, 3) := by decide +kernel
theorem d_Model_about_88 : decode prog_8_method_39_code 88 = .ok (.ireturn, 1) := by decide +kernel
theorem d_Model_about_89 : decode prog_8_method_39_code 89 = .ok (.aload_n 0, 1) := by decide +kernel
theorem d_Model_about_90 : decode prog_8_method_39_code 90 = .ok (.getfield 190, 3) := by decide +kernel
theorem d_Model_about_93 : decode prog_8_method_39_code 93 = .ok (.ireturn, 1) := by decide +kernel
theorem d_Model_about_94 : decode prog_8_method_39_code 94 = .ok (.aload_n 0, 1) := by decide +kernel
theorem d_Model_about_95 : decode prog_8_method_39_code 95 = .ok (.getfield 171, 3) := by decide +kernel
theorem d_Model_about_98 : decode prog_8_method_39_code 98 = .ok (.ireturn, 1) := by decide +kernel
theorem d_Model_about_99 : decode prog_8_method_39_code 99 = .ok (.aload_n 0, 1) := by decide +kernel
theorem d_Model_about_100 : decode prog_8_method_39_code 100 = .ok (.getfield 174, 3) := by decide +kernel
theorem d_Model_about_103 : decode prog_8_method_39_code 103 = .ok (.ireturn, 1) := by decide +kernel
theorem d_Model_count_0 : decode prog_8_method_40_code 0 = .ok (.iload_n 1, 1) := by decide +kernel
theorem d_Model_count_1 : decode prog_8_method_40_code 1 = .ok (.ifCond .ne 10, 3) := by decide +kernel
theorem d_Model_count_4 : decode prog_8_method_40_code 4 = .ok (.aload_n 0, 1) := by decide +kernel
theorem d_Model_count_5 : decode prog_8_method_40_code 5 = .ok (.getfield 79, 3) := by decide +kernel
theorem d_Model_count_8 : decode prog_8_method_40_code 8 = .ok (.goto 28, 3) := by decide +kernel
theorem d_Model_count_11 : decode prog_8_method_40_code 11 = .ok (.iload_n 1, 1) := by decide +kernel
theorem d_Model_count_12 : decode prog_8_method_40_code 12 = .ok (.iconst 1, 1) := by decide +kernel
theorem d_Model_count_13 : decode prog_8_method_40_code 13 = .ok (.if_icmp .ne 10, 3) := by decide +kernel
theorem d_Model_count_16 : decode prog_8_method_40_code 16 = .ok (.aload_n 0, 1) := by decide +kernel
theorem d_Model_count_17 : decode prog_8_method_40_code 17 = .ok (.getfield 84, 3) := by decide +kernel
theorem d_Model_count_20 : decode prog_8_method_40_code 20 = .ok (.goto 16, 3) := by decide +kernel
theorem d_Model_count_23 : decode prog_8_method_40_code 23 = .ok (.iload_n 1, 1) := by decide +kernel
theorem d_Model_count_24 : decode prog_8_method_40_code 24 = .ok (.iconst 2, 1) := by decide +kernel
theorem d_Model_count_25 : decode prog_8_method_40_code 25 = .ok (.if_icmp .ne 10, 3) := by decide +kernel
theorem d_Model_count_28 : decode prog_8_method_40_code 28 = .ok (.aload_n 0, 1) := by decide +kernel
theorem d_Model_count_29 : decode prog_8_method_40_code 29 = .ok (.getfield 161, 3) := by decide +kernel
theorem d_Model_count_32 : decode prog_8_method_40_code 32 = .ok (.goto 4, 3) := by decide +kernel
theorem d_Model_count_35 : decode prog_8_method_40_code 35 = .ok (.iconst (-1), 1) := by decide +kernel
theorem d_Model_count_36 : decode prog_8_method_40_code 36 = .ok (.ireturn, 1) := by decide +kernel
