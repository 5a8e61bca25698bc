theorem dc_Mod_init_0 : decode prog_13_method_1_code 0 = .ok (.aload_n 0, 1) := by decide +kernel
theorem dc_Mod_init_1 : decode prog_13_method_1_code 1 = .ok (.invokespecial 1, 3) := by decide +kernel
theorem dc_Mod_init_4 : decode prog_13_method_1_code 4 = .ok (.aload_n 0, 1) := by decide +kernel
theorem dc_Mod_init_5 : decode prog_13_method_1_code 5 = .ok (.bipush 6, 2) := by decide +kernel
theorem dc_Mod_init_7 : decode prog_13_method_1_code 7 = .ok (.newarray .boolean, 2) := by decide +kernel
theorem dc_Mod_init_9 : decode prog_13_method_1_code 9 = .ok (.putfield 7, 3) := by decide +kernel
theorem dc_Mod_init_12 : decode prog_13_method_1_code 12 = .ok (.aload_n 0, 1) := by decide +kernel
theorem dc_Mod_init_13 : decode prog_13_method_1_code 13 = .ok (.bipush 6, 2) := by decide +kernel
theorem dc_Mod_init_15 : decode prog_13_method_1_code 15 = .ok (.newarray .boolean, 2) := by decide +kernel
theorem dc_Mod_init_17 : decode prog_13_method_1_code 17 = .ok (.putfield 13, 3) := by decide +kernel
theorem dc_Mod_init_20 : decode prog_13_method_1_code 20 = .ok (.aload_n 0, 1) := by decide +kernel
theorem dc_Mod_init_21 : decode prog_13_method_1_code 21 = .ok (.bipush 6, 2) := by decide +kernel
theorem dc_Mod_init_23 : decode prog_13_method_1_code 23 = .ok (.newarray .double, 2) := by decide +kernel
theorem dc_Mod_init_25 : decode prog_13_method_1_code 25 = .ok (.putfield 16, 3) := by decide +kernel
theorem dc_Mod_init_28 : decode prog_13_method_1_code 28 = .ok (.aload_n 0, 1) := by decide +kernel
theorem dc_Mod_init_29 : decode prog_13_method_1_code 29 = .ok (.bipush 6, 2) := by decide +kernel
theorem dc_Mod_init_31 : decode prog_13_method_1_code 31 = .ok (.newarray .int, 2) := by decide +kernel
theorem dc_Mod_init_33 : decode prog_13_method_1_code 33 = .ok (.putfield 20, 3) := by decide +kernel
theorem dc_Mod_init_36 : decode prog_13_method_1_code 36 = .ok (.aload_n 0, 1) := by decide +kernel
theorem dc_Mod_init_37 : decode prog_13_method_1_code 37 = .ok (.bipush 6, 2) := by decide +kernel
theorem dc_Mod_init_39 : decode prog_13_method_1_code 39 = .ok (.newarray .int, 2) := by decide +kernel
theorem dc_Mod_init_41 : decode prog_13_method_1_code 41 = .ok (.putfield 24, 3) := by decide +kernel
theorem dc_Mod_init_44 : decode prog_13_method_1_code 44 = .ok (.aload_n 0, 1) := by decide +kernel
theorem dc_Mod_init_45 : decode prog_13_method_1_code 45 = .ok (.bipush 6, 2) := by decide +kernel
theorem dc_Mod_init_47 : decode prog_13_method_1_code 47 = .ok (.newarray .int, 2) := by decide +kernel
theorem dc_Mod_init_49 : decode prog_13_method_1_code 49 = .ok (.putfield 27, 3) := by decide +kernel
theorem dc_Mod_init_52 : decode prog_13_method_1_code 52 = .ok (.aload_n 0, 1) := by decide +kernel
theorem dc_Mod_init_53 : decode prog_13_method_1_code 53 = .ok (.bipush 6, 2) := by decide +kernel
theorem dc_Mod_init_55 : decode prog_13_method_1_code 55 = .ok (.newarray .double, 2) := by decide +kernel
theorem dc_Mod_init_57 : decode prog_13_method_1_code 57 = .ok (.putfield 30, 3) := by decide +kernel
theorem dc_Mod_init_60 : decode prog_13_method_1_code 60 = .ok (.aload_n 0, 1) := by decide +kernel
theorem dc_Mod_init_61 : decode prog_13_method_1_code 61 = .ok (.bipush 6, 2) := by decide +kernel
theorem dc_Mod_init_63 : decode prog_13_method_1_code 63 = .ok (.newarray .double, 2) := by decide +kernel
theorem dc_Mod_init_65 : decode prog_13_method_1_code 65 = .ok (.putfield 33, 3) := by decide +kernel
theorem dc_Mod_init_68 : decode prog_13_method_1_code 68 = .ok (.aload_n 0, 1) := by decide +kernel
theorem dc_Mod_init_69 : decode prog_13_method_1_code 69 = .ok (.bipush 6, 2) := by decide +kernel
theorem dc_Mod_init_71 : decode prog_13_method_1_code 71 = .ok (.newarray .int, 2) := by decide +kernel
theorem dc_Mod_init_73 : decode prog_13_method_1_code 73 = .ok (.putfield 36, 3) := by decide +kernel
theorem dc_Mod_init_76 : decode prog_13_method_1_code 76 = .ok (.aload_n 0, 1) := by decide +kernel
theorem dc_Mod_init_77 : decode prog_13_method_1_code 77 = .ok (.bipush 6, 2) := by decide +kernel
theorem dc_Mod_init_79 : decode prog_13_method_1_code 79 = .ok (.newarray .int, 2) := by decide +kernel
theorem dc_Mod_init_81 : decode prog_13_method_1_code 81 = .ok (.putfield 39, 3) := by decide +kernel
theorem dc_Mod_init_84 : decode prog_13_method_1_code 84 = .ok (.aload_n 0, 1) := by decide +kernel
theorem dc_Mod_init_85 : decode prog_13_method_1_code 85 = .ok (.bipush 8, 2) := by decide +kernel
theorem dc_Mod_init_87 : decode prog_13_method_1_code 87 = .ok (.newarray .int, 2) := by decide +kernel
theorem dc_Mod_init_89 : decode prog_13_method_1_code 89 = .ok (.putfield 42, 3) := by decide +kernel
theorem dc_Mod_init_92 : decode prog_13_method_1_code 92 = .ok (.aload_n 0, 1) := by decide +kernel
theorem dc_Mod_init_93 : decode prog_13_method_1_code 93 = .ok (.bipush 8, 2) := by decide +kernel
theorem dc_Mod_init_95 : decode prog_13_method_1_code 95 = .ok (.newarray .int, 2) := by decide +kernel
theorem dc_Mod_init_97 : decode prog_13_method_1_code 97 = .ok (.putfield 45, 3) := by decide +kernel
theorem dc_Mod_init_100 : decode prog_13_method_1_code 100 = .ok (.aload_n 0, 1) := by decide +kernel
theorem dc_Mod_init_101 : decode prog_13_method_1_code 101 = .ok (.bipush 8, 2) := by decide +kernel
theorem dc_Mod_init_103 : decode prog_13_method_1_code 103 = .ok (.newarray .int, 2) := by decide +kernel
theorem dc_Mod_init_105 : decode prog_13_method_1_code 105 = .ok (.putfield 48, 3) := by decide +kernel
theorem dc_Mod_init_108 : decode prog_13_method_1_code 108 = .ok (.aload_n 0, 1) := by decide +kernel
theorem dc_Mod_init_109 : decode prog_13_method_1_code 109 = .ok (.bipush 8, 2) := by decide +kernel
theorem dc_Mod_init_111 : decode prog_13_method_1_code 111 = .ok (.newarray .int, 2) := by decide +kernel
theorem dc_Mod_init_113 : decode prog_13_method_1_code 113 = .ok (.putfield 51, 3) := by decide +kernel
theorem dc_Mod_init_116 : decode prog_13_method_1_code 116 = .ok (.aload_n 0, 1) := by decide +kernel
theorem dc_Mod_init_117 : decode prog_13_method_1_code 117 = .ok (.bipush 8, 2) := by decide +kernel
theorem dc_Mod_init_119 : decode prog_13_method_1_code 119 = .ok (.newarray .int, 2) := by decide +kernel
theorem dc_Mod_init_121 : decode prog_13_method_1_code 121 = .ok (.putfield 54, 3) := by decide +kernel
theorem dc_Mod_init_124 : decode prog_13_method_1_code 124 = .ok (.aload_n 0, 1) := by decide +kernel
theorem dc_Mod_init_125 : decode prog_13_method_1_code 125 = .ok (.bipush 48, 2) := by decide +kernel
theorem dc_Mod_init_127 : decode prog_13_method_1_code 127 = .ok (.newarray .int, 2) := by decide +kernel
theorem dc_Mod_init_129 : decode prog_13_method_1_code 129 = .ok (.putfield 57, 3) := by decide +kernel
theorem dc_Mod_init_132 : decode prog_13_method_1_code 132 = .ok (.aload_n 0, 1) := by decide +kernel
theorem dc_Mod_init_133 : decode prog_13_method_1_code 133 = .ok (.bipush 48, 2) := by decide +kernel
theorem dc_Mod_init_135 : decode prog_13_method_1_code 135 = .ok (.newarray .int, 2) := by decide +kernel
theorem dc_Mod_init_137 : decode prog_13_method_1_code 137 = .ok (.putfield 60, 3) := by decide +kernel
theorem dc_Mod_init_140 : decode prog_13_method_1_code 140 = .ok (.aload_n 0, 1) := by decide +kernel
theorem dc_Mod_init_141 : decode prog_13_method_1_code 141 = .ok (.bipush 8, 2) := by decide +kernel
theorem dc_Mod_init_143 : decode prog_13_method_1_code 143 = .ok (.newarray .int, 2) := by decide +kernel
theorem dc_Mod_init_145 : decode prog_13_method_1_code 145 = .ok (.putfield 63, 3) := by decide +kernel
theorem dc_Mod_init_148 : decode prog_13_method_1_code 148 = .ok (.aload_n 0, 1) := by decide +kernel
theorem dc_Mod_init_149 : decode prog_13_method_1_code 149 = .ok (.bipush 8, 2) := by decide +kernel
theorem dc_Mod_init_151 : decode prog_13_method_1_code 151 = .ok (.newarray .double, 2) := by decide +kernel
theorem dc_Mod_init_153 : decode prog_13_method_1_code 153 = .ok (.putfield 66, 3) := by decide +kernel
theorem dc_Mod_init_156 : decode prog_13_method_1_code 156 = .ok (.aload_n 0, 1) := by decide +kernel
theorem dc_Mod_init_157 : decode prog_13_method_1_code 157 = .ok (.bipush 8, 2) := by decide +kernel
theorem dc_Mod_init_159 : decode prog_13_method_1_code 159 = .ok (.newarray .int, 2) := by decide +kernel
theorem dc_Mod_init_161 : decode prog_13_method_1_code 161 = .ok (.putfield 69, 3) := by decide +kernel
theorem dc_Mod_init_164 : decode prog_13_method_1_code 164 = .ok (.aload_n 0, 1) := by decide +kernel
theorem dc_Mod_init_165 : decode prog_13_method_1_code 165 = .ok (.bipush 64, 2) := by decide +kernel
theorem dc_Mod_init_167 : decode prog_13_method_1_code 167 = .ok (.newarray .boolean, 2) := by decide +kernel
theorem dc_Mod_init_169 : decode prog_13_method_1_code 169 = .ok (.putfield 72, 3) := by decide +kernel
theorem dc_Mod_init_172 : decode prog_13_method_1_code 172 = .ok (.aload_n 0, 1) := by decide +kernel
theorem dc_Mod_init_173 : decode prog_13_method_1_code 173 = .ok (.bipush 8, 2) := by decide +kernel
theorem dc_Mod_init_175 : decode prog_13_method_1_code 175 = .ok (.newarray .boolean, 2) := by decide +kernel
theorem dc_Mod_init_177 : decode prog_13_method_1_code 177 = .ok (.putfield 75, 3) := by decide +kernel
theorem dc_Mod_init_180 : decode prog_13_method_1_code 180 = .ok (.iconst 0, 1) := by decide +kernel
theorem dc_Mod_init_181 : decode prog_13_method_1_code 181 = .ok (.istore_n 1, 1) := by decide +kernel
theorem dc_Mod_init_182 : decode prog_13_method_1_code 182 = .ok (.iload_n 1, 1) := by decide +kernel
theorem dc_Mod_init_183 : decode prog_13_method_1_code 183 = .ok (.bipush 6, 2) := by decide +kernel
theorem dc_Mod_init_185 : decode prog_13_method_1_code 185 = .ok (.if_icmp .ge 23, 3) := by decide +kernel
theorem dc_Mod_init_188 : decode prog_13_method_1_code 188 = .ok (.aload_n 0, 1) := by decide +kernel
theorem dc_Mod_init_189 : decode prog_13_method_1_code 189 = .ok (.getfield 20, 3) := by decide +kernel
theorem dc_Mod_init_192 : decode prog_13_method_1_code 192 = .ok (.iload_n 1, 1) := by decide +kernel
theorem dc_Mod_init_193 : decode prog_13_method_1_code 193 = .ok (.iconst (-1), 1) := by decide +kernel
theorem dc_Mod_init_194 : decode prog_13_method_1_code 194 = .ok (.iastore, 1) := by decide +kernel
theorem dc_Mod_init_195 : decode prog_13_method_1_code 195 = .ok (.aload_n 0, 1) := by decide +kernel
theorem dc_Mod_init_196 : decode prog_13_method_1_code 196 = .ok (.getfield 24, 3) := by decide +kernel
theorem dc_Mod_init_199 : decode prog_13_method_1_code 199 = .ok (.iload_n 1, 1) := by decide +kernel
theorem dc_Mod_init_200 : decode prog_13_method_1_code 200 = .ok (.iconst (-1), 1) := by decide +kernel
theorem dc_Mod_init_201 : decode prog_13_method_1_code 201 = .ok (.iastore, 1) := by decide +kernel
theorem dc_Mod_init_202 : decode prog_13_method_1_code 202 = .ok (.iinc 1 1, 3) := by decide +kernel
theorem dc_Mod_init_205 : decode prog_13_method_1_code 205 = .ok (.goto (-23), 3) := by decide +kernel
theorem dc_Mod_init_208 : decode prog_13_method_1_code 208 = .ok (.iconst 0, 1) := by decide +kernel
theorem dc_Mod_init_209 : decode prog_13_method_1_code 209 = .ok (.istore_n 1, 1) := by decide +kernel
theorem dc_Mod_init_210 : decode prog_13_method_1_code 210 = .ok (.iload_n 1, 1) := by decide +kernel
theorem dc_Mod_init_211 : decode prog_13_method_1_code 211 = .ok (.bipush 8, 2) := by decide +kernel
theorem dc_Mod_init_213 : decode prog_13_method_1_code 213 = .ok (.if_icmp .ge 23, 3) := by decide +kernel
theorem dc_Mod_init_216 : decode prog_13_method_1_code 216 = .ok (.aload_n 0, 1) := by decide +kernel
theorem dc_Mod_init_217 : decode prog_13_method_1_code 217 = .ok (.getfield 42, 3) := by decide +kernel
theorem dc_Mod_init_220 : decode prog_13_method_1_code 220 = .ok (.iload_n 1, 1) := by decide +kernel
theorem dc_Mod_init_221 : decode prog_13_method_1_code 221 = .ok (.iconst (-1), 1) := by decide +kernel
theorem dc_Mod_init_222 : decode prog_13_method_1_code 222 = .ok (.iastore, 1) := by decide +kernel
theorem dc_Mod_init_223 : decode prog_13_method_1_code 223 = .ok (.aload_n 0, 1) := by decide +kernel
theorem dc_Mod_init_224 : decode prog_13_method_1_code 224 = .ok (.getfield 45, 3) := by decide +kernel
theorem dc_Mod_init_227 : decode prog_13_method_1_code 227 = .ok (.iload_n 1, 1) := by decide +kernel
theorem dc_Mod_init_228 : decode prog_13_method_1_code 228 = .ok (.iconst (-1), 1) := by decide +kernel
theorem dc_Mod_init_229 : decode prog_13_method_1_code 229 = .ok (.iastore, 1) := by decide +kernel
theorem dc_Mod_init_230 : decode prog_13_method_1_code 230 = .ok (.iinc 1 1, 3) := by decide +kernel
theorem dc_Mod_init_233 : decode prog_13_method_1_code 233 = .ok (.goto (-23), 3) := by decide +kernel
theorem dc_Mod_init_236 : decode prog_13_method_1_code 236 = .ok (.return_, 1) := by decide +kernel
theorem dc_Mod_thrown_0 : decode prog_13_method_2_code 0 = .ok (.aload_n 0, 1) := by decide +kernel
theorem dc_Mod_thrown_1 : decode prog_13_method_2_code 1 = .ok (.getfield 78, 3) := by decide +kernel
theorem dc_Mod_thrown_4 : decode prog_13_method_2_code 4 = .ok (.ireturn, 1) := by decide +kernel
theorem dc_Mod_out_0 : decode prog_13_method_4_code 0 = .ok (.iload_n 1, 1) := by decide +kernel
theorem dc_Mod_out_1 : decode prog_13_method_4_code 1 = .ok (.ifCond .lt 8, 3) := by decide +kernel
theorem dc_Mod_out_4 : decode prog_13_method_4_code 4 = .ok (.iload_n 1, 1) := by decide +kernel
theorem dc_Mod_out_5 : decode prog_13_method_4_code 5 = .ok (.iload_n 2, 1) := by decide +kernel
theorem dc_Mod_out_6 : decode prog_13_method_4_code 6 = .ok (.if_icmp .lt 7, 3) := by decide +kernel
theorem dc_Mod_out_9 : decode prog_13_method_4_code 9 = .ok (.iconst 1, 1) := by decide +kernel
theorem dc_Mod_out_10 : decode prog_13_method_4_code 10 = .ok (.goto 4, 3) := by decide +kernel
theorem dc_Mod_out_13 : decode prog_13_method_4_code 13 = .ok (.iconst 0, 1) := by decide +kernel
theorem dc_Mod_out_14 : decode prog_13_method_4_code 14 = .ok (.ireturn, 1) := by decide +kernel
theorem dc_Mod_fail_0 : decode prog_13_method_3_code 0 = .ok (.aload_n 0, 1) := by decide +kernel
theorem dc_Mod_fail_1 : decode prog_13_method_3_code 1 = .ok (.iload_n 1, 1) := by decide +kernel
theorem dc_Mod_fail_2 : decode prog_13_method_3_code 2 = .ok (.putfield 78, 3) := by decide +kernel
theorem dc_Mod_fail_5 : decode prog_13_method_3_code 5 = .ok (.iconst 0, 1) := by decide +kernel
theorem dc_Mod_fail_6 : decode prog_13_method_3_code 6 = .ok (.ireturn, 1) := by decide +kernel
theorem dc_Mod_make_0 : decode prog_13_method_5_code 0 = .ok (.aload_n 0, 1) := by decide +kernel
theorem dc_Mod_make_1 : decode prog_13_method_5_code 1 = .ok (.iconst 0, 1) := by decide +kernel
theorem dc_Mod_make_2 : decode prog_13_method_5_code 2 = .ok (.putfield 78, 3) := by decide +kernel
theorem dc_Mod_make_5 : decode prog_13_method_5_code 5 = .ok (.iload_n 2, 1) := by decide +kernel
theorem dc_Mod_make_6 : decode prog_13_method_5_code 6 = .ok (.iconst 2, 1) := by decide +kernel
theorem dc_Mod_make_7 : decode prog_13_method_5_code 7 = .ok (.if_icmp .lt 12, 3) := by decide +kernel
theorem dc_Mod_make_10 : decode prog_13_method_5_code 10 = .ok (.iload_n 2, 1) := by decide +kernel
theorem dc_Mod_make_11 : decode prog_13_method_5_code 11 = .ok (.iconst 4, 1) := by decide +kernel
theorem dc_Mod_make_12 : decode prog_13_method_5_code 12 = .ok (.if_icmp .gt 7, 3) := by decide +kernel
theorem dc_Mod_make_15 : decode prog_13_method_5_code 15 = .ok (.iconst 5, 1) := by decide +kernel
theorem dc_Mod_make_16 : decode prog_13_method_5_code 16 = .ok (.goto 15, 3) := by decide +kernel
theorem dc_Mod_make_19 : decode prog_13_method_5_code 19 = .ok (.iload_n 2, 1) := by decide +kernel
theorem dc_Mod_make_20 : decode prog_13_method_5_code 20 = .ok (.bipush 6, 2) := by decide +kernel
theorem dc_Mod_make_22 : decode prog_13_method_5_code 22 = .ok (.if_icmp .ne 8, 3) := by decide +kernel
theorem dc_Mod_make_25 : decode prog_13_method_5_code 25 = .ok (.bipush 7, 2) := by decide +kernel
theorem dc_Mod_make_27 : decode prog_13_method_5_code 27 = .ok (.goto 4, 3) := by decide +kernel
theorem dc_Mod_make_30 : decode prog_13_method_5_code 30 = .ok (.iconst 0, 1) := by decide +kernel
theorem dc_Mod_make_31 : decode prog_13_method_5_code 31 = .ok (.istore 4, 2) := by decide +kernel
theorem dc_Mod_make_33 : decode prog_13_method_5_code 33 = .ok (.aload_n 0, 1) := by decide +kernel
theorem dc_Mod_make_34 : decode prog_13_method_5_code 34 = .ok (.iload_n 1, 1) := by decide +kernel
theorem dc_Mod_make_35 : decode prog_13_method_5_code 35 = .ok (.bipush 8, 2) := by decide +kernel
theorem dc_Mod_make_37 : decode prog_13_method_5_code 37 = .ok (.invokevirtual 82, 3) := by decide +kernel
theorem dc_Mod_make_40 : decode prog_13_method_5_code 40 = .ok (.ifCond .ne 25, 3) := by decide +kernel
theorem dc_Mod_make_43 : decode prog_13_method_5_code 43 = .ok (.aload_n 0, 1) := by decide +kernel
theorem dc_Mod_make_44 : decode prog_13_method_5_code 44 = .ok (.iload_n 2, 1) := by decide +kernel
theorem dc_Mod_make_45 : decode prog_13_method_5_code 45 = .ok (.bipush 7, 2) := by decide +kernel
theorem dc_Mod_make_47 : decode prog_13_method_5_code 47 = .ok (.invokevirtual 82, 3) := by decide +kernel
theorem dc_Mod_make_50 : decode prog_13_method_5_code 50 = .ok (.ifCond .ne 15, 3) := by decide +kernel
theorem dc_Mod_make_53 : decode prog_13_method_5_code 53 = .ok (.aload_n 0, 1) := by decide +kernel
theorem dc_Mod_make_54 : decode prog_13_method_5_code 54 = .ok (.iload_n 3, 1) := by decide +kernel
theorem dc_Mod_make_55 : decode prog_13_method_5_code 55 = .ok (.iload 4, 2) := by decide +kernel
theorem dc_Mod_make_57 : decode prog_13_method_5_code 57 = .ok (.iconst 1, 1) := by decide +kernel
theorem dc_Mod_make_58 : decode prog_13_method_5_code 58 = .ok (.iadd, 1) := by decide +kernel
theorem dc_Mod_make_59 : decode prog_13_method_5_code 59 = .ok (.invokevirtual 82, 3) := by decide +kernel
theorem dc_Mod_make_62 : decode prog_13_method_5_code 62 = .ok (.ifCond .eq 9, 3) := by decide +kernel
theorem dc_Mod_make_65 : decode prog_13_method_5_code 65 = .ok (.aload_n 0, 1) := by decide +kernel
theorem dc_Mod_make_66 : decode prog_13_method_5_code 66 = .ok (.iconst 1, 1) := by decide +kernel
theorem dc_Mod_make_67 : decode prog_13_method_5_code 67 = .ok (.invokevirtual 86, 3) := by decide +kernel
theorem dc_Mod_make_70 : decode prog_13_method_5_code 70 = .ok (.ireturn, 1) := by decide +kernel
theorem dc_Mod_make_71 : decode prog_13_method_5_code 71 = .ok (.iload_n 2, 1) := by decide +kernel
theorem dc_Mod_make_72 : decode prog_13_method_5_code 72 = .ok (.bipush 6, 2) := by decide +kernel
theorem dc_Mod_make_74 : decode prog_13_method_5_code 74 = .ok (.if_icmp .ne 28, 3) := by decide +kernel
theorem dc_Mod_make_77 : decode prog_13_method_5_code 77 = .ok (.aload_n 0, 1) := by decide +kernel
theorem dc_Mod_make_78 : decode prog_13_method_5_code 78 = .ok (.getfield 42, 3) := by decide +kernel
theorem dc_Mod_make_81 : decode prog_13_method_5_code 81 = .ok (.iload_n 3, 1) := by decide +kernel
theorem dc_Mod_make_82 : decode prog_13_method_5_code 82 = .ok (.iaload, 1) := by decide +kernel
theorem dc_Mod_make_83 : decode prog_13_method_5_code 83 = .ok (.ifCond .eq 19, 3) := by decide +kernel
theorem dc_Mod_make_86 : decode prog_13_method_5_code 86 = .ok (.aload_n 0, 1) := by decide +kernel
theorem dc_Mod_make_87 : decode prog_13_method_5_code 87 = .ok (.getfield 42, 3) := by decide +kernel
theorem dc_Mod_make_90 : decode prog_13_method_5_code 90 = .ok (.iload_n 3, 1) := by decide +kernel
theorem dc_Mod_make_91 : decode prog_13_method_5_code 91 = .ok (.iaload, 1) := by decide +kernel
theorem dc_Mod_make_92 : decode prog_13_method_5_code 92 = .ok (.iconst 1, 1) := by decide +kernel
theorem dc_Mod_make_93 : decode prog_13_method_5_code 93 = .ok (.if_icmp .eq 9, 3) := by decide +kernel
theorem dc_Mod_make_96 : decode prog_13_method_5_code 96 = .ok (.aload_n 0, 1) := by decide +kernel
theorem dc_Mod_make_97 : decode prog_13_method_5_code 97 = .ok (.iconst 2, 1) := by decide +kernel
theorem dc_Mod_make_98 : decode prog_13_method_5_code 98 = .ok (.invokevirtual 86, 3) := by decide +kernel
theorem dc_Mod_make_101 : decode prog_13_method_5_code 101 = .ok (.ireturn, 1) := by decide +kernel
theorem dc_Mod_make_102 : decode prog_13_method_5_code 102 = .ok (.aload_n 0, 1) := by decide +kernel
theorem dc_Mod_make_103 : decode prog_13_method_5_code 103 = .ok (.getfield 42, 3) := by decide +kernel
theorem dc_Mod_make_106 : decode prog_13_method_5_code 106 = .ok (.iload_n 1, 1) := by decide +kernel
theorem dc_Mod_make_107 : decode prog_13_method_5_code 107 = .ok (.iaload, 1) := by decide +kernel
theorem dc_Mod_make_108 : decode prog_13_method_5_code 108 = .ok (.ifCond .lt 9, 3) := by decide +kernel
theorem dc_Mod_make_111 : decode prog_13_method_5_code 111 = .ok (.aload_n 0, 1) := by decide +kernel
theorem dc_Mod_make_112 : decode prog_13_method_5_code 112 = .ok (.iconst 3, 1) := by decide +kernel
theorem dc_Mod_make_113 : decode prog_13_method_5_code 113 = .ok (.invokevirtual 86, 3) := by decide +kernel
theorem dc_Mod_make_116 : decode prog_13_method_5_code 116 = .ok (.ireturn, 1) := by decide +kernel
theorem dc_Mod_make_117 : decode prog_13_method_5_code 117 = .ok (.aload_n 0, 1) := by decide +kernel
theorem dc_Mod_make_118 : decode prog_13_method_5_code 118 = .ok (.getfield 42, 3) := by decide +kernel
theorem dc_Mod_make_121 : decode prog_13_method_5_code 121 = .ok (.iload_n 1, 1) := by decide +kernel
theorem dc_Mod_make_122 : decode prog_13_method_5_code 122 = .ok (.iload_n 2, 1) := by decide +kernel
theorem dc_Mod_make_123 : decode prog_13_method_5_code 123 = .ok (.iastore, 1) := by decide +kernel
theorem dc_Mod_make_124 : decode prog_13_method_5_code 124 = .ok (.aload_n 0, 1) := by decide +kernel
theorem dc_Mod_make_125 : decode prog_13_method_5_code 125 = .ok (.getfield 51, 3) := by decide +kernel
theorem dc_Mod_make_128 : decode prog_13_method_5_code 128 = .ok (.iload_n 1, 1) := by decide +kernel
theorem dc_Mod_make_129 : decode prog_13_method_5_code 129 = .ok (.iload_n 2, 1) := by decide +kernel
theorem dc_Mod_make_130 : decode prog_13_method_5_code 130 = .ok (.iconst 2, 1) := by decide +kernel
theorem dc_Mod_make_131 : decode prog_13_method_5_code 131 = .ok (.if_icmp .lt 12, 3) := by decide +kernel
theorem dc_Mod_make_134 : decode prog_13_method_5_code 134 = .ok (.iload_n 2, 1) := by decide +kernel
theorem dc_Mod_make_135 : decode prog_13_method_5_code 135 = .ok (.iconst 4, 1) := by decide +kernel
theorem dc_Mod_make_136 : decode prog_13_method_5_code 136 = .ok (.if_icmp .gt 7, 3) := by decide +kernel
theorem dc_Mod_make_139 : decode prog_13_method_5_code 139 = .ok (.iload_n 3, 1) := by decide +kernel
theorem dc_Mod_make_140 : decode prog_13_method_5_code 140 = .ok (.goto 4, 3) := by decide +kernel
theorem dc_Mod_make_143 : decode prog_13_method_5_code 143 = .ok (.iconst 0, 1) := by decide +kernel
theorem dc_Mod_make_144 : decode prog_13_method_5_code 144 = .ok (.iastore, 1) := by decide +kernel
theorem dc_Mod_make_145 : decode prog_13_method_5_code 145 = .ok (.aload_n 0, 1) := by decide +kernel
theorem dc_Mod_make_146 : decode prog_13_method_5_code 146 = .ok (.getfield 54, 3) := by decide +kernel
theorem dc_Mod_make_149 : decode prog_13_method_5_code 149 = .ok (.iload_n 1, 1) := by decide +kernel
theorem dc_Mod_make_150 : decode prog_13_method_5_code 150 = .ok (.iload_n 2, 1) := by decide +kernel
theorem dc_Mod_make_151 : decode prog_13_method_5_code 151 = .ok (.bipush 6, 2) := by decide +kernel
theorem dc_Mod_make_153 : decode prog_13_method_5_code 153 = .ok (.if_icmp .ne 7, 3) := by decide +kernel
theorem dc_Mod_make_156 : decode prog_13_method_5_code 156 = .ok (.iload_n 3, 1) := by decide +kernel
theorem dc_Mod_make_157 : decode prog_13_method_5_code 157 = .ok (.goto 4, 3) := by decide +kernel
theorem dc_Mod_make_160 : decode prog_13_method_5_code 160 = .ok (.iconst (-1), 1) := by decide +kernel
theorem dc_Mod_make_161 : decode prog_13_method_5_code 161 = .ok (.iastore, 1) := by decide +kernel
theorem dc_Mod_make_162 : decode prog_13_method_5_code 162 = .ok (.iconst 0, 1) := by decide +kernel
theorem dc_Mod_make_163 : decode prog_13_method_5_code 163 = .ok (.istore 5, 2) := by decide +kernel
theorem dc_Mod_make_165 : decode prog_13_method_5_code 165 = .ok (.iconst 0, 1) := by decide +kernel
theorem dc_Mod_make_166 : decode prog_13_method_5_code 166 = .ok (.istore 6, 2) := by decide +kernel
theorem dc_Mod_make_168 : decode prog_13_method_5_code 168 = .ok (.iload 6, 2) := by decide +kernel
theorem dc_Mod_make_170 : decode prog_13_method_5_code 170 = .ok (.bipush 8, 2) := by decide +kernel
theorem dc_Mod_make_172 : decode prog_13_method_5_code 172 = .ok (.if_icmp .ge 29, 3) := by decide +kernel
theorem dc_Mod_make_175 : decode prog_13_method_5_code 175 = .ok (.iload 5, 2) := by decide +kernel
theorem dc_Mod_make_177 : decode prog_13_method_5_code 177 = .ok (.aload_n 0, 1) := by decide +kernel
theorem dc_Mod_make_178 : decode prog_13_method_5_code 178 = .ok (.getfield 42, 3) := by decide +kernel
theorem dc_Mod_make_181 : decode prog_13_method_5_code 181 = .ok (.iload 6, 2) := by decide +kernel
theorem dc_Mod_make_183 : decode prog_13_method_5_code 183 = .ok (.iaload, 1) := by decide +kernel
theorem dc_Mod_make_184 : decode prog_13_method_5_code 184 = .ok (.ifCond .lt 7, 3) := by decide +kernel
theorem dc_Mod_make_187 : decode prog_13_method_5_code 187 = .ok (.iconst 1, 1) := by decide +kernel
theorem dc_Mod_make_188 : decode prog_13_method_5_code 188 = .ok (.goto 4, 3) := by decide +kernel
theorem dc_Mod_make_191 : decode prog_13_method_5_code 191 = .ok (.iconst 0, 1) := by decide +kernel
theorem dc_Mod_make_192 : decode prog_13_method_5_code 192 = .ok (.iadd, 1) := by decide +kernel
theorem dc_Mod_make_193 : decode prog_13_method_5_code 193 = .ok (.istore 5, 2) := by decide +kernel
theorem dc_Mod_make_195 : decode prog_13_method_5_code 195 = .ok (.iinc 6 1, 3) := by decide +kernel
theorem dc_Mod_make_198 : decode prog_13_method_5_code 198 = .ok (.goto (-30), 3) := by decide +kernel
theorem dc_Mod_make_201 : decode prog_13_method_5_code 201 = .ok (.iload 5, 2) := by decide +kernel
theorem dc_Mod_make_203 : decode prog_13_method_5_code 203 = .ok (.ireturn, 1) := by decide +kernel
theorem dc_Mod_rank_0 : decode prog_13_method_6_code 0 = .ok (.aload_n 0, 1) := by decide +kernel
theorem dc_Mod_rank_1 : decode prog_13_method_6_code 1 = .ok (.aload_n 0, 1) := by decide +kernel
theorem dc_Mod_rank_2 : decode prog_13_method_6_code 2 = .ok (.iload_n 1, 1) := by decide +kernel
theorem dc_Mod_rank_3 : decode prog_13_method_6_code 3 = .ok (.bipush 6, 2) := by decide +kernel
theorem dc_Mod_rank_5 : decode prog_13_method_6_code 5 = .ok (.invokevirtual 82, 3) := by decide +kernel
theorem dc_Mod_rank_8 : decode prog_13_method_6_code 8 = .ok (.ifCond .ne 19, 3) := by decide +kernel
theorem dc_Mod_rank_11 : decode prog_13_method_6_code 11 = .ok (.dload_n 2, 1) := by decide +kernel
theorem dc_Mod_rank_12 : decode prog_13_method_6_code 12 = .ok (.ldc2_w 90, 3) := by decide +kernel
theorem dc_Mod_rank_15 : decode prog_13_method_6_code 15 = .ok (.dcmp .l, 1) := by decide +kernel
theorem dc_Mod_rank_16 : decode prog_13_method_6_code 16 = .ok (.ifCond .lt 11, 3) := by decide +kernel
theorem dc_Mod_rank_19 : decode prog_13_method_6_code 19 = .ok (.dload_n 2, 1) := by decide +kernel
theorem dc_Mod_rank_20 : decode prog_13_method_6_code 20 = .ok (.ldc2_w 92, 3) := by decide +kernel
theorem dc_Mod_rank_23 : decode prog_13_method_6_code 23 = .ok (.dcmp .g, 1) := by decide +kernel
theorem dc_Mod_rank_24 : decode prog_13_method_6_code 24 = .ok (.ifCond .le 7, 3) := by decide +kernel
theorem dc_Mod_rank_27 : decode prog_13_method_6_code 27 = .ok (.iconst 1, 1) := by decide +kernel
theorem dc_Mod_rank_28 : decode prog_13_method_6_code 28 = .ok (.goto 4, 3) := by decide +kernel
theorem dc_Mod_rank_31 : decode prog_13_method_6_code 31 = .ok (.iconst 0, 1) := by decide +kernel
theorem dc_Mod_rank_32 : decode prog_13_method_6_code 32 = .ok (.putfield 78, 3) := by decide +kernel
theorem dc_Mod_rank_35 : decode prog_13_method_6_code 35 = .ok (.aload_n 0, 1) := by decide +kernel
theorem dc_Mod_rank_36 : decode prog_13_method_6_code 36 = .ok (.getfield 78, 3) := by decide +kernel
theorem dc_Mod_rank_39 : decode prog_13_method_6_code 39 = .ok (.ifCond .ne 10, 3) := by decide +kernel
theorem dc_Mod_rank_42 : decode prog_13_method_6_code 42 = .ok (.aload_n 0, 1) := by decide +kernel
theorem dc_Mod_rank_43 : decode prog_13_method_6_code 43 = .ok (.getfield 16, 3) := by decide +kernel
theorem dc_Mod_rank_46 : decode prog_13_method_6_code 46 = .ok (.iload_n 1, 1) := by decide +kernel
theorem dc_Mod_rank_47 : decode prog_13_method_6_code 47 = .ok (.dload_n 2, 1) := by decide +kernel
theorem dc_Mod_rank_48 : decode prog_13_method_6_code 48 = .ok (.dastore, 1) := by decide +kernel
theorem dc_Mod_rank_49 : decode prog_13_method_6_code 49 = .ok (.return_, 1) := by decide +kernel
theorem dc_Mod_badLimit_0 : decode prog_13_method_19_code 0 = .ok (.dload_n 1, 1) := by decide +kernel
theorem dc_Mod_badLimit_1 : decode prog_13_method_19_code 1 = .ok (.ldc2_w 116, 3) := by decide +kernel
theorem dc_Mod_badLimit_4 : decode prog_13_method_19_code 4 = .ok (.dcmp .l, 1) := by decide +kernel
theorem dc_Mod_badLimit_5 : decode prog_13_method_19_code 5 = .ok (.ifCond .lt 11, 3) := by decide +kernel
theorem dc_Mod_badLimit_8 : decode prog_13_method_19_code 8 = .ok (.dload_n 1, 1) := by decide +kernel
theorem dc_Mod_badLimit_9 : decode prog_13_method_19_code 9 = .ok (.ldc2_w 92, 3) := by decide +kernel
theorem dc_Mod_badLimit_12 : decode prog_13_method_19_code 12 = .ok (.dcmp .g, 1) := by decide +kernel
theorem dc_Mod_badLimit_13 : decode prog_13_method_19_code 13 = .ok (.ifCond .le 7, 3) := by decide +kernel
theorem dc_Mod_badLimit_16 : decode prog_13_method_19_code 16 = .ok (.iconst 1, 1) := by decide +kernel
theorem dc_Mod_badLimit_17 : decode prog_13_method_19_code 17 = .ok (.goto 4, 3) := by decide +kernel
theorem dc_Mod_badLimit_20 : decode prog_13_method_19_code 20 = .ok (.iconst 0, 1) := by decide +kernel
theorem dc_Mod_badLimit_21 : decode prog_13_method_19_code 21 = .ok (.ireturn, 1) := by decide +kernel
theorem dc_Mod_check_0 : decode prog_13_method_20_code 0 = .ok (.aload_n 0, 1) := by decide +kernel
theorem dc_Mod_check_1 : decode prog_13_method_20_code 1 = .ok (.getfield 42, 3) := by decide +kernel
theorem dc_Mod_check_4 : decode prog_13_method_20_code 4 = .ok (.iload_n 2, 1) := by decide +kernel
theorem dc_Mod_check_5 : decode prog_13_method_20_code 5 = .ok (.iaload, 1) := by decide +kernel
theorem dc_Mod_check_6 : decode prog_13_method_20_code 6 = .ok (.ifCond .ge 7, 3) := by decide +kernel
theorem dc_Mod_check_9 : decode prog_13_method_20_code 9 = .ok (.iconst 2, 1) := by decide +kernel
theorem dc_Mod_check_10 : decode prog_13_method_20_code 10 = .ok (.goto 17, 3) := by decide +kernel
theorem dc_Mod_check_13 : decode prog_13_method_20_code 13 = .ok (.aload_n 0, 1) := by decide +kernel
theorem dc_Mod_check_14 : decode prog_13_method_20_code 14 = .ok (.getfield 7, 3) := by decide +kernel
theorem dc_Mod_check_17 : decode prog_13_method_20_code 17 = .ok (.iload_n 1, 1) := by decide +kernel
theorem dc_Mod_check_18 : decode prog_13_method_20_code 18 = .ok (.baload, 1) := by decide +kernel
theorem dc_Mod_check_19 : decode prog_13_method_20_code 19 = .ok (.ifCond .eq 7, 3) := by decide +kernel
theorem dc_Mod_check_22 : decode prog_13_method_20_code 22 = .ok (.iconst 3, 1) := by decide +kernel
theorem dc_Mod_check_23 : decode prog_13_method_20_code 23 = .ok (.goto 4, 3) := by decide +kernel
theorem dc_Mod_check_26 : decode prog_13_method_20_code 26 = .ok (.iconst 0, 1) := by decide +kernel
theorem dc_Mod_check_27 : decode prog_13_method_20_code 27 = .ok (.ireturn, 1) := by decide +kernel
theorem dc_Mod_settle_0 : decode prog_13_method_21_code 0 = .ok (.aload_n 0, 1) := by decide +kernel
theorem dc_Mod_settle_1 : decode prog_13_method_21_code 1 = .ok (.getfield 20, 3) := by decide +kernel
theorem dc_Mod_settle_4 : decode prog_13_method_21_code 4 = .ok (.iload_n 1, 1) := by decide +kernel
theorem dc_Mod_settle_5 : decode prog_13_method_21_code 5 = .ok (.iload_n 2, 1) := by decide +kernel
theorem dc_Mod_settle_6 : decode prog_13_method_21_code 6 = .ok (.iastore, 1) := by decide +kernel
theorem dc_Mod_settle_7 : decode prog_13_method_21_code 7 = .ok (.iload_n 2, 1) := by decide +kernel
theorem dc_Mod_settle_8 : decode prog_13_method_21_code 8 = .ok (.ireturn, 1) := by decide +kernel
theorem dc_Mod_isLock_0 : decode prog_13_method_7_code 0 = .ok (.aload_n 0, 1) := by decide +kernel
theorem dc_Mod_isLock_1 : decode prog_13_method_7_code 1 = .ok (.getfield 42, 3) := by decide +kernel
theorem dc_Mod_isLock_4 : decode prog_13_method_7_code 4 = .ok (.iload_n 1, 1) := by decide +kernel
theorem dc_Mod_isLock_5 : decode prog_13_method_7_code 5 = .ok (.iaload, 1) := by decide +kernel
theorem dc_Mod_isLock_6 : decode prog_13_method_7_code 6 = .ok (.ifCond .eq 13, 3) := by decide +kernel
theorem dc_Mod_isLock_9 : decode prog_13_method_7_code 9 = .ok (.aload_n 0, 1) := by decide +kernel
theorem dc_Mod_isLock_10 : decode prog_13_method_7_code 10 = .ok (.getfield 42, 3) := by decide +kernel
theorem dc_Mod_isLock_13 : decode prog_13_method_7_code 13 = .ok (.iload_n 1, 1) := by decide +kernel
theorem dc_Mod_isLock_14 : decode prog_13_method_7_code 14 = .ok (.iaload, 1) := by decide +kernel
theorem dc_Mod_isLock_15 : decode prog_13_method_7_code 15 = .ok (.iconst 1, 1) := by decide +kernel
theorem dc_Mod_isLock_16 : decode prog_13_method_7_code 16 = .ok (.if_icmp .ne 7, 3) := by decide +kernel
theorem dc_Mod_isLock_19 : decode prog_13_method_7_code 19 = .ok (.iconst 1, 1) := by decide +kernel
theorem dc_Mod_isLock_20 : decode prog_13_method_7_code 20 = .ok (.goto 4, 3) := by decide +kernel
theorem dc_Mod_isLock_23 : decode prog_13_method_7_code 23 = .ok (.iconst 0, 1) := by decide +kernel
theorem dc_Mod_isLock_24 : decode prog_13_method_7_code 24 = .ok (.ireturn, 1) := by decide +kernel
theorem dc_Mod_leads_0 : decode prog_13_method_17_code 0 = .ok (.iconst 0, 1) := by decide +kernel
theorem dc_Mod_leads_1 : decode prog_13_method_17_code 1 = .ok (.istore_n 3, 1) := by decide +kernel
theorem dc_Mod_leads_2 : decode prog_13_method_17_code 2 = .ok (.iload_n 3, 1) := by decide +kernel
theorem dc_Mod_leads_3 : decode prog_13_method_17_code 3 = .ok (.bipush 8, 2) := by decide +kernel
theorem dc_Mod_leads_5 : decode prog_13_method_17_code 5 = .ok (.if_icmp .ge 26, 3) := by decide +kernel
theorem dc_Mod_leads_8 : decode prog_13_method_17_code 8 = .ok (.aload_n 0, 1) := by decide +kernel
theorem dc_Mod_leads_9 : decode prog_13_method_17_code 9 = .ok (.getfield 75, 3) := by decide +kernel
theorem dc_Mod_leads_12 : decode prog_13_method_17_code 12 = .ok (.iload_n 3, 1) := by decide +kernel
theorem dc_Mod_leads_13 : decode prog_13_method_17_code 13 = .ok (.aload_n 0, 1) := by decide +kernel
theorem dc_Mod_leads_14 : decode prog_13_method_17_code 14 = .ok (.getfield 72, 3) := by decide +kernel
theorem dc_Mod_leads_17 : decode prog_13_method_17_code 17 = .ok (.bipush 8, 2) := by decide +kernel
theorem dc_Mod_leads_19 : decode prog_13_method_17_code 19 = .ok (.iload_n 1, 1) := by decide +kernel
theorem dc_Mod_leads_20 : decode prog_13_method_17_code 20 = .ok (.imul, 1) := by decide +kernel
theorem dc_Mod_leads_21 : decode prog_13_method_17_code 21 = .ok (.iload_n 3, 1) := by decide +kernel
theorem dc_Mod_leads_22 : decode prog_13_method_17_code 22 = .ok (.iadd, 1) := by decide +kernel
theorem dc_Mod_leads_23 : decode prog_13_method_17_code 23 = .ok (.baload, 1) := by decide +kernel
theorem dc_Mod_leads_24 : decode prog_13_method_17_code 24 = .ok (.bastore, 1) := by decide +kernel
theorem dc_Mod_leads_25 : decode prog_13_method_17_code 25 = .ok (.iinc 3 1, 3) := by decide +kernel
theorem dc_Mod_leads_28 : decode prog_13_method_17_code 28 = .ok (.goto (-26), 3) := by decide +kernel
theorem dc_Mod_leads_31 : decode prog_13_method_17_code 31 = .ok (.iconst 0, 1) := by decide +kernel
theorem dc_Mod_leads_32 : decode prog_13_method_17_code 32 = .ok (.istore_n 3, 1) := by decide +kernel
theorem dc_Mod_leads_33 : decode prog_13_method_17_code 33 = .ok (.iload_n 3, 1) := by decide +kernel
theorem dc_Mod_leads_34 : decode prog_13_method_17_code 34 = .ok (.bipush 8, 2) := by decide +kernel
theorem dc_Mod_leads_36 : decode prog_13_method_17_code 36 = .ok (.if_icmp .ge 75, 3) := by decide +kernel
theorem dc_Mod_leads_39 : decode prog_13_method_17_code 39 = .ok (.iconst 0, 1) := by decide +kernel
theorem dc_Mod_leads_40 : decode prog_13_method_17_code 40 = .ok (.istore 4, 2) := by decide +kernel
theorem dc_Mod_leads_42 : decode prog_13_method_17_code 42 = .ok (.iload 4, 2) := by decide +kernel
theorem dc_Mod_leads_44 : decode prog_13_method_17_code 44 = .ok (.bipush 8, 2) := by decide +kernel
theorem dc_Mod_leads_46 : decode prog_13_method_17_code 46 = .ok (.if_icmp .ge 59, 3) := by decide +kernel
theorem dc_Mod_leads_49 : decode prog_13_method_17_code 49 = .ok (.iconst 0, 1) := by decide +kernel
theorem dc_Mod_leads_50 : decode prog_13_method_17_code 50 = .ok (.istore 5, 2) := by decide +kernel
theorem dc_Mod_leads_52 : decode prog_13_method_17_code 52 = .ok (.iload 5, 2) := by decide +kernel
theorem dc_Mod_leads_54 : decode prog_13_method_17_code 54 = .ok (.bipush 8, 2) := by decide +kernel
theorem dc_Mod_leads_56 : decode prog_13_method_17_code 56 = .ok (.if_icmp .ge 43, 3) := by decide +kernel
theorem dc_Mod_leads_59 : decode prog_13_method_17_code 59 = .ok (.aload_n 0, 1) := by decide +kernel
theorem dc_Mod_leads_60 : decode prog_13_method_17_code 60 = .ok (.getfield 75, 3) := by decide +kernel
theorem dc_Mod_leads_63 : decode prog_13_method_17_code 63 = .ok (.iload 4, 2) := by decide +kernel
theorem dc_Mod_leads_65 : decode prog_13_method_17_code 65 = .ok (.baload, 1) := by decide +kernel
theorem dc_Mod_leads_66 : decode prog_13_method_17_code 66 = .ok (.ifCond .eq 33, 3) := by decide +kernel
theorem dc_Mod_leads_69 : decode prog_13_method_17_code 69 = .ok (.aload_n 0, 1) := by decide +kernel
theorem dc_Mod_leads_70 : decode prog_13_method_17_code 70 = .ok (.getfield 72, 3) := by decide +kernel
theorem dc_Mod_leads_73 : decode prog_13_method_17_code 73 = .ok (.bipush 8, 2) := by decide +kernel
theorem dc_Mod_leads_75 : decode prog_13_method_17_code 75 = .ok (.iload 4, 2) := by decide +kernel
theorem dc_Mod_leads_77 : decode prog_13_method_17_code 77 = .ok (.imul, 1) := by decide +kernel
theorem dc_Mod_leads_78 : decode prog_13_method_17_code 78 = .ok (.iload 5, 2) := by decide +kernel
theorem dc_Mod_leads_80 : decode prog_13_method_17_code 80 = .ok (.iadd, 1) := by decide +kernel
theorem dc_Mod_leads_81 : decode prog_13_method_17_code 81 = .ok (.baload, 1) := by decide +kernel
theorem dc_Mod_leads_82 : decode prog_13_method_17_code 82 = .ok (.ifCond .eq 11, 3) := by decide +kernel
theorem dc_Mod_leads_85 : decode prog_13_method_17_code 85 = .ok (.aload_n 0, 1) := by decide +kernel
theorem dc_Mod_leads_86 : decode prog_13_method_17_code 86 = .ok (.getfield 75, 3) := by decide +kernel
theorem dc_Mod_leads_89 : decode prog_13_method_17_code 89 = .ok (.iload 5, 2) := by decide +kernel
theorem dc_Mod_leads_91 : decode prog_13_method_17_code 91 = .ok (.iconst 1, 1) := by decide +kernel
theorem dc_Mod_leads_92 : decode prog_13_method_17_code 92 = .ok (.bastore, 1) := by decide +kernel
theorem dc_Mod_leads_93 : decode prog_13_method_17_code 93 = .ok (.iinc 5 1, 3) := by decide +kernel
theorem dc_Mod_leads_96 : decode prog_13_method_17_code 96 = .ok (.goto (-44), 3) := by decide +kernel
theorem dc_Mod_leads_99 : decode prog_13_method_17_code 99 = .ok (.iinc 4 1, 3) := by decide +kernel
theorem dc_Mod_leads_102 : decode prog_13_method_17_code 102 = .ok (.goto (-60), 3) := by decide +kernel
theorem dc_Mod_leads_105 : decode prog_13_method_17_code 105 = .ok (.iinc 3 1, 3) := by decide +kernel
theorem dc_Mod_leads_108 : decode prog_13_method_17_code 108 = .ok (.goto (-75), 3) := by decide +kernel
theorem dc_Mod_leads_111 : decode prog_13_method_17_code 111 = .ok (.aload_n 0, 1) := by decide +kernel
theorem dc_Mod_leads_112 : decode prog_13_method_17_code 112 = .ok (.getfield 75, 3) := by decide +kernel
theorem dc_Mod_leads_115 : decode prog_13_method_17_code 115 = .ok (.iload_n 2, 1) := by decide +kernel
theorem dc_Mod_leads_116 : decode prog_13_method_17_code 116 = .ok (.baload, 1) := by decide +kernel
theorem dc_Mod_leads_117 : decode prog_13_method_17_code 117 = .ok (.ireturn, 1) := by decide +kernel
theorem dc_Mod_ordered_0 : decode prog_13_method_18_code 0 = .ok (.aload_n 0, 1) := by decide +kernel
theorem dc_Mod_ordered_1 : decode prog_13_method_18_code 1 = .ok (.getfield 125, 3) := by decide +kernel
theorem dc_Mod_ordered_4 : decode prog_13_method_18_code 4 = .ok (.ifCond .eq 21, 3) := by decide +kernel
theorem dc_Mod_ordered_7 : decode prog_13_method_18_code 7 = .ok (.aload_n 0, 1) := by decide +kernel
theorem dc_Mod_ordered_8 : decode prog_13_method_18_code 8 = .ok (.iload_n 2, 1) := by decide +kernel
theorem dc_Mod_ordered_9 : decode prog_13_method_18_code 9 = .ok (.invokevirtual 128, 3) := by decide +kernel
theorem dc_Mod_ordered_12 : decode prog_13_method_18_code 12 = .ok (.ifCond .eq 13, 3) := by decide +kernel
theorem dc_Mod_ordered_15 : decode prog_13_method_18_code 15 = .ok (.aload_n 0, 1) := by decide +kernel
theorem dc_Mod_ordered_16 : decode prog_13_method_18_code 16 = .ok (.getfield 45, 3) := by decide +kernel
theorem dc_Mod_ordered_19 : decode prog_13_method_18_code 19 = .ok (.iload_n 2, 1) := by decide +kernel
theorem dc_Mod_ordered_20 : decode prog_13_method_18_code 20 = .ok (.iaload, 1) := by decide +kernel
theorem dc_Mod_ordered_21 : decode prog_13_method_18_code 21 = .ok (.iload_n 1, 1) := by decide +kernel
theorem dc_Mod_ordered_22 : decode prog_13_method_18_code 22 = .ok (.if_icmp .ne 5, 3) := by decide +kernel
theorem dc_Mod_ordered_25 : decode prog_13_method_18_code 25 = .ok (.iconst 1, 1) := by decide +kernel
theorem dc_Mod_ordered_26 : decode prog_13_method_18_code 26 = .ok (.ireturn, 1) := by decide +kernel
theorem dc_Mod_ordered_27 : decode prog_13_method_18_code 27 = .ok (.iconst 0, 1) := by decide +kernel
theorem dc_Mod_ordered_28 : decode prog_13_method_18_code 28 = .ok (.istore_n 3, 1) := by decide +kernel
theorem dc_Mod_ordered_29 : decode prog_13_method_18_code 29 = .ok (.iconst 0, 1) := by decide +kernel
theorem dc_Mod_ordered_30 : decode prog_13_method_18_code 30 = .ok (.istore 4, 2) := by decide +kernel
theorem dc_Mod_ordered_32 : decode prog_13_method_18_code 32 = .ok (.iload 4, 2) := by decide +kernel
theorem dc_Mod_ordered_34 : decode prog_13_method_18_code 34 = .ok (.bipush 8, 2) := by decide +kernel
theorem dc_Mod_ordered_36 : decode prog_13_method_18_code 36 = .ok (.if_icmp .ge 51, 3) := by decide +kernel
theorem dc_Mod_ordered_39 : decode prog_13_method_18_code 39 = .ok (.aload_n 0, 1) := by decide +kernel
theorem dc_Mod_ordered_40 : decode prog_13_method_18_code 40 = .ok (.getfield 42, 3) := by decide +kernel
theorem dc_Mod_ordered_43 : decode prog_13_method_18_code 43 = .ok (.iload 4, 2) := by decide +kernel
theorem dc_Mod_ordered_45 : decode prog_13_method_18_code 45 = .ok (.iaload, 1) := by decide +kernel
theorem dc_Mod_ordered_46 : decode prog_13_method_18_code 46 = .ok (.ifCond .lt 35, 3) := by decide +kernel
theorem dc_Mod_ordered_49 : decode prog_13_method_18_code 49 = .ok (.aload_n 0, 1) := by decide +kernel
theorem dc_Mod_ordered_50 : decode prog_13_method_18_code 50 = .ok (.iload 4, 2) := by decide +kernel
theorem dc_Mod_ordered_52 : decode prog_13_method_18_code 52 = .ok (.invokevirtual 128, 3) := by decide +kernel
theorem dc_Mod_ordered_55 : decode prog_13_method_18_code 55 = .ok (.ifCond .eq 26, 3) := by decide +kernel
theorem dc_Mod_ordered_58 : decode prog_13_method_18_code 58 = .ok (.aload_n 0, 1) := by decide +kernel
theorem dc_Mod_ordered_59 : decode prog_13_method_18_code 59 = .ok (.getfield 45, 3) := by decide +kernel
theorem dc_Mod_ordered_62 : decode prog_13_method_18_code 62 = .ok (.iload 4, 2) := by decide +kernel
theorem dc_Mod_ordered_64 : decode prog_13_method_18_code 64 = .ok (.iaload, 1) := by decide +kernel
theorem dc_Mod_ordered_65 : decode prog_13_method_18_code 65 = .ok (.iload_n 1, 1) := by decide +kernel
theorem dc_Mod_ordered_66 : decode prog_13_method_18_code 66 = .ok (.if_icmp .ne 15, 3) := by decide +kernel
theorem dc_Mod_ordered_69 : decode prog_13_method_18_code 69 = .ok (.aload_n 0, 1) := by decide +kernel
theorem dc_Mod_ordered_70 : decode prog_13_method_18_code 70 = .ok (.iload_n 2, 1) := by decide +kernel
theorem dc_Mod_ordered_71 : decode prog_13_method_18_code 71 = .ok (.iload 4, 2) := by decide +kernel
theorem dc_Mod_ordered_73 : decode prog_13_method_18_code 73 = .ok (.invokevirtual 132, 3) := by decide +kernel
theorem dc_Mod_ordered_76 : decode prog_13_method_18_code 76 = .ok (.ifCond .eq 5, 3) := by decide +kernel
theorem dc_Mod_ordered_79 : decode prog_13_method_18_code 79 = .ok (.iconst 1, 1) := by decide +kernel
theorem dc_Mod_ordered_80 : decode prog_13_method_18_code 80 = .ok (.istore_n 3, 1) := by decide +kernel
theorem dc_Mod_ordered_81 : decode prog_13_method_18_code 81 = .ok (.iinc 4 1, 3) := by decide +kernel
theorem dc_Mod_ordered_84 : decode prog_13_method_18_code 84 = .ok (.goto (-52), 3) := by decide +kernel
theorem dc_Mod_ordered_87 : decode prog_13_method_18_code 87 = .ok (.iload_n 3, 1) := by decide +kernel
theorem dc_Mod_ordered_88 : decode prog_13_method_18_code 88 = .ok (.ifCond .eq 13, 3) := by decide +kernel
theorem dc_Mod_ordered_91 : decode prog_13_method_18_code 91 = .ok (.aload_n 0, 1) := by decide +kernel
theorem dc_Mod_ordered_92 : decode prog_13_method_18_code 92 = .ok (.dup, 1) := by decide +kernel
theorem dc_Mod_ordered_93 : decode prog_13_method_18_code 93 = .ok (.getfield 135, 3) := by decide +kernel
theorem dc_Mod_ordered_96 : decode prog_13_method_18_code 96 = .ok (.iconst 1, 1) := by decide +kernel
theorem dc_Mod_ordered_97 : decode prog_13_method_18_code 97 = .ok (.iadd, 1) := by decide +kernel
theorem dc_Mod_ordered_98 : decode prog_13_method_18_code 98 = .ok (.putfield 135, 3) := by decide +kernel
theorem dc_Mod_ordered_101 : decode prog_13_method_18_code 101 = .ok (.iload_n 3, 1) := by decide +kernel
theorem dc_Mod_ordered_102 : decode prog_13_method_18_code 102 = .ok (.ifCond .eq 13, 3) := by decide +kernel
theorem dc_Mod_ordered_105 : decode prog_13_method_18_code 105 = .ok (.aload_n 0, 1) := by decide +kernel
theorem dc_Mod_ordered_106 : decode prog_13_method_18_code 106 = .ok (.getfield 125, 3) := by decide +kernel
theorem dc_Mod_ordered_109 : decode prog_13_method_18_code 109 = .ok (.iconst 2, 1) := by decide +kernel
theorem dc_Mod_ordered_110 : decode prog_13_method_18_code 110 = .ok (.if_icmp .ne 5, 3) := by decide +kernel
theorem dc_Mod_ordered_113 : decode prog_13_method_18_code 113 = .ok (.iconst 0, 1) := by decide +kernel
theorem dc_Mod_ordered_114 : decode prog_13_method_18_code 114 = .ok (.ireturn, 1) := by decide +kernel
theorem dc_Mod_ordered_115 : decode prog_13_method_18_code 115 = .ok (.iconst 0, 1) := by decide +kernel
theorem dc_Mod_ordered_116 : decode prog_13_method_18_code 116 = .ok (.istore 4, 2) := by decide +kernel
theorem dc_Mod_ordered_118 : decode prog_13_method_18_code 118 = .ok (.iload 4, 2) := by decide +kernel
theorem dc_Mod_ordered_120 : decode prog_13_method_18_code 120 = .ok (.bipush 8, 2) := by decide +kernel
theorem dc_Mod_ordered_122 : decode prog_13_method_18_code 122 = .ok (.if_icmp .ge 52, 3) := by decide +kernel
theorem dc_Mod_ordered_125 : decode prog_13_method_18_code 125 = .ok (.aload_n 0, 1) := by decide +kernel
theorem dc_Mod_ordered_126 : decode prog_13_method_18_code 126 = .ok (.getfield 42, 3) := by decide +kernel
theorem dc_Mod_ordered_129 : decode prog_13_method_18_code 129 = .ok (.iload 4, 2) := by decide +kernel
theorem dc_Mod_ordered_131 : decode prog_13_method_18_code 131 = .ok (.iaload, 1) := by decide +kernel
theorem dc_Mod_ordered_132 : decode prog_13_method_18_code 132 = .ok (.ifCond .lt 36, 3) := by decide +kernel
theorem dc_Mod_ordered_135 : decode prog_13_method_18_code 135 = .ok (.aload_n 0, 1) := by decide +kernel
theorem dc_Mod_ordered_136 : decode prog_13_method_18_code 136 = .ok (.iload 4, 2) := by decide +kernel
theorem dc_Mod_ordered_138 : decode prog_13_method_18_code 138 = .ok (.invokevirtual 128, 3) := by decide +kernel
theorem dc_Mod_ordered_141 : decode prog_13_method_18_code 141 = .ok (.ifCond .eq 27, 3) := by decide +kernel
theorem dc_Mod_ordered_144 : decode prog_13_method_18_code 144 = .ok (.aload_n 0, 1) := by decide +kernel
theorem dc_Mod_ordered_145 : decode prog_13_method_18_code 145 = .ok (.getfield 45, 3) := by decide +kernel
theorem dc_Mod_ordered_148 : decode prog_13_method_18_code 148 = .ok (.iload 4, 2) := by decide +kernel
theorem dc_Mod_ordered_150 : decode prog_13_method_18_code 150 = .ok (.iaload, 1) := by decide +kernel
theorem dc_Mod_ordered_151 : decode prog_13_method_18_code 151 = .ok (.iload_n 1, 1) := by decide +kernel
theorem dc_Mod_ordered_152 : decode prog_13_method_18_code 152 = .ok (.if_icmp .ne 16, 3) := by decide +kernel
theorem dc_Mod_ordered_155 : decode prog_13_method_18_code 155 = .ok (.aload_n 0, 1) := by decide +kernel
theorem dc_Mod_ordered_156 : decode prog_13_method_18_code 156 = .ok (.getfield 72, 3) := by decide +kernel
theorem dc_Mod_ordered_159 : decode prog_13_method_18_code 159 = .ok (.bipush 8, 2) := by decide +kernel
theorem dc_Mod_ordered_161 : decode prog_13_method_18_code 161 = .ok (.iload 4, 2) := by decide +kernel
theorem dc_Mod_ordered_163 : decode prog_13_method_18_code 163 = .ok (.imul, 1) := by decide +kernel
theorem dc_Mod_ordered_164 : decode prog_13_method_18_code 164 = .ok (.iload_n 2, 1) := by decide +kernel
theorem dc_Mod_ordered_165 : decode prog_13_method_18_code 165 = .ok (.iadd, 1) := by decide +kernel
theorem dc_Mod_ordered_166 : decode prog_13_method_18_code 166 = .ok (.iconst 1, 1) := by decide +kernel
theorem dc_Mod_ordered_167 : decode prog_13_method_18_code 167 = .ok (.bastore, 1) := by decide +kernel
theorem dc_Mod_ordered_168 : decode prog_13_method_18_code 168 = .ok (.iinc 4 1, 3) := by decide +kernel
theorem dc_Mod_ordered_171 : decode prog_13_method_18_code 171 = .ok (.goto (-53), 3) := by decide +kernel
theorem dc_Mod_ordered_174 : decode prog_13_method_18_code 174 = .ok (.iconst 1, 1) := by decide +kernel
theorem dc_Mod_ordered_175 : decode prog_13_method_18_code 175 = .ok (.ireturn, 1) := by decide +kernel
theorem dc_Mod_mustQueue_0 : decode prog_13_method_10_code 0 = .ok (.aload_n 0, 1) := by decide +kernel
theorem dc_Mod_mustQueue_1 : decode prog_13_method_10_code 1 = .ok (.getfield 42, 3) := by decide +kernel
theorem dc_Mod_mustQueue_4 : decode prog_13_method_10_code 4 = .ok (.iload_n 2, 1) := by decide +kernel
theorem dc_Mod_mustQueue_5 : decode prog_13_method_10_code 5 = .ok (.iaload, 1) := by decide +kernel
theorem dc_Mod_mustQueue_6 : decode prog_13_method_10_code 6 = .ok (.istore 4, 2) := by decide +kernel
theorem dc_Mod_mustQueue_8 : decode prog_13_method_10_code 8 = .ok (.iload 4, 2) := by decide +kernel
theorem dc_Mod_mustQueue_10 : decode prog_13_method_10_code 10 = .ok (.iconst 4, 1) := by decide +kernel
theorem dc_Mod_mustQueue_11 : decode prog_13_method_10_code 11 = .ok (.if_icmp .eq 19, 3) := by decide +kernel
theorem dc_Mod_mustQueue_14 : decode prog_13_method_10_code 14 = .ok (.iload 4, 2) := by decide +kernel
theorem dc_Mod_mustQueue_16 : decode prog_13_method_10_code 16 = .ok (.iconst 1, 1) := by decide +kernel
theorem dc_Mod_mustQueue_17 : decode prog_13_method_10_code 17 = .ok (.if_icmp .ne 15, 3) := by decide +kernel
theorem dc_Mod_mustQueue_20 : decode prog_13_method_10_code 20 = .ok (.aload_n 0, 1) := by decide +kernel
theorem dc_Mod_mustQueue_21 : decode prog_13_method_10_code 21 = .ok (.getfield 45, 3) := by decide +kernel
theorem dc_Mod_mustQueue_24 : decode prog_13_method_10_code 24 = .ok (.iload_n 2, 1) := by decide +kernel
theorem dc_Mod_mustQueue_25 : decode prog_13_method_10_code 25 = .ok (.iaload, 1) := by decide +kernel
theorem dc_Mod_mustQueue_26 : decode prog_13_method_10_code 26 = .ok (.iload_n 1, 1) := by decide +kernel
theorem dc_Mod_mustQueue_27 : decode prog_13_method_10_code 27 = .ok (.if_icmp .ne 5, 3) := by decide +kernel
theorem dc_Mod_mustQueue_30 : decode prog_13_method_10_code 30 = .ok (.iconst 0, 1) := by decide +kernel
theorem dc_Mod_mustQueue_31 : decode prog_13_method_10_code 31 = .ok (.ireturn, 1) := by decide +kernel
theorem dc_Mod_mustQueue_32 : decode prog_13_method_10_code 32 = .ok (.iload 4, 2) := by decide +kernel
theorem dc_Mod_mustQueue_34 : decode prog_13_method_10_code 34 = .ok (.iconst 5, 1) := by decide +kernel
theorem dc_Mod_mustQueue_35 : decode prog_13_method_10_code 35 = .ok (.if_icmp .eq 18, 3) := by decide +kernel
theorem dc_Mod_mustQueue_38 : decode prog_13_method_10_code 38 = .ok (.aload_n 0, 1) := by decide +kernel
theorem dc_Mod_mustQueue_39 : decode prog_13_method_10_code 39 = .ok (.getfield 63, 3) := by decide +kernel
theorem dc_Mod_mustQueue_42 : decode prog_13_method_10_code 42 = .ok (.iload_n 2, 1) := by decide +kernel
theorem dc_Mod_mustQueue_43 : decode prog_13_method_10_code 43 = .ok (.iaload, 1) := by decide +kernel
theorem dc_Mod_mustQueue_44 : decode prog_13_method_10_code 44 = .ok (.ifCond .le 7, 3) := by decide +kernel
theorem dc_Mod_mustQueue_47 : decode prog_13_method_10_code 47 = .ok (.iconst 1, 1) := by decide +kernel
theorem dc_Mod_mustQueue_48 : decode prog_13_method_10_code 48 = .ok (.goto 4, 3) := by decide +kernel
theorem dc_Mod_mustQueue_51 : decode prog_13_method_10_code 51 = .ok (.iconst 0, 1) := by decide +kernel
theorem dc_Mod_mustQueue_52 : decode prog_13_method_10_code 52 = .ok (.ireturn, 1) := by decide +kernel
theorem dc_Mod_mustQueue_53 : decode prog_13_method_10_code 53 = .ok (.aload_n 0, 1) := by decide +kernel
theorem dc_Mod_mustQueue_54 : decode prog_13_method_10_code 54 = .ok (.getfield 57, 3) := by decide +kernel
theorem dc_Mod_mustQueue_57 : decode prog_13_method_10_code 57 = .ok (.bipush 6, 2) := by decide +kernel
theorem dc_Mod_mustQueue_59 : decode prog_13_method_10_code 59 = .ok (.iload_n 2, 1) := by decide +kernel
theorem dc_Mod_mustQueue_60 : decode prog_13_method_10_code 60 = .ok (.imul, 1) := by decide +kernel
theorem dc_Mod_mustQueue_61 : decode prog_13_method_10_code 61 = .ok (.iload_n 1, 1) := by decide +kernel
theorem dc_Mod_mustQueue_62 : decode prog_13_method_10_code 62 = .ok (.iadd, 1) := by decide +kernel
theorem dc_Mod_mustQueue_63 : decode prog_13_method_10_code 63 = .ok (.iaload, 1) := by decide +kernel
theorem dc_Mod_mustQueue_64 : decode prog_13_method_10_code 64 = .ok (.ifCond .gt 13, 3) := by decide +kernel
theorem dc_Mod_mustQueue_67 : decode prog_13_method_10_code 67 = .ok (.aload_n 0, 1) := by decide +kernel
theorem dc_Mod_mustQueue_68 : decode prog_13_method_10_code 68 = .ok (.getfield 45, 3) := by decide +kernel
theorem dc_Mod_mustQueue_71 : decode prog_13_method_10_code 71 = .ok (.iload_n 2, 1) := by decide +kernel
theorem dc_Mod_mustQueue_72 : decode prog_13_method_10_code 72 = .ok (.iaload, 1) := by decide +kernel
theorem dc_Mod_mustQueue_73 : decode prog_13_method_10_code 73 = .ok (.iload_n 1, 1) := by decide +kernel
theorem dc_Mod_mustQueue_74 : decode prog_13_method_10_code 74 = .ok (.if_icmp .ne 5, 3) := by decide +kernel
theorem dc_Mod_mustQueue_77 : decode prog_13_method_10_code 77 = .ok (.iconst 0, 1) := by decide +kernel
theorem dc_Mod_mustQueue_78 : decode prog_13_method_10_code 78 = .ok (.ireturn, 1) := by decide +kernel
theorem dc_Mod_mustQueue_79 : decode prog_13_method_10_code 79 = .ok (.iconst 0, 1) := by decide +kernel
theorem dc_Mod_mustQueue_80 : decode prog_13_method_10_code 80 = .ok (.istore 5, 2) := by decide +kernel
theorem dc_Mod_mustQueue_82 : decode prog_13_method_10_code 82 = .ok (.iload 5, 2) := by decide +kernel
theorem dc_Mod_mustQueue_84 : decode prog_13_method_10_code 84 = .ok (.aload_n 0, 1) := by decide +kernel
theorem dc_Mod_mustQueue_85 : decode prog_13_method_10_code 85 = .ok (.getfield 63, 3) := by decide +kernel
theorem dc_Mod_mustQueue_88 : decode prog_13_method_10_code 88 = .ok (.iload_n 2, 1) := by decide +kernel
theorem dc_Mod_mustQueue_89 : decode prog_13_method_10_code 89 = .ok (.iaload, 1) := by decide +kernel
theorem dc_Mod_mustQueue_90 : decode prog_13_method_10_code 90 = .ok (.if_icmp .ge 37, 3) := by decide +kernel
theorem dc_Mod_mustQueue_93 : decode prog_13_method_10_code 93 = .ok (.iload_n 3, 1) := by decide +kernel
theorem dc_Mod_mustQueue_94 : decode prog_13_method_10_code 94 = .ok (.iconst 1, 1) := by decide +kernel
theorem dc_Mod_mustQueue_95 : decode prog_13_method_10_code 95 = .ok (.if_icmp .eq 24, 3) := by decide +kernel
theorem dc_Mod_mustQueue_98 : decode prog_13_method_10_code 98 = .ok (.aload_n 0, 1) := by decide +kernel
theorem dc_Mod_mustQueue_99 : decode prog_13_method_10_code 99 = .ok (.getfield 27, 3) := by decide +kernel
theorem dc_Mod_mustQueue_102 : decode prog_13_method_10_code 102 = .ok (.aload_n 0, 1) := by decide +kernel
theorem dc_Mod_mustQueue_103 : decode prog_13_method_10_code 103 = .ok (.getfield 60, 3) := by decide +kernel
theorem dc_Mod_mustQueue_106 : decode prog_13_method_10_code 106 = .ok (.bipush 6, 2) := by decide +kernel
theorem dc_Mod_mustQueue_108 : decode prog_13_method_10_code 108 = .ok (.iload_n 2, 1) := by decide +kernel
theorem dc_Mod_mustQueue_109 : decode prog_13_method_10_code 109 = .ok (.imul, 1) := by decide +kernel
theorem dc_Mod_mustQueue_110 : decode prog_13_method_10_code 110 = .ok (.iload 5, 2) := by decide +kernel
theorem dc_Mod_mustQueue_112 : decode prog_13_method_10_code 112 = .ok (.iadd, 1) := by decide +kernel
theorem dc_Mod_mustQueue_113 : decode prog_13_method_10_code 113 = .ok (.iaload, 1) := by decide +kernel
theorem dc_Mod_mustQueue_114 : decode prog_13_method_10_code 114 = .ok (.iaload, 1) := by decide +kernel
theorem dc_Mod_mustQueue_115 : decode prog_13_method_10_code 115 = .ok (.iconst 1, 1) := by decide +kernel
theorem dc_Mod_mustQueue_116 : decode prog_13_method_10_code 116 = .ok (.if_icmp .ne 5, 3) := by decide +kernel
theorem dc_Mod_mustQueue_119 : decode prog_13_method_10_code 119 = .ok (.iconst 1, 1) := by decide +kernel
theorem dc_Mod_mustQueue_120 : decode prog_13_method_10_code 120 = .ok (.ireturn, 1) := by decide +kernel
theorem dc_Mod_mustQueue_121 : decode prog_13_method_10_code 121 = .ok (.iinc 5 1, 3) := by decide +kernel
theorem dc_Mod_mustQueue_124 : decode prog_13_method_10_code 124 = .ok (.goto (-42), 3) := by decide +kernel
theorem dc_Mod_mustQueue_127 : decode prog_13_method_10_code 127 = .ok (.iconst 0, 1) := by decide +kernel
theorem dc_Mod_mustQueue_128 : decode prog_13_method_10_code 128 = .ok (.ireturn, 1) := by decide +kernel
theorem dc_Mod_canTake_0 : decode prog_13_method_8_code 0 = .ok (.aload_n 0, 1) := by decide +kernel
theorem dc_Mod_canTake_1 : decode prog_13_method_8_code 1 = .ok (.getfield 42, 3) := by decide +kernel
theorem dc_Mod_canTake_4 : decode prog_13_method_8_code 4 = .ok (.iload_n 2, 1) := by decide +kernel
theorem dc_Mod_canTake_5 : decode prog_13_method_8_code 5 = .ok (.iaload, 1) := by decide +kernel
theorem dc_Mod_canTake_6 : decode prog_13_method_8_code 6 = .ok (.istore 4, 2) := by decide +kernel
theorem dc_Mod_canTake_8 : decode prog_13_method_8_code 8 = .ok (.iload 4, 2) := by decide +kernel
theorem dc_Mod_canTake_10 : decode prog_13_method_8_code 10 = .ok (.ifCond .ne 18, 3) := by decide +kernel
theorem dc_Mod_canTake_13 : decode prog_13_method_8_code 13 = .ok (.aload_n 0, 1) := by decide +kernel
theorem dc_Mod_canTake_14 : decode prog_13_method_8_code 14 = .ok (.getfield 45, 3) := by decide +kernel
theorem dc_Mod_canTake_17 : decode prog_13_method_8_code 17 = .ok (.iload_n 2, 1) := by decide +kernel
theorem dc_Mod_canTake_18 : decode prog_13_method_8_code 18 = .ok (.iaload, 1) := by decide +kernel
theorem dc_Mod_canTake_19 : decode prog_13_method_8_code 19 = .ok (.ifCond .ge 7, 3) := by decide +kernel
theorem dc_Mod_canTake_22 : decode prog_13_method_8_code 22 = .ok (.iconst 1, 1) := by decide +kernel
theorem dc_Mod_canTake_23 : decode prog_13_method_8_code 23 = .ok (.goto 4, 3) := by decide +kernel
theorem dc_Mod_canTake_26 : decode prog_13_method_8_code 26 = .ok (.iconst 0, 1) := by decide +kernel
theorem dc_Mod_canTake_27 : decode prog_13_method_8_code 27 = .ok (.ireturn, 1) := by decide +kernel
theorem dc_Mod_canTake_28 : decode prog_13_method_8_code 28 = .ok (.iload 4, 2) := by decide +kernel
theorem dc_Mod_canTake_30 : decode prog_13_method_8_code 30 = .ok (.iconst 1, 1) := by decide +kernel
theorem dc_Mod_canTake_31 : decode prog_13_method_8_code 31 = .ok (.if_icmp .ne 28, 3) := by decide +kernel
theorem dc_Mod_canTake_34 : decode prog_13_method_8_code 34 = .ok (.aload_n 0, 1) := by decide +kernel
theorem dc_Mod_canTake_35 : decode prog_13_method_8_code 35 = .ok (.getfield 45, 3) := by decide +kernel
theorem dc_Mod_canTake_38 : decode prog_13_method_8_code 38 = .ok (.iload_n 2, 1) := by decide +kernel
theorem dc_Mod_canTake_39 : decode prog_13_method_8_code 39 = .ok (.iaload, 1) := by decide +kernel
theorem dc_Mod_canTake_40 : decode prog_13_method_8_code 40 = .ok (.ifCond .lt 13, 3) := by decide +kernel
theorem dc_Mod_canTake_43 : decode prog_13_method_8_code 43 = .ok (.aload_n 0, 1) := by decide +kernel
theorem dc_Mod_canTake_44 : decode prog_13_method_8_code 44 = .ok (.getfield 45, 3) := by decide +kernel
theorem dc_Mod_canTake_47 : decode prog_13_method_8_code 47 = .ok (.iload_n 2, 1) := by decide +kernel
theorem dc_Mod_canTake_48 : decode prog_13_method_8_code 48 = .ok (.iaload, 1) := by decide +kernel
theorem dc_Mod_canTake_49 : decode prog_13_method_8_code 49 = .ok (.iload_n 1, 1) := by decide +kernel
theorem dc_Mod_canTake_50 : decode prog_13_method_8_code 50 = .ok (.if_icmp .ne 7, 3) := by decide +kernel
theorem dc_Mod_canTake_53 : decode prog_13_method_8_code 53 = .ok (.iconst 1, 1) := by decide +kernel
theorem dc_Mod_canTake_54 : decode prog_13_method_8_code 54 = .ok (.goto 4, 3) := by decide +kernel
theorem dc_Mod_canTake_57 : decode prog_13_method_8_code 57 = .ok (.iconst 0, 1) := by decide +kernel
theorem dc_Mod_canTake_58 : decode prog_13_method_8_code 58 = .ok (.ireturn, 1) := by decide +kernel
theorem dc_Mod_canTake_59 : decode prog_13_method_8_code 59 = .ok (.iload 4, 2) := by decide +kernel
theorem dc_Mod_canTake_61 : decode prog_13_method_8_code 61 = .ok (.iconst 2, 1) := by decide +kernel
theorem dc_Mod_canTake_62 : decode prog_13_method_8_code 62 = .ok (.if_icmp .eq 9, 3) := by decide +kernel
theorem dc_Mod_canTake_65 : decode prog_13_method_8_code 65 = .ok (.iload 4, 2) := by decide +kernel
theorem dc_Mod_canTake_67 : decode prog_13_method_8_code 67 = .ok (.iconst 3, 1) := by decide +kernel
theorem dc_Mod_canTake_68 : decode prog_13_method_8_code 68 = .ok (.if_icmp .ne 18, 3) := by decide +kernel
theorem dc_Mod_canTake_71 : decode prog_13_method_8_code 71 = .ok (.aload_n 0, 1) := by decide +kernel
theorem dc_Mod_canTake_72 : decode prog_13_method_8_code 72 = .ok (.getfield 51, 3) := by decide +kernel
theorem dc_Mod_canTake_75 : decode prog_13_method_8_code 75 = .ok (.iload_n 2, 1) := by decide +kernel
theorem dc_Mod_canTake_76 : decode prog_13_method_8_code 76 = .ok (.iaload, 1) := by decide +kernel
theorem dc_Mod_canTake_77 : decode prog_13_method_8_code 77 = .ok (.ifCond .le 7, 3) := by decide +kernel
theorem dc_Mod_canTake_80 : decode prog_13_method_8_code 80 = .ok (.iconst 1, 1) := by decide +kernel
theorem dc_Mod_canTake_81 : decode prog_13_method_8_code 81 = .ok (.goto 4, 3) := by decide +kernel
theorem dc_Mod_canTake_84 : decode prog_13_method_8_code 84 = .ok (.iconst 0, 1) := by decide +kernel
theorem dc_Mod_canTake_85 : decode prog_13_method_8_code 85 = .ok (.ireturn, 1) := by decide +kernel
theorem dc_Mod_canTake_86 : decode prog_13_method_8_code 86 = .ok (.iload 4, 2) := by decide +kernel
theorem dc_Mod_canTake_88 : decode prog_13_method_8_code 88 = .ok (.iconst 4, 1) := by decide +kernel
theorem dc_Mod_canTake_89 : decode prog_13_method_8_code 89 = .ok (.if_icmp .ne 18, 3) := by decide +kernel
theorem dc_Mod_canTake_92 : decode prog_13_method_8_code 92 = .ok (.aload_n 0, 1) := by decide +kernel
theorem dc_Mod_canTake_93 : decode prog_13_method_8_code 93 = .ok (.getfield 51, 3) := by decide +kernel
theorem dc_Mod_canTake_96 : decode prog_13_method_8_code 96 = .ok (.iload_n 2, 1) := by decide +kernel
theorem dc_Mod_canTake_97 : decode prog_13_method_8_code 97 = .ok (.iaload, 1) := by decide +kernel
theorem dc_Mod_canTake_98 : decode prog_13_method_8_code 98 = .ok (.ifCond .ne 7, 3) := by decide +kernel
theorem dc_Mod_canTake_101 : decode prog_13_method_8_code 101 = .ok (.iconst 1, 1) := by decide +kernel
theorem dc_Mod_canTake_102 : decode prog_13_method_8_code 102 = .ok (.goto 4, 3) := by decide +kernel
theorem dc_Mod_canTake_105 : decode prog_13_method_8_code 105 = .ok (.iconst 0, 1) := by decide +kernel
theorem dc_Mod_canTake_106 : decode prog_13_method_8_code 106 = .ok (.ireturn, 1) := by decide +kernel
theorem dc_Mod_canTake_107 : decode prog_13_method_8_code 107 = .ok (.aload_n 0, 1) := by decide +kernel
theorem dc_Mod_canTake_108 : decode prog_13_method_8_code 108 = .ok (.getfield 45, 3) := by decide +kernel
theorem dc_Mod_canTake_111 : decode prog_13_method_8_code 111 = .ok (.iload_n 2, 1) := by decide +kernel
theorem dc_Mod_canTake_112 : decode prog_13_method_8_code 112 = .ok (.iaload, 1) := by decide +kernel
theorem dc_Mod_canTake_113 : decode prog_13_method_8_code 113 = .ok (.ifCond .lt 15, 3) := by decide +kernel
theorem dc_Mod_canTake_116 : decode prog_13_method_8_code 116 = .ok (.aload_n 0, 1) := by decide +kernel
theorem dc_Mod_canTake_117 : decode prog_13_method_8_code 117 = .ok (.getfield 45, 3) := by decide +kernel
theorem dc_Mod_canTake_120 : decode prog_13_method_8_code 120 = .ok (.iload_n 2, 1) := by decide +kernel
theorem dc_Mod_canTake_121 : decode prog_13_method_8_code 121 = .ok (.iaload, 1) := by decide +kernel
theorem dc_Mod_canTake_122 : decode prog_13_method_8_code 122 = .ok (.iload_n 1, 1) := by decide +kernel
theorem dc_Mod_canTake_123 : decode prog_13_method_8_code 123 = .ok (.if_icmp .eq 5, 3) := by decide +kernel
theorem dc_Mod_canTake_126 : decode prog_13_method_8_code 126 = .ok (.iconst 0, 1) := by decide +kernel
theorem dc_Mod_canTake_127 : decode prog_13_method_8_code 127 = .ok (.ireturn, 1) := by decide +kernel
theorem dc_Mod_canTake_128 : decode prog_13_method_8_code 128 = .ok (.iconst 0, 1) := by decide +kernel
theorem dc_Mod_canTake_129 : decode prog_13_method_8_code 129 = .ok (.istore 5, 2) := by decide +kernel
theorem dc_Mod_canTake_131 : decode prog_13_method_8_code 131 = .ok (.iload_n 3, 1) := by decide +kernel
theorem dc_Mod_canTake_132 : decode prog_13_method_8_code 132 = .ok (.iconst 1, 1) := by decide +kernel
theorem dc_Mod_canTake_133 : decode prog_13_method_8_code 133 = .ok (.if_icmp .ne 39, 3) := by decide +kernel
theorem dc_Mod_canTake_136 : decode prog_13_method_8_code 136 = .ok (.iload 5, 2) := by decide +kernel
theorem dc_Mod_canTake_138 : decode prog_13_method_8_code 138 = .ok (.bipush 6, 2) := by decide +kernel
theorem dc_Mod_canTake_140 : decode prog_13_method_8_code 140 = .ok (.if_icmp .ge 32, 3) := by decide +kernel
theorem dc_Mod_canTake_143 : decode prog_13_method_8_code 143 = .ok (.iload 5, 2) := by decide +kernel
theorem dc_Mod_canTake_145 : decode prog_13_method_8_code 145 = .ok (.iload_n 1, 1) := by decide +kernel
theorem dc_Mod_canTake_146 : decode prog_13_method_8_code 146 = .ok (.if_icmp .eq 20, 3) := by decide +kernel
theorem dc_Mod_canTake_149 : decode prog_13_method_8_code 149 = .ok (.aload_n 0, 1) := by decide +kernel
theorem dc_Mod_canTake_150 : decode prog_13_method_8_code 150 = .ok (.getfield 57, 3) := by decide +kernel
theorem dc_Mod_canTake_153 : decode prog_13_method_8_code 153 = .ok (.bipush 6, 2) := by decide +kernel
theorem dc_Mod_canTake_155 : decode prog_13_method_8_code 155 = .ok (.iload_n 2, 1) := by decide +kernel
theorem dc_Mod_canTake_156 : decode prog_13_method_8_code 156 = .ok (.imul, 1) := by decide +kernel
theorem dc_Mod_canTake_157 : decode prog_13_method_8_code 157 = .ok (.iload 5, 2) := by decide +kernel
theorem dc_Mod_canTake_159 : decode prog_13_method_8_code 159 = .ok (.iadd, 1) := by decide +kernel
theorem dc_Mod_canTake_160 : decode prog_13_method_8_code 160 = .ok (.iaload, 1) := by decide +kernel
theorem dc_Mod_canTake_161 : decode prog_13_method_8_code 161 = .ok (.ifCond .le 5, 3) := by decide +kernel
theorem dc_Mod_canTake_164 : decode prog_13_method_8_code 164 = .ok (.iconst 0, 1) := by decide +kernel
theorem dc_Mod_canTake_165 : decode prog_13_method_8_code 165 = .ok (.ireturn, 1) := by decide +kernel
theorem dc_Mod_canTake_166 : decode prog_13_method_8_code 166 = .ok (.iinc 5 1, 3) := by decide +kernel
theorem dc_Mod_canTake_169 : decode prog_13_method_8_code 169 = .ok (.goto (-38), 3) := by decide +kernel
theorem dc_Mod_canTake_172 : decode prog_13_method_8_code 172 = .ok (.iconst 1, 1) := by decide +kernel
theorem dc_Mod_canTake_173 : decode prog_13_method_8_code 173 = .ok (.ireturn, 1) := by decide +kernel
theorem dc_Mod_take_0 : decode prog_13_method_9_code 0 = .ok (.aload_n 0, 1) := by decide +kernel
theorem dc_Mod_take_1 : decode prog_13_method_9_code 1 = .ok (.getfield 42, 3) := by decide +kernel
theorem dc_Mod_take_4 : decode prog_13_method_9_code 4 = .ok (.iload_n 2, 1) := by decide +kernel
theorem dc_Mod_take_5 : decode prog_13_method_9_code 5 = .ok (.iaload, 1) := by decide +kernel
theorem dc_Mod_take_6 : decode prog_13_method_9_code 6 = .ok (.istore 4, 2) := by decide +kernel
theorem dc_Mod_take_8 : decode prog_13_method_9_code 8 = .ok (.iload 4, 2) := by decide +kernel
theorem dc_Mod_take_10 : decode prog_13_method_9_code 10 = .ok (.iconst 2, 1) := by decide +kernel
theorem dc_Mod_take_11 : decode prog_13_method_9_code 11 = .ok (.if_icmp .eq 9, 3) := by decide +kernel
theorem dc_Mod_take_14 : decode prog_13_method_9_code 14 = .ok (.iload 4, 2) := by decide +kernel
theorem dc_Mod_take_16 : decode prog_13_method_9_code 16 = .ok (.iconst 3, 1) := by decide +kernel
theorem dc_Mod_take_17 : decode prog_13_method_9_code 17 = .ok (.if_icmp .ne 16, 3) := by decide +kernel
theorem dc_Mod_take_20 : decode prog_13_method_9_code 20 = .ok (.aload_n 0, 1) := by decide +kernel
theorem dc_Mod_take_21 : decode prog_13_method_9_code 21 = .ok (.getfield 51, 3) := by decide +kernel
theorem dc_Mod_take_24 : decode prog_13_method_9_code 24 = .ok (.iload_n 2, 1) := by decide +kernel
theorem dc_Mod_take_25 : decode prog_13_method_9_code 25 = .ok (.dup2, 1) := by decide +kernel
theorem dc_Mod_take_26 : decode prog_13_method_9_code 26 = .ok (.iaload, 1) := by decide +kernel
theorem dc_Mod_take_27 : decode prog_13_method_9_code 27 = .ok (.iconst 1, 1) := by decide +kernel
theorem dc_Mod_take_28 : decode prog_13_method_9_code 28 = .ok (.isub, 1) := by decide +kernel
theorem dc_Mod_take_29 : decode prog_13_method_9_code 29 = .ok (.iastore, 1) := by decide +kernel
theorem dc_Mod_take_30 : decode prog_13_method_9_code 30 = .ok (.goto 54, 3) := by decide +kernel
theorem dc_Mod_take_33 : decode prog_13_method_9_code 33 = .ok (.iload 4, 2) := by decide +kernel
theorem dc_Mod_take_35 : decode prog_13_method_9_code 35 = .ok (.iconst 5, 1) := by decide +kernel
theorem dc_Mod_take_36 : decode prog_13_method_9_code 36 = .ok (.if_icmp .ne 25, 3) := by decide +kernel
theorem dc_Mod_take_39 : decode prog_13_method_9_code 39 = .ok (.iload_n 3, 1) := by decide +kernel
theorem dc_Mod_take_40 : decode prog_13_method_9_code 40 = .ok (.ifCond .ne 21, 3) := by decide +kernel
theorem dc_Mod_take_43 : decode prog_13_method_9_code 43 = .ok (.aload_n 0, 1) := by decide +kernel
theorem dc_Mod_take_44 : decode prog_13_method_9_code 44 = .ok (.getfield 57, 3) := by decide +kernel
theorem dc_Mod_take_47 : decode prog_13_method_9_code 47 = .ok (.bipush 6, 2) := by decide +kernel
theorem dc_Mod_take_49 : decode prog_13_method_9_code 49 = .ok (.iload_n 2, 1) := by decide +kernel
theorem dc_Mod_take_50 : decode prog_13_method_9_code 50 = .ok (.imul, 1) := by decide +kernel
theorem dc_Mod_take_51 : decode prog_13_method_9_code 51 = .ok (.iload_n 1, 1) := by decide +kernel
theorem dc_Mod_take_52 : decode prog_13_method_9_code 52 = .ok (.iadd, 1) := by decide +kernel
theorem dc_Mod_take_53 : decode prog_13_method_9_code 53 = .ok (.dup2, 1) := by decide +kernel
theorem dc_Mod_take_54 : decode prog_13_method_9_code 54 = .ok (.iaload, 1) := by decide +kernel
theorem dc_Mod_take_55 : decode prog_13_method_9_code 55 = .ok (.iconst 1, 1) := by decide +kernel
theorem dc_Mod_take_56 : decode prog_13_method_9_code 56 = .ok (.iadd, 1) := by decide +kernel
theorem dc_Mod_take_57 : decode prog_13_method_9_code 57 = .ok (.iastore, 1) := by decide +kernel
theorem dc_Mod_take_58 : decode prog_13_method_9_code 58 = .ok (.goto 26, 3) := by decide +kernel
theorem dc_Mod_take_61 : decode prog_13_method_9_code 61 = .ok (.iload 4, 2) := by decide +kernel
theorem dc_Mod_take_63 : decode prog_13_method_9_code 63 = .ok (.iconst 4, 1) := by decide +kernel
theorem dc_Mod_take_64 : decode prog_13_method_9_code 64 = .ok (.if_icmp .eq 20, 3) := by decide +kernel
theorem dc_Mod_take_67 : decode prog_13_method_9_code 67 = .ok (.aload_n 0, 1) := by decide +kernel
theorem dc_Mod_take_68 : decode prog_13_method_9_code 68 = .ok (.getfield 45, 3) := by decide +kernel
theorem dc_Mod_take_71 : decode prog_13_method_9_code 71 = .ok (.iload_n 2, 1) := by decide +kernel
theorem dc_Mod_take_72 : decode prog_13_method_9_code 72 = .ok (.iload_n 1, 1) := by decide +kernel
theorem dc_Mod_take_73 : decode prog_13_method_9_code 73 = .ok (.iastore, 1) := by decide +kernel
theorem dc_Mod_take_74 : decode prog_13_method_9_code 74 = .ok (.aload_n 0, 1) := by decide +kernel
theorem dc_Mod_take_75 : decode prog_13_method_9_code 75 = .ok (.getfield 48, 3) := by decide +kernel
theorem dc_Mod_take_78 : decode prog_13_method_9_code 78 = .ok (.iload_n 2, 1) := by decide +kernel
theorem dc_Mod_take_79 : decode prog_13_method_9_code 79 = .ok (.dup2, 1) := by decide +kernel
theorem dc_Mod_take_80 : decode prog_13_method_9_code 80 = .ok (.iaload, 1) := by decide +kernel
theorem dc_Mod_take_81 : decode prog_13_method_9_code 81 = .ok (.iconst 1, 1) := by decide +kernel
theorem dc_Mod_take_82 : decode prog_13_method_9_code 82 = .ok (.iadd, 1) := by decide +kernel
theorem dc_Mod_take_83 : decode prog_13_method_9_code 83 = .ok (.iastore, 1) := by decide +kernel
theorem dc_Mod_take_84 : decode prog_13_method_9_code 84 = .ok (.return_, 1) := by decide +kernel
theorem dc_Mod_enter_0 : decode prog_13_method_11_code 0 = .ok (.aload_n 0, 1) := by decide +kernel
theorem dc_Mod_enter_1 : decode prog_13_method_11_code 1 = .ok (.getfield 60, 3) := by decide +kernel
theorem dc_Mod_enter_4 : decode prog_13_method_11_code 4 = .ok (.bipush 6, 2) := by decide +kernel
theorem dc_Mod_enter_6 : decode prog_13_method_11_code 6 = .ok (.iload_n 2, 1) := by decide +kernel
theorem dc_Mod_enter_7 : decode prog_13_method_11_code 7 = .ok (.imul, 1) := by decide +kernel
theorem dc_Mod_enter_8 : decode prog_13_method_11_code 8 = .ok (.aload_n 0, 1) := by decide +kernel
theorem dc_Mod_enter_9 : decode prog_13_method_11_code 9 = .ok (.getfield 63, 3) := by decide +kernel
theorem dc_Mod_enter_12 : decode prog_13_method_11_code 12 = .ok (.iload_n 2, 1) := by decide +kernel
theorem dc_Mod_enter_13 : decode prog_13_method_11_code 13 = .ok (.iaload, 1) := by decide +kernel
theorem dc_Mod_enter_14 : decode prog_13_method_11_code 14 = .ok (.iadd, 1) := by decide +kernel
theorem dc_Mod_enter_15 : decode prog_13_method_11_code 15 = .ok (.iload_n 1, 1) := by decide +kernel
theorem dc_Mod_enter_16 : decode prog_13_method_11_code 16 = .ok (.iastore, 1) := by decide +kernel
theorem dc_Mod_enter_17 : decode prog_13_method_11_code 17 = .ok (.aload_n 0, 1) := by decide +kernel
theorem dc_Mod_enter_18 : decode prog_13_method_11_code 18 = .ok (.getfield 63, 3) := by decide +kernel
theorem dc_Mod_enter_21 : decode prog_13_method_11_code 21 = .ok (.iload_n 2, 1) := by decide +kernel
theorem dc_Mod_enter_22 : decode prog_13_method_11_code 22 = .ok (.dup2, 1) := by decide +kernel
theorem dc_Mod_enter_23 : decode prog_13_method_11_code 23 = .ok (.iaload, 1) := by decide +kernel
theorem dc_Mod_enter_24 : decode prog_13_method_11_code 24 = .ok (.iconst 1, 1) := by decide +kernel
theorem dc_Mod_enter_25 : decode prog_13_method_11_code 25 = .ok (.iadd, 1) := by decide +kernel
theorem dc_Mod_enter_26 : decode prog_13_method_11_code 26 = .ok (.iastore, 1) := by decide +kernel
theorem dc_Mod_enter_27 : decode prog_13_method_11_code 27 = .ok (.aload_n 0, 1) := by decide +kernel
theorem dc_Mod_enter_28 : decode prog_13_method_11_code 28 = .ok (.getfield 24, 3) := by decide +kernel
theorem dc_Mod_enter_31 : decode prog_13_method_11_code 31 = .ok (.iload_n 1, 1) := by decide +kernel
theorem dc_Mod_enter_32 : decode prog_13_method_11_code 32 = .ok (.iload_n 2, 1) := by decide +kernel
theorem dc_Mod_enter_33 : decode prog_13_method_11_code 33 = .ok (.iastore, 1) := by decide +kernel
theorem dc_Mod_enter_34 : decode prog_13_method_11_code 34 = .ok (.aload_n 0, 1) := by decide +kernel
theorem dc_Mod_enter_35 : decode prog_13_method_11_code 35 = .ok (.getfield 33, 3) := by decide +kernel
theorem dc_Mod_enter_38 : decode prog_13_method_11_code 38 = .ok (.iload_n 1, 1) := by decide +kernel
theorem dc_Mod_enter_39 : decode prog_13_method_11_code 39 = .ok (.aload_n 0, 1) := by decide +kernel
theorem dc_Mod_enter_40 : decode prog_13_method_11_code 40 = .ok (.getfield 94, 3) := by decide +kernel
theorem dc_Mod_enter_43 : decode prog_13_method_11_code 43 = .ok (.dastore, 1) := by decide +kernel
theorem dc_Mod_enter_44 : decode prog_13_method_11_code 44 = .ok (.aload_n 0, 1) := by decide +kernel
theorem dc_Mod_enter_45 : decode prog_13_method_11_code 45 = .ok (.getfield 7, 3) := by decide +kernel
theorem dc_Mod_enter_48 : decode prog_13_method_11_code 48 = .ok (.iload_n 1, 1) := by decide +kernel
theorem dc_Mod_enter_49 : decode prog_13_method_11_code 49 = .ok (.iconst 1, 1) := by decide +kernel
theorem dc_Mod_enter_50 : decode prog_13_method_11_code 50 = .ok (.bastore, 1) := by decide +kernel
theorem dc_Mod_enter_51 : decode prog_13_method_11_code 51 = .ok (.return_, 1) := by decide +kernel
theorem dc_Mod_acquire_0 : decode prog_13_method_22_code 0 = .ok (.aload_n 0, 1) := by decide +kernel
theorem dc_Mod_acquire_1 : decode prog_13_method_22_code 1 = .ok (.aload_n 0, 1) := by decide +kernel
theorem dc_Mod_acquire_2 : decode prog_13_method_22_code 2 = .ok (.iload_n 1, 1) := by decide +kernel
theorem dc_Mod_acquire_3 : decode prog_13_method_22_code 3 = .ok (.bipush 6, 2) := by decide +kernel
theorem dc_Mod_acquire_5 : decode prog_13_method_22_code 5 = .ok (.invokevirtual 82, 3) := by decide +kernel
theorem dc_Mod_acquire_8 : decode prog_13_method_22_code 8 = .ok (.ifCond .ne 31, 3) := by decide +kernel
theorem dc_Mod_acquire_11 : decode prog_13_method_22_code 11 = .ok (.aload_n 0, 1) := by decide +kernel
theorem dc_Mod_acquire_12 : decode prog_13_method_22_code 12 = .ok (.iload_n 2, 1) := by decide +kernel
theorem dc_Mod_acquire_13 : decode prog_13_method_22_code 13 = .ok (.bipush 8, 2) := by decide +kernel
theorem dc_Mod_acquire_15 : decode prog_13_method_22_code 15 = .ok (.invokevirtual 82, 3) := by decide +kernel
theorem dc_Mod_acquire_18 : decode prog_13_method_22_code 18 = .ok (.ifCond .ne 21, 3) := by decide +kernel
theorem dc_Mod_acquire_21 : decode prog_13_method_22_code 21 = .ok (.aload_n 0, 1) := by decide +kernel
theorem dc_Mod_acquire_22 : decode prog_13_method_22_code 22 = .ok (.iload_n 3, 1) := by decide +kernel
theorem dc_Mod_acquire_23 : decode prog_13_method_22_code 23 = .ok (.iconst 2, 1) := by decide +kernel
theorem dc_Mod_acquire_24 : decode prog_13_method_22_code 24 = .ok (.invokevirtual 82, 3) := by decide +kernel
theorem dc_Mod_acquire_27 : decode prog_13_method_22_code 27 = .ok (.ifCond .ne 12, 3) := by decide +kernel
theorem dc_Mod_acquire_30 : decode prog_13_method_22_code 30 = .ok (.aload_n 0, 1) := by decide +kernel
theorem dc_Mod_acquire_31 : decode prog_13_method_22_code 31 = .ok (.dload 4, 2) := by decide +kernel
theorem dc_Mod_acquire_33 : decode prog_13_method_22_code 33 = .ok (.invokevirtual 138, 3) := by decide +kernel
theorem dc_Mod_acquire_36 : decode prog_13_method_22_code 36 = .ok (.ifCond .eq 7, 3) := by decide +kernel
theorem dc_Mod_acquire_39 : decode prog_13_method_22_code 39 = .ok (.iconst 1, 1) := by decide +kernel
theorem dc_Mod_acquire_40 : decode prog_13_method_22_code 40 = .ok (.goto 9, 3) := by decide +kernel
theorem dc_Mod_acquire_43 : decode prog_13_method_22_code 43 = .ok (.aload_n 0, 1) := by decide +kernel
theorem dc_Mod_acquire_44 : decode prog_13_method_22_code 44 = .ok (.iload_n 1, 1) := by decide +kernel
theorem dc_Mod_acquire_45 : decode prog_13_method_22_code 45 = .ok (.iload_n 2, 1) := by decide +kernel
theorem dc_Mod_acquire_46 : decode prog_13_method_22_code 46 = .ok (.invokevirtual 142, 3) := by decide +kernel
theorem dc_Mod_acquire_49 : decode prog_13_method_22_code 49 = .ok (.putfield 78, 3) := by decide +kernel
theorem dc_Mod_acquire_52 : decode prog_13_method_22_code 52 = .ok (.aload_n 0, 1) := by decide +kernel
theorem dc_Mod_acquire_53 : decode prog_13_method_22_code 53 = .ok (.getfield 78, 3) := by decide +kernel
theorem dc_Mod_acquire_56 : decode prog_13_method_22_code 56 = .ok (.ifCond .le 5, 3) := by decide +kernel
theorem dc_Mod_acquire_59 : decode prog_13_method_22_code 59 = .ok (.iconst 0, 1) := by decide +kernel
theorem dc_Mod_acquire_60 : decode prog_13_method_22_code 60 = .ok (.ireturn, 1) := by decide +kernel
theorem dc_Mod_acquire_61 : decode prog_13_method_22_code 61 = .ok (.aload_n 0, 1) := by decide +kernel
theorem dc_Mod_acquire_62 : decode prog_13_method_22_code 62 = .ok (.getfield 42, 3) := by decide +kernel
theorem dc_Mod_acquire_65 : decode prog_13_method_22_code 65 = .ok (.iload_n 2, 1) := by decide +kernel
theorem dc_Mod_acquire_66 : decode prog_13_method_22_code 66 = .ok (.iaload, 1) := by decide +kernel
theorem dc_Mod_acquire_67 : decode prog_13_method_22_code 67 = .ok (.bipush 6, 2) := by decide +kernel
theorem dc_Mod_acquire_69 : decode prog_13_method_22_code 69 = .ok (.if_icmp .ne 9, 3) := by decide +kernel
theorem dc_Mod_acquire_72 : decode prog_13_method_22_code 72 = .ok (.aload_n 0, 1) := by decide +kernel
theorem dc_Mod_acquire_73 : decode prog_13_method_22_code 73 = .ok (.iconst 4, 1) := by decide +kernel
theorem dc_Mod_acquire_74 : decode prog_13_method_22_code 74 = .ok (.invokevirtual 86, 3) := by decide +kernel
theorem dc_Mod_acquire_77 : decode prog_13_method_22_code 77 = .ok (.ireturn, 1) := by decide +kernel
theorem dc_Mod_acquire_78 : decode prog_13_method_22_code 78 = .ok (.aload_n 0, 1) := by decide +kernel
theorem dc_Mod_acquire_79 : decode prog_13_method_22_code 79 = .ok (.getfield 13, 3) := by decide +kernel
theorem dc_Mod_acquire_82 : decode prog_13_method_22_code 82 = .ok (.iload_n 1, 1) := by decide +kernel
theorem dc_Mod_acquire_83 : decode prog_13_method_22_code 83 = .ok (.baload, 1) := by decide +kernel
theorem dc_Mod_acquire_84 : decode prog_13_method_22_code 84 = .ok (.ifCond .eq 17, 3) := by decide +kernel
theorem dc_Mod_acquire_87 : decode prog_13_method_22_code 87 = .ok (.aload_n 0, 1) := by decide +kernel
theorem dc_Mod_acquire_88 : decode prog_13_method_22_code 88 = .ok (.getfield 13, 3) := by decide +kernel
theorem dc_Mod_acquire_91 : decode prog_13_method_22_code 91 = .ok (.iload_n 1, 1) := by decide +kernel
theorem dc_Mod_acquire_92 : decode prog_13_method_22_code 92 = .ok (.iconst 0, 1) := by decide +kernel
theorem dc_Mod_acquire_93 : decode prog_13_method_22_code 93 = .ok (.bastore, 1) := by decide +kernel
theorem dc_Mod_acquire_94 : decode prog_13_method_22_code 94 = .ok (.aload_n 0, 1) := by decide +kernel
theorem dc_Mod_acquire_95 : decode prog_13_method_22_code 95 = .ok (.iload_n 1, 1) := by decide +kernel
theorem dc_Mod_acquire_96 : decode prog_13_method_22_code 96 = .ok (.iconst 3, 1) := by decide +kernel
theorem dc_Mod_acquire_97 : decode prog_13_method_22_code 97 = .ok (.invokevirtual 146, 3) := by decide +kernel
theorem dc_Mod_acquire_100 : decode prog_13_method_22_code 100 = .ok (.ireturn, 1) := by decide +kernel
theorem dc_Mod_acquire_101 : decode prog_13_method_22_code 101 = .ok (.aload_n 0, 1) := by decide +kernel
theorem dc_Mod_acquire_102 : decode prog_13_method_22_code 102 = .ok (.iload_n 1, 1) := by decide +kernel
theorem dc_Mod_acquire_103 : decode prog_13_method_22_code 103 = .ok (.iload_n 2, 1) := by decide +kernel
theorem dc_Mod_acquire_104 : decode prog_13_method_22_code 104 = .ok (.invokevirtual 149, 3) := by decide +kernel
theorem dc_Mod_acquire_107 : decode prog_13_method_22_code 107 = .ok (.ifCond .ne 9, 3) := by decide +kernel
theorem dc_Mod_acquire_110 : decode prog_13_method_22_code 110 = .ok (.aload_n 0, 1) := by decide +kernel
theorem dc_Mod_acquire_111 : decode prog_13_method_22_code 111 = .ok (.iconst 4, 1) := by decide +kernel
theorem dc_Mod_acquire_112 : decode prog_13_method_22_code 112 = .ok (.invokevirtual 86, 3) := by decide +kernel
theorem dc_Mod_acquire_115 : decode prog_13_method_22_code 115 = .ok (.ireturn, 1) := by decide +kernel
theorem dc_Mod_acquire_116 : decode prog_13_method_22_code 116 = .ok (.aload_n 0, 1) := by decide +kernel
theorem dc_Mod_acquire_117 : decode prog_13_method_22_code 117 = .ok (.getfield 42, 3) := by decide +kernel
theorem dc_Mod_acquire_120 : decode prog_13_method_22_code 120 = .ok (.iload_n 2, 1) := by decide +kernel
theorem dc_Mod_acquire_121 : decode prog_13_method_22_code 121 = .ok (.iaload, 1) := by decide +kernel
theorem dc_Mod_acquire_122 : decode prog_13_method_22_code 122 = .ok (.iconst 5, 1) := by decide +kernel
theorem dc_Mod_acquire_123 : decode prog_13_method_22_code 123 = .ok (.if_icmp .ne 38, 3) := by decide +kernel
theorem dc_Mod_acquire_126 : decode prog_13_method_22_code 126 = .ok (.iload_n 3, 1) := by decide +kernel
theorem dc_Mod_acquire_127 : decode prog_13_method_22_code 127 = .ok (.iconst 1, 1) := by decide +kernel
theorem dc_Mod_acquire_128 : decode prog_13_method_22_code 128 = .ok (.if_icmp .ne 33, 3) := by decide +kernel
theorem dc_Mod_acquire_131 : decode prog_13_method_22_code 131 = .ok (.aload_n 0, 1) := by decide +kernel
theorem dc_Mod_acquire_132 : decode prog_13_method_22_code 132 = .ok (.getfield 57, 3) := by decide +kernel
theorem dc_Mod_acquire_135 : decode prog_13_method_22_code 135 = .ok (.bipush 6, 2) := by decide +kernel
theorem dc_Mod_acquire_137 : decode prog_13_method_22_code 137 = .ok (.iload_n 2, 1) := by decide +kernel
theorem dc_Mod_acquire_138 : decode prog_13_method_22_code 138 = .ok (.imul, 1) := by decide +kernel
theorem dc_Mod_acquire_139 : decode prog_13_method_22_code 139 = .ok (.iload_n 1, 1) := by decide +kernel
theorem dc_Mod_acquire_140 : decode prog_13_method_22_code 140 = .ok (.iadd, 1) := by decide +kernel
theorem dc_Mod_acquire_141 : decode prog_13_method_22_code 141 = .ok (.iaload, 1) := by decide +kernel
theorem dc_Mod_acquire_142 : decode prog_13_method_22_code 142 = .ok (.ifCond .le 19, 3) := by decide +kernel
theorem dc_Mod_acquire_145 : decode prog_13_method_22_code 145 = .ok (.aload_n 0, 1) := by decide +kernel
theorem dc_Mod_acquire_146 : decode prog_13_method_22_code 146 = .ok (.getfield 45, 3) := by decide +kernel
theorem dc_Mod_acquire_149 : decode prog_13_method_22_code 149 = .ok (.iload_n 2, 1) := by decide +kernel
theorem dc_Mod_acquire_150 : decode prog_13_method_22_code 150 = .ok (.iaload, 1) := by decide +kernel
theorem dc_Mod_acquire_151 : decode prog_13_method_22_code 151 = .ok (.iload_n 1, 1) := by decide +kernel
theorem dc_Mod_acquire_152 : decode prog_13_method_22_code 152 = .ok (.if_icmp .eq 9, 3) := by decide +kernel
theorem dc_Mod_acquire_155 : decode prog_13_method_22_code 155 = .ok (.aload_n 0, 1) := by decide +kernel
theorem dc_Mod_acquire_156 : decode prog_13_method_22_code 156 = .ok (.iconst 4, 1) := by decide +kernel
theorem dc_Mod_acquire_157 : decode prog_13_method_22_code 157 = .ok (.invokevirtual 86, 3) := by decide +kernel
theorem dc_Mod_acquire_160 : decode prog_13_method_22_code 160 = .ok (.ireturn, 1) := by decide +kernel
theorem dc_Mod_acquire_161 : decode prog_13_method_22_code 161 = .ok (.aload_n 0, 1) := by decide +kernel
theorem dc_Mod_acquire_162 : decode prog_13_method_22_code 162 = .ok (.iload_n 1, 1) := by decide +kernel
theorem dc_Mod_acquire_163 : decode prog_13_method_22_code 163 = .ok (.iload_n 2, 1) := by decide +kernel
theorem dc_Mod_acquire_164 : decode prog_13_method_22_code 164 = .ok (.iload_n 3, 1) := by decide +kernel
theorem dc_Mod_acquire_165 : decode prog_13_method_22_code 165 = .ok (.invokevirtual 152, 3) := by decide +kernel
theorem dc_Mod_acquire_168 : decode prog_13_method_22_code 168 = .ok (.ifCond .ne 27, 3) := by decide +kernel
theorem dc_Mod_acquire_171 : decode prog_13_method_22_code 171 = .ok (.aload_n 0, 1) := by decide +kernel
theorem dc_Mod_acquire_172 : decode prog_13_method_22_code 172 = .ok (.iload_n 1, 1) := by decide +kernel
theorem dc_Mod_acquire_173 : decode prog_13_method_22_code 173 = .ok (.iload_n 2, 1) := by decide +kernel
theorem dc_Mod_acquire_174 : decode prog_13_method_22_code 174 = .ok (.iload_n 3, 1) := by decide +kernel
theorem dc_Mod_acquire_175 : decode prog_13_method_22_code 175 = .ok (.invokevirtual 101, 3) := by decide +kernel
theorem dc_Mod_acquire_178 : decode prog_13_method_22_code 178 = .ok (.ifCond .eq 17, 3) := by decide +kernel
theorem dc_Mod_acquire_181 : decode prog_13_method_22_code 181 = .ok (.aload_n 0, 1) := by decide +kernel
theorem dc_Mod_acquire_182 : decode prog_13_method_22_code 182 = .ok (.iload_n 1, 1) := by decide +kernel
theorem dc_Mod_acquire_183 : decode prog_13_method_22_code 183 = .ok (.iload_n 2, 1) := by decide +kernel
theorem dc_Mod_acquire_184 : decode prog_13_method_22_code 184 = .ok (.iload_n 3, 1) := by decide +kernel
theorem dc_Mod_acquire_185 : decode prog_13_method_22_code 185 = .ok (.invokevirtual 112, 3) := by decide +kernel
theorem dc_Mod_acquire_188 : decode prog_13_method_22_code 188 = .ok (.aload_n 0, 1) := by decide +kernel
theorem dc_Mod_acquire_189 : decode prog_13_method_22_code 189 = .ok (.iload_n 1, 1) := by decide +kernel
theorem dc_Mod_acquire_190 : decode prog_13_method_22_code 190 = .ok (.iconst 1, 1) := by decide +kernel
theorem dc_Mod_acquire_191 : decode prog_13_method_22_code 191 = .ok (.invokevirtual 146, 3) := by decide +kernel
theorem dc_Mod_acquire_194 : decode prog_13_method_22_code 194 = .ok (.ireturn, 1) := by decide +kernel
theorem dc_Mod_acquire_195 : decode prog_13_method_22_code 195 = .ok (.dload 4, 2) := by decide +kernel
theorem dc_Mod_acquire_197 : decode prog_13_method_22_code 197 = .ok (.dconst 0, 1) := by decide +kernel
theorem dc_Mod_acquire_198 : decode prog_13_method_22_code 198 = .ok (.dcmp .l, 1) := by decide +kernel
theorem dc_Mod_acquire_199 : decode prog_13_method_22_code 199 = .ok (.ifCond .ne 10, 3) := by decide +kernel
theorem dc_Mod_acquire_202 : decode prog_13_method_22_code 202 = .ok (.aload_n 0, 1) := by decide +kernel
theorem dc_Mod_acquire_203 : decode prog_13_method_22_code 203 = .ok (.iload_n 1, 1) := by decide +kernel
theorem dc_Mod_acquire_204 : decode prog_13_method_22_code 204 = .ok (.iconst 2, 1) := by decide +kernel
theorem dc_Mod_acquire_205 : decode prog_13_method_22_code 205 = .ok (.invokevirtual 146, 3) := by decide +kernel
theorem dc_Mod_acquire_208 : decode prog_13_method_22_code 208 = .ok (.ireturn, 1) := by decide +kernel
theorem dc_Mod_acquire_209 : decode prog_13_method_22_code 209 = .ok (.aload_n 0, 1) := by decide +kernel
theorem dc_Mod_acquire_210 : decode prog_13_method_22_code 210 = .ok (.getfield 27, 3) := by decide +kernel
theorem dc_Mod_acquire_213 : decode prog_13_method_22_code 213 = .ok (.iload_n 1, 1) := by decide +kernel
theorem dc_Mod_acquire_214 : decode prog_13_method_22_code 214 = .ok (.iload_n 3, 1) := by decide +kernel
theorem dc_Mod_acquire_215 : decode prog_13_method_22_code 215 = .ok (.iastore, 1) := by decide +kernel
theorem dc_Mod_acquire_216 : decode prog_13_method_22_code 216 = .ok (.aload_n 0, 1) := by decide +kernel
theorem dc_Mod_acquire_217 : decode prog_13_method_22_code 217 = .ok (.getfield 30, 3) := by decide +kernel
theorem dc_Mod_acquire_220 : decode prog_13_method_22_code 220 = .ok (.iload_n 1, 1) := by decide +kernel
theorem dc_Mod_acquire_221 : decode prog_13_method_22_code 221 = .ok (.dload 4, 2) := by decide +kernel
theorem dc_Mod_acquire_223 : decode prog_13_method_22_code 223 = .ok (.dconst 0, 1) := by decide +kernel
theorem dc_Mod_acquire_224 : decode prog_13_method_22_code 224 = .ok (.dcmp .l, 1) := by decide +kernel
theorem dc_Mod_acquire_225 : decode prog_13_method_22_code 225 = .ok (.ifCond .le 13, 3) := by decide +kernel
theorem dc_Mod_acquire_228 : decode prog_13_method_22_code 228 = .ok (.aload_n 0, 1) := by decide +kernel
theorem dc_Mod_acquire_229 : decode prog_13_method_22_code 229 = .ok (.getfield 94, 3) := by decide +kernel
theorem dc_Mod_acquire_232 : decode prog_13_method_22_code 232 = .ok (.dload 4, 2) := by decide +kernel
theorem dc_Mod_acquire_234 : decode prog_13_method_22_code 234 = .ok (.dadd, 1) := by decide +kernel
theorem dc_Mod_acquire_235 : decode prog_13_method_22_code 235 = .ok (.goto 6, 3) := by decide +kernel
theorem dc_Mod_acquire_238 : decode prog_13_method_22_code 238 = .ok (.ldc2_w 116, 3) := by decide +kernel
theorem dc_Mod_acquire_241 : decode prog_13_method_22_code 241 = .ok (.dastore, 1) := by decide +kernel
theorem dc_Mod_acquire_242 : decode prog_13_method_22_code 242 = .ok (.aload_n 0, 1) := by decide +kernel
theorem dc_Mod_acquire_243 : decode prog_13_method_22_code 243 = .ok (.getfield 36, 3) := by decide +kernel
theorem dc_Mod_acquire_246 : decode prog_13_method_22_code 246 = .ok (.iload_n 1, 1) := by decide +kernel
theorem dc_Mod_acquire_247 : decode prog_13_method_22_code 247 = .ok (.iconst 0, 1) := by decide +kernel
theorem dc_Mod_acquire_248 : decode prog_13_method_22_code 248 = .ok (.iastore, 1) := by decide +kernel
theorem dc_Mod_acquire_249 : decode prog_13_method_22_code 249 = .ok (.aload_n 0, 1) := by decide +kernel
theorem dc_Mod_acquire_250 : decode prog_13_method_22_code 250 = .ok (.iload_n 1, 1) := by decide +kernel
theorem dc_Mod_acquire_251 : decode prog_13_method_22_code 251 = .ok (.iload_n 2, 1) := by decide +kernel
theorem dc_Mod_acquire_252 : decode prog_13_method_22_code 252 = .ok (.invokevirtual 118, 3) := by decide +kernel
theorem dc_Mod_acquire_255 : decode prog_13_method_22_code 255 = .ok (.aload_n 0, 1) := by decide +kernel
theorem dc_Mod_acquire_256 : decode prog_13_method_22_code 256 = .ok (.iload_n 1, 1) := by decide +kernel
theorem dc_Mod_acquire_257 : decode prog_13_method_22_code 257 = .ok (.iconst 0, 1) := by decide +kernel
theorem dc_Mod_acquire_258 : decode prog_13_method_22_code 258 = .ok (.invokevirtual 146, 3) := by decide +kernel
theorem dc_Mod_acquire_261 : decode prog_13_method_22_code 261 = .ok (.ireturn, 1) := by decide +kernel
theorem dc_Mod_next_0 : decode prog_13_method_13_code 0 = .ok (.aload_n 0, 1) := by decide +kernel
theorem dc_Mod_next_1 : decode prog_13_method_13_code 1 = .ok (.getfield 60, 3) := by decide +kernel
theorem dc_Mod_next_4 : decode prog_13_method_13_code 4 = .ok (.bipush 6, 2) := by decide +kernel
theorem dc_Mod_next_6 : decode prog_13_method_13_code 6 = .ok (.iload_n 1, 1) := by decide +kernel
theorem dc_Mod_next_7 : decode prog_13_method_13_code 7 = .ok (.imul, 1) := by decide +kernel
theorem dc_Mod_next_8 : decode prog_13_method_13_code 8 = .ok (.iaload, 1) := by decide +kernel
theorem dc_Mod_next_9 : decode prog_13_method_13_code 9 = .ok (.istore_n 2, 1) := by decide +kernel
theorem dc_Mod_next_10 : decode prog_13_method_13_code 10 = .ok (.iconst 1, 1) := by decide +kernel
theorem dc_Mod_next_11 : decode prog_13_method_13_code 11 = .ok (.istore_n 3, 1) := by decide +kernel
theorem dc_Mod_next_12 : decode prog_13_method_13_code 12 = .ok (.iload_n 3, 1) := by decide +kernel
theorem dc_Mod_next_13 : decode prog_13_method_13_code 13 = .ok (.aload_n 0, 1) := by decide +kernel
theorem dc_Mod_next_14 : decode prog_13_method_13_code 14 = .ok (.getfield 63, 3) := by decide +kernel
theorem dc_Mod_next_17 : decode prog_13_method_13_code 17 = .ok (.iload_n 1, 1) := by decide +kernel
theorem dc_Mod_next_18 : decode prog_13_method_13_code 18 = .ok (.iaload, 1) := by decide +kernel
theorem dc_Mod_next_19 : decode prog_13_method_13_code 19 = .ok (.if_icmp .ge 82, 3) := by decide +kernel
theorem dc_Mod_next_22 : decode prog_13_method_13_code 22 = .ok (.aload_n 0, 1) := by decide +kernel
theorem dc_Mod_next_23 : decode prog_13_method_13_code 23 = .ok (.getfield 60, 3) := by decide +kernel
theorem dc_Mod_next_26 : decode prog_13_method_13_code 26 = .ok (.bipush 6, 2) := by decide +kernel
theorem dc_Mod_next_28 : decode prog_13_method_13_code 28 = .ok (.iload_n 1, 1) := by decide +kernel
theorem dc_Mod_next_29 : decode prog_13_method_13_code 29 = .ok (.imul, 1) := by decide +kernel
theorem dc_Mod_next_30 : decode prog_13_method_13_code 30 = .ok (.iload_n 3, 1) := by decide +kernel
theorem dc_Mod_next_31 : decode prog_13_method_13_code 31 = .ok (.iadd, 1) := by decide +kernel
theorem dc_Mod_next_32 : decode prog_13_method_13_code 32 = .ok (.iaload, 1) := by decide +kernel
theorem dc_Mod_next_33 : decode prog_13_method_13_code 33 = .ok (.istore 4, 2) := by decide +kernel
theorem dc_Mod_next_35 : decode prog_13_method_13_code 35 = .ok (.aload_n 0, 1) := by decide +kernel
theorem dc_Mod_next_36 : decode prog_13_method_13_code 36 = .ok (.getfield 42, 3) := by decide +kernel
theorem dc_Mod_next_39 : decode prog_13_method_13_code 39 = .ok (.iload_n 1, 1) := by decide +kernel
theorem dc_Mod_next_40 : decode prog_13_method_13_code 40 = .ok (.iaload, 1) := by decide +kernel
theorem dc_Mod_next_41 : decode prog_13_method_13_code 41 = .ok (.iconst 3, 1) := by decide +kernel
theorem dc_Mod_next_42 : decode prog_13_method_13_code 42 = .ok (.if_icmp .ne 20, 3) := by decide +kernel
theorem dc_Mod_next_45 : decode prog_13_method_13_code 45 = .ok (.aload_n 0, 1) := by decide +kernel
theorem dc_Mod_next_46 : decode prog_13_method_13_code 46 = .ok (.getfield 16, 3) := by decide +kernel
theorem dc_Mod_next_49 : decode prog_13_method_13_code 49 = .ok (.iload 4, 2) := by decide +kernel
theorem dc_Mod_next_51 : decode prog_13_method_13_code 51 = .ok (.daload, 1) := by decide +kernel
theorem dc_Mod_next_52 : decode prog_13_method_13_code 52 = .ok (.aload_n 0, 1) := by decide +kernel
theorem dc_Mod_next_53 : decode prog_13_method_13_code 53 = .ok (.getfield 16, 3) := by decide +kernel
theorem dc_Mod_next_56 : decode prog_13_method_13_code 56 = .ok (.iload_n 2, 1) := by decide +kernel
theorem dc_Mod_next_57 : decode prog_13_method_13_code 57 = .ok (.daload, 1) := by decide +kernel
theorem dc_Mod_next_58 : decode prog_13_method_13_code 58 = .ok (.dcmp .l, 1) := by decide +kernel
theorem dc_Mod_next_59 : decode prog_13_method_13_code 59 = .ok (.ifCond .gt 33, 3) := by decide +kernel
theorem dc_Mod_next_62 : decode prog_13_method_13_code 62 = .ok (.aload_n 0, 1) := by decide +kernel
theorem dc_Mod_next_63 : decode prog_13_method_13_code 63 = .ok (.getfield 42, 3) := by decide +kernel
theorem dc_Mod_next_66 : decode prog_13_method_13_code 66 = .ok (.iload_n 1, 1) := by decide +kernel
theorem dc_Mod_next_67 : decode prog_13_method_13_code 67 = .ok (.iaload, 1) := by decide +kernel
theorem dc_Mod_next_68 : decode prog_13_method_13_code 68 = .ok (.iconst 5, 1) := by decide +kernel
theorem dc_Mod_next_69 : decode prog_13_method_13_code 69 = .ok (.if_icmp .ne 26, 3) := by decide +kernel
theorem dc_Mod_next_72 : decode prog_13_method_13_code 72 = .ok (.aload_n 0, 1) := by decide +kernel
theorem dc_Mod_next_73 : decode prog_13_method_13_code 73 = .ok (.getfield 27, 3) := by decide +kernel
theorem dc_Mod_next_76 : decode prog_13_method_13_code 76 = .ok (.iload_n 2, 1) := by decide +kernel
theorem dc_Mod_next_77 : decode prog_13_method_13_code 77 = .ok (.iaload, 1) := by decide +kernel
theorem dc_Mod_next_78 : decode prog_13_method_13_code 78 = .ok (.ifCond .ne 17, 3) := by decide +kernel
theorem dc_Mod_next_81 : decode prog_13_method_13_code 81 = .ok (.aload_n 0, 1) := by decide +kernel
theorem dc_Mod_next_82 : decode prog_13_method_13_code 82 = .ok (.getfield 27, 3) := by decide +kernel
theorem dc_Mod_next_85 : decode prog_13_method_13_code 85 = .ok (.iload 4, 2) := by decide +kernel
theorem dc_Mod_next_87 : decode prog_13_method_13_code 87 = .ok (.iaload, 1) := by decide +kernel
theorem dc_Mod_next_88 : decode prog_13_method_13_code 88 = .ok (.iconst 1, 1) := by decide +kernel
theorem dc_Mod_next_89 : decode prog_13_method_13_code 89 = .ok (.if_icmp .ne 6, 3) := by decide +kernel
theorem dc_Mod_next_92 : decode prog_13_method_13_code 92 = .ok (.iload 4, 2) := by decide +kernel
theorem dc_Mod_next_94 : decode prog_13_method_13_code 94 = .ok (.istore_n 2, 1) := by decide +kernel
theorem dc_Mod_next_95 : decode prog_13_method_13_code 95 = .ok (.iinc 3 1, 3) := by decide +kernel
theorem dc_Mod_next_98 : decode prog_13_method_13_code 98 = .ok (.goto (-86), 3) := by decide +kernel
theorem dc_Mod_next_101 : decode prog_13_method_13_code 101 = .ok (.iload_n 2, 1) := by decide +kernel
theorem dc_Mod_next_102 : decode prog_13_method_13_code 102 = .ok (.ireturn, 1) := by decide +kernel
theorem dc_Mod_remove_0 : decode prog_13_method_12_code 0 = .ok (.iconst 0, 1) := by decide +kernel
theorem dc_Mod_remove_1 : decode prog_13_method_12_code 1 = .ok (.istore_n 3, 1) := by decide +kernel
theorem dc_Mod_remove_2 : decode prog_13_method_12_code 2 = .ok (.aload_n 0, 1) := by decide +kernel
theorem dc_Mod_remove_3 : decode prog_13_method_12_code 3 = .ok (.getfield 60, 3) := by decide +kernel
theorem dc_Mod_remove_6 : decode prog_13_method_12_code 6 = .ok (.bipush 6, 2) := by decide +kernel
theorem dc_Mod_remove_8 : decode prog_13_method_12_code 8 = .ok (.iload_n 2, 1) := by decide +kernel
theorem dc_Mod_remove_9 : decode prog_13_method_12_code 9 = .ok (.imul, 1) := by decide +kernel
theorem dc_Mod_remove_10 : decode prog_13_method_12_code 10 = .ok (.iload_n 3, 1) := by decide +kernel
theorem dc_Mod_remove_11 : decode prog_13_method_12_code 11 = .ok (.iadd, 1) := by decide +kernel
theorem dc_Mod_remove_12 : decode prog_13_method_12_code 12 = .ok (.iaload, 1) := by decide +kernel
theorem dc_Mod_remove_13 : decode prog_13_method_12_code 13 = .ok (.iload_n 1, 1) := by decide +kernel
theorem dc_Mod_remove_14 : decode prog_13_method_12_code 14 = .ok (.if_icmp .eq 9, 3) := by decide +kernel
theorem dc_Mod_remove_17 : decode prog_13_method_12_code 17 = .ok (.iinc 3 1, 3) := by decide +kernel
theorem dc_Mod_remove_20 : decode prog_13_method_12_code 20 = .ok (.goto (-18), 3) := by decide +kernel
theorem dc_Mod_remove_23 : decode prog_13_method_12_code 23 = .ok (.aload_n 0, 1) := by decide +kernel
theorem dc_Mod_remove_24 : decode prog_13_method_12_code 24 = .ok (.getfield 63, 3) := by decide +kernel
theorem dc_Mod_remove_27 : decode prog_13_method_12_code 27 = .ok (.iload_n 2, 1) := by decide +kernel
theorem dc_Mod_remove_28 : decode prog_13_method_12_code 28 = .ok (.dup2, 1) := by decide +kernel
theorem dc_Mod_remove_29 : decode prog_13_method_12_code 29 = .ok (.iaload, 1) := by decide +kernel
theorem dc_Mod_remove_30 : decode prog_13_method_12_code 30 = .ok (.iconst 1, 1) := by decide +kernel
theorem dc_Mod_remove_31 : decode prog_13_method_12_code 31 = .ok (.isub, 1) := by decide +kernel
theorem dc_Mod_remove_32 : decode prog_13_method_12_code 32 = .ok (.iastore, 1) := by decide +kernel
theorem dc_Mod_remove_33 : decode prog_13_method_12_code 33 = .ok (.iload_n 3, 1) := by decide +kernel
theorem dc_Mod_remove_34 : decode prog_13_method_12_code 34 = .ok (.istore 4, 2) := by decide +kernel
theorem dc_Mod_remove_36 : decode prog_13_method_12_code 36 = .ok (.iload 4, 2) := by decide +kernel
theorem dc_Mod_remove_38 : decode prog_13_method_12_code 38 = .ok (.aload_n 0, 1) := by decide +kernel
theorem dc_Mod_remove_39 : decode prog_13_method_12_code 39 = .ok (.getfield 63, 3) := by decide +kernel
theorem dc_Mod_remove_42 : decode prog_13_method_12_code 42 = .ok (.iload_n 2, 1) := by decide +kernel
theorem dc_Mod_remove_43 : decode prog_13_method_12_code 43 = .ok (.iaload, 1) := by decide +kernel
theorem dc_Mod_remove_44 : decode prog_13_method_12_code 44 = .ok (.if_icmp .ge 35, 3) := by decide +kernel
theorem dc_Mod_remove_47 : decode prog_13_method_12_code 47 = .ok (.aload_n 0, 1) := by decide +kernel
theorem dc_Mod_remove_48 : decode prog_13_method_12_code 48 = .ok (.getfield 60, 3) := by decide +kernel
theorem dc_Mod_remove_51 : decode prog_13_method_12_code 51 = .ok (.bipush 6, 2) := by decide +kernel
theorem dc_Mod_remove_53 : decode prog_13_method_12_code 53 = .ok (.iload_n 2, 1) := by decide +kernel
theorem dc_Mod_remove_54 : decode prog_13_method_12_code 54 = .ok (.imul, 1) := by decide +kernel
theorem dc_Mod_remove_55 : decode prog_13_method_12_code 55 = .ok (.iload 4, 2) := by decide +kernel
theorem dc_Mod_remove_57 : decode prog_13_method_12_code 57 = .ok (.iadd, 1) := by decide +kernel
theorem dc_Mod_remove_58 : decode prog_13_method_12_code 58 = .ok (.aload_n 0, 1) := by decide +kernel
theorem dc_Mod_remove_59 : decode prog_13_method_12_code 59 = .ok (.getfield 60, 3) := by decide +kernel
theorem dc_Mod_remove_62 : decode prog_13_method_12_code 62 = .ok (.bipush 6, 2) := by decide +kernel
theorem dc_Mod_remove_64 : decode prog_13_method_12_code 64 = .ok (.iload_n 2, 1) := by decide +kernel
theorem dc_Mod_remove_65 : decode prog_13_method_12_code 65 = .ok (.imul, 1) := by decide +kernel
theorem dc_Mod_remove_66 : decode prog_13_method_12_code 66 = .ok (.iload 4, 2) := by decide +kernel
theorem dc_Mod_remove_68 : decode prog_13_method_12_code 68 = .ok (.iadd, 1) := by decide +kernel
theorem dc_Mod_remove_69 : decode prog_13_method_12_code 69 = .ok (.iconst 1, 1) := by decide +kernel
theorem dc_Mod_remove_70 : decode prog_13_method_12_code 70 = .ok (.iadd, 1) := by decide +kernel
theorem dc_Mod_remove_71 : decode prog_13_method_12_code 71 = .ok (.iaload, 1) := by decide +kernel
theorem dc_Mod_remove_72 : decode prog_13_method_12_code 72 = .ok (.iastore, 1) := by decide +kernel
theorem dc_Mod_remove_73 : decode prog_13_method_12_code 73 = .ok (.iinc 4 1, 3) := by decide +kernel
theorem dc_Mod_remove_76 : decode prog_13_method_12_code 76 = .ok (.goto (-40), 3) := by decide +kernel
theorem dc_Mod_remove_79 : decode prog_13_method_12_code 79 = .ok (.aload_n 0, 1) := by decide +kernel
theorem dc_Mod_remove_80 : decode prog_13_method_12_code 80 = .ok (.getfield 24, 3) := by decide +kernel
theorem dc_Mod_remove_83 : decode prog_13_method_12_code 83 = .ok (.iload_n 1, 1) := by decide +kernel
theorem dc_Mod_remove_84 : decode prog_13_method_12_code 84 = .ok (.iconst (-1), 1) := by decide +kernel
theorem dc_Mod_remove_85 : decode prog_13_method_12_code 85 = .ok (.iastore, 1) := by decide +kernel
theorem dc_Mod_remove_86 : decode prog_13_method_12_code 86 = .ok (.return_, 1) := by decide +kernel
theorem dc_Mod_addWaited_0 : decode prog_13_method_14_code 0 = .ok (.aload_n 0, 1) := by decide +kernel
theorem dc_Mod_addWaited_1 : decode prog_13_method_14_code 1 = .ok (.getfield 66, 3) := by decide +kernel
theorem dc_Mod_addWaited_4 : decode prog_13_method_14_code 4 = .ok (.iload_n 2, 1) := by decide +kernel
theorem dc_Mod_addWaited_5 : decode prog_13_method_14_code 5 = .ok (.dup2, 1) := by decide +kernel
theorem dc_Mod_addWaited_6 : decode prog_13_method_14_code 6 = .ok (.daload, 1) := by decide +kernel
theorem dc_Mod_addWaited_7 : decode prog_13_method_14_code 7 = .ok (.aload_n 0, 1) := by decide +kernel
theorem dc_Mod_addWaited_8 : decode prog_13_method_14_code 8 = .ok (.getfield 94, 3) := by decide +kernel
theorem dc_Mod_addWaited_11 : decode prog_13_method_14_code 11 = .ok (.aload_n 0, 1) := by decide +kernel
theorem dc_Mod_addWaited_12 : decode prog_13_method_14_code 12 = .ok (.getfield 33, 3) := by decide +kernel
theorem dc_Mod_addWaited_15 : decode prog_13_method_14_code 15 = .ok (.iload_n 1, 1) := by decide +kernel
theorem dc_Mod_addWaited_16 : decode prog_13_method_14_code 16 = .ok (.daload, 1) := by decide +kernel
theorem dc_Mod_addWaited_17 : decode prog_13_method_14_code 17 = .ok (.dsub, 1) := by decide +kernel
theorem dc_Mod_addWaited_18 : decode prog_13_method_14_code 18 = .ok (.dadd, 1) := by decide +kernel
theorem dc_Mod_addWaited_19 : decode prog_13_method_14_code 19 = .ok (.dastore, 1) := by decide +kernel
theorem dc_Mod_addWaited_20 : decode prog_13_method_14_code 20 = .ok (.aload_n 0, 1) := by decide +kernel
theorem dc_Mod_addWaited_21 : decode prog_13_method_14_code 21 = .ok (.getfield 69, 3) := by decide +kernel
theorem dc_Mod_addWaited_24 : decode prog_13_method_14_code 24 = .ok (.iload_n 2, 1) := by decide +kernel
theorem dc_Mod_addWaited_25 : decode prog_13_method_14_code 25 = .ok (.dup2, 1) := by decide +kernel
theorem dc_Mod_addWaited_26 : decode prog_13_method_14_code 26 = .ok (.iaload, 1) := by decide +kernel
theorem dc_Mod_addWaited_27 : decode prog_13_method_14_code 27 = .ok (.iconst 1, 1) := by decide +kernel
theorem dc_Mod_addWaited_28 : decode prog_13_method_14_code 28 = .ok (.iadd, 1) := by decide +kernel
theorem dc_Mod_addWaited_29 : decode prog_13_method_14_code 29 = .ok (.iastore, 1) := by decide +kernel
theorem dc_Mod_addWaited_30 : decode prog_13_method_14_code 30 = .ok (.return_, 1) := by decide +kernel
theorem dc_Mod_serve_0 : decode prog_13_method_15_code 0 = .ok (.aload_n 0, 1) := by decide +kernel
theorem dc_Mod_serve_1 : decode prog_13_method_15_code 1 = .ok (.getfield 42, 3) := by decide +kernel
theorem dc_Mod_serve_4 : decode prog_13_method_15_code 4 = .ok (.iload_n 1, 1) := by decide +kernel
theorem dc_Mod_serve_5 : decode prog_13_method_15_code 5 = .ok (.iaload, 1) := by decide +kernel
theorem dc_Mod_serve_6 : decode prog_13_method_15_code 6 = .ok (.bipush 6, 2) := by decide +kernel
theorem dc_Mod_serve_8 : decode prog_13_method_15_code 8 = .ok (.if_icmp .eq 131, 3) := by decide +kernel
theorem dc_Mod_serve_11 : decode prog_13_method_15_code 11 = .ok (.aload_n 0, 1) := by decide +kernel
theorem dc_Mod_serve_12 : decode prog_13_method_15_code 12 = .ok (.getfield 63, 3) := by decide +kernel
theorem dc_Mod_serve_15 : decode prog_13_method_15_code 15 = .ok (.iload_n 1, 1) := by decide +kernel
theorem dc_Mod_serve_16 : decode prog_13_method_15_code 16 = .ok (.iaload, 1) := by decide +kernel
theorem dc_Mod_serve_17 : decode prog_13_method_15_code 17 = .ok (.ifCond .le 122, 3) := by decide +kernel
theorem dc_Mod_serve_20 : decode prog_13_method_15_code 20 = .ok (.aload_n 0, 1) := by decide +kernel
theorem dc_Mod_serve_21 : decode prog_13_method_15_code 21 = .ok (.iload_n 1, 1) := by decide +kernel
theorem dc_Mod_serve_22 : decode prog_13_method_15_code 22 = .ok (.invokevirtual 98, 3) := by decide +kernel
theorem dc_Mod_serve_25 : decode prog_13_method_15_code 25 = .ok (.istore_n 2, 1) := by decide +kernel
theorem dc_Mod_serve_26 : decode prog_13_method_15_code 26 = .ok (.aload_n 0, 1) := by decide +kernel
theorem dc_Mod_serve_27 : decode prog_13_method_15_code 27 = .ok (.iload_n 2, 1) := by decide +kernel
theorem dc_Mod_serve_28 : decode prog_13_method_15_code 28 = .ok (.iload_n 1, 1) := by decide +kernel
theorem dc_Mod_serve_29 : decode prog_13_method_15_code 29 = .ok (.aload_n 0, 1) := by decide +kernel
theorem dc_Mod_serve_30 : decode prog_13_method_15_code 30 = .ok (.getfield 27, 3) := by decide +kernel
theorem dc_Mod_serve_33 : decode prog_13_method_15_code 33 = .ok (.iload_n 2, 1) := by decide +kernel
theorem dc_Mod_serve_34 : decode prog_13_method_15_code 34 = .ok (.iaload, 1) := by decide +kernel
theorem dc_Mod_serve_35 : decode prog_13_method_15_code 35 = .ok (.invokevirtual 101, 3) := by decide +kernel
theorem dc_Mod_serve_38 : decode prog_13_method_15_code 38 = .ok (.ifCond .ne 4, 3) := by decide +kernel
theorem dc_Mod_serve_41 : decode prog_13_method_15_code 41 = .ok (.return_, 1) := by decide +kernel
theorem dc_Mod_serve_42 : decode prog_13_method_15_code 42 = .ok (.aload_n 0, 1) := by decide +kernel
theorem dc_Mod_serve_43 : decode prog_13_method_15_code 43 = .ok (.iload_n 2, 1) := by decide +kernel
theorem dc_Mod_serve_44 : decode prog_13_method_15_code 44 = .ok (.iload_n 1, 1) := by decide +kernel
theorem dc_Mod_serve_45 : decode prog_13_method_15_code 45 = .ok (.invokevirtual 105, 3) := by decide +kernel
theorem dc_Mod_serve_48 : decode prog_13_method_15_code 48 = .ok (.aload_n 0, 1) := by decide +kernel
theorem dc_Mod_serve_49 : decode prog_13_method_15_code 49 = .ok (.iload_n 2, 1) := by decide +kernel
theorem dc_Mod_serve_50 : decode prog_13_method_15_code 50 = .ok (.iload_n 1, 1) := by decide +kernel
theorem dc_Mod_serve_51 : decode prog_13_method_15_code 51 = .ok (.invokevirtual 109, 3) := by decide +kernel
theorem dc_Mod_serve_54 : decode prog_13_method_15_code 54 = .ok (.aload_n 0, 1) := by decide +kernel
theorem dc_Mod_serve_55 : decode prog_13_method_15_code 55 = .ok (.getfield 7, 3) := by decide +kernel
theorem dc_Mod_serve_58 : decode prog_13_method_15_code 58 = .ok (.iload_n 2, 1) := by decide +kernel
theorem dc_Mod_serve_59 : decode prog_13_method_15_code 59 = .ok (.iconst 0, 1) := by decide +kernel
theorem dc_Mod_serve_60 : decode prog_13_method_15_code 60 = .ok (.bastore, 1) := by decide +kernel
theorem dc_Mod_serve_61 : decode prog_13_method_15_code 61 = .ok (.aload_n 0, 1) := by decide +kernel
theorem dc_Mod_serve_62 : decode prog_13_method_15_code 62 = .ok (.getfield 20, 3) := by decide +kernel
theorem dc_Mod_serve_65 : decode prog_13_method_15_code 65 = .ok (.iload_n 2, 1) := by decide +kernel
theorem dc_Mod_serve_66 : decode prog_13_method_15_code 66 = .ok (.aload_n 0, 1) := by decide +kernel
theorem dc_Mod_serve_67 : decode prog_13_method_15_code 67 = .ok (.getfield 36, 3) := by decide +kernel
theorem dc_Mod_serve_70 : decode prog_13_method_15_code 70 = .ok (.iload_n 2, 1) := by decide +kernel
theorem dc_Mod_serve_71 : decode prog_13_method_15_code 71 = .ok (.iaload, 1) := by decide +kernel
theorem dc_Mod_serve_72 : decode prog_13_method_15_code 72 = .ok (.ifCond .le 12, 3) := by decide +kernel
theorem dc_Mod_serve_75 : decode prog_13_method_15_code 75 = .ok (.aload_n 0, 1) := by decide +kernel
theorem dc_Mod_serve_76 : decode prog_13_method_15_code 76 = .ok (.getfield 39, 3) := by decide +kernel
theorem dc_Mod_serve_79 : decode prog_13_method_15_code 79 = .ok (.iload_n 2, 1) := by decide +kernel
theorem dc_Mod_serve_80 : decode prog_13_method_15_code 80 = .ok (.iaload, 1) := by decide +kernel
theorem dc_Mod_serve_81 : decode prog_13_method_15_code 81 = .ok (.goto 4, 3) := by decide +kernel
theorem dc_Mod_serve_84 : decode prog_13_method_15_code 84 = .ok (.iconst 1, 1) := by decide +kernel
theorem dc_Mod_serve_85 : decode prog_13_method_15_code 85 = .ok (.iastore, 1) := by decide +kernel
theorem dc_Mod_serve_86 : decode prog_13_method_15_code 86 = .ok (.aload_n 0, 1) := by decide +kernel
theorem dc_Mod_serve_87 : decode prog_13_method_15_code 87 = .ok (.getfield 36, 3) := by decide +kernel
theorem dc_Mod_serve_90 : decode prog_13_method_15_code 90 = .ok (.iload_n 2, 1) := by decide +kernel
theorem dc_Mod_serve_91 : decode prog_13_method_15_code 91 = .ok (.iaload, 1) := by decide +kernel
theorem dc_Mod_serve_92 : decode prog_13_method_15_code 92 = .ok (.ifCond .le 32, 3) := by decide +kernel
theorem dc_Mod_serve_95 : decode prog_13_method_15_code 95 = .ok (.aload_n 0, 1) := by decide +kernel
theorem dc_Mod_serve_96 : decode prog_13_method_15_code 96 = .ok (.getfield 45, 3) := by decide +kernel
theorem dc_Mod_serve_99 : decode prog_13_method_15_code 99 = .ok (.iload_n 1, 1) := by decide +kernel
theorem dc_Mod_serve_100 : decode prog_13_method_15_code 100 = .ok (.iload_n 2, 1) := by decide +kernel
theorem dc_Mod_serve_101 : decode prog_13_method_15_code 101 = .ok (.iastore, 1) := by decide +kernel
theorem dc_Mod_serve_102 : decode prog_13_method_15_code 102 = .ok (.aload_n 0, 1) := by decide +kernel
theorem dc_Mod_serve_103 : decode prog_13_method_15_code 103 = .ok (.getfield 48, 3) := by decide +kernel
theorem dc_Mod_serve_106 : decode prog_13_method_15_code 106 = .ok (.iload_n 1, 1) := by decide +kernel
theorem dc_Mod_serve_107 : decode prog_13_method_15_code 107 = .ok (.aload_n 0, 1) := by decide +kernel
theorem dc_Mod_serve_108 : decode prog_13_method_15_code 108 = .ok (.getfield 36, 3) := by decide +kernel
theorem dc_Mod_serve_111 : decode prog_13_method_15_code 111 = .ok (.iload_n 2, 1) := by decide +kernel
theorem dc_Mod_serve_112 : decode prog_13_method_15_code 112 = .ok (.iaload, 1) := by decide +kernel
theorem dc_Mod_serve_113 : decode prog_13_method_15_code 113 = .ok (.iastore, 1) := by decide +kernel
theorem dc_Mod_serve_114 : decode prog_13_method_15_code 114 = .ok (.aload_n 0, 1) := by decide +kernel
theorem dc_Mod_serve_115 : decode prog_13_method_15_code 115 = .ok (.getfield 36, 3) := by decide +kernel
theorem dc_Mod_serve_118 : decode prog_13_method_15_code 118 = .ok (.iload_n 2, 1) := by decide +kernel
theorem dc_Mod_serve_119 : decode prog_13_method_15_code 119 = .ok (.iconst 0, 1) := by decide +kernel
theorem dc_Mod_serve_120 : decode prog_13_method_15_code 120 = .ok (.iastore, 1) := by decide +kernel
theorem dc_Mod_serve_121 : decode prog_13_method_15_code 121 = .ok (.goto 15, 3) := by decide +kernel
theorem dc_Mod_serve_124 : decode prog_13_method_15_code 124 = .ok (.aload_n 0, 1) := by decide +kernel
theorem dc_Mod_serve_125 : decode prog_13_method_15_code 125 = .ok (.iload_n 2, 1) := by decide +kernel
theorem dc_Mod_serve_126 : decode prog_13_method_15_code 126 = .ok (.iload_n 1, 1) := by decide +kernel
theorem dc_Mod_serve_127 : decode prog_13_method_15_code 127 = .ok (.aload_n 0, 1) := by decide +kernel
theorem dc_Mod_serve_128 : decode prog_13_method_15_code 128 = .ok (.getfield 27, 3) := by decide +kernel
theorem dc_Mod_serve_131 : decode prog_13_method_15_code 131 = .ok (.iload_n 2, 1) := by decide +kernel
theorem dc_Mod_serve_132 : decode prog_13_method_15_code 132 = .ok (.iaload, 1) := by decide +kernel
theorem dc_Mod_serve_133 : decode prog_13_method_15_code 133 = .ok (.invokevirtual 112, 3) := by decide +kernel
theorem dc_Mod_serve_136 : decode prog_13_method_15_code 136 = .ok (.goto (-136), 3) := by decide +kernel
theorem dc_Mod_serve_139 : decode prog_13_method_15_code 139 = .ok (.return_, 1) := by decide +kernel
theorem dc_Mod_release_0 : decode prog_13_method_23_code 0 = .ok (.aload_n 0, 1) := by decide +kernel
theorem dc_Mod_release_1 : decode prog_13_method_23_code 1 = .ok (.aload_n 0, 1) := by decide +kernel
theorem dc_Mod_release_2 : decode prog_13_method_23_code 2 = .ok (.iload_n 1, 1) := by decide +kernel
theorem dc_Mod_release_3 : decode prog_13_method_23_code 3 = .ok (.bipush 6, 2) := by decide +kernel
theorem dc_Mod_release_5 : decode prog_13_method_23_code 5 = .ok (.invokevirtual 82, 3) := by decide +kernel
theorem dc_Mod_release_8 : decode prog_13_method_23_code 8 = .ok (.ifCond .ne 22, 3) := by decide +kernel
theorem dc_Mod_release_11 : decode prog_13_method_23_code 11 = .ok (.aload_n 0, 1) := by decide +kernel
theorem dc_Mod_release_12 : decode prog_13_method_23_code 12 = .ok (.iload_n 2, 1) := by decide +kernel
theorem dc_Mod_release_13 : decode prog_13_method_23_code 13 = .ok (.bipush 8, 2) := by decide +kernel
theorem dc_Mod_release_15 : decode prog_13_method_23_code 15 = .ok (.invokevirtual 82, 3) := by decide +kernel
theorem dc_Mod_release_18 : decode prog_13_method_23_code 18 = .ok (.ifCond .ne 12, 3) := by decide +kernel
theorem dc_Mod_release_21 : decode prog_13_method_23_code 21 = .ok (.aload_n 0, 1) := by decide +kernel
theorem dc_Mod_release_22 : decode prog_13_method_23_code 22 = .ok (.iload_n 3, 1) := by decide +kernel
theorem dc_Mod_release_23 : decode prog_13_method_23_code 23 = .ok (.iconst 2, 1) := by decide +kernel
theorem dc_Mod_release_24 : decode prog_13_method_23_code 24 = .ok (.invokevirtual 82, 3) := by decide +kernel
theorem dc_Mod_release_27 : decode prog_13_method_23_code 27 = .ok (.ifCond .eq 7, 3) := by decide +kernel
theorem dc_Mod_release_30 : decode prog_13_method_23_code 30 = .ok (.iconst 1, 1) := by decide +kernel
theorem dc_Mod_release_31 : decode prog_13_method_23_code 31 = .ok (.goto 9, 3) := by decide +kernel
theorem dc_Mod_release_34 : decode prog_13_method_23_code 34 = .ok (.aload_n 0, 1) := by decide +kernel
theorem dc_Mod_release_35 : decode prog_13_method_23_code 35 = .ok (.iload_n 1, 1) := by decide +kernel
theorem dc_Mod_release_36 : decode prog_13_method_23_code 36 = .ok (.iload_n 2, 1) := by decide +kernel
theorem dc_Mod_release_37 : decode prog_13_method_23_code 37 = .ok (.invokevirtual 142, 3) := by decide +kernel
theorem dc_Mod_release_40 : decode prog_13_method_23_code 40 = .ok (.putfield 78, 3) := by decide +kernel
theorem dc_Mod_release_43 : decode prog_13_method_23_code 43 = .ok (.aload_n 0, 1) := by decide +kernel
theorem dc_Mod_release_44 : decode prog_13_method_23_code 44 = .ok (.getfield 78, 3) := by decide +kernel
theorem dc_Mod_release_47 : decode prog_13_method_23_code 47 = .ok (.ifCond .le 5, 3) := by decide +kernel
theorem dc_Mod_release_50 : decode prog_13_method_23_code 50 = .ok (.iconst 0, 1) := by decide +kernel
theorem dc_Mod_release_51 : decode prog_13_method_23_code 51 = .ok (.ireturn, 1) := by decide +kernel
theorem dc_Mod_release_52 : decode prog_13_method_23_code 52 = .ok (.aload_n 0, 1) := by decide +kernel
theorem dc_Mod_release_53 : decode prog_13_method_23_code 53 = .ok (.getfield 42, 3) := by decide +kernel
theorem dc_Mod_release_56 : decode prog_13_method_23_code 56 = .ok (.iload_n 2, 1) := by decide +kernel
theorem dc_Mod_release_57 : decode prog_13_method_23_code 57 = .ok (.iaload, 1) := by decide +kernel
theorem dc_Mod_release_58 : decode prog_13_method_23_code 58 = .ok (.istore 4, 2) := by decide +kernel
theorem dc_Mod_release_60 : decode prog_13_method_23_code 60 = .ok (.aload_n 0, 1) := by decide +kernel
theorem dc_Mod_release_61 : decode prog_13_method_23_code 61 = .ok (.getfield 63, 3) := by decide +kernel
theorem dc_Mod_release_64 : decode prog_13_method_23_code 64 = .ok (.iload_n 2, 1) := by decide +kernel
theorem dc_Mod_release_65 : decode prog_13_method_23_code 65 = .ok (.iaload, 1) := by decide +kernel
theorem dc_Mod_release_66 : decode prog_13_method_23_code 66 = .ok (.istore 5, 2) := by decide +kernel
theorem dc_Mod_release_68 : decode prog_13_method_23_code 68 = .ok (.iload 4, 2) := by decide +kernel
theorem dc_Mod_release_70 : decode prog_13_method_23_code 70 = .ok (.bipush 6, 2) := by decide +kernel
theorem dc_Mod_release_72 : decode prog_13_method_23_code 72 = .ok (.if_icmp .eq 26, 3) := by decide +kernel
theorem dc_Mod_release_75 : decode prog_13_method_23_code 75 = .ok (.iload 4, 2) := by decide +kernel
theorem dc_Mod_release_77 : decode prog_13_method_23_code 77 = .ok (.iconst 2, 1) := by decide +kernel
theorem dc_Mod_release_78 : decode prog_13_method_23_code 78 = .ok (.if_icmp .eq 9, 3) := by decide +kernel
theorem dc_Mod_release_81 : decode prog_13_method_23_code 81 = .ok (.iload 4, 2) := by decide +kernel
theorem dc_Mod_release_83 : decode prog_13_method_23_code 83 = .ok (.iconst 3, 1) := by decide +kernel
theorem dc_Mod_release_84 : decode prog_13_method_23_code 84 = .ok (.if_icmp .ne 20, 3) := by decide +kernel
theorem dc_Mod_release_87 : decode prog_13_method_23_code 87 = .ok (.aload_n 0, 1) := by decide +kernel
theorem dc_Mod_release_88 : decode prog_13_method_23_code 88 = .ok (.getfield 51, 3) := by decide +kernel
theorem dc_Mod_release_91 : decode prog_13_method_23_code 91 = .ok (.iload_n 2, 1) := by decide +kernel
theorem dc_Mod_release_92 : decode prog_13_method_23_code 92 = .ok (.iaload, 1) := by decide +kernel
theorem dc_Mod_release_93 : decode prog_13_method_23_code 93 = .ok (.bipush 100, 2) := by decide +kernel
theorem dc_Mod_release_95 : decode prog_13_method_23_code 95 = .ok (.if_icmp .ne 9, 3) := by decide +kernel
theorem dc_Mod_release_98 : decode prog_13_method_23_code 98 = .ok (.aload_n 0, 1) := by decide +kernel
theorem dc_Mod_release_99 : decode prog_13_method_23_code 99 = .ok (.iconst 4, 1) := by decide +kernel
theorem dc_Mod_release_100 : decode prog_13_method_23_code 100 = .ok (.invokevirtual 86, 3) := by decide +kernel
theorem dc_Mod_release_103 : decode prog_13_method_23_code 103 = .ok (.ireturn, 1) := by decide +kernel
theorem dc_Mod_release_104 : decode prog_13_method_23_code 104 = .ok (.aload_n 0, 1) := by decide +kernel
theorem dc_Mod_release_105 : decode prog_13_method_23_code 105 = .ok (.getfield 45, 3) := by decide +kernel
theorem dc_Mod_release_108 : decode prog_13_method_23_code 108 = .ok (.iload_n 2, 1) := by decide +kernel
theorem dc_Mod_release_109 : decode prog_13_method_23_code 109 = .ok (.iaload, 1) := by decide +kernel
theorem dc_Mod_release_110 : decode prog_13_method_23_code 110 = .ok (.iload_n 1, 1) := by decide +kernel
theorem dc_Mod_release_111 : decode prog_13_method_23_code 111 = .ok (.if_icmp .ne 7, 3) := by decide +kernel
theorem dc_Mod_release_114 : decode prog_13_method_23_code 114 = .ok (.iconst 1, 1) := by decide +kernel
theorem dc_Mod_release_115 : decode prog_13_method_23_code 115 = .ok (.goto 4, 3) := by decide +kernel
theorem dc_Mod_release_118 : decode prog_13_method_23_code 118 = .ok (.iconst 0, 1) := by decide +kernel
theorem dc_Mod_release_119 : decode prog_13_method_23_code 119 = .ok (.istore 6, 2) := by decide +kernel
theorem dc_Mod_release_121 : decode prog_13_method_23_code 121 = .ok (.iload 4, 2) := by decide +kernel
theorem dc_Mod_release_123 : decode prog_13_method_23_code 123 = .ok (.iconst 5, 1) := by decide +kernel
theorem dc_Mod_release_124 : decode prog_13_method_23_code 124 = .ok (.if_icmp .ne 45, 3) := by decide +kernel
theorem dc_Mod_release_127 : decode prog_13_method_23_code 127 = .ok (.iload_n 3, 1) := by decide +kernel
theorem dc_Mod_release_128 : decode prog_13_method_23_code 128 = .ok (.ifCond .ne 41, 3) := by decide +kernel
theorem dc_Mod_release_131 : decode prog_13_method_23_code 131 = .ok (.aload_n 0, 1) := by decide +kernel
theorem dc_Mod_release_132 : decode prog_13_method_23_code 132 = .ok (.getfield 57, 3) := by decide +kernel
theorem dc_Mod_release_135 : decode prog_13_method_23_code 135 = .ok (.bipush 6, 2) := by decide +kernel
theorem dc_Mod_release_137 : decode prog_13_method_23_code 137 = .ok (.iload_n 2, 1) := by decide +kernel
theorem dc_Mod_release_138 : decode prog_13_method_23_code 138 = .ok (.imul, 1) := by decide +kernel
theorem dc_Mod_release_139 : decode prog_13_method_23_code 139 = .ok (.iload_n 1, 1) := by decide +kernel
theorem dc_Mod_release_140 : decode prog_13_method_23_code 140 = .ok (.iadd, 1) := by decide +kernel
theorem dc_Mod_release_141 : decode prog_13_method_23_code 141 = .ok (.iaload, 1) := by decide +kernel
theorem dc_Mod_release_142 : decode prog_13_method_23_code 142 = .ok (.ifCond .ne 9, 3) := by decide +kernel
theorem dc_Mod_release_145 : decode prog_13_method_23_code 145 = .ok (.aload_n 0, 1) := by decide +kernel
theorem dc_Mod_release_146 : decode prog_13_method_23_code 146 = .ok (.iconst 3, 1) := by decide +kernel
theorem dc_Mod_release_147 : decode prog_13_method_23_code 147 = .ok (.invokevirtual 86, 3) := by decide +kernel
theorem dc_Mod_release_150 : decode prog_13_method_23_code 150 = .ok (.ireturn, 1) := by decide +kernel
theorem dc_Mod_release_151 : decode prog_13_method_23_code 151 = .ok (.aload_n 0, 1) := by decide +kernel
theorem dc_Mod_release_152 : decode prog_13_method_23_code 152 = .ok (.getfield 57, 3) := by decide +kernel
theorem dc_Mod_release_155 : decode prog_13_method_23_code 155 = .ok (.bipush 6, 2) := by decide +kernel
theorem dc_Mod_release_157 : decode prog_13_method_23_code 157 = .ok (.iload_n 2, 1) := by decide +kernel
theorem dc_Mod_release_158 : decode prog_13_method_23_code 158 = .ok (.imul, 1) := by decide +kernel
theorem dc_Mod_release_159 : decode prog_13_method_23_code 159 = .ok (.iload_n 1, 1) := by decide +kernel
theorem dc_Mod_release_160 : decode prog_13_method_23_code 160 = .ok (.iadd, 1) := by decide +kernel
theorem dc_Mod_release_161 : decode prog_13_method_23_code 161 = .ok (.dup2, 1) := by decide +kernel
theorem dc_Mod_release_162 : decode prog_13_method_23_code 162 = .ok (.iaload, 1) := by decide +kernel
theorem dc_Mod_release_163 : decode prog_13_method_23_code 163 = .ok (.iconst 1, 1) := by decide +kernel
theorem dc_Mod_release_164 : decode prog_13_method_23_code 164 = .ok (.isub, 1) := by decide +kernel
theorem dc_Mod_release_165 : decode prog_13_method_23_code 165 = .ok (.iastore, 1) := by decide +kernel
theorem dc_Mod_release_166 : decode prog_13_method_23_code 166 = .ok (.goto 101, 3) := by decide +kernel
theorem dc_Mod_release_169 : decode prog_13_method_23_code 169 = .ok (.iload 4, 2) := by decide +kernel
theorem dc_Mod_release_171 : decode prog_13_method_23_code 171 = .ok (.iconst 2, 1) := by decide +kernel
theorem dc_Mod_release_172 : decode prog_13_method_23_code 172 = .ok (.if_icmp .eq 9, 3) := by decide +kernel
theorem dc_Mod_release_175 : decode prog_13_method_23_code 175 = .ok (.iload 4, 2) := by decide +kernel
theorem dc_Mod_release_177 : decode prog_13_method_23_code 177 = .ok (.iconst 3, 1) := by decide +kernel
theorem dc_Mod_release_178 : decode prog_13_method_23_code 178 = .ok (.if_icmp .ne 16, 3) := by decide +kernel
theorem dc_Mod_release_181 : decode prog_13_method_23_code 181 = .ok (.aload_n 0, 1) := by decide +kernel
theorem dc_Mod_release_182 : decode prog_13_method_23_code 182 = .ok (.getfield 51, 3) := by decide +kernel
theorem dc_Mod_release_185 : decode prog_13_method_23_code 185 = .ok (.iload_n 2, 1) := by decide +kernel
theorem dc_Mod_release_186 : decode prog_13_method_23_code 186 = .ok (.dup2, 1) := by decide +kernel
theorem dc_Mod_release_187 : decode prog_13_method_23_code 187 = .ok (.iaload, 1) := by decide +kernel
theorem dc_Mod_release_188 : decode prog_13_method_23_code 188 = .ok (.iconst 1, 1) := by decide +kernel
theorem dc_Mod_release_189 : decode prog_13_method_23_code 189 = .ok (.iadd, 1) := by decide +kernel
theorem dc_Mod_release_190 : decode prog_13_method_23_code 190 = .ok (.iastore, 1) := by decide +kernel
theorem dc_Mod_release_191 : decode prog_13_method_23_code 191 = .ok (.goto 76, 3) := by decide +kernel
theorem dc_Mod_release_194 : decode prog_13_method_23_code 194 = .ok (.iload 4, 2) := by decide +kernel
theorem dc_Mod_release_196 : decode prog_13_method_23_code 196 = .ok (.iconst 4, 1) := by decide +kernel
theorem dc_Mod_release_197 : decode prog_13_method_23_code 197 = .ok (.if_icmp .ne 33, 3) := by decide +kernel
theorem dc_Mod_release_200 : decode prog_13_method_23_code 200 = .ok (.aload_n 0, 1) := by decide +kernel
theorem dc_Mod_release_201 : decode prog_13_method_23_code 201 = .ok (.getfield 51, 3) := by decide +kernel
theorem dc_Mod_release_204 : decode prog_13_method_23_code 204 = .ok (.iload_n 2, 1) := by decide +kernel
theorem dc_Mod_release_205 : decode prog_13_method_23_code 205 = .ok (.aload_n 0, 1) := by decide +kernel
theorem dc_Mod_release_206 : decode prog_13_method_23_code 206 = .ok (.getfield 51, 3) := by decide +kernel
theorem dc_Mod_release_209 : decode prog_13_method_23_code 209 = .ok (.iload_n 2, 1) := by decide +kernel
theorem dc_Mod_release_210 : decode prog_13_method_23_code 210 = .ok (.iaload, 1) := by decide +kernel
theorem dc_Mod_release_211 : decode prog_13_method_23_code 211 = .ok (.ifCond .le 14, 3) := by decide +kernel
theorem dc_Mod_release_214 : decode prog_13_method_23_code 214 = .ok (.aload_n 0, 1) := by decide +kernel
theorem dc_Mod_release_215 : decode prog_13_method_23_code 215 = .ok (.getfield 51, 3) := by decide +kernel
theorem dc_Mod_release_218 : decode prog_13_method_23_code 218 = .ok (.iload_n 2, 1) := by decide +kernel
theorem dc_Mod_release_219 : decode prog_13_method_23_code 219 = .ok (.iaload, 1) := by decide +kernel
theorem dc_Mod_release_220 : decode prog_13_method_23_code 220 = .ok (.iconst 1, 1) := by decide +kernel
theorem dc_Mod_release_221 : decode prog_13_method_23_code 221 = .ok (.isub, 1) := by decide +kernel
theorem dc_Mod_release_222 : decode prog_13_method_23_code 222 = .ok (.goto 4, 3) := by decide +kernel
theorem dc_Mod_release_225 : decode prog_13_method_23_code 225 = .ok (.iconst 0, 1) := by decide +kernel
theorem dc_Mod_release_226 : decode prog_13_method_23_code 226 = .ok (.iastore, 1) := by decide +kernel
theorem dc_Mod_release_227 : decode prog_13_method_23_code 227 = .ok (.goto 40, 3) := by decide +kernel
theorem dc_Mod_release_230 : decode prog_13_method_23_code 230 = .ok (.iload 6, 2) := by decide +kernel
theorem dc_Mod_release_232 : decode prog_13_method_23_code 232 = .ok (.ifCond .ne 9, 3) := by decide +kernel
theorem dc_Mod_release_235 : decode prog_13_method_23_code 235 = .ok (.aload_n 0, 1) := by decide +kernel
theorem dc_Mod_release_236 : decode prog_13_method_23_code 236 = .ok (.iconst 3, 1) := by decide +kernel
theorem dc_Mod_release_237 : decode prog_13_method_23_code 237 = .ok (.invokevirtual 86, 3) := by decide +kernel
theorem dc_Mod_release_240 : decode prog_13_method_23_code 240 = .ok (.ireturn, 1) := by decide +kernel
theorem dc_Mod_release_241 : decode prog_13_method_23_code 241 = .ok (.aload_n 0, 1) := by decide +kernel
theorem dc_Mod_release_242 : decode prog_13_method_23_code 242 = .ok (.getfield 48, 3) := by decide +kernel
theorem dc_Mod_release_245 : decode prog_13_method_23_code 245 = .ok (.iload_n 2, 1) := by decide +kernel
theorem dc_Mod_release_246 : decode prog_13_method_23_code 246 = .ok (.dup2, 1) := by decide +kernel
theorem dc_Mod_release_247 : decode prog_13_method_23_code 247 = .ok (.iaload, 1) := by decide +kernel
theorem dc_Mod_release_248 : decode prog_13_method_23_code 248 = .ok (.iconst 1, 1) := by decide +kernel
theorem dc_Mod_release_249 : decode prog_13_method_23_code 249 = .ok (.isub, 1) := by decide +kernel
theorem dc_Mod_release_250 : decode prog_13_method_23_code 250 = .ok (.iastore, 1) := by decide +kernel
theorem dc_Mod_release_251 : decode prog_13_method_23_code 251 = .ok (.aload_n 0, 1) := by decide +kernel
theorem dc_Mod_release_252 : decode prog_13_method_23_code 252 = .ok (.getfield 48, 3) := by decide +kernel
theorem dc_Mod_release_255 : decode prog_13_method_23_code 255 = .ok (.iload_n 2, 1) := by decide +kernel
theorem dc_Mod_release_256 : decode prog_13_method_23_code 256 = .ok (.iaload, 1) := by decide +kernel
theorem dc_Mod_release_257 : decode prog_13_method_23_code 257 = .ok (.ifCond .ne 10, 3) := by decide +kernel
theorem dc_Mod_release_260 : decode prog_13_method_23_code 260 = .ok (.aload_n 0, 1) := by decide +kernel
theorem dc_Mod_release_261 : decode prog_13_method_23_code 261 = .ok (.getfield 45, 3) := by decide +kernel
theorem dc_Mod_release_264 : decode prog_13_method_23_code 264 = .ok (.iload_n 2, 1) := by decide +kernel
theorem dc_Mod_release_265 : decode prog_13_method_23_code 265 = .ok (.iconst (-1), 1) := by decide +kernel
theorem dc_Mod_release_266 : decode prog_13_method_23_code 266 = .ok (.iastore, 1) := by decide +kernel
theorem dc_Mod_release_267 : decode prog_13_method_23_code 267 = .ok (.aload_n 0, 1) := by decide +kernel
theorem dc_Mod_release_268 : decode prog_13_method_23_code 268 = .ok (.iload_n 2, 1) := by decide +kernel
theorem dc_Mod_release_269 : decode prog_13_method_23_code 269 = .ok (.invokevirtual 121, 3) := by decide +kernel
theorem dc_Mod_release_272 : decode prog_13_method_23_code 272 = .ok (.iload 5, 2) := by decide +kernel
theorem dc_Mod_release_274 : decode prog_13_method_23_code 274 = .ok (.ireturn, 1) := by decide +kernel
theorem dc_Mod_checkCondition_0 : decode prog_13_method_24_code 0 = .ok (.aload_n 0, 1) := by decide +kernel
theorem dc_Mod_checkCondition_1 : decode prog_13_method_24_code 1 = .ok (.iload_n 1, 1) := by decide +kernel
theorem dc_Mod_checkCondition_2 : decode prog_13_method_24_code 2 = .ok (.iload_n 2, 1) := by decide +kernel
theorem dc_Mod_checkCondition_3 : decode prog_13_method_24_code 3 = .ok (.invokevirtual 142, 3) := by decide +kernel
theorem dc_Mod_checkCondition_6 : decode prog_13_method_24_code 6 = .ok (.istore_n 3, 1) := by decide +kernel
theorem dc_Mod_checkCondition_7 : decode prog_13_method_24_code 7 = .ok (.iload_n 3, 1) := by decide +kernel
theorem dc_Mod_checkCondition_8 : decode prog_13_method_24_code 8 = .ok (.ifCond .le 5, 3) := by decide +kernel
theorem dc_Mod_checkCondition_11 : decode prog_13_method_24_code 11 = .ok (.iload_n 3, 1) := by decide +kernel
theorem dc_Mod_checkCondition_12 : decode prog_13_method_24_code 12 = .ok (.ireturn, 1) := by decide +kernel
theorem dc_Mod_checkCondition_13 : decode prog_13_method_24_code 13 = .ok (.aload_n 0, 1) := by decide +kernel
theorem dc_Mod_checkCondition_14 : decode prog_13_method_24_code 14 = .ok (.getfield 42, 3) := by decide +kernel
theorem dc_Mod_checkCondition_17 : decode prog_13_method_24_code 17 = .ok (.iload_n 2, 1) := by decide +kernel
theorem dc_Mod_checkCondition_18 : decode prog_13_method_24_code 18 = .ok (.iaload, 1) := by decide +kernel
theorem dc_Mod_checkCondition_19 : decode prog_13_method_24_code 19 = .ok (.bipush 6, 2) := by decide +kernel
theorem dc_Mod_checkCondition_21 : decode prog_13_method_24_code 21 = .ok (.if_icmp .eq 5, 3) := by decide +kernel
theorem dc_Mod_checkCondition_24 : decode prog_13_method_24_code 24 = .ok (.iconst 4, 1) := by decide +kernel
theorem dc_Mod_checkCondition_25 : decode prog_13_method_24_code 25 = .ok (.ireturn, 1) := by decide +kernel
theorem dc_Mod_checkCondition_26 : decode prog_13_method_24_code 26 = .ok (.aload_n 0, 1) := by decide +kernel
theorem dc_Mod_checkCondition_27 : decode prog_13_method_24_code 27 = .ok (.getfield 45, 3) := by decide +kernel
theorem dc_Mod_checkCondition_30 : decode prog_13_method_24_code 30 = .ok (.aload_n 0, 1) := by decide +kernel
theorem dc_Mod_checkCondition_31 : decode prog_13_method_24_code 31 = .ok (.getfield 54, 3) := by decide +kernel
theorem dc_Mod_checkCondition_34 : decode prog_13_method_24_code 34 = .ok (.iload_n 2, 1) := by decide +kernel
theorem dc_Mod_checkCondition_35 : decode prog_13_method_24_code 35 = .ok (.iaload, 1) := by decide +kernel
theorem dc_Mod_checkCondition_36 : decode prog_13_method_24_code 36 = .ok (.iaload, 1) := by decide +kernel
theorem dc_Mod_checkCondition_37 : decode prog_13_method_24_code 37 = .ok (.iload_n 1, 1) := by decide +kernel
theorem dc_Mod_checkCondition_38 : decode prog_13_method_24_code 38 = .ok (.if_icmp .eq 7, 3) := by decide +kernel
theorem dc_Mod_checkCondition_41 : decode prog_13_method_24_code 41 = .ok (.iconst 3, 1) := by decide +kernel
theorem dc_Mod_checkCondition_42 : decode prog_13_method_24_code 42 = .ok (.goto 4, 3) := by decide +kernel
theorem dc_Mod_checkCondition_45 : decode prog_13_method_24_code 45 = .ok (.iconst 0, 1) := by decide +kernel
theorem dc_Mod_checkCondition_46 : decode prog_13_method_24_code 46 = .ok (.ireturn, 1) := by decide +kernel
theorem dc_Mod_queue_0 : decode prog_13_method_16_code 0 = .ok (.aload_n 0, 1) := by decide +kernel
theorem dc_Mod_queue_1 : decode prog_13_method_16_code 1 = .ok (.getfield 24, 3) := by decide +kernel
theorem dc_Mod_queue_4 : decode prog_13_method_16_code 4 = .ok (.iload_n 1, 1) := by decide +kernel
theorem dc_Mod_queue_5 : decode prog_13_method_16_code 5 = .ok (.iaload, 1) := by decide +kernel
theorem dc_Mod_queue_6 : decode prog_13_method_16_code 6 = .ok (.iload_n 2, 1) := by decide +kernel
theorem dc_Mod_queue_7 : decode prog_13_method_16_code 7 = .ok (.if_icmp .ne 20, 3) := by decide +kernel
theorem dc_Mod_queue_10 : decode prog_13_method_16_code 10 = .ok (.iload_n 3, 1) := by decide +kernel
theorem dc_Mod_queue_11 : decode prog_13_method_16_code 11 = .ok (.iconst 1, 1) := by decide +kernel
theorem dc_Mod_queue_12 : decode prog_13_method_16_code 12 = .ok (.if_icmp .ne 9, 3) := by decide +kernel
theorem dc_Mod_queue_15 : decode prog_13_method_16_code 15 = .ok (.aload_n 0, 1) := by decide +kernel
theorem dc_Mod_queue_16 : decode prog_13_method_16_code 16 = .ok (.iload_n 1, 1) := by decide +kernel
theorem dc_Mod_queue_17 : decode prog_13_method_16_code 17 = .ok (.iload_n 2, 1) := by decide +kernel
theorem dc_Mod_queue_18 : decode prog_13_method_16_code 18 = .ok (.invokevirtual 109, 3) := by decide +kernel
theorem dc_Mod_queue_21 : decode prog_13_method_16_code 21 = .ok (.aload_n 0, 1) := by decide +kernel
theorem dc_Mod_queue_22 : decode prog_13_method_16_code 22 = .ok (.iload_n 1, 1) := by decide +kernel
theorem dc_Mod_queue_23 : decode prog_13_method_16_code 23 = .ok (.iload_n 2, 1) := by decide +kernel
theorem dc_Mod_queue_24 : decode prog_13_method_16_code 24 = .ok (.invokevirtual 105, 3) := by decide +kernel
theorem dc_Mod_queue_27 : decode prog_13_method_16_code 27 = .ok (.aload_n 0, 1) := by decide +kernel
theorem dc_Mod_queue_28 : decode prog_13_method_16_code 28 = .ok (.getfield 39, 3) := by decide +kernel
theorem dc_Mod_queue_31 : decode prog_13_method_16_code 31 = .ok (.iload_n 1, 1) := by decide +kernel
theorem dc_Mod_queue_32 : decode prog_13_method_16_code 32 = .ok (.iload_n 3, 1) := by decide +kernel
theorem dc_Mod_queue_33 : decode prog_13_method_16_code 33 = .ok (.iastore, 1) := by decide +kernel
theorem dc_Mod_queue_34 : decode prog_13_method_16_code 34 = .ok (.aload_n 0, 1) := by decide +kernel
theorem dc_Mod_queue_35 : decode prog_13_method_16_code 35 = .ok (.getfield 30, 3) := by decide +kernel
theorem dc_Mod_queue_38 : decode prog_13_method_16_code 38 = .ok (.iload_n 1, 1) := by decide +kernel
theorem dc_Mod_queue_39 : decode prog_13_method_16_code 39 = .ok (.ldc2_w 116, 3) := by decide +kernel
theorem dc_Mod_queue_42 : decode prog_13_method_16_code 42 = .ok (.dastore, 1) := by decide +kernel
theorem dc_Mod_queue_43 : decode prog_13_method_16_code 43 = .ok (.aload_n 0, 1) := by decide +kernel
theorem dc_Mod_queue_44 : decode prog_13_method_16_code 44 = .ok (.getfield 27, 3) := by decide +kernel
theorem dc_Mod_queue_47 : decode prog_13_method_16_code 47 = .ok (.iload_n 1, 1) := by decide +kernel
theorem dc_Mod_queue_48 : decode prog_13_method_16_code 48 = .ok (.iconst 0, 1) := by decide +kernel
theorem dc_Mod_queue_49 : decode prog_13_method_16_code 49 = .ok (.iastore, 1) := by decide +kernel
theorem dc_Mod_queue_50 : decode prog_13_method_16_code 50 = .ok (.aload_n 0, 1) := by decide +kernel
theorem dc_Mod_queue_51 : decode prog_13_method_16_code 51 = .ok (.iload_n 1, 1) := by decide +kernel
theorem dc_Mod_queue_52 : decode prog_13_method_16_code 52 = .ok (.aload_n 0, 1) := by decide +kernel
theorem dc_Mod_queue_53 : decode prog_13_method_16_code 53 = .ok (.getfield 54, 3) := by decide +kernel
theorem dc_Mod_queue_56 : decode prog_13_method_16_code 56 = .ok (.iload_n 2, 1) := by decide +kernel
theorem dc_Mod_queue_57 : decode prog_13_method_16_code 57 = .ok (.iaload, 1) := by decide +kernel
theorem dc_Mod_queue_58 : decode prog_13_method_16_code 58 = .ok (.invokevirtual 118, 3) := by decide +kernel
theorem dc_Mod_queue_61 : decode prog_13_method_16_code 61 = .ok (.aload_n 0, 1) := by decide +kernel
theorem dc_Mod_queue_62 : decode prog_13_method_16_code 62 = .ok (.aload_n 0, 1) := by decide +kernel
theorem dc_Mod_queue_63 : decode prog_13_method_16_code 63 = .ok (.getfield 54, 3) := by decide +kernel
theorem dc_Mod_queue_66 : decode prog_13_method_16_code 66 = .ok (.iload_n 2, 1) := by decide +kernel
theorem dc_Mod_queue_67 : decode prog_13_method_16_code 67 = .ok (.iaload, 1) := by decide +kernel
theorem dc_Mod_queue_68 : decode prog_13_method_16_code 68 = .ok (.invokevirtual 121, 3) := by decide +kernel
theorem dc_Mod_queue_71 : decode prog_13_method_16_code 71 = .ok (.return_, 1) := by decide +kernel
theorem dc_Mod_await_0 : decode prog_13_method_25_code 0 = .ok (.aload_n 0, 1) := by decide +kernel
theorem dc_Mod_await_1 : decode prog_13_method_25_code 1 = .ok (.aload_n 0, 1) := by decide +kernel
theorem dc_Mod_await_2 : decode prog_13_method_25_code 2 = .ok (.iload_n 1, 1) := by decide +kernel
theorem dc_Mod_await_3 : decode prog_13_method_25_code 3 = .ok (.bipush 6, 2) := by decide +kernel
theorem dc_Mod_await_5 : decode prog_13_method_25_code 5 = .ok (.invokevirtual 82, 3) := by decide +kernel
theorem dc_Mod_await_8 : decode prog_13_method_25_code 8 = .ok (.ifCond .ne 21, 3) := by decide +kernel
theorem dc_Mod_await_11 : decode prog_13_method_25_code 11 = .ok (.aload_n 0, 1) := by decide +kernel
theorem dc_Mod_await_12 : decode prog_13_method_25_code 12 = .ok (.iload_n 2, 1) := by decide +kernel
theorem dc_Mod_await_13 : decode prog_13_method_25_code 13 = .ok (.bipush 8, 2) := by decide +kernel
theorem dc_Mod_await_15 : decode prog_13_method_25_code 15 = .ok (.invokevirtual 82, 3) := by decide +kernel
theorem dc_Mod_await_18 : decode prog_13_method_25_code 18 = .ok (.ifCond .ne 11, 3) := by decide +kernel
theorem dc_Mod_await_21 : decode prog_13_method_25_code 21 = .ok (.aload_n 0, 1) := by decide +kernel
theorem dc_Mod_await_22 : decode prog_13_method_25_code 22 = .ok (.dload_n 3, 1) := by decide +kernel
theorem dc_Mod_await_23 : decode prog_13_method_25_code 23 = .ok (.invokevirtual 138, 3) := by decide +kernel
theorem dc_Mod_await_26 : decode prog_13_method_25_code 26 = .ok (.ifCond .eq 7, 3) := by decide +kernel
theorem dc_Mod_await_29 : decode prog_13_method_25_code 29 = .ok (.iconst 1, 1) := by decide +kernel
theorem dc_Mod_await_30 : decode prog_13_method_25_code 30 = .ok (.goto 9, 3) := by decide +kernel
theorem dc_Mod_await_33 : decode prog_13_method_25_code 33 = .ok (.aload_n 0, 1) := by decide +kernel
theorem dc_Mod_await_34 : decode prog_13_method_25_code 34 = .ok (.iload_n 1, 1) := by decide +kernel
theorem dc_Mod_await_35 : decode prog_13_method_25_code 35 = .ok (.iload_n 2, 1) := by decide +kernel
theorem dc_Mod_await_36 : decode prog_13_method_25_code 36 = .ok (.invokevirtual 155, 3) := by decide +kernel
theorem dc_Mod_await_39 : decode prog_13_method_25_code 39 = .ok (.putfield 78, 3) := by decide +kernel
theorem dc_Mod_await_42 : decode prog_13_method_25_code 42 = .ok (.aload_n 0, 1) := by decide +kernel
theorem dc_Mod_await_43 : decode prog_13_method_25_code 43 = .ok (.getfield 78, 3) := by decide +kernel
theorem dc_Mod_await_46 : decode prog_13_method_25_code 46 = .ok (.ifCond .le 5, 3) := by decide +kernel
theorem dc_Mod_await_49 : decode prog_13_method_25_code 49 = .ok (.iconst 0, 1) := by decide +kernel
theorem dc_Mod_await_50 : decode prog_13_method_25_code 50 = .ok (.ireturn, 1) := by decide +kernel
theorem dc_Mod_await_51 : decode prog_13_method_25_code 51 = .ok (.aload_n 0, 1) := by decide +kernel
theorem dc_Mod_await_52 : decode prog_13_method_25_code 52 = .ok (.getfield 13, 3) := by decide +kernel
theorem dc_Mod_await_55 : decode prog_13_method_25_code 55 = .ok (.iload_n 1, 1) := by decide +kernel
theorem dc_Mod_await_56 : decode prog_13_method_25_code 56 = .ok (.baload, 1) := by decide +kernel
theorem dc_Mod_await_57 : decode prog_13_method_25_code 57 = .ok (.ifCond .eq 17, 3) := by decide +kernel
theorem dc_Mod_await_60 : decode prog_13_method_25_code 60 = .ok (.aload_n 0, 1) := by decide +kernel
theorem dc_Mod_await_61 : decode prog_13_method_25_code 61 = .ok (.getfield 13, 3) := by decide +kernel
theorem dc_Mod_await_64 : decode prog_13_method_25_code 64 = .ok (.iload_n 1, 1) := by decide +kernel
theorem dc_Mod_await_65 : decode prog_13_method_25_code 65 = .ok (.iconst 0, 1) := by decide +kernel
theorem dc_Mod_await_66 : decode prog_13_method_25_code 66 = .ok (.bastore, 1) := by decide +kernel
theorem dc_Mod_await_67 : decode prog_13_method_25_code 67 = .ok (.aload_n 0, 1) := by decide +kernel
theorem dc_Mod_await_68 : decode prog_13_method_25_code 68 = .ok (.iload_n 1, 1) := by decide +kernel
theorem dc_Mod_await_69 : decode prog_13_method_25_code 69 = .ok (.iconst 3, 1) := by decide +kernel
theorem dc_Mod_await_70 : decode prog_13_method_25_code 70 = .ok (.invokevirtual 146, 3) := by decide +kernel
theorem dc_Mod_await_73 : decode prog_13_method_25_code 73 = .ok (.ireturn, 1) := by decide +kernel
theorem dc_Mod_await_74 : decode prog_13_method_25_code 74 = .ok (.aload_n 0, 1) := by decide +kernel
theorem dc_Mod_await_75 : decode prog_13_method_25_code 75 = .ok (.getfield 54, 3) := by decide +kernel
theorem dc_Mod_await_78 : decode prog_13_method_25_code 78 = .ok (.iload_n 2, 1) := by decide +kernel
theorem dc_Mod_await_79 : decode prog_13_method_25_code 79 = .ok (.iaload, 1) := by decide +kernel
theorem dc_Mod_await_80 : decode prog_13_method_25_code 80 = .ok (.istore 5, 2) := by decide +kernel
theorem dc_Mod_await_82 : decode prog_13_method_25_code 82 = .ok (.aload_n 0, 1) := by decide +kernel
theorem dc_Mod_await_83 : decode prog_13_method_25_code 83 = .ok (.getfield 36, 3) := by decide +kernel
theorem dc_Mod_await_86 : decode prog_13_method_25_code 86 = .ok (.iload_n 1, 1) := by decide +kernel
theorem dc_Mod_await_87 : decode prog_13_method_25_code 87 = .ok (.aload_n 0, 1) := by decide +kernel
theorem dc_Mod_await_88 : decode prog_13_method_25_code 88 = .ok (.getfield 48, 3) := by decide +kernel
theorem dc_Mod_await_91 : decode prog_13_method_25_code 91 = .ok (.iload 5, 2) := by decide +kernel
theorem dc_Mod_await_93 : decode prog_13_method_25_code 93 = .ok (.iaload, 1) := by decide +kernel
theorem dc_Mod_await_94 : decode prog_13_method_25_code 94 = .ok (.iastore, 1) := by decide +kernel
theorem dc_Mod_await_95 : decode prog_13_method_25_code 95 = .ok (.aload_n 0, 1) := by decide +kernel
theorem dc_Mod_await_96 : decode prog_13_method_25_code 96 = .ok (.getfield 45, 3) := by decide +kernel
theorem dc_Mod_await_99 : decode prog_13_method_25_code 99 = .ok (.iload 5, 2) := by decide +kernel
theorem dc_Mod_await_101 : decode prog_13_method_25_code 101 = .ok (.iconst (-1), 1) := by decide +kernel
theorem dc_Mod_await_102 : decode prog_13_method_25_code 102 = .ok (.iastore, 1) := by decide +kernel
theorem dc_Mod_await_103 : decode prog_13_method_25_code 103 = .ok (.aload_n 0, 1) := by decide +kernel
theorem dc_Mod_await_104 : decode prog_13_method_25_code 104 = .ok (.getfield 48, 3) := by decide +kernel
theorem dc_Mod_await_107 : decode prog_13_method_25_code 107 = .ok (.iload 5, 2) := by decide +kernel
theorem dc_Mod_await_109 : decode prog_13_method_25_code 109 = .ok (.iconst 0, 1) := by decide +kernel
theorem dc_Mod_await_110 : decode prog_13_method_25_code 110 = .ok (.iastore, 1) := by decide +kernel
theorem dc_Mod_await_111 : decode prog_13_method_25_code 111 = .ok (.aload_n 0, 1) := by decide +kernel
theorem dc_Mod_await_112 : decode prog_13_method_25_code 112 = .ok (.getfield 20, 3) := by decide +kernel
theorem dc_Mod_await_115 : decode prog_13_method_25_code 115 = .ok (.iload_n 1, 1) := by decide +kernel
theorem dc_Mod_await_116 : decode prog_13_method_25_code 116 = .ok (.iconst 0, 1) := by decide +kernel
theorem dc_Mod_await_117 : decode prog_13_method_25_code 117 = .ok (.iastore, 1) := by decide +kernel
theorem dc_Mod_await_118 : decode prog_13_method_25_code 118 = .ok (.dload_n 3, 1) := by decide +kernel
theorem dc_Mod_await_119 : decode prog_13_method_25_code 119 = .ok (.dconst 0, 1) := by decide +kernel
theorem dc_Mod_await_120 : decode prog_13_method_25_code 120 = .ok (.dcmp .l, 1) := by decide +kernel
theorem dc_Mod_await_121 : decode prog_13_method_25_code 121 = .ok (.ifCond .ne 13, 3) := by decide +kernel
theorem dc_Mod_await_124 : decode prog_13_method_25_code 124 = .ok (.aload_n 0, 1) := by decide +kernel
theorem dc_Mod_await_125 : decode prog_13_method_25_code 125 = .ok (.iload_n 1, 1) := by decide +kernel
theorem dc_Mod_await_126 : decode prog_13_method_25_code 126 = .ok (.iload_n 2, 1) := by decide +kernel
theorem dc_Mod_await_127 : decode prog_13_method_25_code 127 = .ok (.iconst 2, 1) := by decide +kernel
theorem dc_Mod_await_128 : decode prog_13_method_25_code 128 = .ok (.invokevirtual 158, 3) := by decide +kernel
theorem dc_Mod_await_131 : decode prog_13_method_25_code 131 = .ok (.goto 46, 3) := by decide +kernel
theorem dc_Mod_await_134 : decode prog_13_method_25_code 134 = .ok (.aload_n 0, 1) := by decide +kernel
theorem dc_Mod_await_135 : decode prog_13_method_25_code 135 = .ok (.getfield 30, 3) := by decide +kernel
theorem dc_Mod_await_138 : decode prog_13_method_25_code 138 = .ok (.iload_n 1, 1) := by decide +kernel
theorem dc_Mod_await_139 : decode prog_13_method_25_code 139 = .ok (.dload_n 3, 1) := by decide +kernel
theorem dc_Mod_await_140 : decode prog_13_method_25_code 140 = .ok (.dconst 0, 1) := by decide +kernel
theorem dc_Mod_await_141 : decode prog_13_method_25_code 141 = .ok (.dcmp .l, 1) := by decide +kernel
theorem dc_Mod_await_142 : decode prog_13_method_25_code 142 = .ok (.ifCond .le 12, 3) := by decide +kernel
theorem dc_Mod_await_145 : decode prog_13_method_25_code 145 = .ok (.aload_n 0, 1) := by decide +kernel
theorem dc_Mod_await_146 : decode prog_13_method_25_code 146 = .ok (.getfield 94, 3) := by decide +kernel
theorem dc_Mod_await_149 : decode prog_13_method_25_code 149 = .ok (.dload_n 3, 1) := by decide +kernel
theorem dc_Mod_await_150 : decode prog_13_method_25_code 150 = .ok (.dadd, 1) := by decide +kernel
theorem dc_Mod_await_151 : decode prog_13_method_25_code 151 = .ok (.goto 6, 3) := by decide +kernel
theorem dc_Mod_await_154 : decode prog_13_method_25_code 154 = .ok (.ldc2_w 116, 3) := by decide +kernel
theorem dc_Mod_await_157 : decode prog_13_method_25_code 157 = .ok (.dastore, 1) := by decide +kernel
theorem dc_Mod_await_158 : decode prog_13_method_25_code 158 = .ok (.aload_n 0, 1) := by decide +kernel
theorem dc_Mod_await_159 : decode prog_13_method_25_code 159 = .ok (.getfield 27, 3) := by decide +kernel
theorem dc_Mod_await_162 : decode prog_13_method_25_code 162 = .ok (.iload_n 1, 1) := by decide +kernel
theorem dc_Mod_await_163 : decode prog_13_method_25_code 163 = .ok (.iconst 0, 1) := by decide +kernel
theorem dc_Mod_await_164 : decode prog_13_method_25_code 164 = .ok (.iastore, 1) := by decide +kernel
theorem dc_Mod_await_165 : decode prog_13_method_25_code 165 = .ok (.aload_n 0, 1) := by decide +kernel
theorem dc_Mod_await_166 : decode prog_13_method_25_code 166 = .ok (.iload_n 1, 1) := by decide +kernel
theorem dc_Mod_await_167 : decode prog_13_method_25_code 167 = .ok (.iload_n 2, 1) := by decide +kernel
theorem dc_Mod_await_168 : decode prog_13_method_25_code 168 = .ok (.invokevirtual 118, 3) := by decide +kernel
theorem dc_Mod_await_171 : decode prog_13_method_25_code 171 = .ok (.aload_n 0, 1) := by decide +kernel
theorem dc_Mod_await_172 : decode prog_13_method_25_code 172 = .ok (.iload 5, 2) := by decide +kernel
theorem dc_Mod_await_174 : decode prog_13_method_25_code 174 = .ok (.invokevirtual 121, 3) := by decide +kernel
theorem dc_Mod_await_177 : decode prog_13_method_25_code 177 = .ok (.aload_n 0, 1) := by decide +kernel
theorem dc_Mod_await_178 : decode prog_13_method_25_code 178 = .ok (.getfield 20, 3) := by decide +kernel
theorem dc_Mod_await_181 : decode prog_13_method_25_code 181 = .ok (.iload_n 1, 1) := by decide +kernel
theorem dc_Mod_await_182 : decode prog_13_method_25_code 182 = .ok (.iaload, 1) := by decide +kernel
theorem dc_Mod_await_183 : decode prog_13_method_25_code 183 = .ok (.ireturn, 1) := by decide +kernel
theorem dc_Mod_signal_0 : decode prog_13_method_26_code 0 = .ok (.aload_n 0, 1) := by decide +kernel
theorem dc_Mod_signal_1 : decode prog_13_method_26_code 1 = .ok (.aload_n 0, 1) := by decide +kernel
theorem dc_Mod_signal_2 : decode prog_13_method_26_code 2 = .ok (.iload_n 1, 1) := by decide +kernel
theorem dc_Mod_signal_3 : decode prog_13_method_26_code 3 = .ok (.bipush 6, 2) := by decide +kernel
theorem dc_Mod_signal_5 : decode prog_13_method_26_code 5 = .ok (.invokevirtual 82, 3) := by decide +kernel
theorem dc_Mod_signal_8 : decode prog_13_method_26_code 8 = .ok (.ifCond .ne 13, 3) := by decide +kernel
theorem dc_Mod_signal_11 : decode prog_13_method_26_code 11 = .ok (.aload_n 0, 1) := by decide +kernel
theorem dc_Mod_signal_12 : decode prog_13_method_26_code 12 = .ok (.iload_n 2, 1) := by decide +kernel
theorem dc_Mod_signal_13 : decode prog_13_method_26_code 13 = .ok (.bipush 8, 2) := by decide +kernel
theorem dc_Mod_signal_15 : decode prog_13_method_26_code 15 = .ok (.invokevirtual 82, 3) := by decide +kernel
theorem dc_Mod_signal_18 : decode prog_13_method_26_code 18 = .ok (.ifCond .eq 7, 3) := by decide +kernel
theorem dc_Mod_signal_21 : decode prog_13_method_26_code 21 = .ok (.iconst 1, 1) := by decide +kernel
theorem dc_Mod_signal_22 : decode prog_13_method_26_code 22 = .ok (.goto 9, 3) := by decide +kernel
theorem dc_Mod_signal_25 : decode prog_13_method_26_code 25 = .ok (.aload_n 0, 1) := by decide +kernel
theorem dc_Mod_signal_26 : decode prog_13_method_26_code 26 = .ok (.iload_n 1, 1) := by decide +kernel
theorem dc_Mod_signal_27 : decode prog_13_method_26_code 27 = .ok (.iload_n 2, 1) := by decide +kernel
theorem dc_Mod_signal_28 : decode prog_13_method_26_code 28 = .ok (.invokevirtual 155, 3) := by decide +kernel
theorem dc_Mod_signal_31 : decode prog_13_method_26_code 31 = .ok (.putfield 78, 3) := by decide +kernel
theorem dc_Mod_signal_34 : decode prog_13_method_26_code 34 = .ok (.aload_n 0, 1) := by decide +kernel
theorem dc_Mod_signal_35 : decode prog_13_method_26_code 35 = .ok (.getfield 78, 3) := by decide +kernel
theorem dc_Mod_signal_38 : decode prog_13_method_26_code 38 = .ok (.ifCond .le 5, 3) := by decide +kernel
theorem dc_Mod_signal_41 : decode prog_13_method_26_code 41 = .ok (.iconst 0, 1) := by decide +kernel
theorem dc_Mod_signal_42 : decode prog_13_method_26_code 42 = .ok (.ireturn, 1) := by decide +kernel
theorem dc_Mod_signal_43 : decode prog_13_method_26_code 43 = .ok (.iconst 0, 1) := by decide +kernel
theorem dc_Mod_signal_44 : decode prog_13_method_26_code 44 = .ok (.istore 4, 2) := by decide +kernel
theorem dc_Mod_signal_46 : decode prog_13_method_26_code 46 = .ok (.aload_n 0, 1) := by decide +kernel
theorem dc_Mod_signal_47 : decode prog_13_method_26_code 47 = .ok (.getfield 63, 3) := by decide +kernel
theorem dc_Mod_signal_50 : decode prog_13_method_26_code 50 = .ok (.iload_n 2, 1) := by decide +kernel
theorem dc_Mod_signal_51 : decode prog_13_method_26_code 51 = .ok (.iaload, 1) := by decide +kernel
theorem dc_Mod_signal_52 : decode prog_13_method_26_code 52 = .ok (.ifCond .le 33, 3) := by decide +kernel
theorem dc_Mod_signal_55 : decode prog_13_method_26_code 55 = .ok (.iload_n 3, 1) := by decide +kernel
theorem dc_Mod_signal_56 : decode prog_13_method_26_code 56 = .ok (.ifCond .ne 8, 3) := by decide +kernel
theorem dc_Mod_signal_59 : decode prog_13_method_26_code 59 = .ok (.iload 4, 2) := by decide +kernel
theorem dc_Mod_signal_61 : decode prog_13_method_26_code 61 = .ok (.ifCond .ne 24, 3) := by decide +kernel
theorem dc_Mod_signal_64 : decode prog_13_method_26_code 64 = .ok (.aload_n 0, 1) := by decide +kernel
theorem dc_Mod_signal_65 : decode prog_13_method_26_code 65 = .ok (.aload_n 0, 1) := by decide +kernel
theorem dc_Mod_signal_66 : decode prog_13_method_26_code 66 = .ok (.getfield 60, 3) := by decide +kernel
theorem dc_Mod_signal_69 : decode prog_13_method_26_code 69 = .ok (.bipush 6, 2) := by decide +kernel
theorem dc_Mod_signal_71 : decode prog_13_method_26_code 71 = .ok (.iload_n 2, 1) := by decide +kernel
theorem dc_Mod_signal_72 : decode prog_13_method_26_code 72 = .ok (.imul, 1) := by decide +kernel
theorem dc_Mod_signal_73 : decode prog_13_method_26_code 73 = .ok (.iaload, 1) := by decide +kernel
theorem dc_Mod_signal_74 : decode prog_13_method_26_code 74 = .ok (.iload_n 2, 1) := by decide +kernel
theorem dc_Mod_signal_75 : decode prog_13_method_26_code 75 = .ok (.iconst 1, 1) := by decide +kernel
theorem dc_Mod_signal_76 : decode prog_13_method_26_code 76 = .ok (.invokevirtual 158, 3) := by decide +kernel
theorem dc_Mod_signal_79 : decode prog_13_method_26_code 79 = .ok (.iinc 4 1, 3) := by decide +kernel
theorem dc_Mod_signal_82 : decode prog_13_method_26_code 82 = .ok (.goto (-36), 3) := by decide +kernel
theorem dc_Mod_signal_85 : decode prog_13_method_26_code 85 = .ok (.iload 4, 2) := by decide +kernel
theorem dc_Mod_signal_87 : decode prog_13_method_26_code 87 = .ok (.ireturn, 1) := by decide +kernel
theorem dc_Mod_interrupt_0 : decode prog_13_method_27_code 0 = .ok (.aload_n 0, 1) := by decide +kernel
theorem dc_Mod_interrupt_1 : decode prog_13_method_27_code 1 = .ok (.iconst 0, 1) := by decide +kernel
theorem dc_Mod_interrupt_2 : decode prog_13_method_27_code 2 = .ok (.putfield 78, 3) := by decide +kernel
theorem dc_Mod_interrupt_5 : decode prog_13_method_27_code 5 = .ok (.aload_n 0, 1) := by decide +kernel
theorem dc_Mod_interrupt_6 : decode prog_13_method_27_code 6 = .ok (.iload_n 1, 1) := by decide +kernel
theorem dc_Mod_interrupt_7 : decode prog_13_method_27_code 7 = .ok (.bipush 6, 2) := by decide +kernel
theorem dc_Mod_interrupt_9 : decode prog_13_method_27_code 9 = .ok (.invokevirtual 82, 3) := by decide +kernel
theorem dc_Mod_interrupt_12 : decode prog_13_method_27_code 12 = .ok (.ifCond .eq 9, 3) := by decide +kernel
theorem dc_Mod_interrupt_15 : decode prog_13_method_27_code 15 = .ok (.aload_n 0, 1) := by decide +kernel
theorem dc_Mod_interrupt_16 : decode prog_13_method_27_code 16 = .ok (.iconst 1, 1) := by decide +kernel
theorem dc_Mod_interrupt_17 : decode prog_13_method_27_code 17 = .ok (.invokevirtual 86, 3) := by decide +kernel
theorem dc_Mod_interrupt_20 : decode prog_13_method_27_code 20 = .ok (.ireturn, 1) := by decide +kernel
theorem dc_Mod_interrupt_21 : decode prog_13_method_27_code 21 = .ok (.aload_n 0, 1) := by decide +kernel
theorem dc_Mod_interrupt_22 : decode prog_13_method_27_code 22 = .ok (.getfield 24, 3) := by decide +kernel
theorem dc_Mod_interrupt_25 : decode prog_13_method_27_code 25 = .ok (.iload_n 1, 1) := by decide +kernel
theorem dc_Mod_interrupt_26 : decode prog_13_method_27_code 26 = .ok (.iaload, 1) := by decide +kernel
theorem dc_Mod_interrupt_27 : decode prog_13_method_27_code 27 = .ok (.istore_n 2, 1) := by decide +kernel
theorem dc_Mod_interrupt_28 : decode prog_13_method_27_code 28 = .ok (.aload_n 0, 1) := by decide +kernel
theorem dc_Mod_interrupt_29 : decode prog_13_method_27_code 29 = .ok (.getfield 7, 3) := by decide +kernel
theorem dc_Mod_interrupt_32 : decode prog_13_method_27_code 32 = .ok (.iload_n 1, 1) := by decide +kernel
theorem dc_Mod_interrupt_33 : decode prog_13_method_27_code 33 = .ok (.baload, 1) := by decide +kernel
theorem dc_Mod_interrupt_34 : decode prog_13_method_27_code 34 = .ok (.ifCond .eq 23, 3) := by decide +kernel
theorem dc_Mod_interrupt_37 : decode prog_13_method_27_code 37 = .ok (.aload_n 0, 1) := by decide +kernel
theorem dc_Mod_interrupt_38 : decode prog_13_method_27_code 38 = .ok (.getfield 42, 3) := by decide +kernel
theorem dc_Mod_interrupt_41 : decode prog_13_method_27_code 41 = .ok (.iload_n 2, 1) := by decide +kernel
theorem dc_Mod_interrupt_42 : decode prog_13_method_27_code 42 = .ok (.iaload, 1) := by decide +kernel
theorem dc_Mod_interrupt_43 : decode prog_13_method_27_code 43 = .ok (.bipush 6, 2) := by decide +kernel
theorem dc_Mod_interrupt_45 : decode prog_13_method_27_code 45 = .ok (.if_icmp .eq 22, 3) := by decide +kernel
theorem dc_Mod_interrupt_48 : decode prog_13_method_27_code 48 = .ok (.aload_n 0, 1) := by decide +kernel
theorem dc_Mod_interrupt_49 : decode prog_13_method_27_code 49 = .ok (.getfield 36, 3) := by decide +kernel
theorem dc_Mod_interrupt_52 : decode prog_13_method_27_code 52 = .ok (.iload_n 1, 1) := by decide +kernel
theorem dc_Mod_interrupt_53 : decode prog_13_method_27_code 53 = .ok (.iaload, 1) := by decide +kernel
theorem dc_Mod_interrupt_54 : decode prog_13_method_27_code 54 = .ok (.ifCond .le 13, 3) := by decide +kernel
theorem dc_Mod_interrupt_57 : decode prog_13_method_27_code 57 = .ok (.aload_n 0, 1) := by decide +kernel
theorem dc_Mod_interrupt_58 : decode prog_13_method_27_code 58 = .ok (.getfield 13, 3) := by decide +kernel
theorem dc_Mod_interrupt_61 : decode prog_13_method_27_code 61 = .ok (.iload_n 1, 1) := by decide +kernel
theorem dc_Mod_interrupt_62 : decode prog_13_method_27_code 62 = .ok (.iconst 1, 1) := by decide +kernel
theorem dc_Mod_interrupt_63 : decode prog_13_method_27_code 63 = .ok (.bastore, 1) := by decide +kernel
theorem dc_Mod_interrupt_64 : decode prog_13_method_27_code 64 = .ok (.goto 49, 3) := by decide +kernel
theorem dc_Mod_interrupt_67 : decode prog_13_method_27_code 67 = .ok (.aload_n 0, 1) := by decide +kernel
theorem dc_Mod_interrupt_68 : decode prog_13_method_27_code 68 = .ok (.getfield 42, 3) := by decide +kernel
theorem dc_Mod_interrupt_71 : decode prog_13_method_27_code 71 = .ok (.iload_n 2, 1) := by decide +kernel
theorem dc_Mod_interrupt_72 : decode prog_13_method_27_code 72 = .ok (.iaload, 1) := by decide +kernel
theorem dc_Mod_interrupt_73 : decode prog_13_method_27_code 73 = .ok (.bipush 6, 2) := by decide +kernel
theorem dc_Mod_interrupt_75 : decode prog_13_method_27_code 75 = .ok (.if_icmp .ne 13, 3) := by decide +kernel
theorem dc_Mod_interrupt_78 : decode prog_13_method_27_code 78 = .ok (.aload_n 0, 1) := by decide +kernel
theorem dc_Mod_interrupt_79 : decode prog_13_method_27_code 79 = .ok (.iload_n 1, 1) := by decide +kernel
theorem dc_Mod_interrupt_80 : decode prog_13_method_27_code 80 = .ok (.iload_n 2, 1) := by decide +kernel
theorem dc_Mod_interrupt_81 : decode prog_13_method_27_code 81 = .ok (.iconst 3, 1) := by decide +kernel
theorem dc_Mod_interrupt_82 : decode prog_13_method_27_code 82 = .ok (.invokevirtual 158, 3) := by decide +kernel
theorem dc_Mod_interrupt_85 : decode prog_13_method_27_code 85 = .ok (.goto 28, 3) := by decide +kernel
theorem dc_Mod_interrupt_88 : decode prog_13_method_27_code 88 = .ok (.aload_n 0, 1) := by decide +kernel
theorem dc_Mod_interrupt_89 : decode prog_13_method_27_code 89 = .ok (.iload_n 1, 1) := by decide +kernel
theorem dc_Mod_interrupt_90 : decode prog_13_method_27_code 90 = .ok (.iload_n 2, 1) := by decide +kernel
theorem dc_Mod_interrupt_91 : decode prog_13_method_27_code 91 = .ok (.invokevirtual 105, 3) := by decide +kernel
theorem dc_Mod_interrupt_94 : decode prog_13_method_27_code 94 = .ok (.aload_n 0, 1) := by decide +kernel
theorem dc_Mod_interrupt_95 : decode prog_13_method_27_code 95 = .ok (.getfield 7, 3) := by decide +kernel
theorem dc_Mod_interrupt_98 : decode prog_13_method_27_code 98 = .ok (.iload_n 1, 1) := by decide +kernel
theorem dc_Mod_interrupt_99 : decode prog_13_method_27_code 99 = .ok (.iconst 0, 1) := by decide +kernel
theorem dc_Mod_interrupt_100 : decode prog_13_method_27_code 100 = .ok (.bastore, 1) := by decide +kernel
theorem dc_Mod_interrupt_101 : decode prog_13_method_27_code 101 = .ok (.aload_n 0, 1) := by decide +kernel
theorem dc_Mod_interrupt_102 : decode prog_13_method_27_code 102 = .ok (.getfield 20, 3) := by decide +kernel
theorem dc_Mod_interrupt_105 : decode prog_13_method_27_code 105 = .ok (.iload_n 1, 1) := by decide +kernel
theorem dc_Mod_interrupt_106 : decode prog_13_method_27_code 106 = .ok (.iconst 3, 1) := by decide +kernel
theorem dc_Mod_interrupt_107 : decode prog_13_method_27_code 107 = .ok (.iastore, 1) := by decide +kernel
theorem dc_Mod_interrupt_108 : decode prog_13_method_27_code 108 = .ok (.aload_n 0, 1) := by decide +kernel
theorem dc_Mod_interrupt_109 : decode prog_13_method_27_code 109 = .ok (.iload_n 2, 1) := by decide +kernel
theorem dc_Mod_interrupt_110 : decode prog_13_method_27_code 110 = .ok (.invokevirtual 121, 3) := by decide +kernel
theorem dc_Mod_interrupt_113 : decode prog_13_method_27_code 113 = .ok (.aload_n 0, 1) := by decide +kernel
theorem dc_Mod_interrupt_114 : decode prog_13_method_27_code 114 = .ok (.getfield 20, 3) := by decide +kernel
theorem dc_Mod_interrupt_117 : decode prog_13_method_27_code 117 = .ok (.iload_n 1, 1) := by decide +kernel
theorem dc_Mod_interrupt_118 : decode prog_13_method_27_code 118 = .ok (.iaload, 1) := by decide +kernel
theorem dc_Mod_interrupt_119 : decode prog_13_method_27_code 119 = .ok (.ireturn, 1) := by decide +kernel
theorem dc_Mod_latest_0 : decode prog_13_method_29_code 0 = .ok (.iconst (-1), 1) := by decide +kernel
theorem dc_Mod_latest_1 : decode prog_13_method_29_code 1 = .ok (.istore_n 1, 1) := by decide +kernel
theorem dc_Mod_latest_2 : decode prog_13_method_29_code 2 = .ok (.iconst 0, 1) := by decide +kernel
theorem dc_Mod_latest_3 : decode prog_13_method_29_code 3 = .ok (.istore_n 2, 1) := by decide +kernel
theorem dc_Mod_latest_4 : decode prog_13_method_29_code 4 = .ok (.iload_n 2, 1) := by decide +kernel
theorem dc_Mod_latest_5 : decode prog_13_method_29_code 5 = .ok (.bipush 6, 2) := by decide +kernel
theorem dc_Mod_latest_7 : decode prog_13_method_29_code 7 = .ok (.if_icmp .ge 75, 3) := by decide +kernel
theorem dc_Mod_latest_10 : decode prog_13_method_29_code 10 = .ok (.aload_n 0, 1) := by decide +kernel
theorem dc_Mod_latest_11 : decode prog_13_method_29_code 11 = .ok (.getfield 7, 3) := by decide +kernel
theorem dc_Mod_latest_14 : decode prog_13_method_29_code 14 = .ok (.iload_n 2, 1) := by decide +kernel
theorem dc_Mod_latest_15 : decode prog_13_method_29_code 15 = .ok (.baload, 1) := by decide +kernel
theorem dc_Mod_latest_16 : decode prog_13_method_29_code 16 = .ok (.ifCond .eq 32, 3) := by decide +kernel
theorem dc_Mod_latest_19 : decode prog_13_method_29_code 19 = .ok (.aload_n 0, 1) := by decide +kernel
theorem dc_Mod_latest_20 : decode prog_13_method_29_code 20 = .ok (.getfield 30, 3) := by decide +kernel
theorem dc_Mod_latest_23 : decode prog_13_method_29_code 23 = .ok (.iload_n 2, 1) := by decide +kernel
theorem dc_Mod_latest_24 : decode prog_13_method_29_code 24 = .ok (.daload, 1) := by decide +kernel
theorem dc_Mod_latest_25 : decode prog_13_method_29_code 25 = .ok (.dconst 0, 1) := by decide +kernel
theorem dc_Mod_latest_26 : decode prog_13_method_29_code 26 = .ok (.dcmp .l, 1) := by decide +kernel
theorem dc_Mod_latest_27 : decode prog_13_method_29_code 27 = .ok (.ifCond .lt 21, 3) := by decide +kernel
theorem dc_Mod_latest_30 : decode prog_13_method_29_code 30 = .ok (.aload_n 0, 1) := by decide +kernel
theorem dc_Mod_latest_31 : decode prog_13_method_29_code 31 = .ok (.getfield 30, 3) := by decide +kernel
theorem dc_Mod_latest_34 : decode prog_13_method_29_code 34 = .ok (.iload_n 2, 1) := by decide +kernel
theorem dc_Mod_latest_35 : decode prog_13_method_29_code 35 = .ok (.daload, 1) := by decide +kernel
theorem dc_Mod_latest_36 : decode prog_13_method_29_code 36 = .ok (.aload_n 0, 1) := by decide +kernel
theorem dc_Mod_latest_37 : decode prog_13_method_29_code 37 = .ok (.getfield 94, 3) := by decide +kernel
theorem dc_Mod_latest_40 : decode prog_13_method_29_code 40 = .ok (.dcmp .g, 1) := by decide +kernel
theorem dc_Mod_latest_41 : decode prog_13_method_29_code 41 = .ok (.ifCond .gt 7, 3) := by decide +kernel
theorem dc_Mod_latest_44 : decode prog_13_method_29_code 44 = .ok (.iconst 1, 1) := by decide +kernel
theorem dc_Mod_latest_45 : decode prog_13_method_29_code 45 = .ok (.goto 4, 3) := by decide +kernel
theorem dc_Mod_latest_48 : decode prog_13_method_29_code 48 = .ok (.iconst 0, 1) := by decide +kernel
theorem dc_Mod_latest_49 : decode prog_13_method_29_code 49 = .ok (.istore_n 3, 1) := by decide +kernel
theorem dc_Mod_latest_50 : decode prog_13_method_29_code 50 = .ok (.iload_n 3, 1) := by decide +kernel
theorem dc_Mod_latest_51 : decode prog_13_method_29_code 51 = .ok (.ifCond .eq 25, 3) := by decide +kernel
theorem dc_Mod_latest_54 : decode prog_13_method_29_code 54 = .ok (.iload_n 1, 1) := by decide +kernel
theorem dc_Mod_latest_55 : decode prog_13_method_29_code 55 = .ok (.ifCond .lt 19, 3) := by decide +kernel
theorem dc_Mod_latest_58 : decode prog_13_method_29_code 58 = .ok (.aload_n 0, 1) := by decide +kernel
theorem dc_Mod_latest_59 : decode prog_13_method_29_code 59 = .ok (.getfield 30, 3) := by decide +kernel
theorem dc_Mod_latest_62 : decode prog_13_method_29_code 62 = .ok (.iload_n 2, 1) := by decide +kernel
theorem dc_Mod_latest_63 : decode prog_13_method_29_code 63 = .ok (.daload, 1) := by decide +kernel
theorem dc_Mod_latest_64 : decode prog_13_method_29_code 64 = .ok (.aload_n 0, 1) := by decide +kernel
theorem dc_Mod_latest_65 : decode prog_13_method_29_code 65 = .ok (.getfield 30, 3) := by decide +kernel
theorem dc_Mod_latest_68 : decode prog_13_method_29_code 68 = .ok (.iload_n 1, 1) := by decide +kernel
theorem dc_Mod_latest_69 : decode prog_13_method_29_code 69 = .ok (.daload, 1) := by decide +kernel
theorem dc_Mod_latest_70 : decode prog_13_method_29_code 70 = .ok (.dcmp .g, 1) := by decide +kernel
theorem dc_Mod_latest_71 : decode prog_13_method_29_code 71 = .ok (.ifCond .ge 5, 3) := by decide +kernel
theorem dc_Mod_latest_74 : decode prog_13_method_29_code 74 = .ok (.iload_n 2, 1) := by decide +kernel
theorem dc_Mod_latest_75 : decode prog_13_method_29_code 75 = .ok (.istore_n 1, 1) := by decide +kernel
theorem dc_Mod_latest_76 : decode prog_13_method_29_code 76 = .ok (.iinc 2 1, 3) := by decide +kernel
theorem dc_Mod_latest_79 : decode prog_13_method_29_code 79 = .ok (.goto (-75), 3) := by decide +kernel
theorem dc_Mod_latest_82 : decode prog_13_method_29_code 82 = .ok (.iload_n 1, 1) := by decide +kernel
theorem dc_Mod_latest_83 : decode prog_13_method_29_code 83 = .ok (.ireturn, 1) := by decide +kernel
theorem dc_Mod_tick_0 : decode prog_13_method_28_code 0 = .ok (.aload_n 0, 1) := by decide +kernel
theorem dc_Mod_tick_1 : decode prog_13_method_28_code 1 = .ok (.iconst 0, 1) := by decide +kernel
theorem dc_Mod_tick_2 : decode prog_13_method_28_code 2 = .ok (.putfield 78, 3) := by decide +kernel
theorem dc_Mod_tick_5 : decode prog_13_method_28_code 5 = .ok (.dload_n 1, 1) := by decide +kernel
theorem dc_Mod_tick_6 : decode prog_13_method_28_code 6 = .ok (.dconst 0, 1) := by decide +kernel
theorem dc_Mod_tick_7 : decode prog_13_method_28_code 7 = .ok (.dcmp .l, 1) := by decide +kernel
theorem dc_Mod_tick_8 : decode prog_13_method_28_code 8 = .ok (.ifCond .lt 11, 3) := by decide +kernel
theorem dc_Mod_tick_11 : decode prog_13_method_28_code 11 = .ok (.dload_n 1, 1) := by decide +kernel
theorem dc_Mod_tick_12 : decode prog_13_method_28_code 12 = .ok (.ldc2_w 92, 3) := by decide +kernel
theorem dc_Mod_tick_15 : decode prog_13_method_28_code 15 = .ok (.dcmp .g, 1) := by decide +kernel
theorem dc_Mod_tick_16 : decode prog_13_method_28_code 16 = .ok (.ifCond .le 9, 3) := by decide +kernel
theorem dc_Mod_tick_19 : decode prog_13_method_28_code 19 = .ok (.aload_n 0, 1) := by decide +kernel
theorem dc_Mod_tick_20 : decode prog_13_method_28_code 20 = .ok (.iconst 1, 1) := by decide +kernel
theorem dc_Mod_tick_21 : decode prog_13_method_28_code 21 = .ok (.invokevirtual 86, 3) := by decide +kernel
theorem dc_Mod_tick_24 : decode prog_13_method_28_code 24 = .ok (.ireturn, 1) := by decide +kernel
theorem dc_Mod_tick_25 : decode prog_13_method_28_code 25 = .ok (.aload_n 0, 1) := by decide +kernel
theorem dc_Mod_tick_26 : decode prog_13_method_28_code 26 = .ok (.dup, 1) := by decide +kernel
theorem dc_Mod_tick_27 : decode prog_13_method_28_code 27 = .ok (.getfield 94, 3) := by decide +kernel
theorem dc_Mod_tick_30 : decode prog_13_method_28_code 30 = .ok (.dload_n 1, 1) := by decide +kernel
theorem dc_Mod_tick_31 : decode prog_13_method_28_code 31 = .ok (.dadd, 1) := by decide +kernel
theorem dc_Mod_tick_32 : decode prog_13_method_28_code 32 = .ok (.putfield 94, 3) := by decide +kernel
theorem dc_Mod_tick_35 : decode prog_13_method_28_code 35 = .ok (.iconst 0, 1) := by decide +kernel
theorem dc_Mod_tick_36 : decode prog_13_method_28_code 36 = .ok (.istore_n 3, 1) := by decide +kernel
theorem dc_Mod_tick_37 : decode prog_13_method_28_code 37 = .ok (.aload_n 0, 1) := by decide +kernel
theorem dc_Mod_tick_38 : decode prog_13_method_28_code 38 = .ok (.invokevirtual 161, 3) := by decide +kernel
theorem dc_Mod_tick_41 : decode prog_13_method_28_code 41 = .ok (.istore 4, 2) := by decide +kernel
theorem dc_Mod_tick_43 : decode prog_13_method_28_code 43 = .ok (.iload 4, 2) := by decide +kernel
theorem dc_Mod_tick_45 : decode prog_13_method_28_code 45 = .ok (.ifCond .lt 78, 3) := by decide +kernel
theorem dc_Mod_tick_48 : decode prog_13_method_28_code 48 = .ok (.iinc 3 1, 3) := by decide +kernel
theorem dc_Mod_tick_51 : decode prog_13_method_28_code 51 = .ok (.aload_n 0, 1) := by decide +kernel
theorem dc_Mod_tick_52 : decode prog_13_method_28_code 52 = .ok (.getfield 24, 3) := by decide +kernel
theorem dc_Mod_tick_55 : decode prog_13_method_28_code 55 = .ok (.iload 4, 2) := by decide +kernel
theorem dc_Mod_tick_57 : decode prog_13_method_28_code 57 = .ok (.iaload, 1) := by decide +kernel
theorem dc_Mod_tick_58 : decode prog_13_method_28_code 58 = .ok (.istore 5, 2) := by decide +kernel
theorem dc_Mod_tick_60 : decode prog_13_method_28_code 60 = .ok (.aload_n 0, 1) := by decide +kernel
theorem dc_Mod_tick_61 : decode prog_13_method_28_code 61 = .ok (.getfield 42, 3) := by decide +kernel
theorem dc_Mod_tick_64 : decode prog_13_method_28_code 64 = .ok (.iload 5, 2) := by decide +kernel
theorem dc_Mod_tick_66 : decode prog_13_method_28_code 66 = .ok (.iaload, 1) := by decide +kernel
theorem dc_Mod_tick_67 : decode prog_13_method_28_code 67 = .ok (.bipush 6, 2) := by decide +kernel
theorem dc_Mod_tick_69 : decode prog_13_method_28_code 69 = .ok (.if_icmp .ne 15, 3) := by decide +kernel
theorem dc_Mod_tick_72 : decode prog_13_method_28_code 72 = .ok (.aload_n 0, 1) := by decide +kernel
theorem dc_Mod_tick_73 : decode prog_13_method_28_code 73 = .ok (.iload 4, 2) := by decide +kernel
theorem dc_Mod_tick_75 : decode prog_13_method_28_code 75 = .ok (.iload 5, 2) := by decide +kernel
theorem dc_Mod_tick_77 : decode prog_13_method_28_code 77 = .ok (.iconst 2, 1) := by decide +kernel
theorem dc_Mod_tick_78 : decode prog_13_method_28_code 78 = .ok (.invokevirtual 158, 3) := by decide +kernel
theorem dc_Mod_tick_81 : decode prog_13_method_28_code 81 = .ok (.goto 33, 3) := by decide +kernel
theorem dc_Mod_tick_84 : decode prog_13_method_28_code 84 = .ok (.aload_n 0, 1) := by decide +kernel
theorem dc_Mod_tick_85 : decode prog_13_method_28_code 85 = .ok (.iload 4, 2) := by decide +kernel
theorem dc_Mod_tick_87 : decode prog_13_method_28_code 87 = .ok (.iload 5, 2) := by decide +kernel
theorem dc_Mod_tick_89 : decode prog_13_method_28_code 89 = .ok (.invokevirtual 105, 3) := by decide +kernel
theorem dc_Mod_tick_92 : decode prog_13_method_28_code 92 = .ok (.aload_n 0, 1) := by decide +kernel
theorem dc_Mod_tick_93 : decode prog_13_method_28_code 93 = .ok (.getfield 7, 3) := by decide +kernel
theorem dc_Mod_tick_96 : decode prog_13_method_28_code 96 = .ok (.iload 4, 2) := by decide +kernel
theorem dc_Mod_tick_98 : decode prog_13_method_28_code 98 = .ok (.iconst 0, 1) := by decide +kernel
theorem dc_Mod_tick_99 : decode prog_13_method_28_code 99 = .ok (.bastore, 1) := by decide +kernel
theorem dc_Mod_tick_100 : decode prog_13_method_28_code 100 = .ok (.aload_n 0, 1) := by decide +kernel
theorem dc_Mod_tick_101 : decode prog_13_method_28_code 101 = .ok (.getfield 20, 3) := by decide +kernel
theorem dc_Mod_tick_104 : decode prog_13_method_28_code 104 = .ok (.iload 4, 2) := by decide +kernel
theorem dc_Mod_tick_106 : decode prog_13_method_28_code 106 = .ok (.iconst 2, 1) := by decide +kernel
theorem dc_Mod_tick_107 : decode prog_13_method_28_code 107 = .ok (.iastore, 1) := by decide +kernel
theorem dc_Mod_tick_108 : decode prog_13_method_28_code 108 = .ok (.aload_n 0, 1) := by decide +kernel
theorem dc_Mod_tick_109 : decode prog_13_method_28_code 109 = .ok (.iload 5, 2) := by decide +kernel
theorem dc_Mod_tick_111 : decode prog_13_method_28_code 111 = .ok (.invokevirtual 121, 3) := by decide +kernel
theorem dc_Mod_tick_114 : decode prog_13_method_28_code 114 = .ok (.aload_n 0, 1) := by decide +kernel
theorem dc_Mod_tick_115 : decode prog_13_method_28_code 115 = .ok (.invokevirtual 161, 3) := by decide +kernel
theorem dc_Mod_tick_118 : decode prog_13_method_28_code 118 = .ok (.istore 4, 2) := by decide +kernel
theorem dc_Mod_tick_120 : decode prog_13_method_28_code 120 = .ok (.goto (-77), 3) := by decide +kernel
theorem dc_Mod_tick_123 : decode prog_13_method_28_code 123 = .ok (.iload_n 3, 1) := by decide +kernel
theorem dc_Mod_tick_124 : decode prog_13_method_28_code 124 = .ok (.ireturn, 1) := by decide +kernel
theorem dc_Mod_policy_0 : decode prog_13_method_30_code 0 = .ok (.aload_n 0, 1) := by decide +kernel
theorem dc_Mod_policy_1 : decode prog_13_method_30_code 1 = .ok (.iconst 0, 1) := by decide +kernel
theorem dc_Mod_policy_2 : decode prog_13_method_30_code 2 = .ok (.putfield 78, 3) := by decide +kernel
theorem dc_Mod_policy_5 : decode prog_13_method_30_code 5 = .ok (.aload_n 0, 1) := by decide +kernel
theorem dc_Mod_policy_6 : decode prog_13_method_30_code 6 = .ok (.iload_n 1, 1) := by decide +kernel
theorem dc_Mod_policy_7 : decode prog_13_method_30_code 7 = .ok (.iconst 3, 1) := by decide +kernel
theorem dc_Mod_policy_8 : decode prog_13_method_30_code 8 = .ok (.invokevirtual 82, 3) := by decide +kernel
theorem dc_Mod_policy_11 : decode prog_13_method_30_code 11 = .ok (.ifCond .eq 9, 3) := by decide +kernel
theorem dc_Mod_policy_14 : decode prog_13_method_30_code 14 = .ok (.aload_n 0, 1) := by decide +kernel
theorem dc_Mod_policy_15 : decode prog_13_method_30_code 15 = .ok (.iconst 1, 1) := by decide +kernel
theorem dc_Mod_policy_16 : decode prog_13_method_30_code 16 = .ok (.invokevirtual 86, 3) := by decide +kernel
theorem dc_Mod_policy_19 : decode prog_13_method_30_code 19 = .ok (.ireturn, 1) := by decide +kernel
theorem dc_Mod_policy_20 : decode prog_13_method_30_code 20 = .ok (.aload_n 0, 1) := by decide +kernel
theorem dc_Mod_policy_21 : decode prog_13_method_30_code 21 = .ok (.iload_n 1, 1) := by decide +kernel
theorem dc_Mod_policy_22 : decode prog_13_method_30_code 22 = .ok (.putfield 125, 3) := by decide +kernel
theorem dc_Mod_policy_25 : decode prog_13_method_30_code 25 = .ok (.aload_n 0, 1) := by decide +kernel
theorem dc_Mod_policy_26 : decode prog_13_method_30_code 26 = .ok (.getfield 135, 3) := by decide +kernel
theorem dc_Mod_policy_29 : decode prog_13_method_30_code 29 = .ok (.ireturn, 1) := by decide +kernel
theorem dc_Mod_thread_0 : decode prog_13_method_31_code 0 = .ok (.aload_n 0, 1) := by decide +kernel
theorem dc_Mod_thread_1 : decode prog_13_method_31_code 1 = .ok (.iconst 0, 1) := by decide +kernel
theorem dc_Mod_thread_2 : decode prog_13_method_31_code 2 = .ok (.putfield 78, 3) := by decide +kernel
theorem dc_Mod_thread_5 : decode prog_13_method_31_code 5 = .ok (.aload_n 0, 1) := by decide +kernel
theorem dc_Mod_thread_6 : decode prog_13_method_31_code 6 = .ok (.iload_n 1, 1) := by decide +kernel
theorem dc_Mod_thread_7 : decode prog_13_method_31_code 7 = .ok (.bipush 6, 2) := by decide +kernel
theorem dc_Mod_thread_9 : decode prog_13_method_31_code 9 = .ok (.invokevirtual 82, 3) := by decide +kernel
theorem dc_Mod_thread_12 : decode prog_13_method_31_code 12 = .ok (.ifCond .ne 13, 3) := by decide +kernel
theorem dc_Mod_thread_15 : decode prog_13_method_31_code 15 = .ok (.aload_n 0, 1) := by decide +kernel
theorem dc_Mod_thread_16 : decode prog_13_method_31_code 16 = .ok (.iload_n 2, 1) := by decide +kernel
theorem dc_Mod_thread_17 : decode prog_13_method_31_code 17 = .ok (.bipush 11, 2) := by decide +kernel
theorem dc_Mod_thread_19 : decode prog_13_method_31_code 19 = .ok (.invokevirtual 82, 3) := by decide +kernel
theorem dc_Mod_thread_22 : decode prog_13_method_31_code 22 = .ok (.ifCond .eq 9, 3) := by decide +kernel
theorem dc_Mod_thread_25 : decode prog_13_method_31_code 25 = .ok (.aload_n 0, 1) := by decide +kernel
theorem dc_Mod_thread_26 : decode prog_13_method_31_code 26 = .ok (.iconst 1, 1) := by decide +kernel
theorem dc_Mod_thread_27 : decode prog_13_method_31_code 27 = .ok (.invokevirtual 86, 3) := by decide +kernel
theorem dc_Mod_thread_30 : decode prog_13_method_31_code 30 = .ok (.ireturn, 1) := by decide +kernel
theorem dc_Mod_thread_31 : decode prog_13_method_31_code 31 = .ok (.iload_n 2, 1) := by decide +kernel
theorem dc_Mod_thread_32 : decode prog_13_method_31_code 32 = .ok (.ifCond .ne 18, 3) := by decide +kernel
theorem dc_Mod_thread_35 : decode prog_13_method_31_code 35 = .ok (.aload_n 0, 1) := by decide +kernel
theorem dc_Mod_thread_36 : decode prog_13_method_31_code 36 = .ok (.getfield 7, 3) := by decide +kernel
theorem dc_Mod_thread_39 : decode prog_13_method_31_code 39 = .ok (.iload_n 1, 1) := by decide +kernel
theorem dc_Mod_thread_40 : decode prog_13_method_31_code 40 = .ok (.baload, 1) := by decide +kernel
theorem dc_Mod_thread_41 : decode prog_13_method_31_code 41 = .ok (.ifCond .eq 7, 3) := by decide +kernel
theorem dc_Mod_thread_44 : decode prog_13_method_31_code 44 = .ok (.iconst 1, 1) := by decide +kernel
theorem dc_Mod_thread_45 : decode prog_13_method_31_code 45 = .ok (.goto 4, 3) := by decide +kernel
theorem dc_Mod_thread_48 : decode prog_13_method_31_code 48 = .ok (.iconst 0, 1) := by decide +kernel
theorem dc_Mod_thread_49 : decode prog_13_method_31_code 49 = .ok (.ireturn, 1) := by decide +kernel
theorem dc_Mod_thread_50 : decode prog_13_method_31_code 50 = .ok (.iload_n 2, 1) := by decide +kernel
theorem dc_Mod_thread_51 : decode prog_13_method_31_code 51 = .ok (.iconst 1, 1) := by decide +kernel
theorem dc_Mod_thread_52 : decode prog_13_method_31_code 52 = .ok (.if_icmp .ne 10, 3) := by decide +kernel
theorem dc_Mod_thread_55 : decode prog_13_method_31_code 55 = .ok (.aload_n 0, 1) := by decide +kernel
theorem dc_Mod_thread_56 : decode prog_13_method_31_code 56 = .ok (.getfield 20, 3) := by decide +kernel
theorem dc_Mod_thread_59 : decode prog_13_method_31_code 59 = .ok (.iload_n 1, 1) := by decide +kernel
theorem dc_Mod_thread_60 : decode prog_13_method_31_code 60 = .ok (.iaload, 1) := by decide +kernel
theorem dc_Mod_thread_61 : decode prog_13_method_31_code 61 = .ok (.ireturn, 1) := by decide +kernel
theorem dc_Mod_thread_62 : decode prog_13_method_31_code 62 = .ok (.iload_n 2, 1) := by decide +kernel
theorem dc_Mod_thread_63 : decode prog_13_method_31_code 63 = .ok (.iconst 2, 1) := by decide +kernel
theorem dc_Mod_thread_64 : decode prog_13_method_31_code 64 = .ok (.if_icmp .ne 18, 3) := by decide +kernel
theorem dc_Mod_thread_67 : decode prog_13_method_31_code 67 = .ok (.aload_n 0, 1) := by decide +kernel
theorem dc_Mod_thread_68 : decode prog_13_method_31_code 68 = .ok (.getfield 13, 3) := by decide +kernel
theorem dc_Mod_thread_71 : decode prog_13_method_31_code 71 = .ok (.iload_n 1, 1) := by decide +kernel
theorem dc_Mod_thread_72 : decode prog_13_method_31_code 72 = .ok (.baload, 1) := by decide +kernel
theorem dc_Mod_thread_73 : decode prog_13_method_31_code 73 = .ok (.ifCond .eq 7, 3) := by decide +kernel
theorem dc_Mod_thread_76 : decode prog_13_method_31_code 76 = .ok (.iconst 1, 1) := by decide +kernel
theorem dc_Mod_thread_77 : decode prog_13_method_31_code 77 = .ok (.goto 4, 3) := by decide +kernel
theorem dc_Mod_thread_80 : decode prog_13_method_31_code 80 = .ok (.iconst 0, 1) := by decide +kernel
theorem dc_Mod_thread_81 : decode prog_13_method_31_code 81 = .ok (.ireturn, 1) := by decide +kernel
theorem dc_Mod_thread_82 : decode prog_13_method_31_code 82 = .ok (.iload_n 2, 1) := by decide +kernel
theorem dc_Mod_thread_83 : decode prog_13_method_31_code 83 = .ok (.iconst 3, 1) := by decide +kernel
theorem dc_Mod_thread_84 : decode prog_13_method_31_code 84 = .ok (.isub, 1) := by decide +kernel
theorem dc_Mod_thread_85 : decode prog_13_method_31_code 85 = .ok (.istore_n 3, 1) := by decide +kernel
theorem dc_Mod_thread_86 : decode prog_13_method_31_code 86 = .ok (.aload_n 0, 1) := by decide +kernel
theorem dc_Mod_thread_87 : decode prog_13_method_31_code 87 = .ok (.getfield 45, 3) := by decide +kernel
theorem dc_Mod_thread_90 : decode prog_13_method_31_code 90 = .ok (.iload_n 3, 1) := by decide +kernel
theorem dc_Mod_thread_91 : decode prog_13_method_31_code 91 = .ok (.iaload, 1) := by decide +kernel
theorem dc_Mod_thread_92 : decode prog_13_method_31_code 92 = .ok (.iload_n 1, 1) := by decide +kernel
theorem dc_Mod_thread_93 : decode prog_13_method_31_code 93 = .ok (.if_icmp .ne 12, 3) := by decide +kernel
theorem dc_Mod_thread_96 : decode prog_13_method_31_code 96 = .ok (.aload_n 0, 1) := by decide +kernel
theorem dc_Mod_thread_97 : decode prog_13_method_31_code 97 = .ok (.getfield 48, 3) := by decide +kernel
theorem dc_Mod_thread_100 : decode prog_13_method_31_code 100 = .ok (.iload_n 3, 1) := by decide +kernel
theorem dc_Mod_thread_101 : decode prog_13_method_31_code 101 = .ok (.iaload, 1) := by decide +kernel
theorem dc_Mod_thread_102 : decode prog_13_method_31_code 102 = .ok (.goto 4, 3) := by decide +kernel
theorem dc_Mod_thread_105 : decode prog_13_method_31_code 105 = .ok (.iconst 0, 1) := by decide +kernel
theorem dc_Mod_thread_106 : decode prog_13_method_31_code 106 = .ok (.aload_n 0, 1) := by decide +kernel
theorem dc_Mod_thread_107 : decode prog_13_method_31_code 107 = .ok (.getfield 57, 3) := by decide +kernel
theorem dc_Mod_thread_110 : decode prog_13_method_31_code 110 = .ok (.bipush 6, 2) := by decide +kernel
theorem dc_Mod_thread_112 : decode prog_13_method_31_code 112 = .ok (.iload_n 3, 1) := by decide +kernel
theorem dc_Mod_thread_113 : decode prog_13_method_31_code 113 = .ok (.imul, 1) := by decide +kernel
theorem dc_Mod_thread_114 : decode prog_13_method_31_code 114 = .ok (.iload_n 1, 1) := by decide +kernel
theorem dc_Mod_thread_115 : decode prog_13_method_31_code 115 = .ok (.iadd, 1) := by decide +kernel
theorem dc_Mod_thread_116 : decode prog_13_method_31_code 116 = .ok (.iaload, 1) := by decide +kernel
theorem dc_Mod_thread_117 : decode prog_13_method_31_code 117 = .ok (.iadd, 1) := by decide +kernel
theorem dc_Mod_thread_118 : decode prog_13_method_31_code 118 = .ok (.ireturn, 1) := by decide +kernel
theorem dc_Mod_sync_0 : decode prog_13_method_32_code 0 = .ok (.aload_n 0, 1) := by decide +kernel
theorem dc_Mod_sync_1 : decode prog_13_method_32_code 1 = .ok (.iconst 0, 1) := by decide +kernel
theorem dc_Mod_sync_2 : decode prog_13_method_32_code 2 = .ok (.putfield 78, 3) := by decide +kernel
theorem dc_Mod_sync_5 : decode prog_13_method_32_code 5 = .ok (.aload_n 0, 1) := by decide +kernel
theorem dc_Mod_sync_6 : decode prog_13_method_32_code 6 = .ok (.iload_n 1, 1) := by decide +kernel
theorem dc_Mod_sync_7 : decode prog_13_method_32_code 7 = .ok (.bipush 8, 2) := by decide +kernel
theorem dc_Mod_sync_9 : decode prog_13_method_32_code 9 = .ok (.invokevirtual 82, 3) := by decide +kernel
theorem dc_Mod_sync_12 : decode prog_13_method_32_code 12 = .ok (.ifCond .ne 13, 3) := by decide +kernel
theorem dc_Mod_sync_15 : decode prog_13_method_32_code 15 = .ok (.aload_n 0, 1) := by decide +kernel
theorem dc_Mod_sync_16 : decode prog_13_method_32_code 16 = .ok (.iload_n 2, 1) := by decide +kernel
theorem dc_Mod_sync_17 : decode prog_13_method_32_code 17 = .ok (.bipush 9, 2) := by decide +kernel
theorem dc_Mod_sync_19 : decode prog_13_method_32_code 19 = .ok (.invokevirtual 82, 3) := by decide +kernel
theorem dc_Mod_sync_22 : decode prog_13_method_32_code 22 = .ok (.ifCond .eq 9, 3) := by decide +kernel
theorem dc_Mod_sync_25 : decode prog_13_method_32_code 25 = .ok (.aload_n 0, 1) := by decide +kernel
theorem dc_Mod_sync_26 : decode prog_13_method_32_code 26 = .ok (.iconst 1, 1) := by decide +kernel
theorem dc_Mod_sync_27 : decode prog_13_method_32_code 27 = .ok (.invokevirtual 86, 3) := by decide +kernel
theorem dc_Mod_sync_30 : decode prog_13_method_32_code 30 = .ok (.ireturn, 1) := by decide +kernel
theorem dc_Mod_sync_31 : decode prog_13_method_32_code 31 = .ok (.aload_n 0, 1) := by decide +kernel
theorem dc_Mod_sync_32 : decode prog_13_method_32_code 32 = .ok (.getfield 42, 3) := by decide +kernel
theorem dc_Mod_sync_35 : decode prog_13_method_32_code 35 = .ok (.iload_n 1, 1) := by decide +kernel
theorem dc_Mod_sync_36 : decode prog_13_method_32_code 36 = .ok (.iaload, 1) := by decide +kernel
theorem dc_Mod_sync_37 : decode prog_13_method_32_code 37 = .ok (.ifCond .ge 9, 3) := by decide +kernel
theorem dc_Mod_sync_40 : decode prog_13_method_32_code 40 = .ok (.aload_n 0, 1) := by decide +kernel
theorem dc_Mod_sync_41 : decode prog_13_method_32_code 41 = .ok (.iconst 2, 1) := by decide +kernel
theorem dc_Mod_sync_42 : decode prog_13_method_32_code 42 = .ok (.invokevirtual 86, 3) := by decide +kernel
theorem dc_Mod_sync_45 : decode prog_13_method_32_code 45 = .ok (.ireturn, 1) := by decide +kernel
theorem dc_Mod_sync_46 : decode prog_13_method_32_code 46 = .ok (.iload_n 2, 1) := by decide +kernel
theorem dc_Mod_sync_47 : decode prog_13_method_32_code 47 = .ok (.ifCond .ne 10, 3) := by decide +kernel
theorem dc_Mod_sync_50 : decode prog_13_method_32_code 50 = .ok (.aload_n 0, 1) := by decide +kernel
theorem dc_Mod_sync_51 : decode prog_13_method_32_code 51 = .ok (.getfield 42, 3) := by decide +kernel
theorem dc_Mod_sync_54 : decode prog_13_method_32_code 54 = .ok (.iload_n 1, 1) := by decide +kernel
theorem dc_Mod_sync_55 : decode prog_13_method_32_code 55 = .ok (.iaload, 1) := by decide +kernel
theorem dc_Mod_sync_56 : decode prog_13_method_32_code 56 = .ok (.ireturn, 1) := by decide +kernel
theorem dc_Mod_sync_57 : decode prog_13_method_32_code 57 = .ok (.iload_n 2, 1) := by decide +kernel
theorem dc_Mod_sync_58 : decode prog_13_method_32_code 58 = .ok (.iconst 1, 1) := by decide +kernel
theorem dc_Mod_sync_59 : decode prog_13_method_32_code 59 = .ok (.if_icmp .ne 10, 3) := by decide +kernel
theorem dc_Mod_sync_62 : decode prog_13_method_32_code 62 = .ok (.aload_n 0, 1) := by decide +kernel
theorem dc_Mod_sync_63 : decode prog_13_method_32_code 63 = .ok (.getfield 63, 3) := by decide +kernel
theorem dc_Mod_sync_66 : decode prog_13_method_32_code 66 = .ok (.iload_n 1, 1) := by decide +kernel
theorem dc_Mod_sync_67 : decode prog_13_method_32_code 67 = .ok (.iaload, 1) := by decide +kernel
theorem dc_Mod_sync_68 : decode prog_13_method_32_code 68 = .ok (.ireturn, 1) := by decide +kernel
theorem dc_Mod_sync_69 : decode prog_13_method_32_code 69 = .ok (.iload_n 2, 1) := by decide +kernel
theorem dc_Mod_sync_70 : decode prog_13_method_32_code 70 = .ok (.bipush 8, 2) := by decide +kernel
theorem dc_Mod_sync_72 : decode prog_13_method_32_code 72 = .ok (.if_icmp .ne 10, 3) := by decide +kernel
theorem dc_Mod_sync_75 : decode prog_13_method_32_code 75 = .ok (.aload_n 0, 1) := by decide +kernel
theorem dc_Mod_sync_76 : decode prog_13_method_32_code 76 = .ok (.getfield 51, 3) := by decide +kernel
theorem dc_Mod_sync_79 : decode prog_13_method_32_code 79 = .ok (.iload_n 1, 1) := by decide +kernel
theorem dc_Mod_sync_80 : decode prog_13_method_32_code 80 = .ok (.iaload, 1) := by decide +kernel
theorem dc_Mod_sync_81 : decode prog_13_method_32_code 81 = .ok (.ireturn, 1) := by decide +kernel
theorem dc_Mod_sync_82 : decode prog_13_method_32_code 82 = .ok (.iload_n 2, 1) := by decide +kernel
theorem dc_Mod_sync_83 : decode prog_13_method_32_code 83 = .ok (.iconst 2, 1) := by decide +kernel
theorem dc_Mod_sync_84 : decode prog_13_method_32_code 84 = .ok (.isub, 1) := by decide +kernel
theorem dc_Mod_sync_85 : decode prog_13_method_32_code 85 = .ok (.aload_n 0, 1) := by decide +kernel
theorem dc_Mod_sync_86 : decode prog_13_method_32_code 86 = .ok (.getfield 63, 3) := by decide +kernel
theorem dc_Mod_sync_89 : decode prog_13_method_32_code 89 = .ok (.iload_n 1, 1) := by decide +kernel
theorem dc_Mod_sync_90 : decode prog_13_method_32_code 90 = .ok (.iaload, 1) := by decide +kernel
theorem dc_Mod_sync_91 : decode prog_13_method_32_code 91 = .ok (.if_icmp .ge 19, 3) := by decide +kernel
theorem dc_Mod_sync_94 : decode prog_13_method_32_code 94 = .ok (.aload_n 0, 1) := by decide +kernel
theorem dc_Mod_sync_95 : decode prog_13_method_32_code 95 = .ok (.getfield 60, 3) := by decide +kernel
theorem dc_Mod_sync_98 : decode prog_13_method_32_code 98 = .ok (.bipush 6, 2) := by decide +kernel
theorem dc_Mod_sync_100 : decode prog_13_method_32_code 100 = .ok (.iload_n 1, 1) := by decide +kernel
theorem dc_Mod_sync_101 : decode prog_13_method_32_code 101 = .ok (.imul, 1) := by decide +kernel
theorem dc_Mod_sync_102 : decode prog_13_method_32_code 102 = .ok (.iload_n 2, 1) := by decide +kernel
theorem dc_Mod_sync_103 : decode prog_13_method_32_code 103 = .ok (.iadd, 1) := by decide +kernel
theorem dc_Mod_sync_104 : decode prog_13_method_32_code 104 = .ok (.iconst 2, 1) := by decide +kernel
theorem dc_Mod_sync_105 : decode prog_13_method_32_code 105 = .ok (.isub, 1) := by decide +kernel
theorem dc_Mod_sync_106 : decode prog_13_method_32_code 106 = .ok (.iaload, 1) := by decide +kernel
theorem dc_Mod_sync_107 : decode prog_13_method_32_code 107 = .ok (.goto 4, 3) := by decide +kernel
theorem dc_Mod_sync_110 : decode prog_13_method_32_code 110 = .ok (.iconst (-1), 1) := by decide +kernel
theorem dc_Mod_sync_111 : decode prog_13_method_32_code 111 = .ok (.ireturn, 1) := by decide +kernel
theorem dc_Mod_waited_0 : decode prog_13_method_33_code 0 = .ok (.aload_n 0, 1) := by decide +kernel
theorem dc_Mod_waited_1 : decode prog_13_method_33_code 1 = .ok (.iconst 0, 1) := by decide +kernel
theorem dc_Mod_waited_2 : decode prog_13_method_33_code 2 = .ok (.putfield 78, 3) := by decide +kernel
theorem dc_Mod_waited_5 : decode prog_13_method_33_code 5 = .ok (.aload_n 0, 1) := by decide +kernel
theorem dc_Mod_waited_6 : decode prog_13_method_33_code 6 = .ok (.iload_n 1, 1) := by decide +kernel
theorem dc_Mod_waited_7 : decode prog_13_method_33_code 7 = .ok (.bipush 8, 2) := by decide +kernel
theorem dc_Mod_waited_9 : decode prog_13_method_33_code 9 = .ok (.invokevirtual 82, 3) := by decide +kernel
theorem dc_Mod_waited_12 : decode prog_13_method_33_code 12 = .ok (.ifCond .eq 10, 3) := by decide +kernel
theorem dc_Mod_waited_15 : decode prog_13_method_33_code 15 = .ok (.aload_n 0, 1) := by decide +kernel
theorem dc_Mod_waited_16 : decode prog_13_method_33_code 16 = .ok (.iconst 1, 1) := by decide +kernel
theorem dc_Mod_waited_17 : decode prog_13_method_33_code 17 = .ok (.invokevirtual 86, 3) := by decide +kernel
theorem dc_Mod_waited_20 : decode prog_13_method_33_code 20 = .ok (.i2d, 1) := by decide +kernel
theorem dc_Mod_waited_21 : decode prog_13_method_33_code 21 = .ok (.dreturn, 1) := by decide +kernel
theorem dc_Mod_waited_22 : decode prog_13_method_33_code 22 = .ok (.aload_n 0, 1) := by decide +kernel
theorem dc_Mod_waited_23 : decode prog_13_method_33_code 23 = .ok (.getfield 42, 3) := by decide +kernel
theorem dc_Mod_waited_26 : decode prog_13_method_33_code 26 = .ok (.iload_n 1, 1) := by decide +kernel
theorem dc_Mod_waited_27 : decode prog_13_method_33_code 27 = .ok (.iaload, 1) := by decide +kernel
theorem dc_Mod_waited_28 : decode prog_13_method_33_code 28 = .ok (.ifCond .ge 10, 3) := by decide +kernel
theorem dc_Mod_waited_31 : decode prog_13_method_33_code 31 = .ok (.aload_n 0, 1) := by decide +kernel
theorem dc_Mod_waited_32 : decode prog_13_method_33_code 32 = .ok (.iconst 2, 1) := by decide +kernel
theorem dc_Mod_waited_33 : decode prog_13_method_33_code 33 = .ok (.invokevirtual 86, 3) := by decide +kernel
theorem dc_Mod_waited_36 : decode prog_13_method_33_code 36 = .ok (.i2d, 1) := by decide +kernel
theorem dc_Mod_waited_37 : decode prog_13_method_33_code 37 = .ok (.dreturn, 1) := by decide +kernel
theorem dc_Mod_waited_38 : decode prog_13_method_33_code 38 = .ok (.aload_n 0, 1) := by decide +kernel
theorem dc_Mod_waited_39 : decode prog_13_method_33_code 39 = .ok (.getfield 69, 3) := by decide +kernel
theorem dc_Mod_waited_42 : decode prog_13_method_33_code 42 = .ok (.iload_n 1, 1) := by decide +kernel
theorem dc_Mod_waited_43 : decode prog_13_method_33_code 43 = .ok (.iaload, 1) := by decide +kernel
theorem dc_Mod_waited_44 : decode prog_13_method_33_code 44 = .ok (.ifCond .ne 10, 3) := by decide +kernel
theorem dc_Mod_waited_47 : decode prog_13_method_33_code 47 = .ok (.aload_n 0, 1) := by decide +kernel
theorem dc_Mod_waited_48 : decode prog_13_method_33_code 48 = .ok (.iconst 3, 1) := by decide +kernel
theorem dc_Mod_waited_49 : decode prog_13_method_33_code 49 = .ok (.invokevirtual 86, 3) := by decide +kernel
theorem dc_Mod_waited_52 : decode prog_13_method_33_code 52 = .ok (.i2d, 1) := by decide +kernel
theorem dc_Mod_waited_53 : decode prog_13_method_33_code 53 = .ok (.dreturn, 1) := by decide +kernel
theorem dc_Mod_waited_54 : decode prog_13_method_33_code 54 = .ok (.aload_n 0, 1) := by decide +kernel
theorem dc_Mod_waited_55 : decode prog_13_method_33_code 55 = .ok (.getfield 66, 3) := by decide +kernel
theorem dc_Mod_waited_58 : decode prog_13_method_33_code 58 = .ok (.iload_n 1, 1) := by decide +kernel
theorem dc_Mod_waited_59 : decode prog_13_method_33_code 59 = .ok (.daload, 1) := by decide +kernel
theorem dc_Mod_waited_60 : decode prog_13_method_33_code 60 = .ok (.aload_n 0, 1) := by decide +kernel
theorem dc_Mod_waited_61 : decode prog_13_method_33_code 61 = .ok (.getfield 69, 3) := by decide +kernel
theorem dc_Mod_waited_64 : decode prog_13_method_33_code 64 = .ok (.iload_n 1, 1) := by decide +kernel
theorem dc_Mod_waited_65 : decode prog_13_method_33_code 65 = .ok (.iaload, 1) := by decide +kernel
theorem dc_Mod_waited_66 : decode prog_13_method_33_code 66 = .ok (.i2d, 1) := by decide +kernel
theorem dc_Mod_waited_67 : decode prog_13_method_33_code 67 = .ok (.ddiv, 1) := by decide +kernel
theorem dc_Mod_waited_68 : decode prog_13_method_33_code 68 = .ok (.dreturn, 1) := by decide +kernel
theorem dc_Mod_time_0 : decode prog_13_method_34_code 0 = .ok (.aload_n 0, 1) := by decide +kernel
theorem dc_Mod_time_1 : decode prog_13_method_34_code 1 = .ok (.iconst 0, 1) := by decide +kernel
theorem dc_Mod_time_2 : decode prog_13_method_34_code 2 = .ok (.putfield 78, 3) := by decide +kernel
theorem dc_Mod_time_5 : decode prog_13_method_34_code 5 = .ok (.aload_n 0, 1) := by decide +kernel
theorem dc_Mod_time_6 : decode prog_13_method_34_code 6 = .ok (.getfield 94, 3) := by decide +kernel
theorem dc_Mod_time_9 : decode prog_13_method_34_code 9 = .ok (.dreturn, 1) := by decide +kernel
