/-! DECODE ROWS: printed by wip/whole/gen/words.py -/
theorem d_La_access_0 : decode b_La_access 0 = .ok (.aload 4, 2) := by decide +kernel
theorem d_La_access_2 : decode b_La_access 2 = .ok (.iconst 0, 1) := by decide +kernel
theorem d_La_access_3 : decode b_La_access 3 = .ok (.aload_n 0, 1) := by decide +kernel
theorem d_La_access_4 : decode b_La_access 4 = .ok (.iload_n 1, 1) := by decide +kernel
theorem d_La_access_5 : decode b_La_access 5 = .ok (.iload_n 2, 1) := by decide +kernel
theorem d_La_access_6 : decode b_La_access 6 = .ok (.iload_n 3, 1) := by decide +kernel
theorem d_La_access_7 : decode b_La_access 7 = .ok (.invokevirtual 40, 3) := by decide +kernel
theorem d_La_access_10 : decode b_La_access 10 = .ok (.i2l, 1) := by decide +kernel
theorem d_La_access_11 : decode b_La_access 11 = .ok (.lastore, 1) := by decide +kernel
theorem d_La_access_12 : decode b_La_access 12 = .ok (.goto 11, 3) := by decide +kernel
theorem d_La_access_15 : decode b_La_access 15 = .ok (.astore 5, 2) := by decide +kernel
theorem d_La_access_17 : decode b_La_access 17 = .ok (.iconst 1, 1) := by decide +kernel
theorem d_La_access_18 : decode b_La_access 18 = .ok (.ireturn, 1) := by decide +kernel
theorem d_La_access_19 : decode b_La_access 19 = .ok (.astore 5, 2) := by decide +kernel
theorem d_La_access_21 : decode b_La_access 21 = .ok (.iconst 2, 1) := by decide +kernel
theorem d_La_access_22 : decode b_La_access 22 = .ok (.ireturn, 1) := by decide +kernel
theorem d_La_access_23 : decode b_La_access 23 = .ok (.iconst 0, 1) := by decide +kernel
theorem d_La_access_24 : decode b_La_access 24 = .ok (.ireturn, 1) := by decide +kernel
theorem d_La_add_0 : decode b_La_add 0 = .ok (.aload 5, 2) := by decide +kernel
theorem d_La_add_2 : decode b_La_add 2 = .ok (.iconst 0, 1) := by decide +kernel
theorem d_La_add_3 : decode b_La_add 3 = .ok (.aload_n 0, 1) := by decide +kernel
theorem d_La_add_4 : decode b_La_add 4 = .ok (.iload_n 1, 1) := by decide +kernel
theorem d_La_add_5 : decode b_La_add 5 = .ok (.iload_n 2, 1) := by decide +kernel
theorem d_La_add_6 : decode b_La_add 6 = .ok (.iload_n 3, 1) := by decide +kernel
theorem d_La_add_7 : decode b_La_add 7 = .ok (.iload 4, 2) := by decide +kernel
theorem d_La_add_9 : decode b_La_add 9 = .ok (.invokevirtual 7, 3) := by decide +kernel
theorem d_La_add_12 : decode b_La_add 12 = .ok (.i2l, 1) := by decide +kernel
theorem d_La_add_13 : decode b_La_add 13 = .ok (.lastore, 1) := by decide +kernel
theorem d_La_add_14 : decode b_La_add 14 = .ok (.goto 11, 3) := by decide +kernel
theorem d_La_add_17 : decode b_La_add 17 = .ok (.astore 6, 2) := by decide +kernel
theorem d_La_add_19 : decode b_La_add 19 = .ok (.iconst 1, 1) := by decide +kernel
theorem d_La_add_20 : decode b_La_add 20 = .ok (.ireturn, 1) := by decide +kernel
theorem d_La_add_21 : decode b_La_add 21 = .ok (.astore 6, 2) := by decide +kernel
theorem d_La_add_23 : decode b_La_add 23 = .ok (.iconst 2, 1) := by decide +kernel
theorem d_La_add_24 : decode b_La_add 24 = .ok (.ireturn, 1) := by decide +kernel
theorem d_La_add_25 : decode b_La_add 25 = .ok (.iconst 0, 1) := by decide +kernel
theorem d_La_add_26 : decode b_La_add 26 = .ok (.ireturn, 1) := by decide +kernel
theorem d_La_begins_0 : decode b_La_begins 0 = .ok (.aload_n 2, 1) := by decide +kernel
theorem d_La_begins_1 : decode b_La_begins 1 = .ok (.iconst 0, 1) := by decide +kernel
theorem d_La_begins_2 : decode b_La_begins 2 = .ok (.aload_n 0, 1) := by decide +kernel
theorem d_La_begins_3 : decode b_La_begins 3 = .ok (.iload_n 1, 1) := by decide +kernel
theorem d_La_begins_4 : decode b_La_begins 4 = .ok (.invokevirtual 23, 3) := by decide +kernel
theorem d_La_begins_7 : decode b_La_begins 7 = .ok (.i2l, 1) := by decide +kernel
theorem d_La_begins_8 : decode b_La_begins 8 = .ok (.lastore, 1) := by decide +kernel
theorem d_La_begins_9 : decode b_La_begins 9 = .ok (.goto 6, 3) := by decide +kernel
theorem d_La_begins_12 : decode b_La_begins 12 = .ok (.astore_n 3, 1) := by decide +kernel
theorem d_La_begins_13 : decode b_La_begins 13 = .ok (.iconst 1, 1) := by decide +kernel
theorem d_La_begins_14 : decode b_La_begins 14 = .ok (.ireturn, 1) := by decide +kernel
theorem d_La_begins_15 : decode b_La_begins 15 = .ok (.iconst 0, 1) := by decide +kernel
theorem d_La_begins_16 : decode b_La_begins 16 = .ok (.ireturn, 1) := by decide +kernel
theorem d_La_cell_0 : decode b_La_cell 0 = .ok (.aload_n 3, 1) := by decide +kernel
theorem d_La_cell_1 : decode b_La_cell 1 = .ok (.iconst 0, 1) := by decide +kernel
theorem d_La_cell_2 : decode b_La_cell 2 = .ok (.aload_n 0, 1) := by decide +kernel
theorem d_La_cell_3 : decode b_La_cell 3 = .ok (.iload_n 1, 1) := by decide +kernel
theorem d_La_cell_4 : decode b_La_cell 4 = .ok (.iload_n 2, 1) := by decide +kernel
theorem d_La_cell_5 : decode b_La_cell 5 = .ok (.invokevirtual 37, 3) := by decide +kernel
theorem d_La_cell_8 : decode b_La_cell 8 = .ok (.i2l, 1) := by decide +kernel
theorem d_La_cell_9 : decode b_La_cell 9 = .ok (.lastore, 1) := by decide +kernel
theorem d_La_cell_10 : decode b_La_cell 10 = .ok (.goto 7, 3) := by decide +kernel
theorem d_La_cell_13 : decode b_La_cell 13 = .ok (.astore 4, 2) := by decide +kernel
theorem d_La_cell_15 : decode b_La_cell 15 = .ok (.iconst 1, 1) := by decide +kernel
theorem d_La_cell_16 : decode b_La_cell 16 = .ok (.ireturn, 1) := by decide +kernel
theorem d_La_cell_17 : decode b_La_cell 17 = .ok (.iconst 0, 1) := by decide +kernel
theorem d_La_cell_18 : decode b_La_cell 18 = .ok (.ireturn, 1) := by decide +kernel
theorem d_La_code_0 : decode b_La_code 0 = .ok (.aload_n 3, 1) := by decide +kernel
theorem d_La_code_1 : decode b_La_code 1 = .ok (.iconst 0, 1) := by decide +kernel
theorem d_La_code_2 : decode b_La_code 2 = .ok (.aload_n 0, 1) := by decide +kernel
theorem d_La_code_3 : decode b_La_code 3 = .ok (.iload_n 1, 1) := by decide +kernel
theorem d_La_code_4 : decode b_La_code 4 = .ok (.iload_n 2, 1) := by decide +kernel
theorem d_La_code_5 : decode b_La_code 5 = .ok (.invokevirtual 17, 3) := by decide +kernel
theorem d_La_code_8 : decode b_La_code 8 = .ok (.i2l, 1) := by decide +kernel
theorem d_La_code_9 : decode b_La_code 9 = .ok (.lastore, 1) := by decide +kernel
theorem d_La_code_10 : decode b_La_code 10 = .ok (.goto 11, 3) := by decide +kernel
theorem d_La_code_13 : decode b_La_code 13 = .ok (.astore 4, 2) := by decide +kernel
theorem d_La_code_15 : decode b_La_code 15 = .ok (.iconst 1, 1) := by decide +kernel
theorem d_La_code_16 : decode b_La_code 16 = .ok (.ireturn, 1) := by decide +kernel
theorem d_La_code_17 : decode b_La_code 17 = .ok (.astore 4, 2) := by decide +kernel
theorem d_La_code_19 : decode b_La_code 19 = .ok (.iconst 2, 1) := by decide +kernel
theorem d_La_code_20 : decode b_La_code 20 = .ok (.ireturn, 1) := by decide +kernel
theorem d_La_code_21 : decode b_La_code 21 = .ok (.iconst 0, 1) := by decide +kernel
theorem d_La_code_22 : decode b_La_code 22 = .ok (.ireturn, 1) := by decide +kernel
theorem d_La_data_0 : decode b_La_data 0 = .ok (.aload_n 0, 1) := by decide +kernel
theorem d_La_data_1 : decode b_La_data 1 = .ok (.iload_n 1, 1) := by decide +kernel
theorem d_La_data_2 : decode b_La_data 2 = .ok (.iload_n 2, 1) := by decide +kernel
theorem d_La_data_3 : decode b_La_data 3 = .ok (.invokevirtual 31, 3) := by decide +kernel
theorem d_La_data_6 : decode b_La_data 6 = .ok (.goto 6, 3) := by decide +kernel
theorem d_La_data_9 : decode b_La_data 9 = .ok (.astore_n 3, 1) := by decide +kernel
theorem d_La_data_10 : decode b_La_data 10 = .ok (.iconst 1, 1) := by decide +kernel
theorem d_La_data_11 : decode b_La_data 11 = .ok (.ireturn, 1) := by decide +kernel
theorem d_La_data_12 : decode b_La_data 12 = .ok (.iconst 0, 1) := by decide +kernel
theorem d_La_data_13 : decode b_La_data 13 = .ok (.ireturn, 1) := by decide +kernel
theorem d_La_law_0 : decode b_La_law 0 = .ok (.new 8, 3) := by decide +kernel
theorem d_La_law_3 : decode b_La_law 3 = .ok (.dup, 1) := by decide +kernel
theorem d_La_law_4 : decode b_La_law 4 = .ok (.invokespecial 44, 3) := by decide +kernel
theorem d_La_law_7 : decode b_La_law 7 = .ok (.astore_n 1, 1) := by decide +kernel
theorem d_La_law_8 : decode b_La_law 8 = .ok (.new 45, 3) := by decide +kernel
theorem d_La_law_11 : decode b_La_law 11 = .ok (.dup, 1) := by decide +kernel
theorem d_La_law_12 : decode b_La_law 12 = .ok (.invokespecial 47, 3) := by decide +kernel
theorem d_La_law_15 : decode b_La_law 15 = .ok (.astore_n 2, 1) := by decide +kernel
theorem d_La_law_16 : decode b_La_law 16 = .ok (.iconst 1, 1) := by decide +kernel
theorem d_La_law_17 : decode b_La_law 17 = .ok (.newarray .long, 2) := by decide +kernel
theorem d_La_law_19 : decode b_La_law 19 = .ok (.astore_n 3, 1) := by decide +kernel
theorem d_La_law_20 : decode b_La_law 20 = .ok (.iconst 0, 1) := by decide +kernel
theorem d_La_law_21 : decode b_La_law 21 = .ok (.istore 4, 2) := by decide +kernel
theorem d_La_law_23 : decode b_La_law 23 = .ok (.iload 4, 2) := by decide +kernel
theorem d_La_law_25 : decode b_La_law 25 = .ok (.aload_n 0, 1) := by decide +kernel
theorem d_La_law_26 : decode b_La_law 26 = .ok (.arraylength, 1) := by decide +kernel
theorem d_La_law_27 : decode b_La_law 27 = .ok (.iconst 5, 1) := by decide +kernel
theorem d_La_law_28 : decode b_La_law 28 = .ok (.isub, 1) := by decide +kernel
theorem d_La_law_29 : decode b_La_law 29 = .ok (.if_icmp .gt 681, 3) := by decide +kernel
theorem d_La_law_32 : decode b_La_law 32 = .ok (.aload_n 0, 1) := by decide +kernel
theorem d_La_law_33 : decode b_La_law 33 = .ok (.iload 4, 2) := by decide +kernel
theorem d_La_law_35 : decode b_La_law 35 = .ok (.iaload, 1) := by decide +kernel
theorem d_La_law_36 : decode b_La_law 36 = .ok (.bipush 15, 2) := by decide +kernel
theorem d_La_law_38 : decode b_La_law 38 = .ok (.iand, 1) := by decide +kernel
theorem d_La_law_39 : decode b_La_law 39 = .ok (.tableswitch 665 0 11 #[61, 153, 166, 179, 192, 260, 316, 364, 412, 480, 517, 585], 61) := by decide +kernel
theorem d_La_law_100 : decode b_La_law 100 = .ok (.aload_n 1, 1) := by decide +kernel
theorem d_La_law_101 : decode b_La_law 101 = .ok (.aload_n 0, 1) := by decide +kernel
theorem d_La_law_102 : decode b_La_law 102 = .ok (.iload 4, 2) := by decide +kernel
theorem d_La_law_104 : decode b_La_law 104 = .ok (.iconst 1, 1) := by decide +kernel
theorem d_La_law_105 : decode b_La_law 105 = .ok (.iadd, 1) := by decide +kernel
theorem d_La_law_106 : decode b_La_law 106 = .ok (.iaload, 1) := by decide +kernel
theorem d_La_law_107 : decode b_La_law 107 = .ok (.aload_n 0, 1) := by decide +kernel
theorem d_La_law_108 : decode b_La_law 108 = .ok (.iload 4, 2) := by decide +kernel
theorem d_La_law_110 : decode b_La_law 110 = .ok (.iconst 2, 1) := by decide +kernel
theorem d_La_law_111 : decode b_La_law 111 = .ok (.iadd, 1) := by decide +kernel
theorem d_La_law_112 : decode b_La_law 112 = .ok (.iaload, 1) := by decide +kernel
theorem d_La_law_113 : decode b_La_law 113 = .ok (.aload_n 0, 1) := by decide +kernel
theorem d_La_law_114 : decode b_La_law 114 = .ok (.iload 4, 2) := by decide +kernel
theorem d_La_law_116 : decode b_La_law 116 = .ok (.iconst 3, 1) := by decide +kernel
theorem d_La_law_117 : decode b_La_law 117 = .ok (.iadd, 1) := by decide +kernel
theorem d_La_law_118 : decode b_La_law 118 = .ok (.iaload, 1) := by decide +kernel
theorem d_La_law_119 : decode b_La_law 119 = .ok (.aload_n 0, 1) := by decide +kernel
theorem d_La_law_120 : decode b_La_law 120 = .ok (.iload 4, 2) := by decide +kernel
theorem d_La_law_122 : decode b_La_law 122 = .ok (.iconst 4, 1) := by decide +kernel
theorem d_La_law_123 : decode b_La_law 123 = .ok (.iadd, 1) := by decide +kernel
theorem d_La_law_124 : decode b_La_law 124 = .ok (.iaload, 1) := by decide +kernel
theorem d_La_law_125 : decode b_La_law 125 = .ok (.aload_n 3, 1) := by decide +kernel
theorem d_La_law_126 : decode b_La_law 126 = .ok (.invokestatic 48, 3) := by decide +kernel
theorem d_La_law_129 : decode b_La_law 129 = .ok (.istore 5, 2) := by decide +kernel
theorem d_La_law_131 : decode b_La_law 131 = .ok (.aload_n 2, 1) := by decide +kernel
theorem d_La_law_132 : decode b_La_law 132 = .ok (.aload_n 0, 1) := by decide +kernel
theorem d_La_law_133 : decode b_La_law 133 = .ok (.iload 4, 2) := by decide +kernel
theorem d_La_law_135 : decode b_La_law 135 = .ok (.iconst 1, 1) := by decide +kernel
theorem d_La_law_136 : decode b_La_law 136 = .ok (.iadd, 1) := by decide +kernel
theorem d_La_law_137 : decode b_La_law 137 = .ok (.iaload, 1) := by decide +kernel
theorem d_La_law_138 : decode b_La_law 138 = .ok (.aload_n 0, 1) := by decide +kernel
theorem d_La_law_139 : decode b_La_law 139 = .ok (.iload 4, 2) := by decide +kernel
theorem d_La_law_141 : decode b_La_law 141 = .ok (.iconst 2, 1) := by decide +kernel
theorem d_La_law_142 : decode b_La_law 142 = .ok (.iadd, 1) := by decide +kernel
theorem d_La_law_143 : decode b_La_law 143 = .ok (.iaload, 1) := by decide +kernel
theorem d_La_law_144 : decode b_La_law 144 = .ok (.aload_n 0, 1) := by decide +kernel
theorem d_La_law_145 : decode b_La_law 145 = .ok (.iload 4, 2) := by decide +kernel
theorem d_La_law_147 : decode b_La_law 147 = .ok (.iconst 3, 1) := by decide +kernel
theorem d_La_law_148 : decode b_La_law 148 = .ok (.iadd, 1) := by decide +kernel
theorem d_La_law_149 : decode b_La_law 149 = .ok (.iaload, 1) := by decide +kernel
theorem d_La_law_150 : decode b_La_law 150 = .ok (.aload_n 0, 1) := by decide +kernel
theorem d_La_law_151 : decode b_La_law 151 = .ok (.iload 4, 2) := by decide +kernel
theorem d_La_law_153 : decode b_La_law 153 = .ok (.iconst 4, 1) := by decide +kernel
theorem d_La_law_154 : decode b_La_law 154 = .ok (.iadd, 1) := by decide +kernel
theorem d_La_law_155 : decode b_La_law 155 = .ok (.iaload, 1) := by decide +kernel
theorem d_La_law_156 : decode b_La_law 156 = .ok (.invokevirtual 53, 3) := by decide +kernel
theorem d_La_law_159 : decode b_La_law 159 = .ok (.istore 6, 2) := by decide +kernel
theorem d_La_law_161 : decode b_La_law 161 = .ok (.aload_n 2, 1) := by decide +kernel
theorem d_La_law_162 : decode b_La_law 162 = .ok (.invokevirtual 54, 3) := by decide +kernel
theorem d_La_law_165 : decode b_La_law 165 = .ok (.iload 5, 2) := by decide +kernel
theorem d_La_law_167 : decode b_La_law 167 = .ok (.if_icmp .eq 5, 3) := by decide +kernel
theorem d_La_law_170 : decode b_La_law 170 = .ok (.iconst 0, 1) := by decide +kernel
theorem d_La_law_171 : decode b_La_law 171 = .ok (.ireturn, 1) := by decide +kernel
theorem d_La_law_172 : decode b_La_law 172 = .ok (.iload 5, 2) := by decide +kernel
theorem d_La_law_174 : decode b_La_law 174 = .ok (.ifCond .ne 15, 3) := by decide +kernel
theorem d_La_law_177 : decode b_La_law 177 = .ok (.aload_n 3, 1) := by decide +kernel
theorem d_La_law_178 : decode b_La_law 178 = .ok (.iconst 0, 1) := by decide +kernel
theorem d_La_law_179 : decode b_La_law 179 = .ok (.laload, 1) := by decide +kernel
theorem d_La_law_180 : decode b_La_law 180 = .ok (.iload 6, 2) := by decide +kernel
theorem d_La_law_182 : decode b_La_law 182 = .ok (.i2l, 1) := by decide +kernel
theorem d_La_law_183 : decode b_La_law 183 = .ok (.lcmp, 1) := by decide +kernel
theorem d_La_law_184 : decode b_La_law 184 = .ok (.ifCond .eq 5, 3) := by decide +kernel
theorem d_La_law_187 : decode b_La_law 187 = .ok (.iconst 0, 1) := by decide +kernel
theorem d_La_law_188 : decode b_La_law 188 = .ok (.ireturn, 1) := by decide +kernel
theorem d_La_law_189 : decode b_La_law 189 = .ok (.goto 515, 3) := by decide +kernel
theorem d_La_law_192 : decode b_La_law 192 = .ok (.aload_n 1, 1) := by decide +kernel
theorem d_La_law_193 : decode b_La_law 193 = .ok (.invokevirtual 58, 3) := by decide +kernel
theorem d_La_law_196 : decode b_La_law 196 = .ok (.aload_n 2, 1) := by decide +kernel
theorem d_La_law_197 : decode b_La_law 197 = .ok (.invokevirtual 61, 3) := by decide +kernel
theorem d_La_law_200 : decode b_La_law 200 = .ok (.if_icmp .eq 504, 3) := by decide +kernel
theorem d_La_law_203 : decode b_La_law 203 = .ok (.iconst 0, 1) := by decide +kernel
theorem d_La_law_204 : decode b_La_law 204 = .ok (.ireturn, 1) := by decide +kernel
theorem d_La_law_205 : decode b_La_law 205 = .ok (.aload_n 1, 1) := by decide +kernel
theorem d_La_law_206 : decode b_La_law 206 = .ok (.invokevirtual 62, 3) := by decide +kernel
theorem d_La_law_209 : decode b_La_law 209 = .ok (.aload_n 2, 1) := by decide +kernel
theorem d_La_law_210 : decode b_La_law 210 = .ok (.invokevirtual 65, 3) := by decide +kernel
theorem d_La_law_213 : decode b_La_law 213 = .ok (.if_icmp .eq 491, 3) := by decide +kernel
theorem d_La_law_216 : decode b_La_law 216 = .ok (.iconst 0, 1) := by decide +kernel
theorem d_La_law_217 : decode b_La_law 217 = .ok (.ireturn, 1) := by decide +kernel
theorem d_La_law_218 : decode b_La_law 218 = .ok (.aload_n 1, 1) := by decide +kernel
theorem d_La_law_219 : decode b_La_law 219 = .ok (.invokevirtual 66, 3) := by decide +kernel
theorem d_La_law_222 : decode b_La_law 222 = .ok (.aload_n 2, 1) := by decide +kernel
theorem d_La_law_223 : decode b_La_law 223 = .ok (.invokevirtual 69, 3) := by decide +kernel
theorem d_La_law_226 : decode b_La_law 226 = .ok (.if_icmp .eq 478, 3) := by decide +kernel
theorem d_La_law_229 : decode b_La_law 229 = .ok (.iconst 0, 1) := by decide +kernel
theorem d_La_law_230 : decode b_La_law 230 = .ok (.ireturn, 1) := by decide +kernel
theorem d_La_law_231 : decode b_La_law 231 = .ok (.aload_n 1, 1) := by decide +kernel
theorem d_La_law_232 : decode b_La_law 232 = .ok (.aload_n 0, 1) := by decide +kernel
theorem d_La_law_233 : decode b_La_law 233 = .ok (.iload 4, 2) := by decide +kernel
theorem d_La_law_235 : decode b_La_law 235 = .ok (.iconst 1, 1) := by decide +kernel
theorem d_La_law_236 : decode b_La_law 236 = .ok (.iadd, 1) := by decide +kernel
theorem d_La_law_237 : decode b_La_law 237 = .ok (.iaload, 1) := by decide +kernel
theorem d_La_law_238 : decode b_La_law 238 = .ok (.aload_n 0, 1) := by decide +kernel
theorem d_La_law_239 : decode b_La_law 239 = .ok (.iload 4, 2) := by decide +kernel
theorem d_La_law_241 : decode b_La_law 241 = .ok (.iconst 2, 1) := by decide +kernel
theorem d_La_law_242 : decode b_La_law 242 = .ok (.iadd, 1) := by decide +kernel
theorem d_La_law_243 : decode b_La_law 243 = .ok (.iaload, 1) := by decide +kernel
theorem d_La_law_244 : decode b_La_law 244 = .ok (.aload_n 3, 1) := by decide +kernel
theorem d_La_law_245 : decode b_La_law 245 = .ok (.invokestatic 70, 3) := by decide +kernel
theorem d_La_law_248 : decode b_La_law 248 = .ok (.istore 5, 2) := by decide +kernel
theorem d_La_law_250 : decode b_La_law 250 = .ok (.aload_n 2, 1) := by decide +kernel
theorem d_La_law_251 : decode b_La_law 251 = .ok (.aload_n 0, 1) := by decide +kernel
theorem d_La_law_252 : decode b_La_law 252 = .ok (.iload 4, 2) := by decide +kernel
theorem d_La_law_254 : decode b_La_law 254 = .ok (.iconst 1, 1) := by decide +kernel
theorem d_La_law_255 : decode b_La_law 255 = .ok (.iadd, 1) := by decide +kernel
theorem d_La_law_256 : decode b_La_law 256 = .ok (.iaload, 1) := by decide +kernel
theorem d_La_law_257 : decode b_La_law 257 = .ok (.aload_n 0, 1) := by decide +kernel
theorem d_La_law_258 : decode b_La_law 258 = .ok (.iload 4, 2) := by decide +kernel
theorem d_La_law_260 : decode b_La_law 260 = .ok (.iconst 2, 1) := by decide +kernel
theorem d_La_law_261 : decode b_La_law 261 = .ok (.iadd, 1) := by decide +kernel
theorem d_La_law_262 : decode b_La_law 262 = .ok (.iaload, 1) := by decide +kernel
theorem d_La_law_263 : decode b_La_law 263 = .ok (.invokevirtual 73, 3) := by decide +kernel
theorem d_La_law_266 : decode b_La_law 266 = .ok (.istore 6, 2) := by decide +kernel
theorem d_La_law_268 : decode b_La_law 268 = .ok (.aload_n 2, 1) := by decide +kernel
theorem d_La_law_269 : decode b_La_law 269 = .ok (.invokevirtual 54, 3) := by decide +kernel
theorem d_La_law_272 : decode b_La_law 272 = .ok (.iload 5, 2) := by decide +kernel
theorem d_La_law_274 : decode b_La_law 274 = .ok (.if_icmp .eq 5, 3) := by decide +kernel
theorem d_La_law_277 : decode b_La_law 277 = .ok (.iconst 0, 1) := by decide +kernel
theorem d_La_law_278 : decode b_La_law 278 = .ok (.ireturn, 1) := by decide +kernel
theorem d_La_law_279 : decode b_La_law 279 = .ok (.iload 5, 2) := by decide +kernel
theorem d_La_law_281 : decode b_La_law 281 = .ok (.ifCond .ne 15, 3) := by decide +kernel
theorem d_La_law_284 : decode b_La_law 284 = .ok (.aload_n 3, 1) := by decide +kernel
theorem d_La_law_285 : decode b_La_law 285 = .ok (.iconst 0, 1) := by decide +kernel
theorem d_La_law_286 : decode b_La_law 286 = .ok (.laload, 1) := by decide +kernel
theorem d_La_law_287 : decode b_La_law 287 = .ok (.iload 6, 2) := by decide +kernel
theorem d_La_law_289 : decode b_La_law 289 = .ok (.i2l, 1) := by decide +kernel
theorem d_La_law_290 : decode b_La_law 290 = .ok (.lcmp, 1) := by decide +kernel
theorem d_La_law_291 : decode b_La_law 291 = .ok (.ifCond .eq 5, 3) := by decide +kernel
theorem d_La_law_294 : decode b_La_law 294 = .ok (.iconst 0, 1) := by decide +kernel
theorem d_La_law_295 : decode b_La_law 295 = .ok (.ireturn, 1) := by decide +kernel
theorem d_La_law_296 : decode b_La_law 296 = .ok (.goto 408, 3) := by decide +kernel
theorem d_La_law_299 : decode b_La_law 299 = .ok (.aload_n 1, 1) := by decide +kernel
theorem d_La_law_300 : decode b_La_law 300 = .ok (.aload_n 0, 1) := by decide +kernel
theorem d_La_law_301 : decode b_La_law 301 = .ok (.iload 4, 2) := by decide +kernel
theorem d_La_law_303 : decode b_La_law 303 = .ok (.iconst 1, 1) := by decide +kernel
theorem d_La_law_304 : decode b_La_law 304 = .ok (.iadd, 1) := by decide +kernel
theorem d_La_law_305 : decode b_La_law 305 = .ok (.iaload, 1) := by decide +kernel
theorem d_La_law_306 : decode b_La_law 306 = .ok (.aload_n 3, 1) := by decide +kernel
theorem d_La_law_307 : decode b_La_law 307 = .ok (.invokestatic 74, 3) := by decide +kernel
theorem d_La_law_310 : decode b_La_law 310 = .ok (.istore 5, 2) := by decide +kernel
theorem d_La_law_312 : decode b_La_law 312 = .ok (.aload_n 2, 1) := by decide +kernel
theorem d_La_law_313 : decode b_La_law 313 = .ok (.aload_n 0, 1) := by decide +kernel
theorem d_La_law_314 : decode b_La_law 314 = .ok (.iload 4, 2) := by decide +kernel
theorem d_La_law_316 : decode b_La_law 316 = .ok (.iconst 1, 1) := by decide +kernel
theorem d_La_law_317 : decode b_La_law 317 = .ok (.iadd, 1) := by decide +kernel
theorem d_La_law_318 : decode b_La_law 318 = .ok (.iaload, 1) := by decide +kernel
theorem d_La_law_319 : decode b_La_law 319 = .ok (.invokevirtual 77, 3) := by decide +kernel
theorem d_La_law_322 : decode b_La_law 322 = .ok (.istore 6, 2) := by decide +kernel
theorem d_La_law_324 : decode b_La_law 324 = .ok (.aload_n 2, 1) := by decide +kernel
theorem d_La_law_325 : decode b_La_law 325 = .ok (.invokevirtual 54, 3) := by decide +kernel
theorem d_La_law_328 : decode b_La_law 328 = .ok (.iload 5, 2) := by decide +kernel
theorem d_La_law_330 : decode b_La_law 330 = .ok (.if_icmp .eq 5, 3) := by decide +kernel
theorem d_La_law_333 : decode b_La_law 333 = .ok (.iconst 0, 1) := by decide +kernel
theorem d_La_law_334 : decode b_La_law 334 = .ok (.ireturn, 1) := by decide +kernel
theorem d_La_law_335 : decode b_La_law 335 = .ok (.iload 5, 2) := by decide +kernel
theorem d_La_law_337 : decode b_La_law 337 = .ok (.ifCond .ne 15, 3) := by decide +kernel
theorem d_La_law_340 : decode b_La_law 340 = .ok (.aload_n 3, 1) := by decide +kernel
theorem d_La_law_341 : decode b_La_law 341 = .ok (.iconst 0, 1) := by decide +kernel
theorem d_La_law_342 : decode b_La_law 342 = .ok (.laload, 1) := by decide +kernel
theorem d_La_law_343 : decode b_La_law 343 = .ok (.iload 6, 2) := by decide +kernel
theorem d_La_law_345 : decode b_La_law 345 = .ok (.i2l, 1) := by decide +kernel
theorem d_La_law_346 : decode b_La_law 346 = .ok (.lcmp, 1) := by decide +kernel
theorem d_La_law_347 : decode b_La_law 347 = .ok (.ifCond .eq 5, 3) := by decide +kernel
theorem d_La_law_350 : decode b_La_law 350 = .ok (.iconst 0, 1) := by decide +kernel
theorem d_La_law_351 : decode b_La_law 351 = .ok (.ireturn, 1) := by decide +kernel
theorem d_La_law_352 : decode b_La_law 352 = .ok (.goto 352, 3) := by decide +kernel
theorem d_La_law_355 : decode b_La_law 355 = .ok (.aload_n 1, 1) := by decide +kernel
theorem d_La_law_356 : decode b_La_law 356 = .ok (.aload_n 0, 1) := by decide +kernel
theorem d_La_law_357 : decode b_La_law 357 = .ok (.iload 4, 2) := by decide +kernel
theorem d_La_law_359 : decode b_La_law 359 = .ok (.iconst 1, 1) := by decide +kernel
theorem d_La_law_360 : decode b_La_law 360 = .ok (.iadd, 1) := by decide +kernel
theorem d_La_law_361 : decode b_La_law 361 = .ok (.iaload, 1) := by decide +kernel
theorem d_La_law_362 : decode b_La_law 362 = .ok (.aload_n 0, 1) := by decide +kernel
theorem d_La_law_363 : decode b_La_law 363 = .ok (.iload 4, 2) := by decide +kernel
theorem d_La_law_365 : decode b_La_law 365 = .ok (.iconst 2, 1) := by decide +kernel
theorem d_La_law_366 : decode b_La_law 366 = .ok (.iadd, 1) := by decide +kernel
theorem d_La_law_367 : decode b_La_law 367 = .ok (.iaload, 1) := by decide +kernel
theorem d_La_law_368 : decode b_La_law 368 = .ok (.invokestatic 78, 3) := by decide +kernel
theorem d_La_law_371 : decode b_La_law 371 = .ok (.istore 5, 2) := by decide +kernel
theorem d_La_law_373 : decode b_La_law 373 = .ok (.aload_n 2, 1) := by decide +kernel
theorem d_La_law_374 : decode b_La_law 374 = .ok (.aload_n 0, 1) := by decide +kernel
theorem d_La_law_375 : decode b_La_law 375 = .ok (.iload 4, 2) := by decide +kernel
theorem d_La_law_377 : decode b_La_law 377 = .ok (.iconst 1, 1) := by decide +kernel
theorem d_La_law_378 : decode b_La_law 378 = .ok (.iadd, 1) := by decide +kernel
theorem d_La_law_379 : decode b_La_law 379 = .ok (.iaload, 1) := by decide +kernel
theorem d_La_law_380 : decode b_La_law 380 = .ok (.aload_n 0, 1) := by decide +kernel
theorem d_La_law_381 : decode b_La_law 381 = .ok (.iload 4, 2) := by decide +kernel
theorem d_La_law_383 : decode b_La_law 383 = .ok (.iconst 2, 1) := by decide +kernel
theorem d_La_law_384 : decode b_La_law 384 = .ok (.iadd, 1) := by decide +kernel
theorem d_La_law_385 : decode b_La_law 385 = .ok (.iaload, 1) := by decide +kernel
theorem d_La_law_386 : decode b_La_law 386 = .ok (.invokevirtual 81, 3) := by decide +kernel
theorem d_La_law_389 : decode b_La_law 389 = .ok (.aload_n 2, 1) := by decide +kernel
theorem d_La_law_390 : decode b_La_law 390 = .ok (.invokevirtual 54, 3) := by decide +kernel
theorem d_La_law_393 : decode b_La_law 393 = .ok (.iload 5, 2) := by decide +kernel
theorem d_La_law_395 : decode b_La_law 395 = .ok (.if_icmp .eq 5, 3) := by decide +kernel
theorem d_La_law_398 : decode b_La_law 398 = .ok (.iconst 0, 1) := by decide +kernel
theorem d_La_law_399 : decode b_La_law 399 = .ok (.ireturn, 1) := by decide +kernel
theorem d_La_law_400 : decode b_La_law 400 = .ok (.goto 304, 3) := by decide +kernel
theorem d_La_law_403 : decode b_La_law 403 = .ok (.aload_n 1, 1) := by decide +kernel
theorem d_La_law_404 : decode b_La_law 404 = .ok (.aload_n 0, 1) := by decide +kernel
theorem d_La_law_405 : decode b_La_law 405 = .ok (.iload 4, 2) := by decide +kernel
theorem d_La_law_407 : decode b_La_law 407 = .ok (.iconst 1, 1) := by decide +kernel
theorem d_La_law_408 : decode b_La_law 408 = .ok (.iadd, 1) := by decide +kernel
theorem d_La_law_409 : decode b_La_law 409 = .ok (.iaload, 1) := by decide +kernel
theorem d_La_law_410 : decode b_La_law 410 = .ok (.aload_n 0, 1) := by decide +kernel
theorem d_La_law_411 : decode b_La_law 411 = .ok (.iload 4, 2) := by decide +kernel
theorem d_La_law_413 : decode b_La_law 413 = .ok (.iconst 2, 1) := by decide +kernel
theorem d_La_law_414 : decode b_La_law 414 = .ok (.iadd, 1) := by decide +kernel
theorem d_La_law_415 : decode b_La_law 415 = .ok (.iaload, 1) := by decide +kernel
theorem d_La_law_416 : decode b_La_law 416 = .ok (.invokestatic 82, 3) := by decide +kernel
theorem d_La_law_419 : decode b_La_law 419 = .ok (.istore 5, 2) := by decide +kernel
theorem d_La_law_421 : decode b_La_law 421 = .ok (.aload_n 2, 1) := by decide +kernel
theorem d_La_law_422 : decode b_La_law 422 = .ok (.aload_n 0, 1) := by decide +kernel
theorem d_La_law_423 : decode b_La_law 423 = .ok (.iload 4, 2) := by decide +kernel
theorem d_La_law_425 : decode b_La_law 425 = .ok (.iconst 1, 1) := by decide +kernel
theorem d_La_law_426 : decode b_La_law 426 = .ok (.iadd, 1) := by decide +kernel
theorem d_La_law_427 : decode b_La_law 427 = .ok (.iaload, 1) := by decide +kernel
theorem d_La_law_428 : decode b_La_law 428 = .ok (.aload_n 0, 1) := by decide +kernel
theorem d_La_law_429 : decode b_La_law 429 = .ok (.iload 4, 2) := by decide +kernel
theorem d_La_law_431 : decode b_La_law 431 = .ok (.iconst 2, 1) := by decide +kernel
theorem d_La_law_432 : decode b_La_law 432 = .ok (.iadd, 1) := by decide +kernel
theorem d_La_law_433 : decode b_La_law 433 = .ok (.iaload, 1) := by decide +kernel
theorem d_La_law_434 : decode b_La_law 434 = .ok (.invokevirtual 84, 3) := by decide +kernel
theorem d_La_law_437 : decode b_La_law 437 = .ok (.aload_n 2, 1) := by decide +kernel
theorem d_La_law_438 : decode b_La_law 438 = .ok (.invokevirtual 54, 3) := by decide +kernel
theorem d_La_law_441 : decode b_La_law 441 = .ok (.iload 5, 2) := by decide +kernel
theorem d_La_law_443 : decode b_La_law 443 = .ok (.if_icmp .eq 5, 3) := by decide +kernel
theorem d_La_law_446 : decode b_La_law 446 = .ok (.iconst 0, 1) := by decide +kernel
theorem d_La_law_447 : decode b_La_law 447 = .ok (.ireturn, 1) := by decide +kernel
theorem d_La_law_448 : decode b_La_law 448 = .ok (.goto 256, 3) := by decide +kernel
theorem d_La_law_451 : decode b_La_law 451 = .ok (.aload_n 1, 1) := by decide +kernel
theorem d_La_law_452 : decode b_La_law 452 = .ok (.aload_n 0, 1) := by decide +kernel
theorem d_La_law_453 : decode b_La_law 453 = .ok (.iload 4, 2) := by decide +kernel
theorem d_La_law_455 : decode b_La_law 455 = .ok (.iconst 1, 1) := by decide +kernel
theorem d_La_law_456 : decode b_La_law 456 = .ok (.iadd, 1) := by decide +kernel
theorem d_La_law_457 : decode b_La_law 457 = .ok (.iaload, 1) := by decide +kernel
theorem d_La_law_458 : decode b_La_law 458 = .ok (.aload_n 0, 1) := by decide +kernel
theorem d_La_law_459 : decode b_La_law 459 = .ok (.iload 4, 2) := by decide +kernel
theorem d_La_law_461 : decode b_La_law 461 = .ok (.iconst 2, 1) := by decide +kernel
theorem d_La_law_462 : decode b_La_law 462 = .ok (.iadd, 1) := by decide +kernel
theorem d_La_law_463 : decode b_La_law 463 = .ok (.iaload, 1) := by decide +kernel
theorem d_La_law_464 : decode b_La_law 464 = .ok (.aload_n 3, 1) := by decide +kernel
theorem d_La_law_465 : decode b_La_law 465 = .ok (.invokestatic 85, 3) := by decide +kernel
theorem d_La_law_468 : decode b_La_law 468 = .ok (.istore 5, 2) := by decide +kernel
theorem d_La_law_470 : decode b_La_law 470 = .ok (.aload_n 2, 1) := by decide +kernel
theorem d_La_law_471 : decode b_La_law 471 = .ok (.aload_n 0, 1) := by decide +kernel
theorem d_La_law_472 : decode b_La_law 472 = .ok (.iload 4, 2) := by decide +kernel
theorem d_La_law_474 : decode b_La_law 474 = .ok (.iconst 1, 1) := by decide +kernel
theorem d_La_law_475 : decode b_La_law 475 = .ok (.iadd, 1) := by decide +kernel
theorem d_La_law_476 : decode b_La_law 476 = .ok (.iaload, 1) := by decide +kernel
theorem d_La_law_477 : decode b_La_law 477 = .ok (.aload_n 0, 1) := by decide +kernel
theorem d_La_law_478 : decode b_La_law 478 = .ok (.iload 4, 2) := by decide +kernel
theorem d_La_law_480 : decode b_La_law 480 = .ok (.iconst 2, 1) := by decide +kernel
theorem d_La_law_481 : decode b_La_law 481 = .ok (.iadd, 1) := by decide +kernel
theorem d_La_law_482 : decode b_La_law 482 = .ok (.iaload, 1) := by decide +kernel
theorem d_La_law_483 : decode b_La_law 483 = .ok (.invokevirtual 87, 3) := by decide +kernel
theorem d_La_law_486 : decode b_La_law 486 = .ok (.istore 6, 2) := by decide +kernel
theorem d_La_law_488 : decode b_La_law 488 = .ok (.aload_n 2, 1) := by decide +kernel
theorem d_La_law_489 : decode b_La_law 489 = .ok (.invokevirtual 54, 3) := by decide +kernel
theorem d_La_law_492 : decode b_La_law 492 = .ok (.iload 5, 2) := by decide +kernel
theorem d_La_law_494 : decode b_La_law 494 = .ok (.if_icmp .eq 5, 3) := by decide +kernel
theorem d_La_law_497 : decode b_La_law 497 = .ok (.iconst 0, 1) := by decide +kernel
theorem d_La_law_498 : decode b_La_law 498 = .ok (.ireturn, 1) := by decide +kernel
theorem d_La_law_499 : decode b_La_law 499 = .ok (.iload 5, 2) := by decide +kernel
theorem d_La_law_501 : decode b_La_law 501 = .ok (.ifCond .ne 15, 3) := by decide +kernel
theorem d_La_law_504 : decode b_La_law 504 = .ok (.aload_n 3, 1) := by decide +kernel
theorem d_La_law_505 : decode b_La_law 505 = .ok (.iconst 0, 1) := by decide +kernel
theorem d_La_law_506 : decode b_La_law 506 = .ok (.laload, 1) := by decide +kernel
theorem d_La_law_507 : decode b_La_law 507 = .ok (.iload 6, 2) := by decide +kernel
theorem d_La_law_509 : decode b_La_law 509 = .ok (.i2l, 1) := by decide +kernel
theorem d_La_law_510 : decode b_La_law 510 = .ok (.lcmp, 1) := by decide +kernel
theorem d_La_law_511 : decode b_La_law 511 = .ok (.ifCond .eq 5, 3) := by decide +kernel
theorem d_La_law_514 : decode b_La_law 514 = .ok (.iconst 0, 1) := by decide +kernel
theorem d_La_law_515 : decode b_La_law 515 = .ok (.ireturn, 1) := by decide +kernel
theorem d_La_law_516 : decode b_La_law 516 = .ok (.goto 188, 3) := by decide +kernel
theorem d_La_law_519 : decode b_La_law 519 = .ok (.aload_n 1, 1) := by decide +kernel
theorem d_La_law_520 : decode b_La_law 520 = .ok (.aload_n 0, 1) := by decide +kernel
theorem d_La_law_521 : decode b_La_law 521 = .ok (.iload 4, 2) := by decide +kernel
theorem d_La_law_523 : decode b_La_law 523 = .ok (.iconst 1, 1) := by decide +kernel
theorem d_La_law_524 : decode b_La_law 524 = .ok (.iadd, 1) := by decide +kernel
theorem d_La_law_525 : decode b_La_law 525 = .ok (.iaload, 1) := by decide +kernel
theorem d_La_law_526 : decode b_La_law 526 = .ok (.aload_n 0, 1) := by decide +kernel
theorem d_La_law_527 : decode b_La_law 527 = .ok (.iload 4, 2) := by decide +kernel
theorem d_La_law_529 : decode b_La_law 529 = .ok (.iconst 2, 1) := by decide +kernel
theorem d_La_law_530 : decode b_La_law 530 = .ok (.iadd, 1) := by decide +kernel
theorem d_La_law_531 : decode b_La_law 531 = .ok (.iaload, 1) := by decide +kernel
theorem d_La_law_532 : decode b_La_law 532 = .ok (.invokevirtual 88, 3) := by decide +kernel
theorem d_La_law_535 : decode b_La_law 535 = .ok (.aload_n 2, 1) := by decide +kernel
theorem d_La_law_536 : decode b_La_law 536 = .ok (.aload_n 0, 1) := by decide +kernel
theorem d_La_law_537 : decode b_La_law 537 = .ok (.iload 4, 2) := by decide +kernel
theorem d_La_law_539 : decode b_La_law 539 = .ok (.iconst 1, 1) := by decide +kernel
theorem d_La_law_540 : decode b_La_law 540 = .ok (.iadd, 1) := by decide +kernel
theorem d_La_law_541 : decode b_La_law 541 = .ok (.iaload, 1) := by decide +kernel
theorem d_La_law_542 : decode b_La_law 542 = .ok (.aload_n 0, 1) := by decide +kernel
theorem d_La_law_543 : decode b_La_law 543 = .ok (.iload 4, 2) := by decide +kernel
theorem d_La_law_545 : decode b_La_law 545 = .ok (.iconst 2, 1) := by decide +kernel
theorem d_La_law_546 : decode b_La_law 546 = .ok (.iadd, 1) := by decide +kernel
theorem d_La_law_547 : decode b_La_law 547 = .ok (.iaload, 1) := by decide +kernel
theorem d_La_law_548 : decode b_La_law 548 = .ok (.invokevirtual 91, 3) := by decide +kernel
theorem d_La_law_551 : decode b_La_law 551 = .ok (.if_icmp .eq 153, 3) := by decide +kernel
theorem d_La_law_554 : decode b_La_law 554 = .ok (.iconst 0, 1) := by decide +kernel
theorem d_La_law_555 : decode b_La_law 555 = .ok (.ireturn, 1) := by decide +kernel
theorem d_La_law_556 : decode b_La_law 556 = .ok (.aload_n 1, 1) := by decide +kernel
theorem d_La_law_557 : decode b_La_law 557 = .ok (.aload_n 0, 1) := by decide +kernel
theorem d_La_law_558 : decode b_La_law 558 = .ok (.iload 4, 2) := by decide +kernel
theorem d_La_law_560 : decode b_La_law 560 = .ok (.iconst 1, 1) := by decide +kernel
theorem d_La_law_561 : decode b_La_law 561 = .ok (.iadd, 1) := by decide +kernel
theorem d_La_law_562 : decode b_La_law 562 = .ok (.iaload, 1) := by decide +kernel
theorem d_La_law_563 : decode b_La_law 563 = .ok (.aload_n 0, 1) := by decide +kernel
theorem d_La_law_564 : decode b_La_law 564 = .ok (.iload 4, 2) := by decide +kernel
theorem d_La_law_566 : decode b_La_law 566 = .ok (.iconst 2, 1) := by decide +kernel
theorem d_La_law_567 : decode b_La_law 567 = .ok (.iadd, 1) := by decide +kernel
theorem d_La_law_568 : decode b_La_law 568 = .ok (.iaload, 1) := by decide +kernel
theorem d_La_law_569 : decode b_La_law 569 = .ok (.aload_n 3, 1) := by decide +kernel
theorem d_La_law_570 : decode b_La_law 570 = .ok (.invokestatic 92, 3) := by decide +kernel
theorem d_La_law_573 : decode b_La_law 573 = .ok (.istore 5, 2) := by decide +kernel
theorem d_La_law_575 : decode b_La_law 575 = .ok (.aload_n 2, 1) := by decide +kernel
theorem d_La_law_576 : decode b_La_law 576 = .ok (.aload_n 0, 1) := by decide +kernel
theorem d_La_law_577 : decode b_La_law 577 = .ok (.iload 4, 2) := by decide +kernel
theorem d_La_law_579 : decode b_La_law 579 = .ok (.iconst 1, 1) := by decide +kernel
theorem d_La_law_580 : decode b_La_law 580 = .ok (.iadd, 1) := by decide +kernel
theorem d_La_law_581 : decode b_La_law 581 = .ok (.iaload, 1) := by decide +kernel
theorem d_La_law_582 : decode b_La_law 582 = .ok (.aload_n 0, 1) := by decide +kernel
theorem d_La_law_583 : decode b_La_law 583 = .ok (.iload 4, 2) := by decide +kernel
theorem d_La_law_585 : decode b_La_law 585 = .ok (.iconst 2, 1) := by decide +kernel
theorem d_La_law_586 : decode b_La_law 586 = .ok (.iadd, 1) := by decide +kernel
theorem d_La_law_587 : decode b_La_law 587 = .ok (.iaload, 1) := by decide +kernel
theorem d_La_law_588 : decode b_La_law 588 = .ok (.invokevirtual 94, 3) := by decide +kernel
theorem d_La_law_591 : decode b_La_law 591 = .ok (.istore 6, 2) := by decide +kernel
theorem d_La_law_593 : decode b_La_law 593 = .ok (.aload_n 2, 1) := by decide +kernel
theorem d_La_law_594 : decode b_La_law 594 = .ok (.invokevirtual 54, 3) := by decide +kernel
theorem d_La_law_597 : decode b_La_law 597 = .ok (.iload 5, 2) := by decide +kernel
theorem d_La_law_599 : decode b_La_law 599 = .ok (.if_icmp .eq 5, 3) := by decide +kernel
theorem d_La_law_602 : decode b_La_law 602 = .ok (.iconst 0, 1) := by decide +kernel
theorem d_La_law_603 : decode b_La_law 603 = .ok (.ireturn, 1) := by decide +kernel
theorem d_La_law_604 : decode b_La_law 604 = .ok (.iload 5, 2) := by decide +kernel
theorem d_La_law_606 : decode b_La_law 606 = .ok (.ifCond .ne 15, 3) := by decide +kernel
theorem d_La_law_609 : decode b_La_law 609 = .ok (.aload_n 3, 1) := by decide +kernel
theorem d_La_law_610 : decode b_La_law 610 = .ok (.iconst 0, 1) := by decide +kernel
theorem d_La_law_611 : decode b_La_law 611 = .ok (.laload, 1) := by decide +kernel
theorem d_La_law_612 : decode b_La_law 612 = .ok (.iload 6, 2) := by decide +kernel
theorem d_La_law_614 : decode b_La_law 614 = .ok (.i2l, 1) := by decide +kernel
theorem d_La_law_615 : decode b_La_law 615 = .ok (.lcmp, 1) := by decide +kernel
theorem d_La_law_616 : decode b_La_law 616 = .ok (.ifCond .eq 5, 3) := by decide +kernel
theorem d_La_law_619 : decode b_La_law 619 = .ok (.iconst 0, 1) := by decide +kernel
theorem d_La_law_620 : decode b_La_law 620 = .ok (.ireturn, 1) := by decide +kernel
theorem d_La_law_621 : decode b_La_law 621 = .ok (.goto 83, 3) := by decide +kernel
theorem d_La_law_624 : decode b_La_law 624 = .ok (.aload_n 1, 1) := by decide +kernel
theorem d_La_law_625 : decode b_La_law 625 = .ok (.aload_n 0, 1) := by decide +kernel
theorem d_La_law_626 : decode b_La_law 626 = .ok (.iload 4, 2) := by decide +kernel
theorem d_La_law_628 : decode b_La_law 628 = .ok (.iconst 1, 1) := by decide +kernel
theorem d_La_law_629 : decode b_La_law 629 = .ok (.iadd, 1) := by decide +kernel
theorem d_La_law_630 : decode b_La_law 630 = .ok (.iaload, 1) := by decide +kernel
theorem d_La_law_631 : decode b_La_law 631 = .ok (.aload_n 0, 1) := by decide +kernel
theorem d_La_law_632 : decode b_La_law 632 = .ok (.iload 4, 2) := by decide +kernel
theorem d_La_law_634 : decode b_La_law 634 = .ok (.iconst 2, 1) := by decide +kernel
theorem d_La_law_635 : decode b_La_law 635 = .ok (.iadd, 1) := by decide +kernel
theorem d_La_law_636 : decode b_La_law 636 = .ok (.iaload, 1) := by decide +kernel
theorem d_La_law_637 : decode b_La_law 637 = .ok (.aload_n 0, 1) := by decide +kernel
theorem d_La_law_638 : decode b_La_law 638 = .ok (.iload 4, 2) := by decide +kernel
theorem d_La_law_640 : decode b_La_law 640 = .ok (.iconst 3, 1) := by decide +kernel
theorem d_La_law_641 : decode b_La_law 641 = .ok (.iadd, 1) := by decide +kernel
theorem d_La_law_642 : decode b_La_law 642 = .ok (.iaload, 1) := by decide +kernel
theorem d_La_law_643 : decode b_La_law 643 = .ok (.aload_n 3, 1) := by decide +kernel
theorem d_La_law_644 : decode b_La_law 644 = .ok (.invokestatic 95, 3) := by decide +kernel
theorem d_La_law_647 : decode b_La_law 647 = .ok (.istore 5, 2) := by decide +kernel
theorem d_La_law_649 : decode b_La_law 649 = .ok (.aload_n 2, 1) := by decide +kernel
theorem d_La_law_650 : decode b_La_law 650 = .ok (.aload_n 0, 1) := by decide +kernel
theorem d_La_law_651 : decode b_La_law 651 = .ok (.iload 4, 2) := by decide +kernel
theorem d_La_law_653 : decode b_La_law 653 = .ok (.iconst 1, 1) := by decide +kernel
theorem d_La_law_654 : decode b_La_law 654 = .ok (.iadd, 1) := by decide +kernel
theorem d_La_law_655 : decode b_La_law 655 = .ok (.iaload, 1) := by decide +kernel
theorem d_La_law_656 : decode b_La_law 656 = .ok (.aload_n 0, 1) := by decide +kernel
theorem d_La_law_657 : decode b_La_law 657 = .ok (.iload 4, 2) := by decide +kernel
theorem d_La_law_659 : decode b_La_law 659 = .ok (.iconst 2, 1) := by decide +kernel
theorem d_La_law_660 : decode b_La_law 660 = .ok (.iadd, 1) := by decide +kernel
theorem d_La_law_661 : decode b_La_law 661 = .ok (.iaload, 1) := by decide +kernel
theorem d_La_law_662 : decode b_La_law 662 = .ok (.aload_n 0, 1) := by decide +kernel
theorem d_La_law_663 : decode b_La_law 663 = .ok (.iload 4, 2) := by decide +kernel
theorem d_La_law_665 : decode b_La_law 665 = .ok (.iconst 3, 1) := by decide +kernel
theorem d_La_law_666 : decode b_La_law 666 = .ok (.iadd, 1) := by decide +kernel
theorem d_La_law_667 : decode b_La_law 667 = .ok (.iaload, 1) := by decide +kernel
theorem d_La_law_668 : decode b_La_law 668 = .ok (.invokevirtual 98, 3) := by decide +kernel
theorem d_La_law_671 : decode b_La_law 671 = .ok (.istore 6, 2) := by decide +kernel
theorem d_La_law_673 : decode b_La_law 673 = .ok (.aload_n 2, 1) := by decide +kernel
theorem d_La_law_674 : decode b_La_law 674 = .ok (.invokevirtual 54, 3) := by decide +kernel
theorem d_La_law_677 : decode b_La_law 677 = .ok (.iload 5, 2) := by decide +kernel
theorem d_La_law_679 : decode b_La_law 679 = .ok (.if_icmp .eq 5, 3) := by decide +kernel
theorem d_La_law_682 : decode b_La_law 682 = .ok (.iconst 0, 1) := by decide +kernel
theorem d_La_law_683 : decode b_La_law 683 = .ok (.ireturn, 1) := by decide +kernel
theorem d_La_law_684 : decode b_La_law 684 = .ok (.iload 5, 2) := by decide +kernel
theorem d_La_law_686 : decode b_La_law 686 = .ok (.ifCond .ne 15, 3) := by decide +kernel
theorem d_La_law_689 : decode b_La_law 689 = .ok (.aload_n 3, 1) := by decide +kernel
theorem d_La_law_690 : decode b_La_law 690 = .ok (.iconst 0, 1) := by decide +kernel
theorem d_La_law_691 : decode b_La_law 691 = .ok (.laload, 1) := by decide +kernel
theorem d_La_law_692 : decode b_La_law 692 = .ok (.iload 6, 2) := by decide +kernel
theorem d_La_law_694 : decode b_La_law 694 = .ok (.i2l, 1) := by decide +kernel
theorem d_La_law_695 : decode b_La_law 695 = .ok (.lcmp, 1) := by decide +kernel
theorem d_La_law_696 : decode b_La_law 696 = .ok (.ifCond .eq 5, 3) := by decide +kernel
theorem d_La_law_699 : decode b_La_law 699 = .ok (.iconst 0, 1) := by decide +kernel
theorem d_La_law_700 : decode b_La_law 700 = .ok (.ireturn, 1) := by decide +kernel
theorem d_La_law_701 : decode b_La_law 701 = .ok (.goto 3, 3) := by decide +kernel
theorem d_La_law_704 : decode b_La_law 704 = .ok (.iinc 4 5, 3) := by decide +kernel
theorem d_La_law_707 : decode b_La_law 707 = .ok (.goto (-684), 3) := by decide +kernel
theorem d_La_law_710 : decode b_La_law 710 = .ok (.iconst 1, 1) := by decide +kernel
theorem d_La_law_711 : decode b_La_law 711 = .ok (.ireturn, 1) := by decide +kernel
theorem d_La_register_0 : decode b_La_register 0 = .ok (.aload_n 0, 1) := by decide +kernel
theorem d_La_register_1 : decode b_La_register 1 = .ok (.iload_n 1, 1) := by decide +kernel
theorem d_La_register_2 : decode b_La_register 2 = .ok (.iload_n 2, 1) := by decide +kernel
theorem d_La_register_3 : decode b_La_register 3 = .ok (.invokevirtual 27, 3) := by decide +kernel
theorem d_La_register_6 : decode b_La_register 6 = .ok (.goto 6, 3) := by decide +kernel
theorem d_La_register_9 : decode b_La_register 9 = .ok (.astore_n 3, 1) := by decide +kernel
theorem d_La_register_10 : decode b_La_register 10 = .ok (.iconst 1, 1) := by decide +kernel
theorem d_La_register_11 : decode b_La_register 11 = .ok (.ireturn, 1) := by decide +kernel
theorem d_La_register_12 : decode b_La_register 12 = .ok (.iconst 0, 1) := by decide +kernel
theorem d_La_register_13 : decode b_La_register 13 = .ok (.ireturn, 1) := by decide +kernel
theorem d_La_run_0 : decode b_La_run 0 = .ok (.aload_n 3, 1) := by decide +kernel
theorem d_La_run_1 : decode b_La_run 1 = .ok (.iconst 0, 1) := by decide +kernel
theorem d_La_run_2 : decode b_La_run 2 = .ok (.aload_n 0, 1) := by decide +kernel
theorem d_La_run_3 : decode b_La_run 3 = .ok (.iload_n 1, 1) := by decide +kernel
theorem d_La_run_4 : decode b_La_run 4 = .ok (.iload_n 2, 1) := by decide +kernel
theorem d_La_run_5 : decode b_La_run 5 = .ok (.invokevirtual 34, 3) := by decide +kernel
theorem d_La_run_8 : decode b_La_run 8 = .ok (.i2l, 1) := by decide +kernel
theorem d_La_run_9 : decode b_La_run 9 = .ok (.lastore, 1) := by decide +kernel
theorem d_La_run_10 : decode b_La_run 10 = .ok (.goto 11, 3) := by decide +kernel
theorem d_La_run_13 : decode b_La_run 13 = .ok (.astore 4, 2) := by decide +kernel
theorem d_La_run_15 : decode b_La_run 15 = .ok (.iconst 1, 1) := by decide +kernel
theorem d_La_run_16 : decode b_La_run 16 = .ok (.ireturn, 1) := by decide +kernel
theorem d_La_run_17 : decode b_La_run 17 = .ok (.astore 4, 2) := by decide +kernel
theorem d_La_run_19 : decode b_La_run 19 = .ok (.iconst 2, 1) := by decide +kernel
theorem d_La_run_20 : decode b_La_run 20 = .ok (.ireturn, 1) := by decide +kernel
theorem d_La_run_21 : decode b_La_run 21 = .ok (.iconst 0, 1) := by decide +kernel
theorem d_La_run_22 : decode b_La_run 22 = .ok (.ireturn, 1) := by decide +kernel
