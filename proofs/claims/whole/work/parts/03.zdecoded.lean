/-! decode rows, written by a program -/
theorem d_M_smooth_93 : decode prog_13_method_41_code 93 = .ok (.bipush 16, 2) := by decide +kernel
theorem d_M_smooth_95 : decode prog_13_method_41_code 95 = .ok (.istore 7, 2) := by decide +kernel
theorem d_M_smooth_97 : decode prog_13_method_41_code 97 = .ok (.sipush 256, 3) := by decide +kernel
theorem d_M_smooth_100 : decode prog_13_method_41_code 100 = .ok (.iload_n 1, 1) := by decide +kernel
theorem d_M_smooth_101 : decode prog_13_method_41_code 101 = .ok (.imul, 1) := by decide +kernel
theorem d_M_smooth_102 : decode prog_13_method_41_code 102 = .ok (.bipush 16, 2) := by decide +kernel
theorem d_M_smooth_104 : decode prog_13_method_41_code 104 = .ok (.iload_n 3, 1) := by decide +kernel
theorem d_M_smooth_105 : decode prog_13_method_41_code 105 = .ok (.imul, 1) := by decide +kernel
theorem d_M_smooth_106 : decode prog_13_method_41_code 106 = .ok (.iadd, 1) := by decide +kernel
theorem d_M_smooth_107 : decode prog_13_method_41_code 107 = .ok (.iload_n 2, 1) := by decide +kernel
theorem d_M_smooth_108 : decode prog_13_method_41_code 108 = .ok (.iadd, 1) := by decide +kernel
theorem d_M_smooth_109 : decode prog_13_method_41_code 109 = .ok (.istore 8, 2) := by decide +kernel
theorem d_M_smooth_111 : decode prog_13_method_41_code 111 = .ok (.aload_n 0, 1) := by decide +kernel
theorem d_M_smooth_112 : decode prog_13_method_41_code 112 = .ok (.getfield 37, 3) := by decide +kernel
theorem d_M_smooth_115 : decode prog_13_method_41_code 115 = .ok (.iload 8, 2) := by decide +kernel
theorem d_M_smooth_117 : decode prog_13_method_41_code 117 = .ok (.iload 7, 2) := by decide +kernel
theorem d_M_smooth_119 : decode prog_13_method_41_code 119 = .ok (.isub, 1) := by decide +kernel
theorem d_M_smooth_120 : decode prog_13_method_41_code 120 = .ok (.iaload, 1) := by decide +kernel
theorem d_M_smooth_121 : decode prog_13_method_41_code 121 = .ok (.istore 9, 2) := by decide +kernel
theorem d_M_smooth_123 : decode prog_13_method_41_code 123 = .ok (.aload_n 0, 1) := by decide +kernel
theorem d_M_smooth_124 : decode prog_13_method_41_code 124 = .ok (.getfield 37, 3) := by decide +kernel
theorem d_M_smooth_127 : decode prog_13_method_41_code 127 = .ok (.iload 8, 2) := by decide +kernel
theorem d_M_smooth_129 : decode prog_13_method_41_code 129 = .ok (.iaload, 1) := by decide +kernel
theorem d_M_smooth_130 : decode prog_13_method_41_code 130 = .ok (.istore 10, 2) := by decide +kernel
theorem d_M_smooth_132 : decode prog_13_method_41_code 132 = .ok (.aload_n 0, 1) := by decide +kernel
theorem d_M_smooth_133 : decode prog_13_method_41_code 133 = .ok (.getfield 168, 3) := by decide +kernel
theorem d_M_smooth_136 : decode prog_13_method_41_code 136 = .ok (.iconst 1, 1) := by decide +kernel
theorem d_M_smooth_137 : decode prog_13_method_41_code 137 = .ok (.if_icmp .ne 12, 3) := by decide +kernel
theorem d_M_smooth_140 : decode prog_13_method_41_code 140 = .ok (.iconst 4, 1) := by decide +kernel
theorem d_M_smooth_141 : decode prog_13_method_41_code 141 = .ok (.aload_n 0, 1) := by decide +kernel
theorem d_M_smooth_142 : decode prog_13_method_41_code 142 = .ok (.getfield 189, 3) := by decide +kernel
theorem d_M_smooth_145 : decode prog_13_method_41_code 145 = .ok (.imul, 1) := by decide +kernel
theorem d_M_smooth_146 : decode prog_13_method_41_code 146 = .ok (.goto 7, 3) := by decide +kernel
theorem d_M_smooth_149 : decode prog_13_method_41_code 149 = .ok (.aload_n 0, 1) := by decide +kernel
theorem d_M_smooth_150 : decode prog_13_method_41_code 150 = .ok (.getfield 189, 3) := by decide +kernel
theorem d_M_smooth_153 : decode prog_13_method_41_code 153 = .ok (.istore 11, 2) := by decide +kernel
theorem d_M_smooth_155 : decode prog_13_method_41_code 155 = .ok (.iload 9, 2) := by decide +kernel
theorem d_M_smooth_157 : decode prog_13_method_41_code 157 = .ok (.iload 10, 2) := by decide +kernel
theorem d_M_smooth_159 : decode prog_13_method_41_code 159 = .ok (.invokestatic 251, 3) := by decide +kernel
theorem d_M_smooth_162 : decode prog_13_method_41_code 162 = .ok (.iconst 4, 1) := by decide +kernel
theorem d_M_smooth_163 : decode prog_13_method_41_code 163 = .ok (.iload 11, 2) := by decide +kernel
theorem d_M_smooth_165 : decode prog_13_method_41_code 165 = .ok (.imul, 1) := by decide +kernel
theorem d_M_smooth_166 : decode prog_13_method_41_code 166 = .ok (.if_icmp .le 4, 3) := by decide +kernel
theorem d_M_smooth_169 : decode prog_13_method_41_code 169 = .ok (.return_, 1) := by decide +kernel
theorem d_M_smooth_170 : decode prog_13_method_41_code 170 = .ok (.iconst 3, 1) := by decide +kernel
theorem d_M_smooth_171 : decode prog_13_method_41_code 171 = .ok (.iload 10, 2) := by decide +kernel
theorem d_M_smooth_173 : decode prog_13_method_41_code 173 = .ok (.iload 9, 2) := by decide +kernel
theorem d_M_smooth_175 : decode prog_13_method_41_code 175 = .ok (.isub, 1) := by decide +kernel
theorem d_M_smooth_176 : decode prog_13_method_41_code 176 = .ok (.imul, 1) := by decide +kernel
theorem d_M_smooth_177 : decode prog_13_method_41_code 177 = .ok (.aload_n 0, 1) := by decide +kernel
theorem d_M_smooth_178 : decode prog_13_method_41_code 178 = .ok (.getfield 37, 3) := by decide +kernel
theorem d_M_smooth_181 : decode prog_13_method_41_code 181 = .ok (.iload 8, 2) := by decide +kernel
theorem d_M_smooth_183 : decode prog_13_method_41_code 183 = .ok (.iconst 2, 1) := by decide +kernel
theorem d_M_smooth_184 : decode prog_13_method_41_code 184 = .ok (.iload 7, 2) := by decide +kernel
theorem d_M_smooth_186 : decode prog_13_method_41_code 186 = .ok (.imul, 1) := by decide +kernel
theorem d_M_smooth_187 : decode prog_13_method_41_code 187 = .ok (.isub, 1) := by decide +kernel
theorem d_M_smooth_188 : decode prog_13_method_41_code 188 = .ok (.iaload, 1) := by decide +kernel
theorem d_M_smooth_189 : decode prog_13_method_41_code 189 = .ok (.iadd, 1) := by decide +kernel
theorem d_M_smooth_190 : decode prog_13_method_41_code 190 = .ok (.aload_n 0, 1) := by decide +kernel
theorem d_M_smooth_191 : decode prog_13_method_41_code 191 = .ok (.getfield 37, 3) := by decide +kernel
theorem d_M_smooth_194 : decode prog_13_method_41_code 194 = .ok (.iload 8, 2) := by decide +kernel
theorem d_M_smooth_196 : decode prog_13_method_41_code 196 = .ok (.iload 7, 2) := by decide +kernel
theorem d_M_smooth_198 : decode prog_13_method_41_code 198 = .ok (.iadd, 1) := by decide +kernel
theorem d_M_smooth_199 : decode prog_13_method_41_code 199 = .ok (.iaload, 1) := by decide +kernel
theorem d_M_smooth_200 : decode prog_13_method_41_code 200 = .ok (.isub, 1) := by decide +kernel
theorem d_M_smooth_201 : decode prog_13_method_41_code 201 = .ok (.iconst 4, 1) := by decide +kernel
theorem d_M_smooth_202 : decode prog_13_method_41_code 202 = .ok (.iadd, 1) := by decide +kernel
theorem d_M_smooth_203 : decode prog_13_method_41_code 203 = .ok (.iconst 3, 1) := by decide +kernel
theorem d_M_smooth_204 : decode prog_13_method_41_code 204 = .ok (.ishr, 1) := by decide +kernel
theorem d_M_smooth_205 : decode prog_13_method_41_code 205 = .ok (.iload 11, 2) := by decide +kernel
theorem d_M_smooth_207 : decode prog_13_method_41_code 207 = .ok (.invokestatic 260, 3) := by decide +kernel
theorem d_M_smooth_210 : decode prog_13_method_41_code 210 = .ok (.istore 12, 2) := by decide +kernel
theorem d_M_smooth_212 : decode prog_13_method_41_code 212 = .ok (.aload_n 0, 1) := by decide +kernel
theorem d_M_smooth_213 : decode prog_13_method_41_code 213 = .ok (.getfield 37, 3) := by decide +kernel
theorem d_M_smooth_216 : decode prog_13_method_41_code 216 = .ok (.iload 8, 2) := by decide +kernel
theorem d_M_smooth_218 : decode prog_13_method_41_code 218 = .ok (.iload 7, 2) := by decide +kernel
theorem d_M_smooth_220 : decode prog_13_method_41_code 220 = .ok (.isub, 1) := by decide +kernel
theorem d_M_smooth_221 : decode prog_13_method_41_code 221 = .ok (.aload_n 0, 1) := by decide +kernel
theorem d_M_smooth_222 : decode prog_13_method_41_code 222 = .ok (.iload 9, 2) := by decide +kernel
theorem d_M_smooth_224 : decode prog_13_method_41_code 224 = .ok (.iload 12, 2) := by decide +kernel
theorem d_M_smooth_226 : decode prog_13_method_41_code 226 = .ok (.iadd, 1) := by decide +kernel
theorem d_M_smooth_227 : decode prog_13_method_41_code 227 = .ok (.invokevirtual 245, 3) := by decide +kernel
theorem d_M_smooth_230 : decode prog_13_method_41_code 230 = .ok (.iastore, 1) := by decide +kernel
theorem d_M_smooth_231 : decode prog_13_method_41_code 231 = .ok (.aload_n 0, 1) := by decide +kernel
theorem d_M_smooth_232 : decode prog_13_method_41_code 232 = .ok (.getfield 37, 3) := by decide +kernel
theorem d_M_smooth_235 : decode prog_13_method_41_code 235 = .ok (.iload 8, 2) := by decide +kernel
theorem d_M_smooth_237 : decode prog_13_method_41_code 237 = .ok (.aload_n 0, 1) := by decide +kernel
theorem d_M_smooth_238 : decode prog_13_method_41_code 238 = .ok (.iload 10, 2) := by decide +kernel
theorem d_M_smooth_240 : decode prog_13_method_41_code 240 = .ok (.iload 12, 2) := by decide +kernel
theorem d_M_smooth_242 : decode prog_13_method_41_code 242 = .ok (.isub, 1) := by decide +kernel
theorem d_M_smooth_243 : decode prog_13_method_41_code 243 = .ok (.invokevirtual 245, 3) := by decide +kernel
theorem d_M_smooth_246 : decode prog_13_method_41_code 246 = .ok (.iastore, 1) := by decide +kernel
theorem d_M_smooth_247 : decode prog_13_method_41_code 247 = .ok (.return_, 1) := by decide +kernel
theorem d_M_filter_0 : decode prog_13_method_40_code 0 = .ok (.iconst 0, 1) := by decide +kernel
theorem d_M_filter_1 : decode prog_13_method_40_code 1 = .ok (.istore_n 1, 1) := by decide +kernel
theorem d_M_filter_2 : decode prog_13_method_40_code 2 = .ok (.iload_n 1, 1) := by decide +kernel
theorem d_M_filter_3 : decode prog_13_method_40_code 3 = .ok (.iconst 1, 1) := by decide +kernel
theorem d_M_filter_4 : decode prog_13_method_40_code 4 = .ok (.iconst 2, 1) := by decide +kernel
theorem d_M_filter_5 : decode prog_13_method_40_code 5 = .ok (.aload_n 0, 1) := by decide +kernel
theorem d_M_filter_6 : decode prog_13_method_40_code 6 = .ok (.getfield 165, 3) := by decide +kernel
theorem d_M_filter_9 : decode prog_13_method_40_code 9 = .ok (.imul, 1) := by decide +kernel
theorem d_M_filter_10 : decode prog_13_method_40_code 10 = .ok (.iadd, 1) := by decide +kernel
theorem d_M_filter_11 : decode prog_13_method_40_code 11 = .ok (.if_icmp .ge 90, 3) := by decide +kernel
theorem d_M_filter_14 : decode prog_13_method_40_code 14 = .ok (.aload_n 0, 1) := by decide +kernel
theorem d_M_filter_15 : decode prog_13_method_40_code 15 = .ok (.getfield 189, 3) := by decide +kernel
theorem d_M_filter_18 : decode prog_13_method_40_code 18 = .ok (.ifCond .eq 61, 3) := by decide +kernel
theorem d_M_filter_21 : decode prog_13_method_40_code 21 = .ok (.iconst 0, 1) := by decide +kernel
theorem d_M_filter_22 : decode prog_13_method_40_code 22 = .ok (.istore_n 2, 1) := by decide +kernel
theorem d_M_filter_23 : decode prog_13_method_40_code 23 = .ok (.iload_n 2, 1) := by decide +kernel
theorem d_M_filter_24 : decode prog_13_method_40_code 24 = .ok (.sipush 256, 3) := by decide +kernel
theorem d_M_filter_27 : decode prog_13_method_40_code 27 = .ok (.if_icmp .ge 23, 3) := by decide +kernel
theorem d_M_filter_30 : decode prog_13_method_40_code 30 = .ok (.aload_n 0, 1) := by decide +kernel
theorem d_M_filter_31 : decode prog_13_method_40_code 31 = .ok (.iload_n 1, 1) := by decide +kernel
theorem d_M_filter_32 : decode prog_13_method_40_code 32 = .ok (.iload_n 2, 1) := by decide +kernel
theorem d_M_filter_33 : decode prog_13_method_40_code 33 = .ok (.bipush 16, 2) := by decide +kernel
theorem d_M_filter_35 : decode prog_13_method_40_code 35 = .ok (.irem, 1) := by decide +kernel
theorem d_M_filter_36 : decode prog_13_method_40_code 36 = .ok (.iload_n 2, 1) := by decide +kernel
theorem d_M_filter_37 : decode prog_13_method_40_code 37 = .ok (.bipush 16, 2) := by decide +kernel
theorem d_M_filter_39 : decode prog_13_method_40_code 39 = .ok (.idiv, 1) := by decide +kernel
theorem d_M_filter_40 : decode prog_13_method_40_code 40 = .ok (.iconst 1, 1) := by decide +kernel
theorem d_M_filter_41 : decode prog_13_method_40_code 41 = .ok (.invokevirtual 267, 3) := by decide +kernel
theorem d_M_filter_44 : decode prog_13_method_40_code 44 = .ok (.iinc 2 1, 3) := by decide +kernel
theorem d_M_filter_47 : decode prog_13_method_40_code 47 = .ok (.goto (-24), 3) := by decide +kernel
theorem d_M_filter_50 : decode prog_13_method_40_code 50 = .ok (.iconst 0, 1) := by decide +kernel
theorem d_M_filter_51 : decode prog_13_method_40_code 51 = .ok (.istore_n 2, 1) := by decide +kernel
theorem d_M_filter_52 : decode prog_13_method_40_code 52 = .ok (.iload_n 2, 1) := by decide +kernel
theorem d_M_filter_53 : decode prog_13_method_40_code 53 = .ok (.sipush 256, 3) := by decide +kernel
theorem d_M_filter_56 : decode prog_13_method_40_code 56 = .ok (.if_icmp .ge 23, 3) := by decide +kernel
theorem d_M_filter_59 : decode prog_13_method_40_code 59 = .ok (.aload_n 0, 1) := by decide +kernel
theorem d_M_filter_60 : decode prog_13_method_40_code 60 = .ok (.iload_n 1, 1) := by decide +kernel
theorem d_M_filter_61 : decode prog_13_method_40_code 61 = .ok (.iload_n 2, 1) := by decide +kernel
theorem d_M_filter_62 : decode prog_13_method_40_code 62 = .ok (.bipush 16, 2) := by decide +kernel
theorem d_M_filter_64 : decode prog_13_method_40_code 64 = .ok (.irem, 1) := by decide +kernel
theorem d_M_filter_65 : decode prog_13_method_40_code 65 = .ok (.iload_n 2, 1) := by decide +kernel
theorem d_M_filter_66 : decode prog_13_method_40_code 66 = .ok (.bipush 16, 2) := by decide +kernel
theorem d_M_filter_68 : decode prog_13_method_40_code 68 = .ok (.idiv, 1) := by decide +kernel
theorem d_M_filter_69 : decode prog_13_method_40_code 69 = .ok (.iconst 0, 1) := by decide +kernel
theorem d_M_filter_70 : decode prog_13_method_40_code 70 = .ok (.invokevirtual 267, 3) := by decide +kernel
theorem d_M_filter_73 : decode prog_13_method_40_code 73 = .ok (.iinc 2 1, 3) := by decide +kernel
theorem d_M_filter_76 : decode prog_13_method_40_code 76 = .ok (.goto (-24), 3) := by decide +kernel
theorem d_M_filter_79 : decode prog_13_method_40_code 79 = .ok (.aload_n 0, 1) := by decide +kernel
theorem d_M_filter_80 : decode prog_13_method_40_code 80 = .ok (.getfield 192, 3) := by decide +kernel
theorem d_M_filter_83 : decode prog_13_method_40_code 83 = .ok (.ifCond .eq 12, 3) := by decide +kernel
theorem d_M_filter_86 : decode prog_13_method_40_code 86 = .ok (.aload_n 0, 1) := by decide +kernel
theorem d_M_filter_87 : decode prog_13_method_40_code 87 = .ok (.sipush 256, 3) := by decide +kernel
theorem d_M_filter_90 : decode prog_13_method_40_code 90 = .ok (.iload_n 1, 1) := by decide +kernel
theorem d_M_filter_91 : decode prog_13_method_40_code 91 = .ok (.imul, 1) := by decide +kernel
theorem d_M_filter_92 : decode prog_13_method_40_code 92 = .ok (.invokevirtual 271, 3) := by decide +kernel
theorem d_M_filter_95 : decode prog_13_method_40_code 95 = .ok (.iinc 1 1, 3) := by decide +kernel
theorem d_M_filter_98 : decode prog_13_method_40_code 98 = .ok (.goto (-96), 3) := by decide +kernel
theorem d_M_filter_101 : decode prog_13_method_40_code 101 = .ok (.return_, 1) := by decide +kernel
theorem d_M_tableSize_0 : decode prog_13_method_24_code 0 = .ok (.iload_n 0, 1) := by decide +kernel
theorem d_M_tableSize_1 : decode prog_13_method_24_code 1 = .ok (.iconst 2, 1) := by decide +kernel
theorem d_M_tableSize_2 : decode prog_13_method_24_code 2 = .ok (.if_icmp .lt 15, 3) := by decide +kernel
theorem d_M_tableSize_5 : decode prog_13_method_24_code 5 = .ok (.iload_n 0, 1) := by decide +kernel
theorem d_M_tableSize_6 : decode prog_13_method_24_code 6 = .ok (.bipush 8, 2) := by decide +kernel
theorem d_M_tableSize_8 : decode prog_13_method_24_code 8 = .ok (.if_icmp .eq 9, 3) := by decide +kernel
theorem d_M_tableSize_11 : decode prog_13_method_24_code 11 = .ok (.iload_n 0, 1) := by decide +kernel
theorem d_M_tableSize_12 : decode prog_13_method_24_code 12 = .ok (.bipush 9, 2) := by decide +kernel
theorem d_M_tableSize_14 : decode prog_13_method_24_code 14 = .ok (.if_icmp .ne 7, 3) := by decide +kernel
theorem d_M_tableSize_17 : decode prog_13_method_24_code 17 = .ok (.iconst 2, 1) := by decide +kernel
theorem d_M_tableSize_18 : decode prog_13_method_24_code 18 = .ok (.goto 43, 3) := by decide +kernel
theorem d_M_tableSize_21 : decode prog_13_method_24_code 21 = .ok (.iload_n 0, 1) := by decide +kernel
theorem d_M_tableSize_22 : decode prog_13_method_24_code 22 = .ok (.bipush 6, 2) := by decide +kernel
theorem d_M_tableSize_24 : decode prog_13_method_24_code 24 = .ok (.if_icmp .ge 8, 3) := by decide +kernel
theorem d_M_tableSize_27 : decode prog_13_method_24_code 27 = .ok (.bipush 6, 2) := by decide +kernel
theorem d_M_tableSize_29 : decode prog_13_method_24_code 29 = .ok (.goto 32, 3) := by decide +kernel
theorem d_M_tableSize_32 : decode prog_13_method_24_code 32 = .ok (.iload_n 0, 1) := by decide +kernel
theorem d_M_tableSize_33 : decode prog_13_method_24_code 33 = .ok (.bipush 8, 2) := by decide +kernel
theorem d_M_tableSize_35 : decode prog_13_method_24_code 35 = .ok (.if_icmp .ge 8, 3) := by decide +kernel
theorem d_M_tableSize_38 : decode prog_13_method_24_code 38 = .ok (.bipush 7, 2) := by decide +kernel
theorem d_M_tableSize_40 : decode prog_13_method_24_code 40 = .ok (.goto 21, 3) := by decide +kernel
theorem d_M_tableSize_43 : decode prog_13_method_24_code 43 = .ok (.iload_n 0, 1) := by decide +kernel
theorem d_M_tableSize_44 : decode prog_13_method_24_code 44 = .ok (.bipush 11, 2) := by decide +kernel
theorem d_M_tableSize_46 : decode prog_13_method_24_code 46 = .ok (.if_icmp .eq 9, 3) := by decide +kernel
theorem d_M_tableSize_49 : decode prog_13_method_24_code 49 = .ok (.iload_n 0, 1) := by decide +kernel
theorem d_M_tableSize_50 : decode prog_13_method_24_code 50 = .ok (.bipush 12, 2) := by decide +kernel
theorem d_M_tableSize_52 : decode prog_13_method_24_code 52 = .ok (.if_icmp .ne 8, 3) := by decide +kernel
theorem d_M_tableSize_55 : decode prog_13_method_24_code 55 = .ok (.bipush 16, 2) := by decide +kernel
theorem d_M_tableSize_57 : decode prog_13_method_24_code 57 = .ok (.goto 4, 3) := by decide +kernel
theorem d_M_tableSize_60 : decode prog_13_method_24_code 60 = .ok (.iconst 4, 1) := by decide +kernel
theorem d_M_tableSize_61 : decode prog_13_method_24_code 61 = .ok (.ireturn, 1) := by decide +kernel
theorem d_M_predicted_0 : decode prog_13_method_34_code 0 = .ok (.iload_n 1, 1) := by decide +kernel
theorem d_M_predicted_1 : decode prog_13_method_34_code 1 = .ok (.ifCond .ne 63, 3) := by decide +kernel
theorem d_M_predicted_4 : decode prog_13_method_34_code 4 = .ok (.aload_n 0, 1) := by decide +kernel
theorem d_M_predicted_5 : decode prog_13_method_34_code 5 = .ok (.getfield 58, 3) := by decide +kernel
theorem d_M_predicted_8 : decode prog_13_method_34_code 8 = .ok (.iconst 0, 1) := by decide +kernel
theorem d_M_predicted_9 : decode prog_13_method_34_code 9 = .ok (.iaload, 1) := by decide +kernel
theorem d_M_predicted_10 : decode prog_13_method_34_code 10 = .ok (.aload_n 0, 1) := by decide +kernel
theorem d_M_predicted_11 : decode prog_13_method_34_code 11 = .ok (.getfield 58, 3) := by decide +kernel
theorem d_M_predicted_14 : decode prog_13_method_34_code 14 = .ok (.iconst 1, 1) := by decide +kernel
theorem d_M_predicted_15 : decode prog_13_method_34_code 15 = .ok (.iaload, 1) := by decide +kernel
theorem d_M_predicted_16 : decode prog_13_method_34_code 16 = .ok (.iadd, 1) := by decide +kernel
theorem d_M_predicted_17 : decode prog_13_method_34_code 17 = .ok (.aload_n 0, 1) := by decide +kernel
theorem d_M_predicted_18 : decode prog_13_method_34_code 18 = .ok (.getfield 58, 3) := by decide +kernel
theorem d_M_predicted_21 : decode prog_13_method_34_code 21 = .ok (.iconst 2, 1) := by decide +kernel
theorem d_M_predicted_22 : decode prog_13_method_34_code 22 = .ok (.iaload, 1) := by decide +kernel
theorem d_M_predicted_23 : decode prog_13_method_34_code 23 = .ok (.iadd, 1) := by decide +kernel
theorem d_M_predicted_24 : decode prog_13_method_34_code 24 = .ok (.aload_n 0, 1) := by decide +kernel
theorem d_M_predicted_25 : decode prog_13_method_34_code 25 = .ok (.getfield 58, 3) := by decide +kernel
theorem d_M_predicted_28 : decode prog_13_method_34_code 28 = .ok (.iconst 3, 1) := by decide +kernel
theorem d_M_predicted_29 : decode prog_13_method_34_code 29 = .ok (.iaload, 1) := by decide +kernel
theorem d_M_predicted_30 : decode prog_13_method_34_code 30 = .ok (.iadd, 1) := by decide +kernel
theorem d_M_predicted_31 : decode prog_13_method_34_code 31 = .ok (.aload_n 0, 1) := by decide +kernel
theorem d_M_predicted_32 : decode prog_13_method_34_code 32 = .ok (.getfield 61, 3) := by decide +kernel
theorem d_M_predicted_35 : decode prog_13_method_34_code 35 = .ok (.iconst 0, 1) := by decide +kernel
theorem d_M_predicted_36 : decode prog_13_method_34_code 36 = .ok (.iaload, 1) := by decide +kernel
theorem d_M_predicted_37 : decode prog_13_method_34_code 37 = .ok (.iadd, 1) := by decide +kernel
theorem d_M_predicted_38 : decode prog_13_method_34_code 38 = .ok (.aload_n 0, 1) := by decide +kernel
theorem d_M_predicted_39 : decode prog_13_method_34_code 39 = .ok (.getfield 61, 3) := by decide +kernel
theorem d_M_predicted_42 : decode prog_13_method_34_code 42 = .ok (.iconst 1, 1) := by decide +kernel
theorem d_M_predicted_43 : decode prog_13_method_34_code 43 = .ok (.iaload, 1) := by decide +kernel
theorem d_M_predicted_44 : decode prog_13_method_34_code 44 = .ok (.iadd, 1) := by decide +kernel
theorem d_M_predicted_45 : decode prog_13_method_34_code 45 = .ok (.aload_n 0, 1) := by decide +kernel
theorem d_M_predicted_46 : decode prog_13_method_34_code 46 = .ok (.getfield 61, 3) := by decide +kernel
theorem d_M_predicted_49 : decode prog_13_method_34_code 49 = .ok (.iconst 2, 1) := by decide +kernel
theorem d_M_predicted_50 : decode prog_13_method_34_code 50 = .ok (.iaload, 1) := by decide +kernel
theorem d_M_predicted_51 : decode prog_13_method_34_code 51 = .ok (.iadd, 1) := by decide +kernel
theorem d_M_predicted_52 : decode prog_13_method_34_code 52 = .ok (.aload_n 0, 1) := by decide +kernel
theorem d_M_predicted_53 : decode prog_13_method_34_code 53 = .ok (.getfield 61, 3) := by decide +kernel
theorem d_M_predicted_56 : decode prog_13_method_34_code 56 = .ok (.iconst 3, 1) := by decide +kernel
theorem d_M_predicted_57 : decode prog_13_method_34_code 57 = .ok (.iaload, 1) := by decide +kernel
theorem d_M_predicted_58 : decode prog_13_method_34_code 58 = .ok (.iadd, 1) := by decide +kernel
theorem d_M_predicted_59 : decode prog_13_method_34_code 59 = .ok (.iconst 4, 1) := by decide +kernel
theorem d_M_predicted_60 : decode prog_13_method_34_code 60 = .ok (.iadd, 1) := by decide +kernel
theorem d_M_predicted_61 : decode prog_13_method_34_code 61 = .ok (.iconst 3, 1) := by decide +kernel
theorem d_M_predicted_62 : decode prog_13_method_34_code 62 = .ok (.ishr, 1) := by decide +kernel
theorem d_M_predicted_63 : decode prog_13_method_34_code 63 = .ok (.ireturn, 1) := by decide +kernel
theorem d_M_predicted_64 : decode prog_13_method_34_code 64 = .ok (.iload_n 1, 1) := by decide +kernel
theorem d_M_predicted_65 : decode prog_13_method_34_code 65 = .ok (.iconst 1, 1) := by decide +kernel
theorem d_M_predicted_66 : decode prog_13_method_34_code 66 = .ok (.if_icmp .ne 10, 3) := by decide +kernel
theorem d_M_predicted_69 : decode prog_13_method_34_code 69 = .ok (.aload_n 0, 1) := by decide +kernel
theorem d_M_predicted_70 : decode prog_13_method_34_code 70 = .ok (.getfield 58, 3) := by decide +kernel
theorem d_M_predicted_73 : decode prog_13_method_34_code 73 = .ok (.iload_n 2, 1) := by decide +kernel
theorem d_M_predicted_74 : decode prog_13_method_34_code 74 = .ok (.iaload, 1) := by decide +kernel
theorem d_M_predicted_75 : decode prog_13_method_34_code 75 = .ok (.ireturn, 1) := by decide +kernel
theorem d_M_predicted_76 : decode prog_13_method_34_code 76 = .ok (.iload_n 1, 1) := by decide +kernel
theorem d_M_predicted_77 : decode prog_13_method_34_code 77 = .ok (.iconst 2, 1) := by decide +kernel
theorem d_M_predicted_78 : decode prog_13_method_34_code 78 = .ok (.if_icmp .ne 10, 3) := by decide +kernel
theorem d_M_predicted_81 : decode prog_13_method_34_code 81 = .ok (.aload_n 0, 1) := by decide +kernel
theorem d_M_predicted_82 : decode prog_13_method_34_code 82 = .ok (.getfield 61, 3) := by decide +kernel
theorem d_M_predicted_85 : decode prog_13_method_34_code 85 = .ok (.iload_n 3, 1) := by decide +kernel
theorem d_M_predicted_86 : decode prog_13_method_34_code 86 = .ok (.iaload, 1) := by decide +kernel
theorem d_M_predicted_87 : decode prog_13_method_34_code 87 = .ok (.ireturn, 1) := by decide +kernel
theorem d_M_predicted_88 : decode prog_13_method_34_code 88 = .ok (.iload_n 1, 1) := by decide +kernel
theorem d_M_predicted_89 : decode prog_13_method_34_code 89 = .ok (.iconst 4, 1) := by decide +kernel
theorem d_M_predicted_90 : decode prog_13_method_34_code 90 = .ok (.if_icmp .ne 70, 3) := by decide +kernel
theorem d_M_predicted_93 : decode prog_13_method_34_code 93 = .ok (.bipush 7, 2) := by decide +kernel
theorem d_M_predicted_95 : decode prog_13_method_34_code 95 = .ok (.iconst 2, 1) := by decide +kernel
theorem d_M_predicted_96 : decode prog_13_method_34_code 96 = .ok (.iload_n 3, 1) := by decide +kernel
theorem d_M_predicted_97 : decode prog_13_method_34_code 97 = .ok (.imul, 1) := by decide +kernel
theorem d_M_predicted_98 : decode prog_13_method_34_code 98 = .ok (.isub, 1) := by decide +kernel
theorem d_M_predicted_99 : decode prog_13_method_34_code 99 = .ok (.istore 4, 2) := by decide +kernel
theorem d_M_predicted_101 : decode prog_13_method_34_code 101 = .ok (.bipush 7, 2) := by decide +kernel
theorem d_M_predicted_103 : decode prog_13_method_34_code 103 = .ok (.iconst 2, 1) := by decide +kernel
theorem d_M_predicted_104 : decode prog_13_method_34_code 104 = .ok (.iload_n 2, 1) := by decide +kernel
theorem d_M_predicted_105 : decode prog_13_method_34_code 105 = .ok (.imul, 1) := by decide +kernel
theorem d_M_predicted_106 : decode prog_13_method_34_code 106 = .ok (.isub, 1) := by decide +kernel
theorem d_M_predicted_107 : decode prog_13_method_34_code 107 = .ok (.istore 5, 2) := by decide +kernel
theorem d_M_predicted_109 : decode prog_13_method_34_code 109 = .ok (.iload 4, 2) := by decide +kernel
theorem d_M_predicted_111 : decode prog_13_method_34_code 111 = .ok (.aload_n 0, 1) := by decide +kernel
theorem d_M_predicted_112 : decode prog_13_method_34_code 112 = .ok (.getfield 58, 3) := by decide +kernel
theorem d_M_predicted_115 : decode prog_13_method_34_code 115 = .ok (.iload_n 2, 1) := by decide +kernel
theorem d_M_predicted_116 : decode prog_13_method_34_code 116 = .ok (.iaload, 1) := by decide +kernel
theorem d_M_predicted_117 : decode prog_13_method_34_code 117 = .ok (.imul, 1) := by decide +kernel
theorem d_M_predicted_118 : decode prog_13_method_34_code 118 = .ok (.bipush 8, 2) := by decide +kernel
theorem d_M_predicted_120 : decode prog_13_method_34_code 120 = .ok (.iload 4, 2) := by decide +kernel
theorem d_M_predicted_122 : decode prog_13_method_34_code 122 = .ok (.isub, 1) := by decide +kernel
theorem d_M_predicted_123 : decode prog_13_method_34_code 123 = .ok (.aload_n 0, 1) := by decide +kernel
theorem d_M_predicted_124 : decode prog_13_method_34_code 124 = .ok (.getfield 61, 3) := by decide +kernel
theorem d_M_predicted_127 : decode prog_13_method_34_code 127 = .ok (.iconst 3, 1) := by decide +kernel
theorem d_M_predicted_128 : decode prog_13_method_34_code 128 = .ok (.iaload, 1) := by decide +kernel
theorem d_M_predicted_129 : decode prog_13_method_34_code 129 = .ok (.imul, 1) := by decide +kernel
theorem d_M_predicted_130 : decode prog_13_method_34_code 130 = .ok (.iadd, 1) := by decide +kernel
theorem d_M_predicted_131 : decode prog_13_method_34_code 131 = .ok (.iload 5, 2) := by decide +kernel
theorem d_M_predicted_133 : decode prog_13_method_34_code 133 = .ok (.aload_n 0, 1) := by decide +kernel
theorem d_M_predicted_134 : decode prog_13_method_34_code 134 = .ok (.getfield 61, 3) := by decide +kernel
theorem d_M_predicted_137 : decode prog_13_method_34_code 137 = .ok (.iload_n 3, 1) := by decide +kernel
theorem d_M_predicted_138 : decode prog_13_method_34_code 138 = .ok (.iaload, 1) := by decide +kernel
theorem d_M_predicted_139 : decode prog_13_method_34_code 139 = .ok (.imul, 1) := by decide +kernel
theorem d_M_predicted_140 : decode prog_13_method_34_code 140 = .ok (.iadd, 1) := by decide +kernel
theorem d_M_predicted_141 : decode prog_13_method_34_code 141 = .ok (.bipush 8, 2) := by decide +kernel
theorem d_M_predicted_143 : decode prog_13_method_34_code 143 = .ok (.iload 5, 2) := by decide +kernel
theorem d_M_predicted_145 : decode prog_13_method_34_code 145 = .ok (.isub, 1) := by decide +kernel
theorem d_M_predicted_146 : decode prog_13_method_34_code 146 = .ok (.aload_n 0, 1) := by decide +kernel
theorem d_M_predicted_147 : decode prog_13_method_34_code 147 = .ok (.getfield 58, 3) := by decide +kernel
theorem d_M_predicted_150 : decode prog_13_method_34_code 150 = .ok (.iconst 3, 1) := by decide +kernel
theorem d_M_predicted_151 : decode prog_13_method_34_code 151 = .ok (.iaload, 1) := by decide +kernel
theorem d_M_predicted_152 : decode prog_13_method_34_code 152 = .ok (.imul, 1) := by decide +kernel
theorem d_M_predicted_153 : decode prog_13_method_34_code 153 = .ok (.iadd, 1) := by decide +kernel
theorem d_M_predicted_154 : decode prog_13_method_34_code 154 = .ok (.bipush 8, 2) := by decide +kernel
theorem d_M_predicted_156 : decode prog_13_method_34_code 156 = .ok (.iadd, 1) := by decide +kernel
theorem d_M_predicted_157 : decode prog_13_method_34_code 157 = .ok (.iconst 4, 1) := by decide +kernel
theorem d_M_predicted_158 : decode prog_13_method_34_code 158 = .ok (.ishr, 1) := by decide +kernel
theorem d_M_predicted_159 : decode prog_13_method_34_code 159 = .ok (.ireturn, 1) := by decide +kernel
theorem d_M_predicted_160 : decode prog_13_method_34_code 160 = .ok (.iload_n 1, 1) := by decide +kernel
theorem d_M_predicted_161 : decode prog_13_method_34_code 161 = .ok (.iconst 5, 1) := by decide +kernel
theorem d_M_predicted_162 : decode prog_13_method_34_code 162 = .ok (.if_icmp .ne 57, 3) := by decide +kernel
theorem d_M_predicted_165 : decode prog_13_method_34_code 165 = .ok (.iload_n 2, 1) := by decide +kernel
theorem d_M_predicted_166 : decode prog_13_method_34_code 166 = .ok (.iload_n 3, 1) := by decide +kernel
theorem d_M_predicted_167 : decode prog_13_method_34_code 167 = .ok (.iadd, 1) := by decide +kernel
theorem d_M_predicted_168 : decode prog_13_method_34_code 168 = .ok (.iconst 3, 1) := by decide +kernel
theorem d_M_predicted_169 : decode prog_13_method_34_code 169 = .ok (.if_icmp .ge 9, 3) := by decide +kernel
theorem d_M_predicted_172 : decode prog_13_method_34_code 172 = .ok (.iload_n 2, 1) := by decide +kernel
theorem d_M_predicted_173 : decode prog_13_method_34_code 173 = .ok (.iload_n 3, 1) := by decide +kernel
theorem d_M_predicted_174 : decode prog_13_method_34_code 174 = .ok (.iadd, 1) := by decide +kernel
theorem d_M_predicted_175 : decode prog_13_method_34_code 175 = .ok (.goto 4, 3) := by decide +kernel
theorem d_M_predicted_178 : decode prog_13_method_34_code 178 = .ok (.iconst 3, 1) := by decide +kernel
theorem d_M_predicted_179 : decode prog_13_method_34_code 179 = .ok (.istore 4, 2) := by decide +kernel
theorem d_M_predicted_181 : decode prog_13_method_34_code 181 = .ok (.iload_n 2, 1) := by decide +kernel
theorem d_M_predicted_182 : decode prog_13_method_34_code 182 = .ok (.iload_n 3, 1) := by decide +kernel
theorem d_M_predicted_183 : decode prog_13_method_34_code 183 = .ok (.iadd, 1) := by decide +kernel
theorem d_M_predicted_184 : decode prog_13_method_34_code 184 = .ok (.iconst 2, 1) := by decide +kernel
theorem d_M_predicted_185 : decode prog_13_method_34_code 185 = .ok (.if_icmp .ge 11, 3) := by decide +kernel
theorem d_M_predicted_188 : decode prog_13_method_34_code 188 = .ok (.iload_n 2, 1) := by decide +kernel
theorem d_M_predicted_189 : decode prog_13_method_34_code 189 = .ok (.iload_n 3, 1) := by decide +kernel
theorem d_M_predicted_190 : decode prog_13_method_34_code 190 = .ok (.iadd, 1) := by decide +kernel
theorem d_M_predicted_191 : decode prog_13_method_34_code 191 = .ok (.iconst 1, 1) := by decide +kernel
theorem d_M_predicted_192 : decode prog_13_method_34_code 192 = .ok (.iadd, 1) := by decide +kernel
theorem d_M_predicted_193 : decode prog_13_method_34_code 193 = .ok (.goto 4, 3) := by decide +kernel
theorem d_M_predicted_196 : decode prog_13_method_34_code 196 = .ok (.iconst 3, 1) := by decide +kernel
theorem d_M_predicted_197 : decode prog_13_method_34_code 197 = .ok (.istore 5, 2) := by decide +kernel
theorem d_M_predicted_199 : decode prog_13_method_34_code 199 = .ok (.aload_n 0, 1) := by decide +kernel
theorem d_M_predicted_200 : decode prog_13_method_34_code 200 = .ok (.getfield 58, 3) := by decide +kernel
theorem d_M_predicted_203 : decode prog_13_method_34_code 203 = .ok (.iload 4, 2) := by decide +kernel
theorem d_M_predicted_205 : decode prog_13_method_34_code 205 = .ok (.iaload, 1) := by decide +kernel
theorem d_M_predicted_206 : decode prog_13_method_34_code 206 = .ok (.aload_n 0, 1) := by decide +kernel
theorem d_M_predicted_207 : decode prog_13_method_34_code 207 = .ok (.getfield 58, 3) := by decide +kernel
theorem d_M_predicted_210 : decode prog_13_method_34_code 210 = .ok (.iload 5, 2) := by decide +kernel
theorem d_M_predicted_212 : decode prog_13_method_34_code 212 = .ok (.iaload, 1) := by decide +kernel
theorem d_M_predicted_213 : decode prog_13_method_34_code 213 = .ok (.iadd, 1) := by decide +kernel
theorem d_M_predicted_214 : decode prog_13_method_34_code 214 = .ok (.iconst 1, 1) := by decide +kernel
theorem d_M_predicted_215 : decode prog_13_method_34_code 215 = .ok (.iadd, 1) := by decide +kernel
theorem d_M_predicted_216 : decode prog_13_method_34_code 216 = .ok (.iconst 1, 1) := by decide +kernel
theorem d_M_predicted_217 : decode prog_13_method_34_code 217 = .ok (.ishr, 1) := by decide +kernel
theorem d_M_predicted_218 : decode prog_13_method_34_code 218 = .ok (.ireturn, 1) := by decide +kernel
theorem d_M_predicted_219 : decode prog_13_method_34_code 219 = .ok (.aload_n 0, 1) := by decide +kernel
theorem d_M_predicted_220 : decode prog_13_method_34_code 220 = .ok (.getfield 58, 3) := by decide +kernel
theorem d_M_predicted_223 : decode prog_13_method_34_code 223 = .ok (.iload_n 2, 1) := by decide +kernel
theorem d_M_predicted_224 : decode prog_13_method_34_code 224 = .ok (.iaload, 1) := by decide +kernel
theorem d_M_predicted_225 : decode prog_13_method_34_code 225 = .ok (.aload_n 0, 1) := by decide +kernel
theorem d_M_predicted_226 : decode prog_13_method_34_code 226 = .ok (.getfield 61, 3) := by decide +kernel
theorem d_M_predicted_229 : decode prog_13_method_34_code 229 = .ok (.iload_n 3, 1) := by decide +kernel
theorem d_M_predicted_230 : decode prog_13_method_34_code 230 = .ok (.iaload, 1) := by decide +kernel
theorem d_M_predicted_231 : decode prog_13_method_34_code 231 = .ok (.iadd, 1) := by decide +kernel
theorem d_M_predicted_232 : decode prog_13_method_34_code 232 = .ok (.aload_n 0, 1) := by decide +kernel
theorem d_M_predicted_233 : decode prog_13_method_34_code 233 = .ok (.getfield 248, 3) := by decide +kernel
theorem d_M_predicted_236 : decode prog_13_method_34_code 236 = .ok (.isub, 1) := by decide +kernel
theorem d_M_predicted_237 : decode prog_13_method_34_code 237 = .ok (.istore 4, 2) := by decide +kernel
theorem d_M_predicted_239 : decode prog_13_method_34_code 239 = .ok (.aload_n 0, 1) := by decide +kernel
theorem d_M_predicted_240 : decode prog_13_method_34_code 240 = .ok (.getfield 61, 3) := by decide +kernel
theorem d_M_predicted_243 : decode prog_13_method_34_code 243 = .ok (.iload_n 3, 1) := by decide +kernel
theorem d_M_predicted_244 : decode prog_13_method_34_code 244 = .ok (.iaload, 1) := by decide +kernel
theorem d_M_predicted_245 : decode prog_13_method_34_code 245 = .ok (.istore 5, 2) := by decide +kernel
theorem d_M_predicted_247 : decode prog_13_method_34_code 247 = .ok (.aload_n 0, 1) := by decide +kernel
theorem d_M_predicted_248 : decode prog_13_method_34_code 248 = .ok (.getfield 58, 3) := by decide +kernel
theorem d_M_predicted_251 : decode prog_13_method_34_code 251 = .ok (.iload_n 2, 1) := by decide +kernel
theorem d_M_predicted_252 : decode prog_13_method_34_code 252 = .ok (.iaload, 1) := by decide +kernel
theorem d_M_predicted_253 : decode prog_13_method_34_code 253 = .ok (.iload 4, 2) := by decide +kernel
theorem d_M_predicted_255 : decode prog_13_method_34_code 255 = .ok (.invokestatic 251, 3) := by decide +kernel
theorem d_M_predicted_258 : decode prog_13_method_34_code 258 = .ok (.iload 5, 2) := by decide +kernel
theorem d_M_predicted_260 : decode prog_13_method_34_code 260 = .ok (.iload 4, 2) := by decide +kernel
theorem d_M_predicted_262 : decode prog_13_method_34_code 262 = .ok (.invokestatic 251, 3) := by decide +kernel
theorem d_M_predicted_265 : decode prog_13_method_34_code 265 = .ok (.if_icmp .ge 11, 3) := by decide +kernel
theorem d_M_predicted_268 : decode prog_13_method_34_code 268 = .ok (.aload_n 0, 1) := by decide +kernel
theorem d_M_predicted_269 : decode prog_13_method_34_code 269 = .ok (.getfield 58, 3) := by decide +kernel
theorem d_M_predicted_272 : decode prog_13_method_34_code 272 = .ok (.iload_n 2, 1) := by decide +kernel
theorem d_M_predicted_273 : decode prog_13_method_34_code 273 = .ok (.iaload, 1) := by decide +kernel
theorem d_M_predicted_274 : decode prog_13_method_34_code 274 = .ok (.istore 5, 2) := by decide +kernel
theorem d_M_predicted_276 : decode prog_13_method_34_code 276 = .ok (.aload_n 0, 1) := by decide +kernel
theorem d_M_predicted_277 : decode prog_13_method_34_code 277 = .ok (.getfield 248, 3) := by decide +kernel
theorem d_M_predicted_280 : decode prog_13_method_34_code 280 = .ok (.iload 4, 2) := by decide +kernel
theorem d_M_predicted_282 : decode prog_13_method_34_code 282 = .ok (.invokestatic 251, 3) := by decide +kernel
theorem d_M_predicted_285 : decode prog_13_method_34_code 285 = .ok (.iload 5, 2) := by decide +kernel
theorem d_M_predicted_287 : decode prog_13_method_34_code 287 = .ok (.iload 4, 2) := by decide +kernel
theorem d_M_predicted_289 : decode prog_13_method_34_code 289 = .ok (.invokestatic 251, 3) := by decide +kernel
theorem d_M_predicted_292 : decode prog_13_method_34_code 292 = .ok (.if_icmp .ge 10, 3) := by decide +kernel
theorem d_M_predicted_295 : decode prog_13_method_34_code 295 = .ok (.aload_n 0, 1) := by decide +kernel
theorem d_M_predicted_296 : decode prog_13_method_34_code 296 = .ok (.getfield 248, 3) := by decide +kernel
theorem d_M_predicted_299 : decode prog_13_method_34_code 299 = .ok (.goto 5, 3) := by decide +kernel
theorem d_M_predicted_302 : decode prog_13_method_34_code 302 = .ok (.iload 5, 2) := by decide +kernel
theorem d_M_predicted_304 : decode prog_13_method_34_code 304 = .ok (.ireturn, 1) := by decide +kernel
theorem d_M_nextBit_0 : decode prog_13_method_25_code 0 = .ok (.aload_n 0, 1) := by decide +kernel
theorem d_M_nextBit_1 : decode prog_13_method_25_code 1 = .ok (.getfield 195, 3) := by decide +kernel
theorem d_M_nextBit_4 : decode prog_13_method_25_code 4 = .ok (.aload_n 0, 1) := by decide +kernel
theorem d_M_nextBit_5 : decode prog_13_method_25_code 5 = .ok (.getfield 201, 3) := by decide +kernel
theorem d_M_nextBit_8 : decode prog_13_method_25_code 8 = .ok (.iadd, 1) := by decide +kernel
theorem d_M_nextBit_9 : decode prog_13_method_25_code 9 = .ok (.istore_n 1, 1) := by decide +kernel
theorem d_M_nextBit_10 : decode prog_13_method_25_code 10 = .ok (.aload_n 0, 1) := by decide +kernel
theorem d_M_nextBit_11 : decode prog_13_method_25_code 11 = .ok (.dup, 1) := by decide +kernel
theorem d_M_nextBit_12 : decode prog_13_method_25_code 12 = .ok (.getfield 201, 3) := by decide +kernel
theorem d_M_nextBit_15 : decode prog_13_method_25_code 15 = .ok (.iconst 1, 1) := by decide +kernel
theorem d_M_nextBit_16 : decode prog_13_method_25_code 16 = .ok (.iadd, 1) := by decide +kernel
theorem d_M_nextBit_17 : decode prog_13_method_25_code 17 = .ok (.putfield 201, 3) := by decide +kernel
theorem d_M_nextBit_20 : decode prog_13_method_25_code 20 = .ok (.iload_n 1, 1) := by decide +kernel
theorem d_M_nextBit_21 : decode prog_13_method_25_code 21 = .ok (.aload_n 0, 1) := by decide +kernel
theorem d_M_nextBit_22 : decode prog_13_method_25_code 22 = .ok (.getfield 198, 3) := by decide +kernel
theorem d_M_nextBit_25 : decode prog_13_method_25_code 25 = .ok (.if_icmp .ge 25, 3) := by decide +kernel
theorem d_M_nextBit_28 : decode prog_13_method_25_code 28 = .ok (.aload_n 0, 1) := by decide +kernel
theorem d_M_nextBit_29 : decode prog_13_method_25_code 29 = .ok (.getfield 28, 3) := by decide +kernel
theorem d_M_nextBit_32 : decode prog_13_method_25_code 32 = .ok (.iload_n 1, 1) := by decide +kernel
theorem d_M_nextBit_33 : decode prog_13_method_25_code 33 = .ok (.bipush 8, 2) := by decide +kernel
theorem d_M_nextBit_35 : decode prog_13_method_25_code 35 = .ok (.idiv, 1) := by decide +kernel
theorem d_M_nextBit_36 : decode prog_13_method_25_code 36 = .ok (.iaload, 1) := by decide +kernel
theorem d_M_nextBit_37 : decode prog_13_method_25_code 37 = .ok (.bipush 7, 2) := by decide +kernel
theorem d_M_nextBit_39 : decode prog_13_method_25_code 39 = .ok (.iload_n 1, 1) := by decide +kernel
theorem d_M_nextBit_40 : decode prog_13_method_25_code 40 = .ok (.bipush 8, 2) := by decide +kernel
theorem d_M_nextBit_42 : decode prog_13_method_25_code 42 = .ok (.irem, 1) := by decide +kernel
theorem d_M_nextBit_43 : decode prog_13_method_25_code 43 = .ok (.isub, 1) := by decide +kernel
theorem d_M_nextBit_44 : decode prog_13_method_25_code 44 = .ok (.ishr, 1) := by decide +kernel
theorem d_M_nextBit_45 : decode prog_13_method_25_code 45 = .ok (.iconst 1, 1) := by decide +kernel
theorem d_M_nextBit_46 : decode prog_13_method_25_code 46 = .ok (.iand, 1) := by decide +kernel
theorem d_M_nextBit_47 : decode prog_13_method_25_code 47 = .ok (.goto 4, 3) := by decide +kernel
theorem d_M_nextBit_50 : decode prog_13_method_25_code 50 = .ok (.iconst 0, 1) := by decide +kernel
theorem d_M_nextBit_51 : decode prog_13_method_25_code 51 = .ok (.ireturn, 1) := by decide +kernel
theorem d_M_narrow_0 : decode prog_13_method_26_code 0 = .ok (.aload_n 0, 1) := by decide +kernel
theorem d_M_narrow_1 : decode prog_13_method_26_code 1 = .ok (.aload_n 0, 1) := by decide +kernel
theorem d_M_narrow_2 : decode prog_13_method_26_code 2 = .ok (.getfield 204, 3) := by decide +kernel
theorem d_M_narrow_5 : decode prog_13_method_26_code 5 = .ok (.iload_n 1, 1) := by decide +kernel
theorem d_M_narrow_6 : decode prog_13_method_26_code 6 = .ok (.isub, 1) := by decide +kernel
theorem d_M_narrow_7 : decode prog_13_method_26_code 7 = .ok (.putfield 204, 3) := by decide +kernel
theorem d_M_narrow_10 : decode prog_13_method_26_code 10 = .ok (.aload_n 0, 1) := by decide +kernel
theorem d_M_narrow_11 : decode prog_13_method_26_code 11 = .ok (.iload_n 2, 1) := by decide +kernel
theorem d_M_narrow_12 : decode prog_13_method_26_code 12 = .ok (.iload_n 1, 1) := by decide +kernel
theorem d_M_narrow_13 : decode prog_13_method_26_code 13 = .ok (.isub, 1) := by decide +kernel
theorem d_M_narrow_14 : decode prog_13_method_26_code 14 = .ok (.putfield 207, 3) := by decide +kernel
theorem d_M_narrow_17 : decode prog_13_method_26_code 17 = .ok (.aload_n 0, 1) := by decide +kernel
theorem d_M_narrow_18 : decode prog_13_method_26_code 18 = .ok (.dup, 1) := by decide +kernel
theorem d_M_narrow_19 : decode prog_13_method_26_code 19 = .ok (.getfield 210, 3) := by decide +kernel
theorem d_M_narrow_22 : decode prog_13_method_26_code 22 = .ok (.iconst 1, 1) := by decide +kernel
theorem d_M_narrow_23 : decode prog_13_method_26_code 23 = .ok (.iadd, 1) := by decide +kernel
theorem d_M_narrow_24 : decode prog_13_method_26_code 24 = .ok (.putfield 210, 3) := by decide +kernel
theorem d_M_narrow_27 : decode prog_13_method_26_code 27 = .ok (.aload_n 0, 1) := by decide +kernel
theorem d_M_narrow_28 : decode prog_13_method_26_code 28 = .ok (.getfield 207, 3) := by decide +kernel
theorem d_M_narrow_31 : decode prog_13_method_26_code 31 = .ok (.sipush 16384, 3) := by decide +kernel
theorem d_M_narrow_34 : decode prog_13_method_26_code 34 = .ok (.if_icmp .ge 31, 3) := by decide +kernel
theorem d_M_narrow_37 : decode prog_13_method_26_code 37 = .ok (.aload_n 0, 1) := by decide +kernel
theorem d_M_narrow_38 : decode prog_13_method_26_code 38 = .ok (.iconst 2, 1) := by decide +kernel
theorem d_M_narrow_39 : decode prog_13_method_26_code 39 = .ok (.aload_n 0, 1) := by decide +kernel
theorem d_M_narrow_40 : decode prog_13_method_26_code 40 = .ok (.getfield 207, 3) := by decide +kernel
theorem d_M_narrow_43 : decode prog_13_method_26_code 43 = .ok (.imul, 1) := by decide +kernel
theorem d_M_narrow_44 : decode prog_13_method_26_code 44 = .ok (.putfield 207, 3) := by decide +kernel
theorem d_M_narrow_47 : decode prog_13_method_26_code 47 = .ok (.aload_n 0, 1) := by decide +kernel
theorem d_M_narrow_48 : decode prog_13_method_26_code 48 = .ok (.iconst 2, 1) := by decide +kernel
theorem d_M_narrow_49 : decode prog_13_method_26_code 49 = .ok (.aload_n 0, 1) := by decide +kernel
theorem d_M_narrow_50 : decode prog_13_method_26_code 50 = .ok (.getfield 204, 3) := by decide +kernel
theorem d_M_narrow_53 : decode prog_13_method_26_code 53 = .ok (.imul, 1) := by decide +kernel
theorem d_M_narrow_54 : decode prog_13_method_26_code 54 = .ok (.aload_n 0, 1) := by decide +kernel
theorem d_M_narrow_55 : decode prog_13_method_26_code 55 = .ok (.invokevirtual 213, 3) := by decide +kernel
theorem d_M_narrow_58 : decode prog_13_method_26_code 58 = .ok (.iadd, 1) := by decide +kernel
theorem d_M_narrow_59 : decode prog_13_method_26_code 59 = .ok (.putfield 204, 3) := by decide +kernel
theorem d_M_narrow_62 : decode prog_13_method_26_code 62 = .ok (.goto (-35), 3) := by decide +kernel
theorem d_M_narrow_65 : decode prog_13_method_26_code 65 = .ok (.return_, 1) := by decide +kernel
theorem d_M_bit_0 : decode prog_13_method_28_code 0 = .ok (.aload_n 0, 1) := by decide +kernel
theorem d_M_bit_1 : decode prog_13_method_28_code 1 = .ok (.getfield 207, 3) := by decide +kernel
theorem d_M_bit_4 : decode prog_13_method_28_code 4 = .ok (.iconst 1, 1) := by decide +kernel
theorem d_M_bit_5 : decode prog_13_method_28_code 5 = .ok (.ishr, 1) := by decide +kernel
theorem d_M_bit_6 : decode prog_13_method_28_code 6 = .ok (.istore_n 1, 1) := by decide +kernel
theorem d_M_bit_7 : decode prog_13_method_28_code 7 = .ok (.aload_n 0, 1) := by decide +kernel
theorem d_M_bit_8 : decode prog_13_method_28_code 8 = .ok (.getfield 204, 3) := by decide +kernel
theorem d_M_bit_11 : decode prog_13_method_28_code 11 = .ok (.iload_n 1, 1) := by decide +kernel
theorem d_M_bit_12 : decode prog_13_method_28_code 12 = .ok (.if_icmp .lt 7, 3) := by decide +kernel
theorem d_M_bit_15 : decode prog_13_method_28_code 15 = .ok (.iconst 1, 1) := by decide +kernel
theorem d_M_bit_16 : decode prog_13_method_28_code 16 = .ok (.goto 4, 3) := by decide +kernel
theorem d_M_bit_19 : decode prog_13_method_28_code 19 = .ok (.iconst 0, 1) := by decide +kernel
theorem d_M_bit_20 : decode prog_13_method_28_code 20 = .ok (.istore_n 2, 1) := by decide +kernel
theorem d_M_bit_21 : decode prog_13_method_28_code 21 = .ok (.aload_n 0, 1) := by decide +kernel
theorem d_M_bit_22 : decode prog_13_method_28_code 22 = .ok (.iload_n 2, 1) := by decide +kernel
theorem d_M_bit_23 : decode prog_13_method_28_code 23 = .ok (.ifCond .eq 7, 3) := by decide +kernel
theorem d_M_bit_26 : decode prog_13_method_28_code 26 = .ok (.iload_n 1, 1) := by decide +kernel
theorem d_M_bit_27 : decode prog_13_method_28_code 27 = .ok (.goto 4, 3) := by decide +kernel
theorem d_M_bit_30 : decode prog_13_method_28_code 30 = .ok (.iconst 0, 1) := by decide +kernel
theorem d_M_bit_31 : decode prog_13_method_28_code 31 = .ok (.iload_n 2, 1) := by decide +kernel
theorem d_M_bit_32 : decode prog_13_method_28_code 32 = .ok (.ifCond .eq 10, 3) := by decide +kernel
theorem d_M_bit_35 : decode prog_13_method_28_code 35 = .ok (.aload_n 0, 1) := by decide +kernel
theorem d_M_bit_36 : decode prog_13_method_28_code 36 = .ok (.getfield 207, 3) := by decide +kernel
theorem d_M_bit_39 : decode prog_13_method_28_code 39 = .ok (.goto 4, 3) := by decide +kernel
theorem d_M_bit_42 : decode prog_13_method_28_code 42 = .ok (.iload_n 1, 1) := by decide +kernel
theorem d_M_bit_43 : decode prog_13_method_28_code 43 = .ok (.invokevirtual 219, 3) := by decide +kernel
theorem d_M_bit_46 : decode prog_13_method_28_code 46 = .ok (.iload_n 2, 1) := by decide +kernel
theorem d_M_bit_47 : decode prog_13_method_28_code 47 = .ok (.ifCond .eq 7, 3) := by decide +kernel
theorem d_M_bit_50 : decode prog_13_method_28_code 50 = .ok (.iconst 1, 1) := by decide +kernel
theorem d_M_bit_51 : decode prog_13_method_28_code 51 = .ok (.goto 4, 3) := by decide +kernel
theorem d_M_bit_54 : decode prog_13_method_28_code 54 = .ok (.iconst 0, 1) := by decide +kernel
theorem d_M_bit_55 : decode prog_13_method_28_code 55 = .ok (.ireturn, 1) := by decide +kernel
theorem d_M_fail_0 : decode prog_13_method_8_code 0 = .ok (.aload_n 0, 1) := by decide +kernel
theorem d_M_fail_1 : decode prog_13_method_8_code 1 = .ok (.aload_n 0, 1) := by decide +kernel
theorem d_M_fail_2 : decode prog_13_method_8_code 2 = .ok (.getfield 78, 3) := by decide +kernel
theorem d_M_fail_5 : decode prog_13_method_8_code 5 = .ok (.ifCond .ne 7, 3) := by decide +kernel
theorem d_M_fail_8 : decode prog_13_method_8_code 8 = .ok (.iload_n 1, 1) := by decide +kernel
theorem d_M_fail_9 : decode prog_13_method_8_code 9 = .ok (.goto 7, 3) := by decide +kernel
theorem d_M_fail_12 : decode prog_13_method_8_code 12 = .ok (.aload_n 0, 1) := by decide +kernel
theorem d_M_fail_13 : decode prog_13_method_8_code 13 = .ok (.getfield 78, 3) := by decide +kernel
theorem d_M_fail_16 : decode prog_13_method_8_code 16 = .ok (.putfield 78, 3) := by decide +kernel
theorem d_M_fail_19 : decode prog_13_method_8_code 19 = .ok (.return_, 1) := by decide +kernel
theorem d_M_more_0 : decode prog_13_method_37_code 0 = .ok (.iconst 0, 1) := by decide +kernel
theorem d_M_more_1 : decode prog_13_method_37_code 1 = .ok (.istore_n 1, 1) := by decide +kernel
theorem d_M_more_2 : decode prog_13_method_37_code 2 = .ok (.iload_n 1, 1) := by decide +kernel
theorem d_M_more_3 : decode prog_13_method_37_code 3 = .ok (.bipush 13, 2) := by decide +kernel
theorem d_M_more_5 : decode prog_13_method_37_code 5 = .ok (.if_icmp .ge 16, 3) := by decide +kernel
theorem d_M_more_8 : decode prog_13_method_37_code 8 = .ok (.aload_n 0, 1) := by decide +kernel
theorem d_M_more_9 : decode prog_13_method_37_code 9 = .ok (.invokevirtual 257, 3) := by decide +kernel
theorem d_M_more_12 : decode prog_13_method_37_code 12 = .ok (.ifCond .ne 9, 3) := by decide +kernel
theorem d_M_more_15 : decode prog_13_method_37_code 15 = .ok (.iinc 1 1, 3) := by decide +kernel
theorem d_M_more_18 : decode prog_13_method_37_code 18 = .ok (.goto (-16), 3) := by decide +kernel
theorem d_M_more_21 : decode prog_13_method_37_code 21 = .ok (.iload_n 1, 1) := by decide +kernel
theorem d_M_more_22 : decode prog_13_method_37_code 22 = .ok (.bipush 13, 2) := by decide +kernel
theorem d_M_more_24 : decode prog_13_method_37_code 24 = .ok (.if_icmp .ne 11, 3) := by decide +kernel
theorem d_M_more_27 : decode prog_13_method_37_code 27 = .ok (.aload_n 0, 1) := by decide +kernel
theorem d_M_more_28 : decode prog_13_method_37_code 28 = .ok (.bipush 8, 2) := by decide +kernel
theorem d_M_more_30 : decode prog_13_method_37_code 30 = .ok (.invokevirtual 119, 3) := by decide +kernel
theorem d_M_more_33 : decode prog_13_method_37_code 33 = .ok (.iconst 0, 1) := by decide +kernel
theorem d_M_more_34 : decode prog_13_method_37_code 34 = .ok (.ireturn, 1) := by decide +kernel
theorem d_M_more_35 : decode prog_13_method_37_code 35 = .ok (.iconst 0, 1) := by decide +kernel
theorem d_M_more_36 : decode prog_13_method_37_code 36 = .ok (.istore_n 2, 1) := by decide +kernel
theorem d_M_more_37 : decode prog_13_method_37_code 37 = .ok (.iconst 0, 1) := by decide +kernel
theorem d_M_more_38 : decode prog_13_method_37_code 38 = .ok (.istore_n 3, 1) := by decide +kernel
theorem d_M_more_39 : decode prog_13_method_37_code 39 = .ok (.iload_n 3, 1) := by decide +kernel
theorem d_M_more_40 : decode prog_13_method_37_code 40 = .ok (.iload_n 1, 1) := by decide +kernel
theorem d_M_more_41 : decode prog_13_method_37_code 41 = .ok (.if_icmp .ge 18, 3) := by decide +kernel
theorem d_M_more_44 : decode prog_13_method_37_code 44 = .ok (.iconst 2, 1) := by decide +kernel
theorem d_M_more_45 : decode prog_13_method_37_code 45 = .ok (.iload_n 2, 1) := by decide +kernel
theorem d_M_more_46 : decode prog_13_method_37_code 46 = .ok (.imul, 1) := by decide +kernel
theorem d_M_more_47 : decode prog_13_method_37_code 47 = .ok (.aload_n 0, 1) := by decide +kernel
theorem d_M_more_48 : decode prog_13_method_37_code 48 = .ok (.invokevirtual 257, 3) := by decide +kernel
theorem d_M_more_51 : decode prog_13_method_37_code 51 = .ok (.iadd, 1) := by decide +kernel
theorem d_M_more_52 : decode prog_13_method_37_code 52 = .ok (.istore_n 2, 1) := by decide +kernel
theorem d_M_more_53 : decode prog_13_method_37_code 53 = .ok (.iinc 3 1, 3) := by decide +kernel
theorem d_M_more_56 : decode prog_13_method_37_code 56 = .ok (.goto (-17), 3) := by decide +kernel
theorem d_M_more_59 : decode prog_13_method_37_code 59 = .ok (.iconst 1, 1) := by decide +kernel
theorem d_M_more_60 : decode prog_13_method_37_code 60 = .ok (.iload_n 1, 1) := by decide +kernel
theorem d_M_more_61 : decode prog_13_method_37_code 61 = .ok (.ishl, 1) := by decide +kernel
theorem d_M_more_62 : decode prog_13_method_37_code 62 = .ok (.iconst 1, 1) := by decide +kernel
theorem d_M_more_63 : decode prog_13_method_37_code 63 = .ok (.isub, 1) := by decide +kernel
theorem d_M_more_64 : decode prog_13_method_37_code 64 = .ok (.iload_n 2, 1) := by decide +kernel
theorem d_M_more_65 : decode prog_13_method_37_code 65 = .ok (.iadd, 1) := by decide +kernel
theorem d_M_more_66 : decode prog_13_method_37_code 66 = .ok (.ireturn, 1) := by decide +kernel
theorem d_M_symbol_0 : decode prog_13_method_27_code 0 = .ok (.iload_n 1, 1) := by decide +kernel
theorem d_M_symbol_1 : decode prog_13_method_27_code 1 = .ok (.invokestatic 216, 3) := by decide +kernel
theorem d_M_symbol_4 : decode prog_13_method_27_code 4 = .ok (.istore_n 2, 1) := by decide +kernel
theorem d_M_symbol_5 : decode prog_13_method_27_code 5 = .ok (.iconst 0, 1) := by decide +kernel
theorem d_M_symbol_6 : decode prog_13_method_27_code 6 = .ok (.istore_n 3, 1) := by decide +kernel
theorem d_M_symbol_7 : decode prog_13_method_27_code 7 = .ok (.iload_n 3, 1) := by decide +kernel
theorem d_M_symbol_8 : decode prog_13_method_27_code 8 = .ok (.iload_n 2, 1) := by decide +kernel
theorem d_M_symbol_9 : decode prog_13_method_27_code 9 = .ok (.iconst 1, 1) := by decide +kernel
theorem d_M_symbol_10 : decode prog_13_method_27_code 10 = .ok (.isub, 1) := by decide +kernel
theorem d_M_symbol_11 : decode prog_13_method_27_code 11 = .ok (.if_icmp .ge 35, 3) := by decide +kernel
theorem d_M_symbol_14 : decode prog_13_method_27_code 14 = .ok (.aload_n 0, 1) := by decide +kernel
theorem d_M_symbol_15 : decode prog_13_method_27_code 15 = .ok (.getfield 204, 3) := by decide +kernel
theorem d_M_symbol_18 : decode prog_13_method_27_code 18 = .ok (.aload_n 0, 1) := by decide +kernel
theorem d_M_symbol_19 : decode prog_13_method_27_code 19 = .ok (.getfield 207, 3) := by decide +kernel
theorem d_M_symbol_22 : decode prog_13_method_27_code 22 = .ok (.aload_n 0, 1) := by decide +kernel
theorem d_M_symbol_23 : decode prog_13_method_27_code 23 = .ok (.getfield 31, 3) := by decide +kernel
theorem d_M_symbol_26 : decode prog_13_method_27_code 26 = .ok (.bipush 16, 2) := by decide +kernel
theorem d_M_symbol_28 : decode prog_13_method_27_code 28 = .ok (.iload_n 1, 1) := by decide +kernel
theorem d_M_symbol_29 : decode prog_13_method_27_code 29 = .ok (.imul, 1) := by decide +kernel
theorem d_M_symbol_30 : decode prog_13_method_27_code 30 = .ok (.iload_n 3, 1) := by decide +kernel
theorem d_M_symbol_31 : decode prog_13_method_27_code 31 = .ok (.iadd, 1) := by decide +kernel
theorem d_M_symbol_32 : decode prog_13_method_27_code 32 = .ok (.iaload, 1) := by decide +kernel
theorem d_M_symbol_33 : decode prog_13_method_27_code 33 = .ok (.imul, 1) := by decide +kernel
theorem d_M_symbol_34 : decode prog_13_method_27_code 34 = .ok (.bipush 15, 2) := by decide +kernel
theorem d_M_symbol_36 : decode prog_13_method_27_code 36 = .ok (.ishr, 1) := by decide +kernel
theorem d_M_symbol_37 : decode prog_13_method_27_code 37 = .ok (.if_icmp .lt 9, 3) := by decide +kernel
theorem d_M_symbol_40 : decode prog_13_method_27_code 40 = .ok (.iinc 3 1, 3) := by decide +kernel
theorem d_M_symbol_43 : decode prog_13_method_27_code 43 = .ok (.goto (-36), 3) := by decide +kernel
theorem d_M_symbol_46 : decode prog_13_method_27_code 46 = .ok (.iload_n 3, 1) := by decide +kernel
theorem d_M_symbol_47 : decode prog_13_method_27_code 47 = .ok (.ifCond .ne 7, 3) := by decide +kernel
theorem d_M_symbol_50 : decode prog_13_method_27_code 50 = .ok (.iconst 0, 1) := by decide +kernel
theorem d_M_symbol_51 : decode prog_13_method_27_code 51 = .ok (.goto 24, 3) := by decide +kernel
theorem d_M_symbol_54 : decode prog_13_method_27_code 54 = .ok (.aload_n 0, 1) := by decide +kernel
theorem d_M_symbol_55 : decode prog_13_method_27_code 55 = .ok (.getfield 207, 3) := by decide +kernel
theorem d_M_symbol_58 : decode prog_13_method_27_code 58 = .ok (.aload_n 0, 1) := by decide +kernel
theorem d_M_symbol_59 : decode prog_13_method_27_code 59 = .ok (.getfield 31, 3) := by decide +kernel
theorem d_M_symbol_62 : decode prog_13_method_27_code 62 = .ok (.bipush 16, 2) := by decide +kernel
theorem d_M_symbol_64 : decode prog_13_method_27_code 64 = .ok (.iload_n 1, 1) := by decide +kernel
theorem d_M_symbol_65 : decode prog_13_method_27_code 65 = .ok (.imul, 1) := by decide +kernel
theorem d_M_symbol_66 : decode prog_13_method_27_code 66 = .ok (.iload_n 3, 1) := by decide +kernel
theorem d_M_symbol_67 : decode prog_13_method_27_code 67 = .ok (.iadd, 1) := by decide +kernel
theorem d_M_symbol_68 : decode prog_13_method_27_code 68 = .ok (.iconst 1, 1) := by decide +kernel
theorem d_M_symbol_69 : decode prog_13_method_27_code 69 = .ok (.isub, 1) := by decide +kernel
theorem d_M_symbol_70 : decode prog_13_method_27_code 70 = .ok (.iaload, 1) := by decide +kernel
theorem d_M_symbol_71 : decode prog_13_method_27_code 71 = .ok (.imul, 1) := by decide +kernel
theorem d_M_symbol_72 : decode prog_13_method_27_code 72 = .ok (.bipush 15, 2) := by decide +kernel
theorem d_M_symbol_74 : decode prog_13_method_27_code 74 = .ok (.ishr, 1) := by decide +kernel
theorem d_M_symbol_75 : decode prog_13_method_27_code 75 = .ok (.istore 4, 2) := by decide +kernel
theorem d_M_symbol_77 : decode prog_13_method_27_code 77 = .ok (.aload_n 0, 1) := by decide +kernel
theorem d_M_symbol_78 : decode prog_13_method_27_code 78 = .ok (.iload 4, 2) := by decide +kernel
theorem d_M_symbol_80 : decode prog_13_method_27_code 80 = .ok (.aload_n 0, 1) := by decide +kernel
theorem d_M_symbol_81 : decode prog_13_method_27_code 81 = .ok (.getfield 207, 3) := by decide +kernel
theorem d_M_symbol_84 : decode prog_13_method_27_code 84 = .ok (.aload_n 0, 1) := by decide +kernel
theorem d_M_symbol_85 : decode prog_13_method_27_code 85 = .ok (.getfield 31, 3) := by decide +kernel
theorem d_M_symbol_88 : decode prog_13_method_27_code 88 = .ok (.bipush 16, 2) := by decide +kernel
theorem d_M_symbol_90 : decode prog_13_method_27_code 90 = .ok (.iload_n 1, 1) := by decide +kernel
theorem d_M_symbol_91 : decode prog_13_method_27_code 91 = .ok (.imul, 1) := by decide +kernel
theorem d_M_symbol_92 : decode prog_13_method_27_code 92 = .ok (.iload_n 3, 1) := by decide +kernel
theorem d_M_symbol_93 : decode prog_13_method_27_code 93 = .ok (.iadd, 1) := by decide +kernel
theorem d_M_symbol_94 : decode prog_13_method_27_code 94 = .ok (.iaload, 1) := by decide +kernel
theorem d_M_symbol_95 : decode prog_13_method_27_code 95 = .ok (.imul, 1) := by decide +kernel
theorem d_M_symbol_96 : decode prog_13_method_27_code 96 = .ok (.bipush 15, 2) := by decide +kernel
theorem d_M_symbol_98 : decode prog_13_method_27_code 98 = .ok (.ishr, 1) := by decide +kernel
theorem d_M_symbol_99 : decode prog_13_method_27_code 99 = .ok (.invokevirtual 219, 3) := by decide +kernel
theorem d_M_symbol_102 : decode prog_13_method_27_code 102 = .ok (.iconst 4, 1) := by decide +kernel
theorem d_M_symbol_103 : decode prog_13_method_27_code 103 = .ok (.aload_n 0, 1) := by decide +kernel
theorem d_M_symbol_104 : decode prog_13_method_27_code 104 = .ok (.getfield 34, 3) := by decide +kernel
theorem d_M_symbol_107 : decode prog_13_method_27_code 107 = .ok (.iload_n 1, 1) := by decide +kernel
theorem d_M_symbol_108 : decode prog_13_method_27_code 108 = .ok (.iaload, 1) := by decide +kernel
theorem d_M_symbol_109 : decode prog_13_method_27_code 109 = .ok (.bipush 15, 2) := by decide +kernel
theorem d_M_symbol_111 : decode prog_13_method_27_code 111 = .ok (.if_icmp .le 7, 3) := by decide +kernel
theorem d_M_symbol_114 : decode prog_13_method_27_code 114 = .ok (.iconst 1, 1) := by decide +kernel
theorem d_M_symbol_115 : decode prog_13_method_27_code 115 = .ok (.goto 4, 3) := by decide +kernel
theorem d_M_symbol_118 : decode prog_13_method_27_code 118 = .ok (.iconst 0, 1) := by decide +kernel
theorem d_M_symbol_119 : decode prog_13_method_27_code 119 = .ok (.iadd, 1) := by decide +kernel
theorem d_M_symbol_120 : decode prog_13_method_27_code 120 = .ok (.iload_n 2, 1) := by decide +kernel
theorem d_M_symbol_121 : decode prog_13_method_27_code 121 = .ok (.iconst 4, 1) := by decide +kernel
theorem d_M_symbol_122 : decode prog_13_method_27_code 122 = .ok (.if_icmp .le 7, 3) := by decide +kernel
theorem d_M_symbol_125 : decode prog_13_method_27_code 125 = .ok (.iconst 1, 1) := by decide +kernel
theorem d_M_symbol_126 : decode prog_13_method_27_code 126 = .ok (.goto 4, 3) := by decide +kernel
theorem d_M_symbol_129 : decode prog_13_method_27_code 129 = .ok (.iconst 0, 1) := by decide +kernel
theorem d_M_symbol_130 : decode prog_13_method_27_code 130 = .ok (.iadd, 1) := by decide +kernel
theorem d_M_symbol_131 : decode prog_13_method_27_code 131 = .ok (.istore 5, 2) := by decide +kernel
theorem d_M_symbol_133 : decode prog_13_method_27_code 133 = .ok (.aload_n 0, 1) := by decide +kernel
theorem d_M_symbol_134 : decode prog_13_method_27_code 134 = .ok (.getfield 34, 3) := by decide +kernel
theorem d_M_symbol_137 : decode prog_13_method_27_code 137 = .ok (.iload_n 1, 1) := by decide +kernel
theorem d_M_symbol_138 : decode prog_13_method_27_code 138 = .ok (.dup2, 1) := by decide +kernel
theorem d_M_symbol_139 : decode prog_13_method_27_code 139 = .ok (.iaload, 1) := by decide +kernel
theorem d_M_symbol_140 : decode prog_13_method_27_code 140 = .ok (.iconst 1, 1) := by decide +kernel
theorem d_M_symbol_141 : decode prog_13_method_27_code 141 = .ok (.iadd, 1) := by decide +kernel
theorem d_M_symbol_142 : decode prog_13_method_27_code 142 = .ok (.iastore, 1) := by decide +kernel
theorem d_M_symbol_143 : decode prog_13_method_27_code 143 = .ok (.iconst 0, 1) := by decide +kernel
theorem d_M_symbol_144 : decode prog_13_method_27_code 144 = .ok (.istore 6, 2) := by decide +kernel
theorem d_M_symbol_146 : decode prog_13_method_27_code 146 = .ok (.iload 6, 2) := by decide +kernel
theorem d_M_symbol_148 : decode prog_13_method_27_code 148 = .ok (.iload_n 2, 1) := by decide +kernel
theorem d_M_symbol_149 : decode prog_13_method_27_code 149 = .ok (.iconst 1, 1) := by decide +kernel
theorem d_M_symbol_150 : decode prog_13_method_27_code 150 = .ok (.isub, 1) := by decide +kernel
theorem d_M_symbol_151 : decode prog_13_method_27_code 151 = .ok (.if_icmp .ge 70, 3) := by decide +kernel
theorem d_M_symbol_154 : decode prog_13_method_27_code 154 = .ok (.aload_n 0, 1) := by decide +kernel
theorem d_M_symbol_155 : decode prog_13_method_27_code 155 = .ok (.getfield 186, 3) := by decide +kernel
theorem d_M_symbol_158 : decode prog_13_method_27_code 158 = .ok (.ifCond .ne 63, 3) := by decide +kernel
theorem d_M_symbol_161 : decode prog_13_method_27_code 161 = .ok (.aload_n 0, 1) := by decide +kernel
theorem d_M_symbol_162 : decode prog_13_method_27_code 162 = .ok (.getfield 31, 3) := by decide +kernel
theorem d_M_symbol_165 : decode prog_13_method_27_code 165 = .ok (.bipush 16, 2) := by decide +kernel
theorem d_M_symbol_167 : decode prog_13_method_27_code 167 = .ok (.iload_n 1, 1) := by decide +kernel
theorem d_M_symbol_168 : decode prog_13_method_27_code 168 = .ok (.imul, 1) := by decide +kernel
theorem d_M_symbol_169 : decode prog_13_method_27_code 169 = .ok (.iload 6, 2) := by decide +kernel
theorem d_M_symbol_171 : decode prog_13_method_27_code 171 = .ok (.iadd, 1) := by decide +kernel
theorem d_M_symbol_172 : decode prog_13_method_27_code 172 = .ok (.iaload, 1) := by decide +kernel
theorem d_M_symbol_173 : decode prog_13_method_27_code 173 = .ok (.istore 7, 2) := by decide +kernel
theorem d_M_symbol_175 : decode prog_13_method_27_code 175 = .ok (.aload_n 0, 1) := by decide +kernel
theorem d_M_symbol_176 : decode prog_13_method_27_code 176 = .ok (.getfield 31, 3) := by decide +kernel
theorem d_M_symbol_179 : decode prog_13_method_27_code 179 = .ok (.bipush 16, 2) := by decide +kernel
theorem d_M_symbol_181 : decode prog_13_method_27_code 181 = .ok (.iload_n 1, 1) := by decide +kernel
theorem d_M_symbol_182 : decode prog_13_method_27_code 182 = .ok (.imul, 1) := by decide +kernel
theorem d_M_symbol_183 : decode prog_13_method_27_code 183 = .ok (.iload 6, 2) := by decide +kernel
theorem d_M_symbol_185 : decode prog_13_method_27_code 185 = .ok (.iadd, 1) := by decide +kernel
theorem d_M_symbol_186 : decode prog_13_method_27_code 186 = .ok (.iload 6, 2) := by decide +kernel
theorem d_M_symbol_188 : decode prog_13_method_27_code 188 = .ok (.iload_n 3, 1) := by decide +kernel
theorem d_M_symbol_189 : decode prog_13_method_27_code 189 = .ok (.if_icmp .lt 17, 3) := by decide +kernel
theorem d_M_symbol_192 : decode prog_13_method_27_code 192 = .ok (.iload 7, 2) := by decide +kernel
theorem d_M_symbol_194 : decode prog_13_method_27_code 194 = .ok (.ldc 222, 2) := by decide +kernel
theorem d_M_symbol_196 : decode prog_13_method_27_code 196 = .ok (.iload 7, 2) := by decide +kernel
theorem d_M_symbol_198 : decode prog_13_method_27_code 198 = .ok (.isub, 1) := by decide +kernel
theorem d_M_symbol_199 : decode prog_13_method_27_code 199 = .ok (.iload 5, 2) := by decide +kernel
theorem d_M_symbol_201 : decode prog_13_method_27_code 201 = .ok (.ishr, 1) := by decide +kernel
theorem d_M_symbol_202 : decode prog_13_method_27_code 202 = .ok (.iadd, 1) := by decide +kernel
theorem d_M_symbol_203 : decode prog_13_method_27_code 203 = .ok (.goto 11, 3) := by decide +kernel
theorem d_M_symbol_206 : decode prog_13_method_27_code 206 = .ok (.iload 7, 2) := by decide +kernel
theorem d_M_symbol_208 : decode prog_13_method_27_code 208 = .ok (.iload 7, 2) := by decide +kernel
theorem d_M_symbol_210 : decode prog_13_method_27_code 210 = .ok (.iload 5, 2) := by decide +kernel
theorem d_M_symbol_212 : decode prog_13_method_27_code 212 = .ok (.ishr, 1) := by decide +kernel
theorem d_M_symbol_213 : decode prog_13_method_27_code 213 = .ok (.isub, 1) := by decide +kernel
theorem d_M_symbol_214 : decode prog_13_method_27_code 214 = .ok (.iastore, 1) := by decide +kernel
theorem d_M_symbol_215 : decode prog_13_method_27_code 215 = .ok (.iinc 6 1, 3) := by decide +kernel
theorem d_M_symbol_218 : decode prog_13_method_27_code 218 = .ok (.goto (-72), 3) := by decide +kernel
theorem d_M_symbol_221 : decode prog_13_method_27_code 221 = .ok (.iload_n 3, 1) := by decide +kernel
theorem d_M_symbol_222 : decode prog_13_method_27_code 222 = .ok (.ireturn, 1) := by decide +kernel
theorem d_M_turn_0 : decode prog_13_method_39_code 0 = .ok (.iconst 0, 1) := by decide +kernel
theorem d_M_turn_1 : decode prog_13_method_39_code 1 = .ok (.istore 5, 2) := by decide +kernel
theorem d_M_turn_3 : decode prog_13_method_39_code 3 = .ok (.iload 5, 2) := by decide +kernel
theorem d_M_turn_5 : decode prog_13_method_39_code 5 = .ok (.iconst 4, 1) := by decide +kernel
theorem d_M_turn_6 : decode prog_13_method_39_code 6 = .ok (.if_icmp .ge 27, 3) := by decide +kernel
theorem d_M_turn_9 : decode prog_13_method_39_code 9 = .ok (.aload_n 0, 1) := by decide +kernel
theorem d_M_turn_10 : decode prog_13_method_39_code 10 = .ok (.getfield 55, 3) := by decide +kernel
theorem d_M_turn_13 : decode prog_13_method_39_code 13 = .ok (.iload 5, 2) := by decide +kernel
theorem d_M_turn_15 : decode prog_13_method_39_code 15 = .ok (.aload_n 0, 1) := by decide +kernel
theorem d_M_turn_16 : decode prog_13_method_39_code 16 = .ok (.getfield 52, 3) := by decide +kernel
theorem d_M_turn_19 : decode prog_13_method_39_code 19 = .ok (.iload_n 1, 1) := by decide +kernel
theorem d_M_turn_20 : decode prog_13_method_39_code 20 = .ok (.iload 5, 2) := by decide +kernel
theorem d_M_turn_22 : decode prog_13_method_39_code 22 = .ok (.iload_n 2, 1) := by decide +kernel
theorem d_M_turn_23 : decode prog_13_method_39_code 23 = .ok (.imul, 1) := by decide +kernel
theorem d_M_turn_24 : decode prog_13_method_39_code 24 = .ok (.iadd, 1) := by decide +kernel
theorem d_M_turn_25 : decode prog_13_method_39_code 25 = .ok (.iaload, 1) := by decide +kernel
theorem d_M_turn_26 : decode prog_13_method_39_code 26 = .ok (.iastore, 1) := by decide +kernel
theorem d_M_turn_27 : decode prog_13_method_39_code 27 = .ok (.iinc 5 1, 3) := by decide +kernel
theorem d_M_turn_30 : decode prog_13_method_39_code 30 = .ok (.goto (-27), 3) := by decide +kernel
theorem d_M_turn_33 : decode prog_13_method_39_code 33 = .ok (.iconst 0, 1) := by decide +kernel
theorem d_M_turn_34 : decode prog_13_method_39_code 34 = .ok (.istore 5, 2) := by decide +kernel
theorem d_M_turn_36 : decode prog_13_method_39_code 36 = .ok (.iload 5, 2) := by decide +kernel
theorem d_M_turn_38 : decode prog_13_method_39_code 38 = .ok (.iconst 4, 1) := by decide +kernel
theorem d_M_turn_39 : decode prog_13_method_39_code 39 = .ok (.if_icmp .ge 228, 3) := by decide +kernel
theorem d_M_turn_42 : decode prog_13_method_39_code 42 = .ok (.iload_n 3, 1) := by decide +kernel
theorem d_M_turn_43 : decode prog_13_method_39_code 43 = .ok (.iconst 1, 1) := by decide +kernel
theorem d_M_turn_44 : decode prog_13_method_39_code 44 = .ok (.if_icmp .ne 17, 3) := by decide +kernel
theorem d_M_turn_47 : decode prog_13_method_39_code 47 = .ok (.sipush 5793, 3) := by decide +kernel
theorem d_M_turn_50 : decode prog_13_method_39_code 50 = .ok (.aload_n 0, 1) := by decide +kernel
theorem d_M_turn_51 : decode prog_13_method_39_code 51 = .ok (.getfield 55, 3) := by decide +kernel
theorem d_M_turn_54 : decode prog_13_method_39_code 54 = .ok (.iload 5, 2) := by decide +kernel
theorem d_M_turn_56 : decode prog_13_method_39_code 56 = .ok (.iaload, 1) := by decide +kernel
theorem d_M_turn_57 : decode prog_13_method_39_code 57 = .ok (.imul, 1) := by decide +kernel
theorem d_M_turn_58 : decode prog_13_method_39_code 58 = .ok (.goto 76, 3) := by decide +kernel
theorem d_M_turn_61 : decode prog_13_method_39_code 61 = .ok (.aload_n 0, 1) := by decide +kernel
theorem d_M_turn_62 : decode prog_13_method_39_code 62 = .ok (.getfield 67, 3) := by decide +kernel
theorem d_M_turn_65 : decode prog_13_method_39_code 65 = .ok (.iconst 4, 1) := by decide +kernel
theorem d_M_turn_66 : decode prog_13_method_39_code 66 = .ok (.iload 5, 2) := by decide +kernel
theorem d_M_turn_68 : decode prog_13_method_39_code 68 = .ok (.imul, 1) := by decide +kernel
theorem d_M_turn_69 : decode prog_13_method_39_code 69 = .ok (.iaload, 1) := by decide +kernel
theorem d_M_turn_70 : decode prog_13_method_39_code 70 = .ok (.aload_n 0, 1) := by decide +kernel
theorem d_M_turn_71 : decode prog_13_method_39_code 71 = .ok (.getfield 55, 3) := by decide +kernel
theorem d_M_turn_74 : decode prog_13_method_39_code 74 = .ok (.iconst 0, 1) := by decide +kernel
theorem d_M_turn_75 : decode prog_13_method_39_code 75 = .ok (.iaload, 1) := by decide +kernel
theorem d_M_turn_76 : decode prog_13_method_39_code 76 = .ok (.imul, 1) := by decide +kernel
theorem d_M_turn_77 : decode prog_13_method_39_code 77 = .ok (.aload_n 0, 1) := by decide +kernel
theorem d_M_turn_78 : decode prog_13_method_39_code 78 = .ok (.getfield 67, 3) := by decide +kernel
theorem d_M_turn_81 : decode prog_13_method_39_code 81 = .ok (.iconst 4, 1) := by decide +kernel
theorem d_M_turn_82 : decode prog_13_method_39_code 82 = .ok (.iload 5, 2) := by decide +kernel
theorem d_M_turn_84 : decode prog_13_method_39_code 84 = .ok (.imul, 1) := by decide +kernel
theorem d_M_turn_85 : decode prog_13_method_39_code 85 = .ok (.iconst 1, 1) := by decide +kernel
theorem d_M_turn_86 : decode prog_13_method_39_code 86 = .ok (.iadd, 1) := by decide +kernel
theorem d_M_turn_87 : decode prog_13_method_39_code 87 = .ok (.iaload, 1) := by decide +kernel
theorem d_M_turn_88 : decode prog_13_method_39_code 88 = .ok (.aload_n 0, 1) := by decide +kernel
theorem d_M_turn_89 : decode prog_13_method_39_code 89 = .ok (.getfield 55, 3) := by decide +kernel
theorem d_M_turn_92 : decode prog_13_method_39_code 92 = .ok (.iconst 1, 1) := by decide +kernel
theorem d_M_turn_93 : decode prog_13_method_39_code 93 = .ok (.iaload, 1) := by decide +kernel
theorem d_M_turn_94 : decode prog_13_method_39_code 94 = .ok (.imul, 1) := by decide +kernel
theorem d_M_turn_95 : decode prog_13_method_39_code 95 = .ok (.iadd, 1) := by decide +kernel
theorem d_M_turn_96 : decode prog_13_method_39_code 96 = .ok (.aload_n 0, 1) := by decide +kernel
theorem d_M_turn_97 : decode prog_13_method_39_code 97 = .ok (.getfield 67, 3) := by decide +kernel
theorem d_M_turn_100 : decode prog_13_method_39_code 100 = .ok (.iconst 4, 1) := by decide +kernel
theorem d_M_turn_101 : decode prog_13_method_39_code 101 = .ok (.iload 5, 2) := by decide +kernel
theorem d_M_turn_103 : decode prog_13_method_39_code 103 = .ok (.imul, 1) := by decide +kernel
theorem d_M_turn_104 : decode prog_13_method_39_code 104 = .ok (.iconst 2, 1) := by decide +kernel
theorem d_M_turn_105 : decode prog_13_method_39_code 105 = .ok (.iadd, 1) := by decide +kernel
theorem d_M_turn_106 : decode prog_13_method_39_code 106 = .ok (.iaload, 1) := by decide +kernel
theorem d_M_turn_107 : decode prog_13_method_39_code 107 = .ok (.aload_n 0, 1) := by decide +kernel
theorem d_M_turn_108 : decode prog_13_method_39_code 108 = .ok (.getfield 55, 3) := by decide +kernel
theorem d_M_turn_111 : decode prog_13_method_39_code 111 = .ok (.iconst 2, 1) := by decide +kernel
theorem d_M_turn_112 : decode prog_13_method_39_code 112 = .ok (.iaload, 1) := by decide +kernel
theorem d_M_turn_113 : decode prog_13_method_39_code 113 = .ok (.imul, 1) := by decide +kernel
theorem d_M_turn_114 : decode prog_13_method_39_code 114 = .ok (.iadd, 1) := by decide +kernel
theorem d_M_turn_115 : decode prog_13_method_39_code 115 = .ok (.aload_n 0, 1) := by decide +kernel
theorem d_M_turn_116 : decode prog_13_method_39_code 116 = .ok (.getfield 67, 3) := by decide +kernel
theorem d_M_turn_119 : decode prog_13_method_39_code 119 = .ok (.iconst 4, 1) := by decide +kernel
theorem d_M_turn_120 : decode prog_13_method_39_code 120 = .ok (.iload 5, 2) := by decide +kernel
theorem d_M_turn_122 : decode prog_13_method_39_code 122 = .ok (.imul, 1) := by decide +kernel
theorem d_M_turn_123 : decode prog_13_method_39_code 123 = .ok (.iconst 3, 1) := by decide +kernel
theorem d_M_turn_124 : decode prog_13_method_39_code 124 = .ok (.iadd, 1) := by decide +kernel
theorem d_M_turn_125 : decode prog_13_method_39_code 125 = .ok (.iaload, 1) := by decide +kernel
theorem d_M_turn_126 : decode prog_13_method_39_code 126 = .ok (.aload_n 0, 1) := by decide +kernel
theorem d_M_turn_127 : decode prog_13_method_39_code 127 = .ok (.getfield 55, 3) := by decide +kernel
theorem d_M_turn_130 : decode prog_13_method_39_code 130 = .ok (.iconst 3, 1) := by decide +kernel
theorem d_M_turn_131 : decode prog_13_method_39_code 131 = .ok (.iaload, 1) := by decide +kernel
theorem d_M_turn_132 : decode prog_13_method_39_code 132 = .ok (.imul, 1) := by decide +kernel
theorem d_M_turn_133 : decode prog_13_method_39_code 133 = .ok (.iadd, 1) := by decide +kernel
theorem d_M_turn_134 : decode prog_13_method_39_code 134 = .ok (.sipush 2048, 3) := by decide +kernel
theorem d_M_turn_137 : decode prog_13_method_39_code 137 = .ok (.iadd, 1) := by decide +kernel
theorem d_M_turn_138 : decode prog_13_method_39_code 138 = .ok (.bipush 12, 2) := by decide +kernel
theorem d_M_turn_140 : decode prog_13_method_39_code 140 = .ok (.ishr, 1) := by decide +kernel
theorem d_M_turn_141 : decode prog_13_method_39_code 141 = .ok (.istore 6, 2) := by decide +kernel
theorem d_M_turn_143 : decode prog_13_method_39_code 143 = .ok (.iload 5, 2) := by decide +kernel
theorem d_M_turn_145 : decode prog_13_method_39_code 145 = .ok (.iconst 2, 1) := by decide +kernel
theorem d_M_turn_146 : decode prog_13_method_39_code 146 = .ok (.if_icmp .ge 12, 3) := by decide +kernel
theorem d_M_turn_149 : decode prog_13_method_39_code 149 = .ok (.aload_n 0, 1) := by decide +kernel
theorem d_M_turn_150 : decode prog_13_method_39_code 150 = .ok (.getfield 55, 3) := by decide +kernel
theorem d_M_turn_153 : decode prog_13_method_39_code 153 = .ok (.iconst 1, 1) := by decide +kernel
theorem d_M_turn_154 : decode prog_13_method_39_code 154 = .ok (.iaload, 1) := by decide +kernel
theorem d_M_turn_155 : decode prog_13_method_39_code 155 = .ok (.goto 10, 3) := by decide +kernel
theorem d_M_turn_158 : decode prog_13_method_39_code 158 = .ok (.aload_n 0, 1) := by decide +kernel
theorem d_M_turn_159 : decode prog_13_method_39_code 159 = .ok (.getfield 55, 3) := by decide +kernel
theorem d_M_turn_162 : decode prog_13_method_39_code 162 = .ok (.iconst 1, 1) := by decide +kernel
theorem d_M_turn_163 : decode prog_13_method_39_code 163 = .ok (.iaload, 1) := by decide +kernel
theorem d_M_turn_164 : decode prog_13_method_39_code 164 = .ok (.ineg, 1) := by decide +kernel
theorem d_M_turn_165 : decode prog_13_method_39_code 165 = .ok (.istore 7, 2) := by decide +kernel
theorem d_M_turn_167 : decode prog_13_method_39_code 167 = .ok (.iload 5, 2) := by decide +kernel
theorem d_M_turn_169 : decode prog_13_method_39_code 169 = .ok (.ifCond .eq 9, 3) := by decide +kernel
theorem d_M_turn_172 : decode prog_13_method_39_code 172 = .ok (.iload 5, 2) := by decide +kernel
theorem d_M_turn_174 : decode prog_13_method_39_code 174 = .ok (.iconst 3, 1) := by decide +kernel
theorem d_M_turn_175 : decode prog_13_method_39_code 175 = .ok (.if_icmp .ne 12, 3) := by decide +kernel
theorem d_M_turn_178 : decode prog_13_method_39_code 178 = .ok (.aload_n 0, 1) := by decide +kernel
theorem d_M_turn_179 : decode prog_13_method_39_code 179 = .ok (.getfield 55, 3) := by decide +kernel
theorem d_M_turn_182 : decode prog_13_method_39_code 182 = .ok (.iconst 2, 1) := by decide +kernel
theorem d_M_turn_183 : decode prog_13_method_39_code 183 = .ok (.iaload, 1) := by decide +kernel
theorem d_M_turn_184 : decode prog_13_method_39_code 184 = .ok (.goto 10, 3) := by decide +kernel
theorem d_M_turn_187 : decode prog_13_method_39_code 187 = .ok (.aload_n 0, 1) := by decide +kernel
theorem d_M_turn_188 : decode prog_13_method_39_code 188 = .ok (.getfield 55, 3) := by decide +kernel
theorem d_M_turn_191 : decode prog_13_method_39_code 191 = .ok (.iconst 2, 1) := by decide +kernel
theorem d_M_turn_192 : decode prog_13_method_39_code 192 = .ok (.iaload, 1) := by decide +kernel
theorem d_M_turn_193 : decode prog_13_method_39_code 193 = .ok (.ineg, 1) := by decide +kernel
theorem d_M_turn_194 : decode prog_13_method_39_code 194 = .ok (.istore 8, 2) := by decide +kernel
theorem d_M_turn_196 : decode prog_13_method_39_code 196 = .ok (.iload 5, 2) := by decide +kernel
theorem d_M_turn_198 : decode prog_13_method_39_code 198 = .ok (.iconst 2, 1) := by decide +kernel
theorem d_M_turn_199 : decode prog_13_method_39_code 199 = .ok (.irem, 1) := by decide +kernel
theorem d_M_turn_200 : decode prog_13_method_39_code 200 = .ok (.ifCond .ne 12, 3) := by decide +kernel
theorem d_M_turn_203 : decode prog_13_method_39_code 203 = .ok (.aload_n 0, 1) := by decide +kernel
theorem d_M_turn_204 : decode prog_13_method_39_code 204 = .ok (.getfield 55, 3) := by decide +kernel
theorem d_M_turn_207 : decode prog_13_method_39_code 207 = .ok (.iconst 3, 1) := by decide +kernel
theorem d_M_turn_208 : decode prog_13_method_39_code 208 = .ok (.iaload, 1) := by decide +kernel
theorem d_M_turn_209 : decode prog_13_method_39_code 209 = .ok (.goto 10, 3) := by decide +kernel
theorem d_M_turn_212 : decode prog_13_method_39_code 212 = .ok (.aload_n 0, 1) := by decide +kernel
theorem d_M_turn_213 : decode prog_13_method_39_code 213 = .ok (.getfield 55, 3) := by decide +kernel
theorem d_M_turn_216 : decode prog_13_method_39_code 216 = .ok (.iconst 3, 1) := by decide +kernel
theorem d_M_turn_217 : decode prog_13_method_39_code 217 = .ok (.iaload, 1) := by decide +kernel
theorem d_M_turn_218 : decode prog_13_method_39_code 218 = .ok (.ineg, 1) := by decide +kernel
theorem d_M_turn_219 : decode prog_13_method_39_code 219 = .ok (.istore 9, 2) := by decide +kernel
theorem d_M_turn_221 : decode prog_13_method_39_code 221 = .ok (.aload_n 0, 1) := by decide +kernel
theorem d_M_turn_222 : decode prog_13_method_39_code 222 = .ok (.getfield 52, 3) := by decide +kernel
theorem d_M_turn_225 : decode prog_13_method_39_code 225 = .ok (.iload_n 1, 1) := by decide +kernel
theorem d_M_turn_226 : decode prog_13_method_39_code 226 = .ok (.iload 5, 2) := by decide +kernel
theorem d_M_turn_228 : decode prog_13_method_39_code 228 = .ok (.iload_n 2, 1) := by decide +kernel
theorem d_M_turn_229 : decode prog_13_method_39_code 229 = .ok (.imul, 1) := by decide +kernel
theorem d_M_turn_230 : decode prog_13_method_39_code 230 = .ok (.iadd, 1) := by decide +kernel
theorem d_M_turn_231 : decode prog_13_method_39_code 231 = .ok (.iload_n 3, 1) := by decide +kernel
theorem d_M_turn_232 : decode prog_13_method_39_code 232 = .ok (.ifCond .ne 21, 3) := by decide +kernel
theorem d_M_turn_235 : decode prog_13_method_39_code 235 = .ok (.aload_n 0, 1) := by decide +kernel
theorem d_M_turn_236 : decode prog_13_method_39_code 236 = .ok (.getfield 55, 3) := by decide +kernel
theorem d_M_turn_239 : decode prog_13_method_39_code 239 = .ok (.iconst 0, 1) := by decide +kernel
theorem d_M_turn_240 : decode prog_13_method_39_code 240 = .ok (.iaload, 1) := by decide +kernel
theorem d_M_turn_241 : decode prog_13_method_39_code 241 = .ok (.iload 7, 2) := by decide +kernel
theorem d_M_turn_243 : decode prog_13_method_39_code 243 = .ok (.iadd, 1) := by decide +kernel
theorem d_M_turn_244 : decode prog_13_method_39_code 244 = .ok (.iload 8, 2) := by decide +kernel
theorem d_M_turn_246 : decode prog_13_method_39_code 246 = .ok (.iadd, 1) := by decide +kernel
theorem d_M_turn_247 : decode prog_13_method_39_code 247 = .ok (.iload 9, 2) := by decide +kernel
theorem d_M_turn_249 : decode prog_13_method_39_code 249 = .ok (.iadd, 1) := by decide +kernel
theorem d_M_turn_250 : decode prog_13_method_39_code 250 = .ok (.goto 10, 3) := by decide +kernel
theorem d_M_turn_253 : decode prog_13_method_39_code 253 = .ok (.iload 6, 2) := by decide +kernel
theorem d_M_turn_255 : decode prog_13_method_39_code 255 = .ok (.iload 4, 2) := by decide +kernel
theorem d_M_turn_257 : decode prog_13_method_39_code 257 = .ok (.invokestatic 260, 3) := by decide +kernel
theorem d_M_turn_260 : decode prog_13_method_39_code 260 = .ok (.iastore, 1) := by decide +kernel
theorem d_M_turn_261 : decode prog_13_method_39_code 261 = .ok (.iinc 5 1, 3) := by decide +kernel
theorem d_M_turn_264 : decode prog_13_method_39_code 264 = .ok (.goto (-228), 3) := by decide +kernel
theorem d_M_turn_267 : decode prog_13_method_39_code 267 = .ok (.return_, 1) := by decide +kernel
theorem d_M_differences_0 : decode prog_13_method_36_code 0 = .ok (.iconst 0, 1) := by decide +kernel
theorem d_M_differences_1 : decode prog_13_method_36_code 1 = .ok (.istore_n 2, 1) := by decide +kernel
theorem d_M_differences_2 : decode prog_13_method_36_code 2 = .ok (.iload_n 2, 1) := by decide +kernel
theorem d_M_differences_3 : decode prog_13_method_36_code 3 = .ok (.bipush 16, 2) := by decide +kernel
theorem d_M_differences_5 : decode prog_13_method_36_code 5 = .ok (.if_icmp .ge 16, 3) := by decide +kernel
theorem d_M_differences_8 : decode prog_13_method_36_code 8 = .ok (.aload_n 0, 1) := by decide +kernel
theorem d_M_differences_9 : decode prog_13_method_36_code 9 = .ok (.getfield 52, 3) := by decide +kernel
theorem d_M_differences_12 : decode prog_13_method_36_code 12 = .ok (.iload_n 2, 1) := by decide +kernel
theorem d_M_differences_13 : decode prog_13_method_36_code 13 = .ok (.iconst 0, 1) := by decide +kernel
theorem d_M_differences_14 : decode prog_13_method_36_code 14 = .ok (.iastore, 1) := by decide +kernel
theorem d_M_differences_15 : decode prog_13_method_36_code 15 = .ok (.iinc 2 1, 3) := by decide +kernel
theorem d_M_differences_18 : decode prog_13_method_36_code 18 = .ok (.goto (-16), 3) := by decide +kernel
theorem d_M_differences_21 : decode prog_13_method_36_code 21 = .ok (.aload_n 0, 1) := by decide +kernel
theorem d_M_differences_22 : decode prog_13_method_36_code 22 = .ok (.iload_n 1, 1) := by decide +kernel
theorem d_M_differences_23 : decode prog_13_method_36_code 23 = .ok (.ifCond .ne 8, 3) := by decide +kernel
theorem d_M_differences_26 : decode prog_13_method_36_code 26 = .ok (.bipush 8, 2) := by decide +kernel
theorem d_M_differences_28 : decode prog_13_method_36_code 28 = .ok (.goto 5, 3) := by decide +kernel
theorem d_M_differences_31 : decode prog_13_method_36_code 31 = .ok (.bipush 9, 2) := by decide +kernel
theorem d_M_differences_33 : decode prog_13_method_36_code 33 = .ok (.invokevirtual 226, 3) := by decide +kernel
theorem d_M_differences_36 : decode prog_13_method_36_code 36 = .ok (.iconst 1, 1) := by decide +kernel
theorem d_M_differences_37 : decode prog_13_method_36_code 37 = .ok (.if_icmp .ne 4, 3) := by decide +kernel
theorem d_M_differences_40 : decode prog_13_method_36_code 40 = .ok (.return_, 1) := by decide +kernel
theorem d_M_differences_41 : decode prog_13_method_36_code 41 = .ok (.aload_n 0, 1) := by decide +kernel
theorem d_M_differences_42 : decode prog_13_method_36_code 42 = .ok (.iload_n 1, 1) := by decide +kernel
theorem d_M_differences_43 : decode prog_13_method_36_code 43 = .ok (.ifCond .ne 8, 3) := by decide +kernel
theorem d_M_differences_46 : decode prog_13_method_36_code 46 = .ok (.bipush 11, 2) := by decide +kernel
theorem d_M_differences_48 : decode prog_13_method_36_code 48 = .ok (.goto 5, 3) := by decide +kernel
theorem d_M_differences_51 : decode prog_13_method_36_code 51 = .ok (.bipush 12, 2) := by decide +kernel
theorem d_M_differences_53 : decode prog_13_method_36_code 53 = .ok (.invokevirtual 226, 3) := by decide +kernel
theorem d_M_differences_56 : decode prog_13_method_36_code 56 = .ok (.istore_n 2, 1) := by decide +kernel
theorem d_M_differences_57 : decode prog_13_method_36_code 57 = .ok (.iload_n 2, 1) := by decide +kernel
theorem d_M_differences_58 : decode prog_13_method_36_code 58 = .ok (.istore_n 3, 1) := by decide +kernel
theorem d_M_differences_59 : decode prog_13_method_36_code 59 = .ok (.iload_n 3, 1) := by decide +kernel
theorem d_M_differences_60 : decode prog_13_method_36_code 60 = .ok (.ifCond .lt 115, 3) := by decide +kernel
theorem d_M_differences_63 : decode prog_13_method_36_code 63 = .ok (.aload_n 0, 1) := by decide +kernel
theorem d_M_differences_64 : decode prog_13_method_36_code 64 = .ok (.getfield 78, 3) := by decide +kernel
theorem d_M_differences_67 : decode prog_13_method_36_code 67 = .ok (.ifCond .ne 108, 3) := by decide +kernel
theorem d_M_differences_70 : decode prog_13_method_36_code 70 = .ok (.aload_n 0, 1) := by decide +kernel
theorem d_M_differences_71 : decode prog_13_method_36_code 71 = .ok (.iload_n 1, 1) := by decide +kernel
theorem d_M_differences_72 : decode prog_13_method_36_code 72 = .ok (.ifCond .ne 8, 3) := by decide +kernel
theorem d_M_differences_75 : decode prog_13_method_36_code 75 = .ok (.bipush 13, 2) := by decide +kernel
theorem d_M_differences_77 : decode prog_13_method_36_code 77 = .ok (.goto 5, 3) := by decide +kernel
theorem d_M_differences_80 : decode prog_13_method_36_code 80 = .ok (.bipush 16, 2) := by decide +kernel
theorem d_M_differences_82 : decode prog_13_method_36_code 82 = .ok (.iload_n 3, 1) := by decide +kernel
theorem d_M_differences_83 : decode prog_13_method_36_code 83 = .ok (.ifCond .ne 7, 3) := by decide +kernel
theorem d_M_differences_86 : decode prog_13_method_36_code 86 = .ok (.iconst 0, 1) := by decide +kernel
theorem d_M_differences_87 : decode prog_13_method_36_code 87 = .ok (.goto 13, 3) := by decide +kernel
theorem d_M_differences_90 : decode prog_13_method_36_code 90 = .ok (.iload_n 3, 1) := by decide +kernel
theorem d_M_differences_91 : decode prog_13_method_36_code 91 = .ok (.iconst 5, 1) := by decide +kernel
theorem d_M_differences_92 : decode prog_13_method_36_code 92 = .ok (.if_icmp .gt 7, 3) := by decide +kernel
theorem d_M_differences_95 : decode prog_13_method_36_code 95 = .ok (.iconst 1, 1) := by decide +kernel
theorem d_M_differences_96 : decode prog_13_method_36_code 96 = .ok (.goto 4, 3) := by decide +kernel
theorem d_M_differences_99 : decode prog_13_method_36_code 99 = .ok (.iconst 2, 1) := by decide +kernel
theorem d_M_differences_100 : decode prog_13_method_36_code 100 = .ok (.iadd, 1) := by decide +kernel
theorem d_M_differences_101 : decode prog_13_method_36_code 101 = .ok (.invokevirtual 226, 3) := by decide +kernel
theorem d_M_differences_104 : decode prog_13_method_36_code 104 = .ok (.istore 4, 2) := by decide +kernel
theorem d_M_differences_106 : decode prog_13_method_36_code 106 = .ok (.iload_n 3, 1) := by decide +kernel
theorem d_M_differences_107 : decode prog_13_method_36_code 107 = .ok (.iload_n 2, 1) := by decide +kernel
theorem d_M_differences_108 : decode prog_13_method_36_code 108 = .ok (.if_icmp .ne 10, 3) := by decide +kernel
theorem d_M_differences_111 : decode prog_13_method_36_code 111 = .ok (.iload 4, 2) := by decide +kernel
theorem d_M_differences_113 : decode prog_13_method_36_code 113 = .ok (.iconst 1, 1) := by decide +kernel
theorem d_M_differences_114 : decode prog_13_method_36_code 114 = .ok (.iadd, 1) := by decide +kernel
theorem d_M_differences_115 : decode prog_13_method_36_code 115 = .ok (.goto 5, 3) := by decide +kernel
theorem d_M_differences_118 : decode prog_13_method_36_code 118 = .ok (.iload 4, 2) := by decide +kernel
theorem d_M_differences_120 : decode prog_13_method_36_code 120 = .ok (.iload 4, 2) := by decide +kernel
theorem d_M_differences_122 : decode prog_13_method_36_code 122 = .ok (.iconst 3, 1) := by decide +kernel
theorem d_M_differences_123 : decode prog_13_method_36_code 123 = .ok (.if_icmp .ne 10, 3) := by decide +kernel
theorem d_M_differences_126 : decode prog_13_method_36_code 126 = .ok (.aload_n 0, 1) := by decide +kernel
theorem d_M_differences_127 : decode prog_13_method_36_code 127 = .ok (.invokevirtual 254, 3) := by decide +kernel
theorem d_M_differences_130 : decode prog_13_method_36_code 130 = .ok (.goto 4, 3) := by decide +kernel
theorem d_M_differences_133 : decode prog_13_method_36_code 133 = .ok (.iconst 0, 1) := by decide +kernel
theorem d_M_differences_134 : decode prog_13_method_36_code 134 = .ok (.iadd, 1) := by decide +kernel
theorem d_M_differences_135 : decode prog_13_method_36_code 135 = .ok (.istore 5, 2) := by decide +kernel
theorem d_M_differences_137 : decode prog_13_method_36_code 137 = .ok (.aload_n 0, 1) := by decide +kernel
theorem d_M_differences_138 : decode prog_13_method_36_code 138 = .ok (.getfield 52, 3) := by decide +kernel
theorem d_M_differences_141 : decode prog_13_method_36_code 141 = .ok (.aload_n 0, 1) := by decide +kernel
theorem d_M_differences_142 : decode prog_13_method_36_code 142 = .ok (.getfield 64, 3) := by decide +kernel
theorem d_M_differences_145 : decode prog_13_method_36_code 145 = .ok (.iload_n 3, 1) := by decide +kernel
theorem d_M_differences_146 : decode prog_13_method_36_code 146 = .ok (.iaload, 1) := by decide +kernel
theorem d_M_differences_147 : decode prog_13_method_36_code 147 = .ok (.iload 5, 2) := by decide +kernel
theorem d_M_differences_149 : decode prog_13_method_36_code 149 = .ok (.ifCond .eq 17, 3) := by decide +kernel
theorem d_M_differences_152 : decode prog_13_method_36_code 152 = .ok (.aload_n 0, 1) := by decide +kernel
theorem d_M_differences_153 : decode prog_13_method_36_code 153 = .ok (.invokevirtual 257, 3) := by decide +kernel
theorem d_M_differences_156 : decode prog_13_method_36_code 156 = .ok (.iconst 1, 1) := by decide +kernel
theorem d_M_differences_157 : decode prog_13_method_36_code 157 = .ok (.if_icmp .ne 9, 3) := by decide +kernel
theorem d_M_differences_160 : decode prog_13_method_36_code 160 = .ok (.iload 5, 2) := by decide +kernel
theorem d_M_differences_162 : decode prog_13_method_36_code 162 = .ok (.ineg, 1) := by decide +kernel
theorem d_M_differences_163 : decode prog_13_method_36_code 163 = .ok (.goto 5, 3) := by decide +kernel
theorem d_M_differences_166 : decode prog_13_method_36_code 166 = .ok (.iload 5, 2) := by decide +kernel
theorem d_M_differences_168 : decode prog_13_method_36_code 168 = .ok (.iastore, 1) := by decide +kernel
theorem d_M_differences_169 : decode prog_13_method_36_code 169 = .ok (.iinc 3 (-1), 3) := by decide +kernel
theorem d_M_differences_172 : decode prog_13_method_36_code 172 = .ok (.goto (-113), 3) := by decide +kernel
theorem d_M_differences_175 : decode prog_13_method_36_code 175 = .ok (.aload_n 0, 1) := by decide +kernel
theorem d_M_differences_176 : decode prog_13_method_36_code 176 = .ok (.getfield 46, 3) := by decide +kernel
theorem d_M_differences_179 : decode prog_13_method_36_code 179 = .ok (.iconst 4, 1) := by decide +kernel
theorem d_M_differences_180 : decode prog_13_method_36_code 180 = .ok (.aload_n 0, 1) := by decide +kernel
theorem d_M_differences_181 : decode prog_13_method_36_code 181 = .ok (.getfield 223, 3) := by decide +kernel
theorem d_M_differences_184 : decode prog_13_method_36_code 184 = .ok (.imul, 1) := by decide +kernel
theorem d_M_differences_185 : decode prog_13_method_36_code 185 = .ok (.iconst 3, 1) := by decide +kernel
theorem d_M_differences_186 : decode prog_13_method_36_code 186 = .ok (.iadd, 1) := by decide +kernel
theorem d_M_differences_187 : decode prog_13_method_36_code 187 = .ok (.iaload, 1) := by decide +kernel
theorem d_M_differences_188 : decode prog_13_method_36_code 188 = .ok (.istore_n 3, 1) := by decide +kernel
theorem d_M_differences_189 : decode prog_13_method_36_code 189 = .ok (.iconst 0, 1) := by decide +kernel
theorem d_M_differences_190 : decode prog_13_method_36_code 190 = .ok (.istore 4, 2) := by decide +kernel
theorem d_M_differences_192 : decode prog_13_method_36_code 192 = .ok (.iload 4, 2) := by decide +kernel
theorem d_M_differences_194 : decode prog_13_method_36_code 194 = .ok (.bipush 16, 2) := by decide +kernel
theorem d_M_differences_196 : decode prog_13_method_36_code 196 = .ok (.if_icmp .ge 61, 3) := by decide +kernel
theorem d_M_differences_199 : decode prog_13_method_36_code 199 = .ok (.aload_n 0, 1) := by decide +kernel
theorem d_M_differences_200 : decode prog_13_method_36_code 200 = .ok (.getfield 183, 3) := by decide +kernel
theorem d_M_differences_203 : decode prog_13_method_36_code 203 = .ok (.ifCond .eq 54, 3) := by decide +kernel
theorem d_M_differences_206 : decode prog_13_method_36_code 206 = .ok (.aload_n 0, 1) := by decide +kernel
theorem d_M_differences_207 : decode prog_13_method_36_code 207 = .ok (.getfield 52, 3) := by decide +kernel
theorem d_M_differences_210 : decode prog_13_method_36_code 210 = .ok (.iload 4, 2) := by decide +kernel
theorem d_M_differences_212 : decode prog_13_method_36_code 212 = .ok (.aload_n 0, 1) := by decide +kernel
theorem d_M_differences_213 : decode prog_13_method_36_code 213 = .ok (.getfield 52, 3) := by decide +kernel
theorem d_M_differences_216 : decode prog_13_method_36_code 216 = .ok (.iload 4, 2) := by decide +kernel
theorem d_M_differences_218 : decode prog_13_method_36_code 218 = .ok (.iaload, 1) := by decide +kernel
theorem d_M_differences_219 : decode prog_13_method_36_code 219 = .ok (.iload 4, 2) := by decide +kernel
theorem d_M_differences_221 : decode prog_13_method_36_code 221 = .ok (.ifCond .ne 14, 3) := by decide +kernel
theorem d_M_differences_224 : decode prog_13_method_36_code 224 = .ok (.iconst 4, 1) := by decide +kernel
theorem d_M_differences_225 : decode prog_13_method_36_code 225 = .ok (.iconst 2, 1) := by decide +kernel
theorem d_M_differences_226 : decode prog_13_method_36_code 226 = .ok (.aload_n 0, 1) := by decide +kernel
theorem d_M_differences_227 : decode prog_13_method_36_code 227 = .ok (.getfield 183, 3) := by decide +kernel
theorem d_M_differences_230 : decode prog_13_method_36_code 230 = .ok (.imul, 1) := by decide +kernel
theorem d_M_differences_231 : decode prog_13_method_36_code 231 = .ok (.iadd, 1) := by decide +kernel
theorem d_M_differences_232 : decode prog_13_method_36_code 232 = .ok (.goto 11, 3) := by decide +kernel
theorem d_M_differences_235 : decode prog_13_method_36_code 235 = .ok (.iconst 4, 1) := by decide +kernel
theorem d_M_differences_236 : decode prog_13_method_36_code 236 = .ok (.iconst 3, 1) := by decide +kernel
theorem d_M_differences_237 : decode prog_13_method_36_code 237 = .ok (.aload_n 0, 1) := by decide +kernel
theorem d_M_differences_238 : decode prog_13_method_36_code 238 = .ok (.getfield 183, 3) := by decide +kernel
theorem d_M_differences_241 : decode prog_13_method_36_code 241 = .ok (.imul, 1) := by decide +kernel
theorem d_M_differences_242 : decode prog_13_method_36_code 242 = .ok (.iadd, 1) := by decide +kernel
theorem d_M_differences_243 : decode prog_13_method_36_code 243 = .ok (.imul, 1) := by decide +kernel
theorem d_M_differences_244 : decode prog_13_method_36_code 244 = .ok (.sipush 32767, 3) := by decide +kernel
theorem d_M_differences_247 : decode prog_13_method_36_code 247 = .ok (.invokestatic 260, 3) := by decide +kernel
theorem d_M_differences_250 : decode prog_13_method_36_code 250 = .ok (.iastore, 1) := by decide +kernel
theorem d_M_differences_251 : decode prog_13_method_36_code 251 = .ok (.iinc 4 1, 3) := by decide +kernel
theorem d_M_differences_254 : decode prog_13_method_36_code 254 = .ok (.goto (-62), 3) := by decide +kernel
theorem d_M_differences_257 : decode prog_13_method_36_code 257 = .ok (.iconst 0, 1) := by decide +kernel
theorem d_M_differences_258 : decode prog_13_method_36_code 258 = .ok (.istore 4, 2) := by decide +kernel
theorem d_M_differences_260 : decode prog_13_method_36_code 260 = .ok (.iload 4, 2) := by decide +kernel
theorem d_M_differences_262 : decode prog_13_method_36_code 262 = .ok (.iconst 4, 1) := by decide +kernel
theorem d_M_differences_263 : decode prog_13_method_36_code 263 = .ok (.if_icmp .ge 44, 3) := by decide +kernel
theorem d_M_differences_266 : decode prog_13_method_36_code 266 = .ok (.aload_n 0, 1) := by decide +kernel
theorem d_M_differences_267 : decode prog_13_method_36_code 267 = .ok (.iconst 4, 1) := by decide +kernel
theorem d_M_differences_268 : decode prog_13_method_36_code 268 = .ok (.iload 4, 2) := by decide +kernel
theorem d_M_differences_270 : decode prog_13_method_36_code 270 = .ok (.imul, 1) := by decide +kernel
theorem d_M_differences_271 : decode prog_13_method_36_code 271 = .ok (.iconst 1, 1) := by decide +kernel
theorem d_M_differences_272 : decode prog_13_method_36_code 272 = .ok (.aload_n 0, 1) := by decide +kernel
theorem d_M_differences_273 : decode prog_13_method_36_code 273 = .ok (.getfield 183, 3) := by decide +kernel
theorem d_M_differences_276 : decode prog_13_method_36_code 276 = .ok (.ifCond .ne 7, 3) := by decide +kernel
theorem d_M_differences_279 : decode prog_13_method_36_code 279 = .ok (.iconst 0, 1) := by decide +kernel
theorem d_M_differences_280 : decode prog_13_method_36_code 280 = .ok (.goto 15, 3) := by decide +kernel
theorem d_M_differences_283 : decode prog_13_method_36_code 283 = .ok (.iload_n 3, 1) := by decide +kernel
theorem d_M_differences_284 : decode prog_13_method_36_code 284 = .ok (.iconst 2, 1) := by decide +kernel
theorem d_M_differences_285 : decode prog_13_method_36_code 285 = .ok (.irem, 1) := by decide +kernel
theorem d_M_differences_286 : decode prog_13_method_36_code 286 = .ok (.iconst 1, 1) := by decide +kernel
theorem d_M_differences_287 : decode prog_13_method_36_code 287 = .ok (.if_icmp .ne 7, 3) := by decide +kernel
theorem d_M_differences_290 : decode prog_13_method_36_code 290 = .ok (.iconst 1, 1) := by decide +kernel
theorem d_M_differences_291 : decode prog_13_method_36_code 291 = .ok (.goto 4, 3) := by decide +kernel
theorem d_M_differences_294 : decode prog_13_method_36_code 294 = .ok (.iconst 2, 1) := by decide +kernel
theorem d_M_differences_295 : decode prog_13_method_36_code 295 = .ok (.sipush 32767, 3) := by decide +kernel
theorem d_M_differences_298 : decode prog_13_method_36_code 298 = .ok (.invokevirtual 263, 3) := by decide +kernel
theorem d_M_differences_301 : decode prog_13_method_36_code 301 = .ok (.iinc 4 1, 3) := by decide +kernel
theorem d_M_differences_304 : decode prog_13_method_36_code 304 = .ok (.goto (-44), 3) := by decide +kernel
theorem d_M_differences_307 : decode prog_13_method_36_code 307 = .ok (.iconst 0, 1) := by decide +kernel
theorem d_M_differences_308 : decode prog_13_method_36_code 308 = .ok (.istore 4, 2) := by decide +kernel
theorem d_M_differences_310 : decode prog_13_method_36_code 310 = .ok (.iload 4, 2) := by decide +kernel
theorem d_M_differences_312 : decode prog_13_method_36_code 312 = .ok (.iconst 4, 1) := by decide +kernel
theorem d_M_differences_313 : decode prog_13_method_36_code 313 = .ok (.if_icmp .ge 42, 3) := by decide +kernel
theorem d_M_differences_316 : decode prog_13_method_36_code 316 = .ok (.aload_n 0, 1) := by decide +kernel
theorem d_M_differences_317 : decode prog_13_method_36_code 317 = .ok (.iload 4, 2) := by decide +kernel
theorem d_M_differences_319 : decode prog_13_method_36_code 319 = .ok (.iconst 4, 1) := by decide +kernel
theorem d_M_differences_320 : decode prog_13_method_36_code 320 = .ok (.aload_n 0, 1) := by decide +kernel
theorem d_M_differences_321 : decode prog_13_method_36_code 321 = .ok (.getfield 183, 3) := by decide +kernel
theorem d_M_differences_324 : decode prog_13_method_36_code 324 = .ok (.ifCond .ne 7, 3) := by decide +kernel
theorem d_M_differences_327 : decode prog_13_method_36_code 327 = .ok (.iconst 0, 1) := by decide +kernel
theorem d_M_differences_328 : decode prog_13_method_36_code 328 = .ok (.goto 15, 3) := by decide +kernel
theorem d_M_differences_331 : decode prog_13_method_36_code 331 = .ok (.iload_n 3, 1) := by decide +kernel
theorem d_M_differences_332 : decode prog_13_method_36_code 332 = .ok (.iconst 2, 1) := by decide +kernel
theorem d_M_differences_333 : decode prog_13_method_36_code 333 = .ok (.idiv, 1) := by decide +kernel
theorem d_M_differences_334 : decode prog_13_method_36_code 334 = .ok (.iconst 1, 1) := by decide +kernel
theorem d_M_differences_335 : decode prog_13_method_36_code 335 = .ok (.if_icmp .ne 7, 3) := by decide +kernel
theorem d_M_differences_338 : decode prog_13_method_36_code 338 = .ok (.iconst 1, 1) := by decide +kernel
theorem d_M_differences_339 : decode prog_13_method_36_code 339 = .ok (.goto 4, 3) := by decide +kernel
theorem d_M_differences_342 : decode prog_13_method_36_code 342 = .ok (.iconst 2, 1) := by decide +kernel
theorem d_M_differences_343 : decode prog_13_method_36_code 343 = .ok (.ldc_w 266, 3) := by decide +kernel
theorem d_M_differences_346 : decode prog_13_method_36_code 346 = .ok (.invokevirtual 263, 3) := by decide +kernel
theorem d_M_differences_349 : decode prog_13_method_36_code 349 = .ok (.iinc 4 1, 3) := by decide +kernel
theorem d_M_differences_352 : decode prog_13_method_36_code 352 = .ok (.goto (-42), 3) := by decide +kernel
theorem d_M_differences_355 : decode prog_13_method_36_code 355 = .ok (.iconst 0, 1) := by decide +kernel
theorem d_M_differences_356 : decode prog_13_method_36_code 356 = .ok (.istore 4, 2) := by decide +kernel
theorem d_M_differences_358 : decode prog_13_method_36_code 358 = .ok (.iload 4, 2) := by decide +kernel
theorem d_M_differences_360 : decode prog_13_method_36_code 360 = .ok (.bipush 16, 2) := by decide +kernel
theorem d_M_differences_362 : decode prog_13_method_36_code 362 = .ok (.if_icmp .ge 47, 3) := by decide +kernel
theorem d_M_differences_365 : decode prog_13_method_36_code 365 = .ok (.aload_n 0, 1) := by decide +kernel
theorem d_M_differences_366 : decode prog_13_method_36_code 366 = .ok (.getfield 52, 3) := by decide +kernel
theorem d_M_differences_369 : decode prog_13_method_36_code 369 = .ok (.iload 4, 2) := by decide +kernel
theorem d_M_differences_371 : decode prog_13_method_36_code 371 = .ok (.aload_n 0, 1) := by decide +kernel
theorem d_M_differences_372 : decode prog_13_method_36_code 372 = .ok (.getfield 183, 3) := by decide +kernel
theorem d_M_differences_375 : decode prog_13_method_36_code 375 = .ok (.ifCond .ne 15, 3) := by decide +kernel
theorem d_M_differences_378 : decode prog_13_method_36_code 378 = .ok (.aload_n 0, 1) := by decide +kernel
theorem d_M_differences_379 : decode prog_13_method_36_code 379 = .ok (.getfield 52, 3) := by decide +kernel
theorem d_M_differences_382 : decode prog_13_method_36_code 382 = .ok (.iload 4, 2) := by decide +kernel
theorem d_M_differences_384 : decode prog_13_method_36_code 384 = .ok (.iaload, 1) := by decide +kernel
theorem d_M_differences_385 : decode prog_13_method_36_code 385 = .ok (.iconst 2, 1) := by decide +kernel
theorem d_M_differences_386 : decode prog_13_method_36_code 386 = .ok (.ishr, 1) := by decide +kernel
theorem d_M_differences_387 : decode prog_13_method_36_code 387 = .ok (.goto 15, 3) := by decide +kernel
theorem d_M_differences_390 : decode prog_13_method_36_code 390 = .ok (.aload_n 0, 1) := by decide +kernel
theorem d_M_differences_391 : decode prog_13_method_36_code 391 = .ok (.getfield 52, 3) := by decide +kernel
theorem d_M_differences_394 : decode prog_13_method_36_code 394 = .ok (.iload 4, 2) := by decide +kernel
theorem d_M_differences_396 : decode prog_13_method_36_code 396 = .ok (.iaload, 1) := by decide +kernel
theorem d_M_differences_397 : decode prog_13_method_36_code 397 = .ok (.bipush 8, 2) := by decide +kernel
theorem d_M_differences_399 : decode prog_13_method_36_code 399 = .ok (.iadd, 1) := by decide +kernel
theorem d_M_differences_400 : decode prog_13_method_36_code 400 = .ok (.iconst 4, 1) := by decide +kernel
theorem d_M_differences_401 : decode prog_13_method_36_code 401 = .ok (.ishr, 1) := by decide +kernel
theorem d_M_differences_402 : decode prog_13_method_36_code 402 = .ok (.iastore, 1) := by decide +kernel
theorem d_M_differences_403 : decode prog_13_method_36_code 403 = .ok (.iinc 4 1, 3) := by decide +kernel
theorem d_M_differences_406 : decode prog_13_method_36_code 406 = .ok (.goto (-48), 3) := by decide +kernel
theorem d_M_differences_409 : decode prog_13_method_36_code 409 = .ok (.return_, 1) := by decide +kernel
theorem d_M_edges_0 : decode prog_13_method_33_code 0 = .ok (.aload_n 0, 1) := by decide +kernel
theorem d_M_edges_1 : decode prog_13_method_33_code 1 = .ok (.getfield 168, 3) := by decide +kernel
theorem d_M_edges_4 : decode prog_13_method_33_code 4 = .ok (.iconst 1, 1) := by decide +kernel
theorem d_M_edges_5 : decode prog_13_method_33_code 5 = .ok (.if_icmp .ne 9, 3) := by decide +kernel
theorem d_M_edges_8 : decode prog_13_method_33_code 8 = .ok (.sipush 512, 3) := by decide +kernel
theorem d_M_edges_11 : decode prog_13_method_33_code 11 = .ok (.goto 6, 3) := by decide +kernel
theorem d_M_edges_14 : decode prog_13_method_33_code 14 = .ok (.sipush 128, 3) := by decide +kernel
theorem d_M_edges_17 : decode prog_13_method_33_code 17 = .ok (.istore 4, 2) := by decide +kernel
theorem d_M_edges_19 : decode prog_13_method_33_code 19 = .ok (.iload_n 3, 1) := by decide +kernel
theorem d_M_edges_20 : decode prog_13_method_33_code 20 = .ok (.ifCond .le 21, 3) := by decide +kernel
theorem d_M_edges_23 : decode prog_13_method_33_code 23 = .ok (.aload_n 0, 1) := by decide +kernel
theorem d_M_edges_24 : decode prog_13_method_33_code 24 = .ok (.getfield 37, 3) := by decide +kernel
theorem d_M_edges_27 : decode prog_13_method_33_code 27 = .ok (.iload_n 1, 1) := by decide +kernel
theorem d_M_edges_28 : decode prog_13_method_33_code 28 = .ok (.bipush 16, 2) := by decide +kernel
theorem d_M_edges_30 : decode prog_13_method_33_code 30 = .ok (.iload_n 3, 1) := by decide +kernel
theorem d_M_edges_31 : decode prog_13_method_33_code 31 = .ok (.iconst 1, 1) := by decide +kernel
theorem d_M_edges_32 : decode prog_13_method_33_code 32 = .ok (.isub, 1) := by decide +kernel
theorem d_M_edges_33 : decode prog_13_method_33_code 33 = .ok (.imul, 1) := by decide +kernel
theorem d_M_edges_34 : decode prog_13_method_33_code 34 = .ok (.iadd, 1) := by decide +kernel
theorem d_M_edges_35 : decode prog_13_method_33_code 35 = .ok (.iload_n 2, 1) := by decide +kernel
theorem d_M_edges_36 : decode prog_13_method_33_code 36 = .ok (.iadd, 1) := by decide +kernel
theorem d_M_edges_37 : decode prog_13_method_33_code 37 = .ok (.iaload, 1) := by decide +kernel
theorem d_M_edges_38 : decode prog_13_method_33_code 38 = .ok (.goto 27, 3) := by decide +kernel
theorem d_M_edges_41 : decode prog_13_method_33_code 41 = .ok (.iload_n 2, 1) := by decide +kernel
theorem d_M_edges_42 : decode prog_13_method_33_code 42 = .ok (.ifCond .le 21, 3) := by decide +kernel
theorem d_M_edges_45 : decode prog_13_method_33_code 45 = .ok (.aload_n 0, 1) := by decide +kernel
theorem d_M_edges_46 : decode prog_13_method_33_code 46 = .ok (.getfield 37, 3) := by decide +kernel
theorem d_M_edges_49 : decode prog_13_method_33_code 49 = .ok (.iload_n 1, 1) := by decide +kernel
theorem d_M_edges_50 : decode prog_13_method_33_code 50 = .ok (.bipush 16, 2) := by decide +kernel
theorem d_M_edges_52 : decode prog_13_method_33_code 52 = .ok (.iload_n 3, 1) := by decide +kernel
theorem d_M_edges_53 : decode prog_13_method_33_code 53 = .ok (.imul, 1) := by decide +kernel
theorem d_M_edges_54 : decode prog_13_method_33_code 54 = .ok (.iadd, 1) := by decide +kernel
theorem d_M_edges_55 : decode prog_13_method_33_code 55 = .ok (.iload_n 2, 1) := by decide +kernel
theorem d_M_edges_56 : decode prog_13_method_33_code 56 = .ok (.iadd, 1) := by decide +kernel
theorem d_M_edges_57 : decode prog_13_method_33_code 57 = .ok (.iconst 1, 1) := by decide +kernel
theorem d_M_edges_58 : decode prog_13_method_33_code 58 = .ok (.isub, 1) := by decide +kernel
theorem d_M_edges_59 : decode prog_13_method_33_code 59 = .ok (.iaload, 1) := by decide +kernel
theorem d_M_edges_60 : decode prog_13_method_33_code 60 = .ok (.goto 5, 3) := by decide +kernel
theorem d_M_edges_63 : decode prog_13_method_33_code 63 = .ok (.iload 4, 2) := by decide +kernel
theorem d_M_edges_65 : decode prog_13_method_33_code 65 = .ok (.istore 5, 2) := by decide +kernel
theorem d_M_edges_67 : decode prog_13_method_33_code 67 = .ok (.iload_n 2, 1) := by decide +kernel
theorem d_M_edges_68 : decode prog_13_method_33_code 68 = .ok (.ifCond .le 21, 3) := by decide +kernel
theorem d_M_edges_71 : decode prog_13_method_33_code 71 = .ok (.aload_n 0, 1) := by decide +kernel
theorem d_M_edges_72 : decode prog_13_method_33_code 72 = .ok (.getfield 37, 3) := by decide +kernel
theorem d_M_edges_75 : decode prog_13_method_33_code 75 = .ok (.iload_n 1, 1) := by decide +kernel
theorem d_M_edges_76 : decode prog_13_method_33_code 76 = .ok (.bipush 16, 2) := by decide +kernel
theorem d_M_edges_78 : decode prog_13_method_33_code 78 = .ok (.iload_n 3, 1) := by decide +kernel
theorem d_M_edges_79 : decode prog_13_method_33_code 79 = .ok (.imul, 1) := by decide +kernel
theorem d_M_edges_80 : decode prog_13_method_33_code 80 = .ok (.iadd, 1) := by decide +kernel
theorem d_M_edges_81 : decode prog_13_method_33_code 81 = .ok (.iload_n 2, 1) := by decide +kernel
theorem d_M_edges_82 : decode prog_13_method_33_code 82 = .ok (.iadd, 1) := by decide +kernel
theorem d_M_edges_83 : decode prog_13_method_33_code 83 = .ok (.iconst 1, 1) := by decide +kernel
theorem d_M_edges_84 : decode prog_13_method_33_code 84 = .ok (.isub, 1) := by decide +kernel
theorem d_M_edges_85 : decode prog_13_method_33_code 85 = .ok (.iaload, 1) := by decide +kernel
theorem d_M_edges_86 : decode prog_13_method_33_code 86 = .ok (.goto 27, 3) := by decide +kernel
theorem d_M_edges_89 : decode prog_13_method_33_code 89 = .ok (.iload_n 3, 1) := by decide +kernel
theorem d_M_edges_90 : decode prog_13_method_33_code 90 = .ok (.ifCond .le 21, 3) := by decide +kernel
theorem d_M_edges_93 : decode prog_13_method_33_code 93 = .ok (.aload_n 0, 1) := by decide +kernel
theorem d_M_edges_94 : decode prog_13_method_33_code 94 = .ok (.getfield 37, 3) := by decide +kernel
theorem d_M_edges_97 : decode prog_13_method_33_code 97 = .ok (.iload_n 1, 1) := by decide +kernel
theorem d_M_edges_98 : decode prog_13_method_33_code 98 = .ok (.bipush 16, 2) := by decide +kernel
theorem d_M_edges_100 : decode prog_13_method_33_code 100 = .ok (.iload_n 3, 1) := by decide +kernel
theorem d_M_edges_101 : decode prog_13_method_33_code 101 = .ok (.iconst 1, 1) := by decide +kernel
theorem d_M_edges_102 : decode prog_13_method_33_code 102 = .ok (.isub, 1) := by decide +kernel
theorem d_M_edges_103 : decode prog_13_method_33_code 103 = .ok (.imul, 1) := by decide +kernel
theorem d_M_edges_104 : decode prog_13_method_33_code 104 = .ok (.iadd, 1) := by decide +kernel
theorem d_M_edges_105 : decode prog_13_method_33_code 105 = .ok (.iload_n 2, 1) := by decide +kernel
theorem d_M_edges_106 : decode prog_13_method_33_code 106 = .ok (.iadd, 1) := by decide +kernel
theorem d_M_edges_107 : decode prog_13_method_33_code 107 = .ok (.iaload, 1) := by decide +kernel
theorem d_M_edges_108 : decode prog_13_method_33_code 108 = .ok (.goto 5, 3) := by decide +kernel
theorem d_M_edges_111 : decode prog_13_method_33_code 111 = .ok (.iload 4, 2) := by decide +kernel
theorem d_M_edges_113 : decode prog_13_method_33_code 113 = .ok (.istore 6, 2) := by decide +kernel
theorem d_M_edges_115 : decode prog_13_method_33_code 115 = .ok (.iconst 0, 1) := by decide +kernel
theorem d_M_edges_116 : decode prog_13_method_33_code 116 = .ok (.istore 7, 2) := by decide +kernel
theorem d_M_edges_118 : decode prog_13_method_33_code 118 = .ok (.iload 7, 2) := by decide +kernel
theorem d_M_edges_120 : decode prog_13_method_33_code 120 = .ok (.iconst 4, 1) := by decide +kernel
theorem d_M_edges_121 : decode prog_13_method_33_code 121 = .ok (.if_icmp .ge 77, 3) := by decide +kernel
theorem d_M_edges_124 : decode prog_13_method_33_code 124 = .ok (.aload_n 0, 1) := by decide +kernel
theorem d_M_edges_125 : decode prog_13_method_33_code 125 = .ok (.getfield 58, 3) := by decide +kernel
theorem d_M_edges_128 : decode prog_13_method_33_code 128 = .ok (.iload 7, 2) := by decide +kernel
theorem d_M_edges_130 : decode prog_13_method_33_code 130 = .ok (.iload_n 3, 1) := by decide +kernel
theorem d_M_edges_131 : decode prog_13_method_33_code 131 = .ok (.ifCond .le 24, 3) := by decide +kernel
theorem d_M_edges_134 : decode prog_13_method_33_code 134 = .ok (.aload_n 0, 1) := by decide +kernel
theorem d_M_edges_135 : decode prog_13_method_33_code 135 = .ok (.getfield 37, 3) := by decide +kernel
theorem d_M_edges_138 : decode prog_13_method_33_code 138 = .ok (.iload_n 1, 1) := by decide +kernel
theorem d_M_edges_139 : decode prog_13_method_33_code 139 = .ok (.bipush 16, 2) := by decide +kernel
theorem d_M_edges_141 : decode prog_13_method_33_code 141 = .ok (.iload_n 3, 1) := by decide +kernel
theorem d_M_edges_142 : decode prog_13_method_33_code 142 = .ok (.iconst 1, 1) := by decide +kernel
theorem d_M_edges_143 : decode prog_13_method_33_code 143 = .ok (.isub, 1) := by decide +kernel
theorem d_M_edges_144 : decode prog_13_method_33_code 144 = .ok (.imul, 1) := by decide +kernel
theorem d_M_edges_145 : decode prog_13_method_33_code 145 = .ok (.iadd, 1) := by decide +kernel
theorem d_M_edges_146 : decode prog_13_method_33_code 146 = .ok (.iload_n 2, 1) := by decide +kernel
theorem d_M_edges_147 : decode prog_13_method_33_code 147 = .ok (.iadd, 1) := by decide +kernel
theorem d_M_edges_148 : decode prog_13_method_33_code 148 = .ok (.iload 7, 2) := by decide +kernel
theorem d_M_edges_150 : decode prog_13_method_33_code 150 = .ok (.iadd, 1) := by decide +kernel
theorem d_M_edges_151 : decode prog_13_method_33_code 151 = .ok (.iaload, 1) := by decide +kernel
theorem d_M_edges_152 : decode prog_13_method_33_code 152 = .ok (.goto 5, 3) := by decide +kernel
theorem d_M_edges_155 : decode prog_13_method_33_code 155 = .ok (.iload 5, 2) := by decide +kernel
theorem d_M_edges_157 : decode prog_13_method_33_code 157 = .ok (.iastore, 1) := by decide +kernel
theorem d_M_edges_158 : decode prog_13_method_33_code 158 = .ok (.aload_n 0, 1) := by decide +kernel
theorem d_M_edges_159 : decode prog_13_method_33_code 159 = .ok (.getfield 61, 3) := by decide +kernel
theorem d_M_edges_162 : decode prog_13_method_33_code 162 = .ok (.iload 7, 2) := by decide +kernel
theorem d_M_edges_164 : decode prog_13_method_33_code 164 = .ok (.iload_n 2, 1) := by decide +kernel
theorem d_M_edges_165 : decode prog_13_method_33_code 165 = .ok (.ifCond .le 24, 3) := by decide +kernel
theorem d_M_edges_168 : decode prog_13_method_33_code 168 = .ok (.aload_n 0, 1) := by decide +kernel
theorem d_M_edges_169 : decode prog_13_method_33_code 169 = .ok (.getfield 37, 3) := by decide +kernel
theorem d_M_edges_172 : decode prog_13_method_33_code 172 = .ok (.iload_n 1, 1) := by decide +kernel
theorem d_M_edges_173 : decode prog_13_method_33_code 173 = .ok (.bipush 16, 2) := by decide +kernel
theorem d_M_edges_175 : decode prog_13_method_33_code 175 = .ok (.iload_n 3, 1) := by decide +kernel
theorem d_M_edges_176 : decode prog_13_method_33_code 176 = .ok (.iload 7, 2) := by decide +kernel
theorem d_M_edges_178 : decode prog_13_method_33_code 178 = .ok (.iadd, 1) := by decide +kernel
theorem d_M_edges_179 : decode prog_13_method_33_code 179 = .ok (.imul, 1) := by decide +kernel
theorem d_M_edges_180 : decode prog_13_method_33_code 180 = .ok (.iadd, 1) := by decide +kernel
theorem d_M_edges_181 : decode prog_13_method_33_code 181 = .ok (.iload_n 2, 1) := by decide +kernel
theorem d_M_edges_182 : decode prog_13_method_33_code 182 = .ok (.iadd, 1) := by decide +kernel
theorem d_M_edges_183 : decode prog_13_method_33_code 183 = .ok (.iconst 1, 1) := by decide +kernel
theorem d_M_edges_184 : decode prog_13_method_33_code 184 = .ok (.isub, 1) := by decide +kernel
theorem d_M_edges_185 : decode prog_13_method_33_code 185 = .ok (.iaload, 1) := by decide +kernel
theorem d_M_edges_186 : decode prog_13_method_33_code 186 = .ok (.goto 5, 3) := by decide +kernel
theorem d_M_edges_189 : decode prog_13_method_33_code 189 = .ok (.iload 6, 2) := by decide +kernel
theorem d_M_edges_191 : decode prog_13_method_33_code 191 = .ok (.iastore, 1) := by decide +kernel
theorem d_M_edges_192 : decode prog_13_method_33_code 192 = .ok (.iinc 7 1, 3) := by decide +kernel
theorem d_M_edges_195 : decode prog_13_method_33_code 195 = .ok (.goto (-77), 3) := by decide +kernel
theorem d_M_edges_198 : decode prog_13_method_33_code 198 = .ok (.aload_n 0, 1) := by decide +kernel
theorem d_M_edges_199 : decode prog_13_method_33_code 199 = .ok (.iload_n 2, 1) := by decide +kernel
theorem d_M_edges_200 : decode prog_13_method_33_code 200 = .ok (.ifCond .le 27, 3) := by decide +kernel
theorem d_M_edges_203 : decode prog_13_method_33_code 203 = .ok (.iload_n 3, 1) := by decide +kernel
theorem d_M_edges_204 : decode prog_13_method_33_code 204 = .ok (.ifCond .le 23, 3) := by decide +kernel
theorem d_M_edges_207 : decode prog_13_method_33_code 207 = .ok (.aload_n 0, 1) := by decide +kernel
theorem d_M_edges_208 : decode prog_13_method_33_code 208 = .ok (.getfield 37, 3) := by decide +kernel
theorem d_M_edges_211 : decode prog_13_method_33_code 211 = .ok (.iload_n 1, 1) := by decide +kernel
theorem d_M_edges_212 : decode prog_13_method_33_code 212 = .ok (.bipush 16, 2) := by decide +kernel
theorem d_M_edges_214 : decode prog_13_method_33_code 214 = .ok (.iload_n 3, 1) := by decide +kernel
theorem d_M_edges_215 : decode prog_13_method_33_code 215 = .ok (.iconst 1, 1) := by decide +kernel
theorem d_M_edges_216 : decode prog_13_method_33_code 216 = .ok (.isub, 1) := by decide +kernel
theorem d_M_edges_217 : decode prog_13_method_33_code 217 = .ok (.imul, 1) := by decide +kernel
theorem d_M_edges_218 : decode prog_13_method_33_code 218 = .ok (.iadd, 1) := by decide +kernel
theorem d_M_edges_219 : decode prog_13_method_33_code 219 = .ok (.iload_n 2, 1) := by decide +kernel
theorem d_M_edges_220 : decode prog_13_method_33_code 220 = .ok (.iadd, 1) := by decide +kernel
theorem d_M_edges_221 : decode prog_13_method_33_code 221 = .ok (.iconst 1, 1) := by decide +kernel
theorem d_M_edges_222 : decode prog_13_method_33_code 222 = .ok (.isub, 1) := by decide +kernel
theorem d_M_edges_223 : decode prog_13_method_33_code 223 = .ok (.iaload, 1) := by decide +kernel
theorem d_M_edges_224 : decode prog_13_method_33_code 224 = .ok (.goto 14, 3) := by decide +kernel
theorem d_M_edges_227 : decode prog_13_method_33_code 227 = .ok (.iload_n 3, 1) := by decide +kernel
theorem d_M_edges_228 : decode prog_13_method_33_code 228 = .ok (.ifCond .le 8, 3) := by decide +kernel
theorem d_M_edges_231 : decode prog_13_method_33_code 231 = .ok (.iload 5, 2) := by decide +kernel
theorem d_M_edges_233 : decode prog_13_method_33_code 233 = .ok (.goto 5, 3) := by decide +kernel
theorem d_M_edges_236 : decode prog_13_method_33_code 236 = .ok (.iload 6, 2) := by decide +kernel
theorem d_M_edges_238 : decode prog_13_method_33_code 238 = .ok (.putfield 248, 3) := by decide +kernel
theorem d_M_edges_241 : decode prog_13_method_33_code 241 = .ok (.return_, 1) := by decide +kernel
theorem d_M_piece_0 : decode prog_13_method_31_code 0 = .ok (.iload_n 2, 1) := by decide +kernel
theorem d_M_piece_1 : decode prog_13_method_31_code 1 = .ok (.aload_n 0, 1) := by decide +kernel
theorem d_M_piece_2 : decode prog_13_method_31_code 2 = .ok (.getfield 171, 3) := by decide +kernel
theorem d_M_piece_5 : decode prog_13_method_31_code 5 = .ok (.if_icmp .ge 18, 3) := by decide +kernel
theorem d_M_piece_8 : decode prog_13_method_31_code 8 = .ok (.iload_n 3, 1) := by decide +kernel
theorem d_M_piece_9 : decode prog_13_method_31_code 9 = .ok (.aload_n 0, 1) := by decide +kernel
theorem d_M_piece_10 : decode prog_13_method_31_code 10 = .ok (.getfield 174, 3) := by decide +kernel
theorem d_M_piece_13 : decode prog_13_method_31_code 13 = .ok (.if_icmp .ge 10, 3) := by decide +kernel
theorem d_M_piece_16 : decode prog_13_method_31_code 16 = .ok (.aload_n 0, 1) := by decide +kernel
theorem d_M_piece_17 : decode prog_13_method_31_code 17 = .ok (.getfield 78, 3) := by decide +kernel
theorem d_M_piece_20 : decode prog_13_method_31_code 20 = .ok (.ifCond .eq 4, 3) := by decide +kernel
theorem d_M_piece_23 : decode prog_13_method_31_code 23 = .ok (.return_, 1) := by decide +kernel
theorem d_M_piece_24 : decode prog_13_method_31_code 24 = .ok (.aload_n 0, 1) := by decide +kernel
theorem d_M_piece_25 : decode prog_13_method_31_code 25 = .ok (.iload_n 1, 1) := by decide +kernel
theorem d_M_piece_26 : decode prog_13_method_31_code 26 = .ok (.invokevirtual 235, 3) := by decide +kernel
theorem d_M_piece_29 : decode prog_13_method_31_code 29 = .ok (.aload_n 0, 1) := by decide +kernel
theorem d_M_piece_30 : decode prog_13_method_31_code 30 = .ok (.sipush 256, 3) := by decide +kernel
theorem d_M_piece_33 : decode prog_13_method_31_code 33 = .ok (.iload_n 1, 1) := by decide +kernel
theorem d_M_piece_34 : decode prog_13_method_31_code 34 = .ok (.imul, 1) := by decide +kernel
theorem d_M_piece_35 : decode prog_13_method_31_code 35 = .ok (.iload_n 2, 1) := by decide +kernel
theorem d_M_piece_36 : decode prog_13_method_31_code 36 = .ok (.iload_n 3, 1) := by decide +kernel
theorem d_M_piece_37 : decode prog_13_method_31_code 37 = .ok (.invokevirtual 238, 3) := by decide +kernel
theorem d_M_piece_40 : decode prog_13_method_31_code 40 = .ok (.aload_n 0, 1) := by decide +kernel
theorem d_M_piece_41 : decode prog_13_method_31_code 41 = .ok (.getfield 46, 3) := by decide +kernel
theorem d_M_piece_44 : decode prog_13_method_31_code 44 = .ok (.iconst 4, 1) := by decide +kernel
theorem d_M_piece_45 : decode prog_13_method_31_code 45 = .ok (.aload_n 0, 1) := by decide +kernel
theorem d_M_piece_46 : decode prog_13_method_31_code 46 = .ok (.getfield 223, 3) := by decide +kernel
theorem d_M_piece_49 : decode prog_13_method_31_code 49 = .ok (.imul, 1) := by decide +kernel
theorem d_M_piece_50 : decode prog_13_method_31_code 50 = .ok (.iload_n 1, 1) := by decide +kernel
theorem d_M_piece_51 : decode prog_13_method_31_code 51 = .ok (.ifCond .ne 7, 3) := by decide +kernel
theorem d_M_piece_54 : decode prog_13_method_31_code 54 = .ok (.iconst 1, 1) := by decide +kernel
theorem d_M_piece_55 : decode prog_13_method_31_code 55 = .ok (.goto 4, 3) := by decide +kernel
theorem d_M_piece_58 : decode prog_13_method_31_code 58 = .ok (.iconst 2, 1) := by decide +kernel
theorem d_M_piece_59 : decode prog_13_method_31_code 59 = .ok (.iadd, 1) := by decide +kernel
theorem d_M_piece_60 : decode prog_13_method_31_code 60 = .ok (.iaload, 1) := by decide +kernel
theorem d_M_piece_61 : decode prog_13_method_31_code 61 = .ok (.istore 4, 2) := by decide +kernel
theorem d_M_piece_63 : decode prog_13_method_31_code 63 = .ok (.bipush 8, 2) := by decide +kernel
theorem d_M_piece_65 : decode prog_13_method_31_code 65 = .ok (.istore 5, 2) := by decide +kernel
theorem d_M_piece_67 : decode prog_13_method_31_code 67 = .ok (.iconst 0, 1) := by decide +kernel
theorem d_M_piece_68 : decode prog_13_method_31_code 68 = .ok (.istore 6, 2) := by decide +kernel
theorem d_M_piece_70 : decode prog_13_method_31_code 70 = .ok (.iload 6, 2) := by decide +kernel
theorem d_M_piece_72 : decode prog_13_method_31_code 72 = .ok (.bipush 16, 2) := by decide +kernel
theorem d_M_piece_74 : decode prog_13_method_31_code 74 = .ok (.if_icmp .ge 35, 3) := by decide +kernel
theorem d_M_piece_77 : decode prog_13_method_31_code 77 = .ok (.iload 5, 2) := by decide +kernel
theorem d_M_piece_79 : decode prog_13_method_31_code 79 = .ok (.aload_n 0, 1) := by decide +kernel
theorem d_M_piece_80 : decode prog_13_method_31_code 80 = .ok (.getfield 37, 3) := by decide +kernel
theorem d_M_piece_83 : decode prog_13_method_31_code 83 = .ok (.bipush 16, 2) := by decide +kernel
theorem d_M_piece_85 : decode prog_13_method_31_code 85 = .ok (.iload_n 3, 1) := by decide +kernel
theorem d_M_piece_86 : decode prog_13_method_31_code 86 = .ok (.iload 6, 2) := by decide +kernel
theorem d_M_piece_88 : decode prog_13_method_31_code 88 = .ok (.iconst 4, 1) := by decide +kernel
theorem d_M_piece_89 : decode prog_13_method_31_code 89 = .ok (.idiv, 1) := by decide +kernel
theorem d_M_piece_90 : decode prog_13_method_31_code 90 = .ok (.iadd, 1) := by decide +kernel
theorem d_M_piece_91 : decode prog_13_method_31_code 91 = .ok (.imul, 1) := by decide +kernel
theorem d_M_piece_92 : decode prog_13_method_31_code 92 = .ok (.iload_n 2, 1) := by decide +kernel
theorem d_M_piece_93 : decode prog_13_method_31_code 93 = .ok (.iadd, 1) := by decide +kernel
theorem d_M_piece_94 : decode prog_13_method_31_code 94 = .ok (.iload 6, 2) := by decide +kernel
theorem d_M_piece_96 : decode prog_13_method_31_code 96 = .ok (.iconst 4, 1) := by decide +kernel
theorem d_M_piece_97 : decode prog_13_method_31_code 97 = .ok (.irem, 1) := by decide +kernel
theorem d_M_piece_98 : decode prog_13_method_31_code 98 = .ok (.iadd, 1) := by decide +kernel
theorem d_M_piece_99 : decode prog_13_method_31_code 99 = .ok (.iaload, 1) := by decide +kernel
theorem d_M_piece_100 : decode prog_13_method_31_code 100 = .ok (.iadd, 1) := by decide +kernel
theorem d_M_piece_101 : decode prog_13_method_31_code 101 = .ok (.istore 5, 2) := by decide +kernel
theorem d_M_piece_103 : decode prog_13_method_31_code 103 = .ok (.iinc 6 1, 3) := by decide +kernel
theorem d_M_piece_106 : decode prog_13_method_31_code 106 = .ok (.goto (-36), 3) := by decide +kernel
theorem d_M_piece_109 : decode prog_13_method_31_code 109 = .ok (.iconst 0, 1) := by decide +kernel
theorem d_M_piece_110 : decode prog_13_method_31_code 110 = .ok (.istore 6, 2) := by decide +kernel
theorem d_M_piece_112 : decode prog_13_method_31_code 112 = .ok (.iload 6, 2) := by decide +kernel
theorem d_M_piece_114 : decode prog_13_method_31_code 114 = .ok (.bipush 16, 2) := by decide +kernel
theorem d_M_piece_116 : decode prog_13_method_31_code 116 = .ok (.if_icmp .ge 141, 3) := by decide +kernel
theorem d_M_piece_119 : decode prog_13_method_31_code 119 = .ok (.iload 6, 2) := by decide +kernel
theorem d_M_piece_121 : decode prog_13_method_31_code 121 = .ok (.iconst 4, 1) := by decide +kernel
theorem d_M_piece_122 : decode prog_13_method_31_code 122 = .ok (.irem, 1) := by decide +kernel
theorem d_M_piece_123 : decode prog_13_method_31_code 123 = .ok (.istore 7, 2) := by decide +kernel
theorem d_M_piece_125 : decode prog_13_method_31_code 125 = .ok (.iload 6, 2) := by decide +kernel
theorem d_M_piece_127 : decode prog_13_method_31_code 127 = .ok (.iconst 4, 1) := by decide +kernel
theorem d_M_piece_128 : decode prog_13_method_31_code 128 = .ok (.idiv, 1) := by decide +kernel
theorem d_M_piece_129 : decode prog_13_method_31_code 129 = .ok (.istore 8, 2) := by decide +kernel
theorem d_M_piece_131 : decode prog_13_method_31_code 131 = .ok (.aload_n 0, 1) := by decide +kernel
theorem d_M_piece_132 : decode prog_13_method_31_code 132 = .ok (.getfield 37, 3) := by decide +kernel
theorem d_M_piece_135 : decode prog_13_method_31_code 135 = .ok (.bipush 16, 2) := by decide +kernel
theorem d_M_piece_137 : decode prog_13_method_31_code 137 = .ok (.iload_n 3, 1) := by decide +kernel
theorem d_M_piece_138 : decode prog_13_method_31_code 138 = .ok (.iload 8, 2) := by decide +kernel
theorem d_M_piece_140 : decode prog_13_method_31_code 140 = .ok (.iadd, 1) := by decide +kernel
theorem d_M_piece_141 : decode prog_13_method_31_code 141 = .ok (.imul, 1) := by decide +kernel
theorem d_M_piece_142 : decode prog_13_method_31_code 142 = .ok (.iload_n 2, 1) := by decide +kernel
theorem d_M_piece_143 : decode prog_13_method_31_code 143 = .ok (.iadd, 1) := by decide +kernel
theorem d_M_piece_144 : decode prog_13_method_31_code 144 = .ok (.iload 7, 2) := by decide +kernel
theorem d_M_piece_146 : decode prog_13_method_31_code 146 = .ok (.iadd, 1) := by decide +kernel
theorem d_M_piece_147 : decode prog_13_method_31_code 147 = .ok (.iaload, 1) := by decide +kernel
theorem d_M_piece_148 : decode prog_13_method_31_code 148 = .ok (.istore 9, 2) := by decide +kernel
theorem d_M_piece_150 : decode prog_13_method_31_code 150 = .ok (.iload 4, 2) := by decide +kernel
