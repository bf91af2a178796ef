/-! decode rows, written by a program -/
theorem d_M_piece_152 : decode prog_13_method_31_code 152 = .ok (.bipush 6, 2) := by decide +kernel
theorem d_M_piece_154 : decode prog_13_method_31_code 154 = .ok (.if_icmp .ne 48, 3) := by decide +kernel
theorem d_M_piece_157 : decode prog_13_method_31_code 157 = .ok (.aload_n 0, 1) := by decide +kernel
theorem d_M_piece_158 : decode prog_13_method_31_code 158 = .ok (.aload_n 0, 1) := by decide +kernel
theorem d_M_piece_159 : decode prog_13_method_31_code 159 = .ok (.iconst 0, 1) := by decide +kernel
theorem d_M_piece_160 : decode prog_13_method_31_code 160 = .ok (.iload 7, 2) := by decide +kernel
theorem d_M_piece_162 : decode prog_13_method_31_code 162 = .ok (.iload 8, 2) := by decide +kernel
theorem d_M_piece_164 : decode prog_13_method_31_code 164 = .ok (.invokevirtual 241, 3) := by decide +kernel
theorem d_M_piece_167 : decode prog_13_method_31_code 167 = .ok (.aload_n 0, 1) := by decide +kernel
theorem d_M_piece_168 : decode prog_13_method_31_code 168 = .ok (.getfield 49, 3) := by decide +kernel
theorem d_M_piece_171 : decode prog_13_method_31_code 171 = .ok (.iload_n 1, 1) := by decide +kernel
theorem d_M_piece_172 : decode prog_13_method_31_code 172 = .ok (.ifCond .ne 7, 3) := by decide +kernel
theorem d_M_piece_175 : decode prog_13_method_31_code 175 = .ok (.iconst 0, 1) := by decide +kernel
theorem d_M_piece_176 : decode prog_13_method_31_code 176 = .ok (.goto 6, 3) := by decide +kernel
theorem d_M_piece_179 : decode prog_13_method_31_code 179 = .ok (.iload_n 1, 1) := by decide +kernel
theorem d_M_piece_180 : decode prog_13_method_31_code 180 = .ok (.iconst 1, 1) := by decide +kernel
theorem d_M_piece_181 : decode prog_13_method_31_code 181 = .ok (.isub, 1) := by decide +kernel
theorem d_M_piece_182 : decode prog_13_method_31_code 182 = .ok (.iaload, 1) := by decide +kernel
theorem d_M_piece_183 : decode prog_13_method_31_code 183 = .ok (.iload 9, 2) := by decide +kernel
theorem d_M_piece_185 : decode prog_13_method_31_code 185 = .ok (.iload 5, 2) := by decide +kernel
theorem d_M_piece_187 : decode prog_13_method_31_code 187 = .ok (.iconst 4, 1) := by decide +kernel
theorem d_M_piece_188 : decode prog_13_method_31_code 188 = .ok (.ishr, 1) := by decide +kernel
theorem d_M_piece_189 : decode prog_13_method_31_code 189 = .ok (.isub, 1) := by decide +kernel
theorem d_M_piece_190 : decode prog_13_method_31_code 190 = .ok (.imul, 1) := by decide +kernel
theorem d_M_piece_191 : decode prog_13_method_31_code 191 = .ok (.iconst 2, 1) := by decide +kernel
theorem d_M_piece_192 : decode prog_13_method_31_code 192 = .ok (.iadd, 1) := by decide +kernel
theorem d_M_piece_193 : decode prog_13_method_31_code 193 = .ok (.iconst 2, 1) := by decide +kernel
theorem d_M_piece_194 : decode prog_13_method_31_code 194 = .ok (.ishr, 1) := by decide +kernel
theorem d_M_piece_195 : decode prog_13_method_31_code 195 = .ok (.iadd, 1) := by decide +kernel
theorem d_M_piece_196 : decode prog_13_method_31_code 196 = .ok (.invokevirtual 245, 3) := by decide +kernel
theorem d_M_piece_199 : decode prog_13_method_31_code 199 = .ok (.goto 13, 3) := by decide +kernel
theorem d_M_piece_202 : decode prog_13_method_31_code 202 = .ok (.aload_n 0, 1) := by decide +kernel
theorem d_M_piece_203 : decode prog_13_method_31_code 203 = .ok (.iload 4, 2) := by decide +kernel
theorem d_M_piece_205 : decode prog_13_method_31_code 205 = .ok (.iload 7, 2) := by decide +kernel
theorem d_M_piece_207 : decode prog_13_method_31_code 207 = .ok (.iload 8, 2) := by decide +kernel
theorem d_M_piece_209 : decode prog_13_method_31_code 209 = .ok (.invokevirtual 241, 3) := by decide +kernel
theorem d_M_piece_212 : decode prog_13_method_31_code 212 = .ok (.istore 10, 2) := by decide +kernel
theorem d_M_piece_214 : decode prog_13_method_31_code 214 = .ok (.aload_n 0, 1) := by decide +kernel
theorem d_M_piece_215 : decode prog_13_method_31_code 215 = .ok (.getfield 37, 3) := by decide +kernel
theorem d_M_piece_218 : decode prog_13_method_31_code 218 = .ok (.sipush 256, 3) := by decide +kernel
theorem d_M_piece_221 : decode prog_13_method_31_code 221 = .ok (.iload_n 1, 1) := by decide +kernel
theorem d_M_piece_222 : decode prog_13_method_31_code 222 = .ok (.imul, 1) := by decide +kernel
theorem d_M_piece_223 : decode prog_13_method_31_code 223 = .ok (.bipush 16, 2) := by decide +kernel
theorem d_M_piece_225 : decode prog_13_method_31_code 225 = .ok (.iload_n 3, 1) := by decide +kernel
theorem d_M_piece_226 : decode prog_13_method_31_code 226 = .ok (.iload 8, 2) := by decide +kernel
theorem d_M_piece_228 : decode prog_13_method_31_code 228 = .ok (.iadd, 1) := by decide +kernel
theorem d_M_piece_229 : decode prog_13_method_31_code 229 = .ok (.imul, 1) := by decide +kernel
theorem d_M_piece_230 : decode prog_13_method_31_code 230 = .ok (.iadd, 1) := by decide +kernel
theorem d_M_piece_231 : decode prog_13_method_31_code 231 = .ok (.iload_n 2, 1) := by decide +kernel
theorem d_M_piece_232 : decode prog_13_method_31_code 232 = .ok (.iadd, 1) := by decide +kernel
theorem d_M_piece_233 : decode prog_13_method_31_code 233 = .ok (.iload 7, 2) := by decide +kernel
theorem d_M_piece_235 : decode prog_13_method_31_code 235 = .ok (.iadd, 1) := by decide +kernel
theorem d_M_piece_236 : decode prog_13_method_31_code 236 = .ok (.aload_n 0, 1) := by decide +kernel
theorem d_M_piece_237 : decode prog_13_method_31_code 237 = .ok (.iload 10, 2) := by decide +kernel
theorem d_M_piece_239 : decode prog_13_method_31_code 239 = .ok (.aload_n 0, 1) := by decide +kernel
theorem d_M_piece_240 : decode prog_13_method_31_code 240 = .ok (.getfield 52, 3) := by decide +kernel
theorem d_M_piece_243 : decode prog_13_method_31_code 243 = .ok (.iload 6, 2) := by decide +kernel
theorem d_M_piece_245 : decode prog_13_method_31_code 245 = .ok (.iaload, 1) := by decide +kernel
theorem d_M_piece_246 : decode prog_13_method_31_code 246 = .ok (.iadd, 1) := by decide +kernel
theorem d_M_piece_247 : decode prog_13_method_31_code 247 = .ok (.invokevirtual 245, 3) := by decide +kernel
theorem d_M_piece_250 : decode prog_13_method_31_code 250 = .ok (.iastore, 1) := by decide +kernel
theorem d_M_piece_251 : decode prog_13_method_31_code 251 = .ok (.iinc 6 1, 3) := by decide +kernel
theorem d_M_piece_254 : decode prog_13_method_31_code 254 = .ok (.goto (-142), 3) := by decide +kernel
theorem d_M_piece_257 : decode prog_13_method_31_code 257 = .ok (.return_, 1) := by decide +kernel
theorem d_M_readBlock_0 : decode prog_13_method_30_code 0 = .ok (.iload_n 1, 1) := by decide +kernel
theorem d_M_readBlock_1 : decode prog_13_method_30_code 1 = .ok (.aload_n 0, 1) := by decide +kernel
theorem d_M_readBlock_2 : decode prog_13_method_30_code 2 = .ok (.getfield 171, 3) := by decide +kernel
theorem d_M_readBlock_5 : decode prog_13_method_30_code 5 = .ok (.if_icmp .ge 18, 3) := by decide +kernel
theorem d_M_readBlock_8 : decode prog_13_method_30_code 8 = .ok (.iload_n 2, 1) := by decide +kernel
theorem d_M_readBlock_9 : decode prog_13_method_30_code 9 = .ok (.aload_n 0, 1) := by decide +kernel
theorem d_M_readBlock_10 : decode prog_13_method_30_code 10 = .ok (.getfield 174, 3) := by decide +kernel
theorem d_M_readBlock_13 : decode prog_13_method_30_code 13 = .ok (.if_icmp .ge 10, 3) := by decide +kernel
theorem d_M_readBlock_16 : decode prog_13_method_30_code 16 = .ok (.aload_n 0, 1) := by decide +kernel
theorem d_M_readBlock_17 : decode prog_13_method_30_code 17 = .ok (.getfield 78, 3) := by decide +kernel
theorem d_M_readBlock_20 : decode prog_13_method_30_code 20 = .ok (.ifCond .eq 4, 3) := by decide +kernel
theorem d_M_readBlock_23 : decode prog_13_method_30_code 23 = .ok (.return_, 1) := by decide +kernel
theorem d_M_readBlock_24 : decode prog_13_method_30_code 24 = .ok (.iload_n 2, 1) := by decide +kernel
theorem d_M_readBlock_25 : decode prog_13_method_30_code 25 = .ok (.iload_n 1, 1) := by decide +kernel
theorem d_M_readBlock_26 : decode prog_13_method_30_code 26 = .ok (.iconst 4, 1) := by decide +kernel
theorem d_M_readBlock_27 : decode prog_13_method_30_code 27 = .ok (.idiv, 1) := by decide +kernel
theorem d_M_readBlock_28 : decode prog_13_method_30_code 28 = .ok (.iadd, 1) := by decide +kernel
theorem d_M_readBlock_29 : decode prog_13_method_30_code 29 = .ok (.istore 4, 2) := by decide +kernel
theorem d_M_readBlock_31 : decode prog_13_method_30_code 31 = .ok (.iload_n 2, 1) := by decide +kernel
theorem d_M_readBlock_32 : decode prog_13_method_30_code 32 = .ok (.ifCond .le 28, 3) := by decide +kernel
theorem d_M_readBlock_35 : decode prog_13_method_30_code 35 = .ok (.aload_n 0, 1) := by decide +kernel
theorem d_M_readBlock_36 : decode prog_13_method_30_code 36 = .ok (.getfield 46, 3) := by decide +kernel
theorem d_M_readBlock_39 : decode prog_13_method_30_code 39 = .ok (.iconst 4, 1) := by decide +kernel
theorem d_M_readBlock_40 : decode prog_13_method_30_code 40 = .ok (.aload_n 0, 1) := by decide +kernel
theorem d_M_readBlock_41 : decode prog_13_method_30_code 41 = .ok (.getfield 43, 3) := by decide +kernel
theorem d_M_readBlock_44 : decode prog_13_method_30_code 44 = .ok (.iload 4, 2) := by decide +kernel
theorem d_M_readBlock_46 : decode prog_13_method_30_code 46 = .ok (.iconst 4, 1) := by decide +kernel
theorem d_M_readBlock_47 : decode prog_13_method_30_code 47 = .ok (.isub, 1) := by decide +kernel
theorem d_M_readBlock_48 : decode prog_13_method_30_code 48 = .ok (.iaload, 1) := by decide +kernel
theorem d_M_readBlock_49 : decode prog_13_method_30_code 49 = .ok (.imul, 1) := by decide +kernel
theorem d_M_readBlock_50 : decode prog_13_method_30_code 50 = .ok (.iconst 1, 1) := by decide +kernel
theorem d_M_readBlock_51 : decode prog_13_method_30_code 51 = .ok (.iadd, 1) := by decide +kernel
theorem d_M_readBlock_52 : decode prog_13_method_30_code 52 = .ok (.iaload, 1) := by decide +kernel
theorem d_M_readBlock_53 : decode prog_13_method_30_code 53 = .ok (.ifCond .eq 7, 3) := by decide +kernel
theorem d_M_readBlock_56 : decode prog_13_method_30_code 56 = .ok (.iconst 1, 1) := by decide +kernel
theorem d_M_readBlock_57 : decode prog_13_method_30_code 57 = .ok (.goto 4, 3) := by decide +kernel
theorem d_M_readBlock_60 : decode prog_13_method_30_code 60 = .ok (.iconst 0, 1) := by decide +kernel
theorem d_M_readBlock_61 : decode prog_13_method_30_code 61 = .ok (.istore 5, 2) := by decide +kernel
theorem d_M_readBlock_63 : decode prog_13_method_30_code 63 = .ok (.iload_n 1, 1) := by decide +kernel
theorem d_M_readBlock_64 : decode prog_13_method_30_code 64 = .ok (.ifCond .le 28, 3) := by decide +kernel
theorem d_M_readBlock_67 : decode prog_13_method_30_code 67 = .ok (.aload_n 0, 1) := by decide +kernel
theorem d_M_readBlock_68 : decode prog_13_method_30_code 68 = .ok (.getfield 46, 3) := by decide +kernel
theorem d_M_readBlock_71 : decode prog_13_method_30_code 71 = .ok (.iconst 4, 1) := by decide +kernel
theorem d_M_readBlock_72 : decode prog_13_method_30_code 72 = .ok (.aload_n 0, 1) := by decide +kernel
theorem d_M_readBlock_73 : decode prog_13_method_30_code 73 = .ok (.getfield 43, 3) := by decide +kernel
theorem d_M_readBlock_76 : decode prog_13_method_30_code 76 = .ok (.iload 4, 2) := by decide +kernel
theorem d_M_readBlock_78 : decode prog_13_method_30_code 78 = .ok (.iconst 1, 1) := by decide +kernel
theorem d_M_readBlock_79 : decode prog_13_method_30_code 79 = .ok (.isub, 1) := by decide +kernel
theorem d_M_readBlock_80 : decode prog_13_method_30_code 80 = .ok (.iaload, 1) := by decide +kernel
theorem d_M_readBlock_81 : decode prog_13_method_30_code 81 = .ok (.imul, 1) := by decide +kernel
theorem d_M_readBlock_82 : decode prog_13_method_30_code 82 = .ok (.iconst 1, 1) := by decide +kernel
theorem d_M_readBlock_83 : decode prog_13_method_30_code 83 = .ok (.iadd, 1) := by decide +kernel
theorem d_M_readBlock_84 : decode prog_13_method_30_code 84 = .ok (.iaload, 1) := by decide +kernel
theorem d_M_readBlock_85 : decode prog_13_method_30_code 85 = .ok (.ifCond .eq 7, 3) := by decide +kernel
theorem d_M_readBlock_88 : decode prog_13_method_30_code 88 = .ok (.iconst 2, 1) := by decide +kernel
theorem d_M_readBlock_89 : decode prog_13_method_30_code 89 = .ok (.goto 4, 3) := by decide +kernel
theorem d_M_readBlock_92 : decode prog_13_method_30_code 92 = .ok (.iconst 0, 1) := by decide +kernel
theorem d_M_readBlock_93 : decode prog_13_method_30_code 93 = .ok (.istore 6, 2) := by decide +kernel
theorem d_M_readBlock_95 : decode prog_13_method_30_code 95 = .ok (.aload_n 0, 1) := by decide +kernel
theorem d_M_readBlock_96 : decode prog_13_method_30_code 96 = .ok (.dup, 1) := by decide +kernel
theorem d_M_readBlock_97 : decode prog_13_method_30_code 97 = .ok (.getfield 223, 3) := by decide +kernel
theorem d_M_readBlock_100 : decode prog_13_method_30_code 100 = .ok (.iconst 1, 1) := by decide +kernel
theorem d_M_readBlock_101 : decode prog_13_method_30_code 101 = .ok (.iadd, 1) := by decide +kernel
theorem d_M_readBlock_102 : decode prog_13_method_30_code 102 = .ok (.putfield 223, 3) := by decide +kernel
theorem d_M_readBlock_105 : decode prog_13_method_30_code 105 = .ok (.aload_n 0, 1) := by decide +kernel
theorem d_M_readBlock_106 : decode prog_13_method_30_code 106 = .ok (.getfield 46, 3) := by decide +kernel
theorem d_M_readBlock_109 : decode prog_13_method_30_code 109 = .ok (.iconst 4, 1) := by decide +kernel
theorem d_M_readBlock_110 : decode prog_13_method_30_code 110 = .ok (.aload_n 0, 1) := by decide +kernel
theorem d_M_readBlock_111 : decode prog_13_method_30_code 111 = .ok (.getfield 223, 3) := by decide +kernel
theorem d_M_readBlock_114 : decode prog_13_method_30_code 114 = .ok (.imul, 1) := by decide +kernel
theorem d_M_readBlock_115 : decode prog_13_method_30_code 115 = .ok (.iload_n 3, 1) := by decide +kernel
theorem d_M_readBlock_116 : decode prog_13_method_30_code 116 = .ok (.iastore, 1) := by decide +kernel
theorem d_M_readBlock_117 : decode prog_13_method_30_code 117 = .ok (.aload_n 0, 1) := by decide +kernel
theorem d_M_readBlock_118 : decode prog_13_method_30_code 118 = .ok (.getfield 46, 3) := by decide +kernel
theorem d_M_readBlock_121 : decode prog_13_method_30_code 121 = .ok (.iconst 4, 1) := by decide +kernel
theorem d_M_readBlock_122 : decode prog_13_method_30_code 122 = .ok (.aload_n 0, 1) := by decide +kernel
theorem d_M_readBlock_123 : decode prog_13_method_30_code 123 = .ok (.getfield 223, 3) := by decide +kernel
theorem d_M_readBlock_126 : decode prog_13_method_30_code 126 = .ok (.imul, 1) := by decide +kernel
theorem d_M_readBlock_127 : decode prog_13_method_30_code 127 = .ok (.iconst 1, 1) := by decide +kernel
theorem d_M_readBlock_128 : decode prog_13_method_30_code 128 = .ok (.iadd, 1) := by decide +kernel
theorem d_M_readBlock_129 : decode prog_13_method_30_code 129 = .ok (.aload_n 0, 1) := by decide +kernel
theorem d_M_readBlock_130 : decode prog_13_method_30_code 130 = .ok (.iconst 2, 1) := by decide +kernel
theorem d_M_readBlock_131 : decode prog_13_method_30_code 131 = .ok (.iload 5, 2) := by decide +kernel
theorem d_M_readBlock_133 : decode prog_13_method_30_code 133 = .ok (.iadd, 1) := by decide +kernel
theorem d_M_readBlock_134 : decode prog_13_method_30_code 134 = .ok (.iload 6, 2) := by decide +kernel
theorem d_M_readBlock_136 : decode prog_13_method_30_code 136 = .ok (.iadd, 1) := by decide +kernel
theorem d_M_readBlock_137 : decode prog_13_method_30_code 137 = .ok (.invokevirtual 226, 3) := by decide +kernel
theorem d_M_readBlock_140 : decode prog_13_method_30_code 140 = .ok (.iastore, 1) := by decide +kernel
theorem d_M_readBlock_141 : decode prog_13_method_30_code 141 = .ok (.aload_n 0, 1) := by decide +kernel
theorem d_M_readBlock_142 : decode prog_13_method_30_code 142 = .ok (.getfield 46, 3) := by decide +kernel
theorem d_M_readBlock_145 : decode prog_13_method_30_code 145 = .ok (.iconst 4, 1) := by decide +kernel
theorem d_M_readBlock_146 : decode prog_13_method_30_code 146 = .ok (.aload_n 0, 1) := by decide +kernel
theorem d_M_readBlock_147 : decode prog_13_method_30_code 147 = .ok (.getfield 223, 3) := by decide +kernel
theorem d_M_readBlock_150 : decode prog_13_method_30_code 150 = .ok (.imul, 1) := by decide +kernel
theorem d_M_readBlock_151 : decode prog_13_method_30_code 151 = .ok (.iconst 2, 1) := by decide +kernel
theorem d_M_readBlock_152 : decode prog_13_method_30_code 152 = .ok (.iadd, 1) := by decide +kernel
theorem d_M_readBlock_153 : decode prog_13_method_30_code 153 = .ok (.aload_n 0, 1) := by decide +kernel
theorem d_M_readBlock_154 : decode prog_13_method_30_code 154 = .ok (.getfield 165, 3) := by decide +kernel
theorem d_M_readBlock_157 : decode prog_13_method_30_code 157 = .ok (.iconst 1, 1) := by decide +kernel
theorem d_M_readBlock_158 : decode prog_13_method_30_code 158 = .ok (.if_icmp .ne 12, 3) := by decide +kernel
theorem d_M_readBlock_161 : decode prog_13_method_30_code 161 = .ok (.aload_n 0, 1) := by decide +kernel
theorem d_M_readBlock_162 : decode prog_13_method_30_code 162 = .ok (.bipush 6, 2) := by decide +kernel
theorem d_M_readBlock_164 : decode prog_13_method_30_code 164 = .ok (.invokevirtual 226, 3) := by decide +kernel
theorem d_M_readBlock_167 : decode prog_13_method_30_code 167 = .ok (.goto 4, 3) := by decide +kernel
theorem d_M_readBlock_170 : decode prog_13_method_30_code 170 = .ok (.iconst 0, 1) := by decide +kernel
theorem d_M_readBlock_171 : decode prog_13_method_30_code 171 = .ok (.iastore, 1) := by decide +kernel
theorem d_M_readBlock_172 : decode prog_13_method_30_code 172 = .ok (.iconst 0, 1) := by decide +kernel
theorem d_M_readBlock_173 : decode prog_13_method_30_code 173 = .ok (.istore 7, 2) := by decide +kernel
theorem d_M_readBlock_175 : decode prog_13_method_30_code 175 = .ok (.iload 7, 2) := by decide +kernel
theorem d_M_readBlock_177 : decode prog_13_method_30_code 177 = .ok (.iconst 2, 1) := by decide +kernel
theorem d_M_readBlock_178 : decode prog_13_method_30_code 178 = .ok (.if_icmp .ge 42, 3) := by decide +kernel
theorem d_M_readBlock_181 : decode prog_13_method_30_code 181 = .ok (.aload_n 0, 1) := by decide +kernel
theorem d_M_readBlock_182 : decode prog_13_method_30_code 182 = .ok (.getfield 46, 3) := by decide +kernel
theorem d_M_readBlock_185 : decode prog_13_method_30_code 185 = .ok (.iconst 4, 1) := by decide +kernel
theorem d_M_readBlock_186 : decode prog_13_method_30_code 186 = .ok (.aload_n 0, 1) := by decide +kernel
theorem d_M_readBlock_187 : decode prog_13_method_30_code 187 = .ok (.getfield 223, 3) := by decide +kernel
theorem d_M_readBlock_190 : decode prog_13_method_30_code 190 = .ok (.imul, 1) := by decide +kernel
theorem d_M_readBlock_191 : decode prog_13_method_30_code 191 = .ok (.iconst 2, 1) := by decide +kernel
theorem d_M_readBlock_192 : decode prog_13_method_30_code 192 = .ok (.iadd, 1) := by decide +kernel
theorem d_M_readBlock_193 : decode prog_13_method_30_code 193 = .ok (.iaload, 1) := by decide +kernel
theorem d_M_readBlock_194 : decode prog_13_method_30_code 194 = .ok (.bipush 6, 2) := by decide +kernel
theorem d_M_readBlock_196 : decode prog_13_method_30_code 196 = .ok (.if_icmp .ne 24, 3) := by decide +kernel
theorem d_M_readBlock_199 : decode prog_13_method_30_code 199 = .ok (.aload_n 0, 1) := by decide +kernel
theorem d_M_readBlock_200 : decode prog_13_method_30_code 200 = .ok (.getfield 49, 3) := by decide +kernel
theorem d_M_readBlock_203 : decode prog_13_method_30_code 203 = .ok (.iload 7, 2) := by decide +kernel
theorem d_M_readBlock_205 : decode prog_13_method_30_code 205 = .ok (.aload_n 0, 1) := by decide +kernel
theorem d_M_readBlock_206 : decode prog_13_method_30_code 206 = .ok (.bipush 7, 2) := by decide +kernel
theorem d_M_readBlock_208 : decode prog_13_method_30_code 208 = .ok (.invokevirtual 226, 3) := by decide +kernel
theorem d_M_readBlock_211 : decode prog_13_method_30_code 211 = .ok (.iconst 3, 1) := by decide +kernel
theorem d_M_readBlock_212 : decode prog_13_method_30_code 212 = .ok (.isub, 1) := by decide +kernel
theorem d_M_readBlock_213 : decode prog_13_method_30_code 213 = .ok (.iastore, 1) := by decide +kernel
theorem d_M_readBlock_214 : decode prog_13_method_30_code 214 = .ok (.iinc 7 1, 3) := by decide +kernel
theorem d_M_readBlock_217 : decode prog_13_method_30_code 217 = .ok (.goto (-42), 3) := by decide +kernel
theorem d_M_readBlock_220 : decode prog_13_method_30_code 220 = .ok (.aload_n 0, 1) := by decide +kernel
theorem d_M_readBlock_221 : decode prog_13_method_30_code 221 = .ok (.getfield 46, 3) := by decide +kernel
theorem d_M_readBlock_224 : decode prog_13_method_30_code 224 = .ok (.iconst 4, 1) := by decide +kernel
theorem d_M_readBlock_225 : decode prog_13_method_30_code 225 = .ok (.aload_n 0, 1) := by decide +kernel
theorem d_M_readBlock_226 : decode prog_13_method_30_code 226 = .ok (.getfield 223, 3) := by decide +kernel
theorem d_M_readBlock_229 : decode prog_13_method_30_code 229 = .ok (.imul, 1) := by decide +kernel
theorem d_M_readBlock_230 : decode prog_13_method_30_code 230 = .ok (.iconst 3, 1) := by decide +kernel
theorem d_M_readBlock_231 : decode prog_13_method_30_code 231 = .ok (.iadd, 1) := by decide +kernel
theorem d_M_readBlock_232 : decode prog_13_method_30_code 232 = .ok (.aload_n 0, 1) := by decide +kernel
theorem d_M_readBlock_233 : decode prog_13_method_30_code 233 = .ok (.getfield 183, 3) := by decide +kernel
theorem d_M_readBlock_236 : decode prog_13_method_30_code 236 = .ok (.ifCond .eq 12, 3) := by decide +kernel
theorem d_M_readBlock_239 : decode prog_13_method_30_code 239 = .ok (.aload_n 0, 1) := by decide +kernel
theorem d_M_readBlock_240 : decode prog_13_method_30_code 240 = .ok (.bipush 10, 2) := by decide +kernel
theorem d_M_readBlock_242 : decode prog_13_method_30_code 242 = .ok (.invokevirtual 226, 3) := by decide +kernel
theorem d_M_readBlock_245 : decode prog_13_method_30_code 245 = .ok (.goto 4, 3) := by decide +kernel
theorem d_M_readBlock_248 : decode prog_13_method_30_code 248 = .ok (.iconst 0, 1) := by decide +kernel
theorem d_M_readBlock_249 : decode prog_13_method_30_code 249 = .ok (.iastore, 1) := by decide +kernel
theorem d_M_readBlock_250 : decode prog_13_method_30_code 250 = .ok (.iconst 0, 1) := by decide +kernel
theorem d_M_readBlock_251 : decode prog_13_method_30_code 251 = .ok (.istore 7, 2) := by decide +kernel
theorem d_M_readBlock_253 : decode prog_13_method_30_code 253 = .ok (.iload 7, 2) := by decide +kernel
theorem d_M_readBlock_255 : decode prog_13_method_30_code 255 = .ok (.iload_n 3, 1) := by decide +kernel
theorem d_M_readBlock_256 : decode prog_13_method_30_code 256 = .ok (.iload_n 3, 1) := by decide +kernel
theorem d_M_readBlock_257 : decode prog_13_method_30_code 257 = .ok (.imul, 1) := by decide +kernel
theorem d_M_readBlock_258 : decode prog_13_method_30_code 258 = .ok (.bipush 16, 2) := by decide +kernel
theorem d_M_readBlock_260 : decode prog_13_method_30_code 260 = .ok (.idiv, 1) := by decide +kernel
theorem d_M_readBlock_261 : decode prog_13_method_30_code 261 = .ok (.if_icmp .ge 36, 3) := by decide +kernel
theorem d_M_readBlock_264 : decode prog_13_method_30_code 264 = .ok (.aload_n 0, 1) := by decide +kernel
theorem d_M_readBlock_265 : decode prog_13_method_30_code 265 = .ok (.getfield 43, 3) := by decide +kernel
theorem d_M_readBlock_268 : decode prog_13_method_30_code 268 = .ok (.iload 4, 2) := by decide +kernel
theorem d_M_readBlock_270 : decode prog_13_method_30_code 270 = .ok (.iload 7, 2) := by decide +kernel
theorem d_M_readBlock_272 : decode prog_13_method_30_code 272 = .ok (.iload_n 3, 1) := by decide +kernel
theorem d_M_readBlock_273 : decode prog_13_method_30_code 273 = .ok (.iconst 4, 1) := by decide +kernel
theorem d_M_readBlock_274 : decode prog_13_method_30_code 274 = .ok (.idiv, 1) := by decide +kernel
theorem d_M_readBlock_275 : decode prog_13_method_30_code 275 = .ok (.idiv, 1) := by decide +kernel
theorem d_M_readBlock_276 : decode prog_13_method_30_code 276 = .ok (.iconst 4, 1) := by decide +kernel
theorem d_M_readBlock_277 : decode prog_13_method_30_code 277 = .ok (.imul, 1) := by decide +kernel
theorem d_M_readBlock_278 : decode prog_13_method_30_code 278 = .ok (.iadd, 1) := by decide +kernel
theorem d_M_readBlock_279 : decode prog_13_method_30_code 279 = .ok (.iload 7, 2) := by decide +kernel
theorem d_M_readBlock_281 : decode prog_13_method_30_code 281 = .ok (.iload_n 3, 1) := by decide +kernel
theorem d_M_readBlock_282 : decode prog_13_method_30_code 282 = .ok (.iconst 4, 1) := by decide +kernel
theorem d_M_readBlock_283 : decode prog_13_method_30_code 283 = .ok (.idiv, 1) := by decide +kernel
theorem d_M_readBlock_284 : decode prog_13_method_30_code 284 = .ok (.irem, 1) := by decide +kernel
theorem d_M_readBlock_285 : decode prog_13_method_30_code 285 = .ok (.iadd, 1) := by decide +kernel
theorem d_M_readBlock_286 : decode prog_13_method_30_code 286 = .ok (.aload_n 0, 1) := by decide +kernel
theorem d_M_readBlock_287 : decode prog_13_method_30_code 287 = .ok (.getfield 223, 3) := by decide +kernel
theorem d_M_readBlock_290 : decode prog_13_method_30_code 290 = .ok (.iastore, 1) := by decide +kernel
theorem d_M_readBlock_291 : decode prog_13_method_30_code 291 = .ok (.iinc 7 1, 3) := by decide +kernel
theorem d_M_readBlock_294 : decode prog_13_method_30_code 294 = .ok (.goto (-41), 3) := by decide +kernel
theorem d_M_readBlock_297 : decode prog_13_method_30_code 297 = .ok (.iconst 0, 1) := by decide +kernel
theorem d_M_readBlock_298 : decode prog_13_method_30_code 298 = .ok (.istore 7, 2) := by decide +kernel
theorem d_M_readBlock_300 : decode prog_13_method_30_code 300 = .ok (.iload 7, 2) := by decide +kernel
theorem d_M_readBlock_302 : decode prog_13_method_30_code 302 = .ok (.iconst 1, 1) := by decide +kernel
theorem d_M_readBlock_303 : decode prog_13_method_30_code 303 = .ok (.iconst 2, 1) := by decide +kernel
theorem d_M_readBlock_304 : decode prog_13_method_30_code 304 = .ok (.aload_n 0, 1) := by decide +kernel
theorem d_M_readBlock_305 : decode prog_13_method_30_code 305 = .ok (.getfield 165, 3) := by decide +kernel
theorem d_M_readBlock_308 : decode prog_13_method_30_code 308 = .ok (.imul, 1) := by decide +kernel
theorem d_M_readBlock_309 : decode prog_13_method_30_code 309 = .ok (.iadd, 1) := by decide +kernel
theorem d_M_readBlock_310 : decode prog_13_method_30_code 310 = .ok (.if_icmp .ge 55, 3) := by decide +kernel
theorem d_M_readBlock_313 : decode prog_13_method_30_code 313 = .ok (.iconst 0, 1) := by decide +kernel
theorem d_M_readBlock_314 : decode prog_13_method_30_code 314 = .ok (.istore 8, 2) := by decide +kernel
theorem d_M_readBlock_316 : decode prog_13_method_30_code 316 = .ok (.iload 8, 2) := by decide +kernel
theorem d_M_readBlock_318 : decode prog_13_method_30_code 318 = .ok (.iload_n 3, 1) := by decide +kernel
theorem d_M_readBlock_319 : decode prog_13_method_30_code 319 = .ok (.iload_n 3, 1) := by decide +kernel
theorem d_M_readBlock_320 : decode prog_13_method_30_code 320 = .ok (.imul, 1) := by decide +kernel
theorem d_M_readBlock_321 : decode prog_13_method_30_code 321 = .ok (.bipush 16, 2) := by decide +kernel
theorem d_M_readBlock_323 : decode prog_13_method_30_code 323 = .ok (.idiv, 1) := by decide +kernel
theorem d_M_readBlock_324 : decode prog_13_method_30_code 324 = .ok (.if_icmp .ge 35, 3) := by decide +kernel
theorem d_M_readBlock_327 : decode prog_13_method_30_code 327 = .ok (.aload_n 0, 1) := by decide +kernel
theorem d_M_readBlock_328 : decode prog_13_method_30_code 328 = .ok (.iload 7, 2) := by decide +kernel
theorem d_M_readBlock_330 : decode prog_13_method_30_code 330 = .ok (.iload_n 1, 1) := by decide +kernel
theorem d_M_readBlock_331 : decode prog_13_method_30_code 331 = .ok (.iload 8, 2) := by decide +kernel
theorem d_M_readBlock_333 : decode prog_13_method_30_code 333 = .ok (.iload_n 3, 1) := by decide +kernel
theorem d_M_readBlock_334 : decode prog_13_method_30_code 334 = .ok (.iconst 4, 1) := by decide +kernel
theorem d_M_readBlock_335 : decode prog_13_method_30_code 335 = .ok (.idiv, 1) := by decide +kernel
theorem d_M_readBlock_336 : decode prog_13_method_30_code 336 = .ok (.irem, 1) := by decide +kernel
theorem d_M_readBlock_337 : decode prog_13_method_30_code 337 = .ok (.iconst 4, 1) := by decide +kernel
theorem d_M_readBlock_338 : decode prog_13_method_30_code 338 = .ok (.imul, 1) := by decide +kernel
theorem d_M_readBlock_339 : decode prog_13_method_30_code 339 = .ok (.iadd, 1) := by decide +kernel
theorem d_M_readBlock_340 : decode prog_13_method_30_code 340 = .ok (.iload_n 2, 1) := by decide +kernel
theorem d_M_readBlock_341 : decode prog_13_method_30_code 341 = .ok (.iload 8, 2) := by decide +kernel
theorem d_M_readBlock_343 : decode prog_13_method_30_code 343 = .ok (.iload_n 3, 1) := by decide +kernel
theorem d_M_readBlock_344 : decode prog_13_method_30_code 344 = .ok (.iconst 4, 1) := by decide +kernel
theorem d_M_readBlock_345 : decode prog_13_method_30_code 345 = .ok (.idiv, 1) := by decide +kernel
theorem d_M_readBlock_346 : decode prog_13_method_30_code 346 = .ok (.idiv, 1) := by decide +kernel
theorem d_M_readBlock_347 : decode prog_13_method_30_code 347 = .ok (.iconst 4, 1) := by decide +kernel
theorem d_M_readBlock_348 : decode prog_13_method_30_code 348 = .ok (.imul, 1) := by decide +kernel
theorem d_M_readBlock_349 : decode prog_13_method_30_code 349 = .ok (.iadd, 1) := by decide +kernel
theorem d_M_readBlock_350 : decode prog_13_method_30_code 350 = .ok (.invokevirtual 232, 3) := by decide +kernel
theorem d_M_readBlock_353 : decode prog_13_method_30_code 353 = .ok (.iinc 8 1, 3) := by decide +kernel
theorem d_M_readBlock_356 : decode prog_13_method_30_code 356 = .ok (.goto (-40), 3) := by decide +kernel
theorem d_M_readBlock_359 : decode prog_13_method_30_code 359 = .ok (.iinc 7 1, 3) := by decide +kernel
theorem d_M_readBlock_362 : decode prog_13_method_30_code 362 = .ok (.goto (-62), 3) := by decide +kernel
theorem d_M_readBlock_365 : decode prog_13_method_30_code 365 = .ok (.return_, 1) := by decide +kernel
theorem d_M_readTile_0 : decode prog_13_method_29_code 0 = .ok (.aload_n 0, 1) := by decide +kernel
theorem d_M_readTile_1 : decode prog_13_method_29_code 1 = .ok (.iconst 0, 1) := by decide +kernel
theorem d_M_readTile_2 : decode prog_13_method_29_code 2 = .ok (.putfield 201, 3) := by decide +kernel
theorem d_M_readTile_5 : decode prog_13_method_29_code 5 = .ok (.aload_n 0, 1) := by decide +kernel
theorem d_M_readTile_6 : decode prog_13_method_29_code 6 = .ok (.iconst 0, 1) := by decide +kernel
theorem d_M_readTile_7 : decode prog_13_method_29_code 7 = .ok (.putfield 204, 3) := by decide +kernel
theorem d_M_readTile_10 : decode prog_13_method_29_code 10 = .ok (.iconst 0, 1) := by decide +kernel
theorem d_M_readTile_11 : decode prog_13_method_29_code 11 = .ok (.istore_n 1, 1) := by decide +kernel
theorem d_M_readTile_12 : decode prog_13_method_29_code 12 = .ok (.iload_n 1, 1) := by decide +kernel
theorem d_M_readTile_13 : decode prog_13_method_29_code 13 = .ok (.bipush 15, 2) := by decide +kernel
theorem d_M_readTile_15 : decode prog_13_method_29_code 15 = .ok (.if_icmp .ge 24, 3) := by decide +kernel
theorem d_M_readTile_18 : decode prog_13_method_29_code 18 = .ok (.aload_n 0, 1) := by decide +kernel
theorem d_M_readTile_19 : decode prog_13_method_29_code 19 = .ok (.iconst 2, 1) := by decide +kernel
theorem d_M_readTile_20 : decode prog_13_method_29_code 20 = .ok (.aload_n 0, 1) := by decide +kernel
theorem d_M_readTile_21 : decode prog_13_method_29_code 21 = .ok (.getfield 204, 3) := by decide +kernel
theorem d_M_readTile_24 : decode prog_13_method_29_code 24 = .ok (.imul, 1) := by decide +kernel
theorem d_M_readTile_25 : decode prog_13_method_29_code 25 = .ok (.aload_n 0, 1) := by decide +kernel
theorem d_M_readTile_26 : decode prog_13_method_29_code 26 = .ok (.invokevirtual 213, 3) := by decide +kernel
theorem d_M_readTile_29 : decode prog_13_method_29_code 29 = .ok (.iadd, 1) := by decide +kernel
theorem d_M_readTile_30 : decode prog_13_method_29_code 30 = .ok (.putfield 204, 3) := by decide +kernel
theorem d_M_readTile_33 : decode prog_13_method_29_code 33 = .ok (.iinc 1 1, 3) := by decide +kernel
theorem d_M_readTile_36 : decode prog_13_method_29_code 36 = .ok (.goto (-24), 3) := by decide +kernel
theorem d_M_readTile_39 : decode prog_13_method_29_code 39 = .ok (.aload_n 0, 1) := by decide +kernel
theorem d_M_readTile_40 : decode prog_13_method_29_code 40 = .ok (.ldc 222, 2) := by decide +kernel
theorem d_M_readTile_42 : decode prog_13_method_29_code 42 = .ok (.putfield 207, 3) := by decide +kernel
theorem d_M_readTile_45 : decode prog_13_method_29_code 45 = .ok (.aload_n 0, 1) := by decide +kernel
theorem d_M_readTile_46 : decode prog_13_method_29_code 46 = .ok (.iconst 0, 1) := by decide +kernel
theorem d_M_readTile_47 : decode prog_13_method_29_code 47 = .ok (.putfield 210, 3) := by decide +kernel
theorem d_M_readTile_50 : decode prog_13_method_29_code 50 = .ok (.aload_n 0, 1) := by decide +kernel
theorem d_M_readTile_51 : decode prog_13_method_29_code 51 = .ok (.iconst 0, 1) := by decide +kernel
theorem d_M_readTile_52 : decode prog_13_method_29_code 52 = .ok (.putfield 223, 3) := by decide +kernel
theorem d_M_readTile_55 : decode prog_13_method_29_code 55 = .ok (.iconst 0, 1) := by decide +kernel
theorem d_M_readTile_56 : decode prog_13_method_29_code 56 = .ok (.istore_n 1, 1) := by decide +kernel
theorem d_M_readTile_57 : decode prog_13_method_29_code 57 = .ok (.iload_n 1, 1) := by decide +kernel
theorem d_M_readTile_58 : decode prog_13_method_29_code 58 = .ok (.bipush 19, 2) := by decide +kernel
theorem d_M_readTile_60 : decode prog_13_method_29_code 60 = .ok (.if_icmp .ge 54, 3) := by decide +kernel
theorem d_M_readTile_63 : decode prog_13_method_29_code 63 = .ok (.aload_n 0, 1) := by decide +kernel
theorem d_M_readTile_64 : decode prog_13_method_29_code 64 = .ok (.getfield 34, 3) := by decide +kernel
theorem d_M_readTile_67 : decode prog_13_method_29_code 67 = .ok (.iload_n 1, 1) := by decide +kernel
theorem d_M_readTile_68 : decode prog_13_method_29_code 68 = .ok (.iconst 0, 1) := by decide +kernel
theorem d_M_readTile_69 : decode prog_13_method_29_code 69 = .ok (.iastore, 1) := by decide +kernel
theorem d_M_readTile_70 : decode prog_13_method_29_code 70 = .ok (.iconst 0, 1) := by decide +kernel
theorem d_M_readTile_71 : decode prog_13_method_29_code 71 = .ok (.istore_n 2, 1) := by decide +kernel
theorem d_M_readTile_72 : decode prog_13_method_29_code 72 = .ok (.iload_n 2, 1) := by decide +kernel
theorem d_M_readTile_73 : decode prog_13_method_29_code 73 = .ok (.iload_n 1, 1) := by decide +kernel
theorem d_M_readTile_74 : decode prog_13_method_29_code 74 = .ok (.invokestatic 216, 3) := by decide +kernel
theorem d_M_readTile_77 : decode prog_13_method_29_code 77 = .ok (.if_icmp .ge 31, 3) := by decide +kernel
theorem d_M_readTile_80 : decode prog_13_method_29_code 80 = .ok (.aload_n 0, 1) := by decide +kernel
theorem d_M_readTile_81 : decode prog_13_method_29_code 81 = .ok (.getfield 31, 3) := by decide +kernel
theorem d_M_readTile_84 : decode prog_13_method_29_code 84 = .ok (.bipush 16, 2) := by decide +kernel
theorem d_M_readTile_86 : decode prog_13_method_29_code 86 = .ok (.iload_n 1, 1) := by decide +kernel
theorem d_M_readTile_87 : decode prog_13_method_29_code 87 = .ok (.imul, 1) := by decide +kernel
theorem d_M_readTile_88 : decode prog_13_method_29_code 88 = .ok (.iload_n 2, 1) := by decide +kernel
theorem d_M_readTile_89 : decode prog_13_method_29_code 89 = .ok (.iadd, 1) := by decide +kernel
theorem d_M_readTile_90 : decode prog_13_method_29_code 90 = .ok (.ldc 222, 2) := by decide +kernel
theorem d_M_readTile_92 : decode prog_13_method_29_code 92 = .ok (.iload_n 2, 1) := by decide +kernel
theorem d_M_readTile_93 : decode prog_13_method_29_code 93 = .ok (.iconst 1, 1) := by decide +kernel
theorem d_M_readTile_94 : decode prog_13_method_29_code 94 = .ok (.iadd, 1) := by decide +kernel
theorem d_M_readTile_95 : decode prog_13_method_29_code 95 = .ok (.imul, 1) := by decide +kernel
theorem d_M_readTile_96 : decode prog_13_method_29_code 96 = .ok (.iload_n 1, 1) := by decide +kernel
theorem d_M_readTile_97 : decode prog_13_method_29_code 97 = .ok (.invokestatic 216, 3) := by decide +kernel
theorem d_M_readTile_100 : decode prog_13_method_29_code 100 = .ok (.idiv, 1) := by decide +kernel
theorem d_M_readTile_101 : decode prog_13_method_29_code 101 = .ok (.iastore, 1) := by decide +kernel
theorem d_M_readTile_102 : decode prog_13_method_29_code 102 = .ok (.iinc 2 1, 3) := by decide +kernel
theorem d_M_readTile_105 : decode prog_13_method_29_code 105 = .ok (.goto (-33), 3) := by decide +kernel
theorem d_M_readTile_108 : decode prog_13_method_29_code 108 = .ok (.iinc 1 1, 3) := by decide +kernel
theorem d_M_readTile_111 : decode prog_13_method_29_code 111 = .ok (.goto (-54), 3) := by decide +kernel
theorem d_M_readTile_114 : decode prog_13_method_29_code 114 = .ok (.aload_n 0, 1) := by decide +kernel
theorem d_M_readTile_115 : decode prog_13_method_29_code 115 = .ok (.iconst 0, 1) := by decide +kernel
theorem d_M_readTile_116 : decode prog_13_method_29_code 116 = .ok (.invokevirtual 226, 3) := by decide +kernel
theorem d_M_readTile_119 : decode prog_13_method_29_code 119 = .ok (.ifCond .ne 12, 3) := by decide +kernel
theorem d_M_readTile_122 : decode prog_13_method_29_code 122 = .ok (.aload_n 0, 1) := by decide +kernel
theorem d_M_readTile_123 : decode prog_13_method_29_code 123 = .ok (.iconst 0, 1) := by decide +kernel
theorem d_M_readTile_124 : decode prog_13_method_29_code 124 = .ok (.iconst 0, 1) := by decide +kernel
theorem d_M_readTile_125 : decode prog_13_method_29_code 125 = .ok (.bipush 16, 2) := by decide +kernel
theorem d_M_readTile_127 : decode prog_13_method_29_code 127 = .ok (.invokevirtual 229, 3) := by decide +kernel
theorem d_M_readTile_130 : decode prog_13_method_29_code 130 = .ok (.return_, 1) := by decide +kernel
theorem d_M_readTile_131 : decode prog_13_method_29_code 131 = .ok (.iconst 0, 1) := by decide +kernel
theorem d_M_readTile_132 : decode prog_13_method_29_code 132 = .ok (.istore_n 1, 1) := by decide +kernel
theorem d_M_readTile_133 : decode prog_13_method_29_code 133 = .ok (.iload_n 1, 1) := by decide +kernel
theorem d_M_readTile_134 : decode prog_13_method_29_code 134 = .ok (.iconst 4, 1) := by decide +kernel
theorem d_M_readTile_135 : decode prog_13_method_29_code 135 = .ok (.if_icmp .ge 115, 3) := by decide +kernel
theorem d_M_readTile_138 : decode prog_13_method_29_code 138 = .ok (.iload_n 1, 1) := by decide +kernel
theorem d_M_readTile_139 : decode prog_13_method_29_code 139 = .ok (.iconst 2, 1) := by decide +kernel
theorem d_M_readTile_140 : decode prog_13_method_29_code 140 = .ok (.irem, 1) := by decide +kernel
theorem d_M_readTile_141 : decode prog_13_method_29_code 141 = .ok (.bipush 8, 2) := by decide +kernel
theorem d_M_readTile_143 : decode prog_13_method_29_code 143 = .ok (.imul, 1) := by decide +kernel
theorem d_M_readTile_144 : decode prog_13_method_29_code 144 = .ok (.istore_n 2, 1) := by decide +kernel
theorem d_M_readTile_145 : decode prog_13_method_29_code 145 = .ok (.iload_n 1, 1) := by decide +kernel
theorem d_M_readTile_146 : decode prog_13_method_29_code 146 = .ok (.iconst 2, 1) := by decide +kernel
theorem d_M_readTile_147 : decode prog_13_method_29_code 147 = .ok (.idiv, 1) := by decide +kernel
theorem d_M_readTile_148 : decode prog_13_method_29_code 148 = .ok (.bipush 8, 2) := by decide +kernel
theorem d_M_readTile_150 : decode prog_13_method_29_code 150 = .ok (.imul, 1) := by decide +kernel
theorem d_M_readTile_151 : decode prog_13_method_29_code 151 = .ok (.istore_n 3, 1) := by decide +kernel
theorem d_M_readTile_152 : decode prog_13_method_29_code 152 = .ok (.iload_n 2, 1) := by decide +kernel
theorem d_M_readTile_153 : decode prog_13_method_29_code 153 = .ok (.aload_n 0, 1) := by decide +kernel
theorem d_M_readTile_154 : decode prog_13_method_29_code 154 = .ok (.getfield 171, 3) := by decide +kernel
theorem d_M_readTile_157 : decode prog_13_method_29_code 157 = .ok (.if_icmp .ge 30, 3) := by decide +kernel
theorem d_M_readTile_160 : decode prog_13_method_29_code 160 = .ok (.iload_n 3, 1) := by decide +kernel
theorem d_M_readTile_161 : decode prog_13_method_29_code 161 = .ok (.aload_n 0, 1) := by decide +kernel
theorem d_M_readTile_162 : decode prog_13_method_29_code 162 = .ok (.getfield 174, 3) := by decide +kernel
theorem d_M_readTile_165 : decode prog_13_method_29_code 165 = .ok (.if_icmp .ge 22, 3) := by decide +kernel
theorem d_M_readTile_168 : decode prog_13_method_29_code 168 = .ok (.aload_n 0, 1) := by decide +kernel
theorem d_M_readTile_169 : decode prog_13_method_29_code 169 = .ok (.getfield 78, 3) := by decide +kernel
theorem d_M_readTile_172 : decode prog_13_method_29_code 172 = .ok (.ifCond .ne 15, 3) := by decide +kernel
theorem d_M_readTile_175 : decode prog_13_method_29_code 175 = .ok (.aload_n 0, 1) := by decide +kernel
theorem d_M_readTile_176 : decode prog_13_method_29_code 176 = .ok (.iconst 1, 1) := by decide +kernel
theorem d_M_readTile_177 : decode prog_13_method_29_code 177 = .ok (.invokevirtual 226, 3) := by decide +kernel
theorem d_M_readTile_180 : decode prog_13_method_29_code 180 = .ok (.ifCond .ne 7, 3) := by decide +kernel
theorem d_M_readTile_183 : decode prog_13_method_29_code 183 = .ok (.iconst 1, 1) := by decide +kernel
theorem d_M_readTile_184 : decode prog_13_method_29_code 184 = .ok (.goto 4, 3) := by decide +kernel
theorem d_M_readTile_187 : decode prog_13_method_29_code 187 = .ok (.iconst 0, 1) := by decide +kernel
theorem d_M_readTile_188 : decode prog_13_method_29_code 188 = .ok (.istore 4, 2) := by decide +kernel
theorem d_M_readTile_190 : decode prog_13_method_29_code 190 = .ok (.iload 4, 2) := by decide +kernel
theorem d_M_readTile_192 : decode prog_13_method_29_code 192 = .ok (.ifCond .eq 11, 3) := by decide +kernel
theorem d_M_readTile_195 : decode prog_13_method_29_code 195 = .ok (.aload_n 0, 1) := by decide +kernel
theorem d_M_readTile_196 : decode prog_13_method_29_code 196 = .ok (.iload_n 2, 1) := by decide +kernel
theorem d_M_readTile_197 : decode prog_13_method_29_code 197 = .ok (.iload_n 3, 1) := by decide +kernel
theorem d_M_readTile_198 : decode prog_13_method_29_code 198 = .ok (.bipush 8, 2) := by decide +kernel
theorem d_M_readTile_200 : decode prog_13_method_29_code 200 = .ok (.invokevirtual 229, 3) := by decide +kernel
theorem d_M_readTile_203 : decode prog_13_method_29_code 203 = .ok (.iconst 0, 1) := by decide +kernel
theorem d_M_readTile_204 : decode prog_13_method_29_code 204 = .ok (.istore 5, 2) := by decide +kernel
theorem d_M_readTile_206 : decode prog_13_method_29_code 206 = .ok (.iload 5, 2) := by decide +kernel
theorem d_M_readTile_208 : decode prog_13_method_29_code 208 = .ok (.iconst 4, 1) := by decide +kernel
theorem d_M_readTile_209 : decode prog_13_method_29_code 209 = .ok (.if_icmp .ge 35, 3) := by decide +kernel
theorem d_M_readTile_212 : decode prog_13_method_29_code 212 = .ok (.iload 4, 2) := by decide +kernel
theorem d_M_readTile_214 : decode prog_13_method_29_code 214 = .ok (.ifCond .ne 30, 3) := by decide +kernel
theorem d_M_readTile_217 : decode prog_13_method_29_code 217 = .ok (.aload_n 0, 1) := by decide +kernel
theorem d_M_readTile_218 : decode prog_13_method_29_code 218 = .ok (.iload_n 2, 1) := by decide +kernel
theorem d_M_readTile_219 : decode prog_13_method_29_code 219 = .ok (.iload 5, 2) := by decide +kernel
theorem d_M_readTile_221 : decode prog_13_method_29_code 221 = .ok (.iconst 2, 1) := by decide +kernel
theorem d_M_readTile_222 : decode prog_13_method_29_code 222 = .ok (.irem, 1) := by decide +kernel
theorem d_M_readTile_223 : decode prog_13_method_29_code 223 = .ok (.iconst 4, 1) := by decide +kernel
theorem d_M_readTile_224 : decode prog_13_method_29_code 224 = .ok (.imul, 1) := by decide +kernel
theorem d_M_readTile_225 : decode prog_13_method_29_code 225 = .ok (.iadd, 1) := by decide +kernel
theorem d_M_readTile_226 : decode prog_13_method_29_code 226 = .ok (.iload_n 3, 1) := by decide +kernel
theorem d_M_readTile_227 : decode prog_13_method_29_code 227 = .ok (.iload 5, 2) := by decide +kernel
theorem d_M_readTile_229 : decode prog_13_method_29_code 229 = .ok (.iconst 2, 1) := by decide +kernel
theorem d_M_readTile_230 : decode prog_13_method_29_code 230 = .ok (.idiv, 1) := by decide +kernel
theorem d_M_readTile_231 : decode prog_13_method_29_code 231 = .ok (.iconst 4, 1) := by decide +kernel
theorem d_M_readTile_232 : decode prog_13_method_29_code 232 = .ok (.imul, 1) := by decide +kernel
theorem d_M_readTile_233 : decode prog_13_method_29_code 233 = .ok (.iadd, 1) := by decide +kernel
theorem d_M_readTile_234 : decode prog_13_method_29_code 234 = .ok (.iconst 4, 1) := by decide +kernel
theorem d_M_readTile_235 : decode prog_13_method_29_code 235 = .ok (.invokevirtual 229, 3) := by decide +kernel
theorem d_M_readTile_238 : decode prog_13_method_29_code 238 = .ok (.iinc 5 1, 3) := by decide +kernel
theorem d_M_readTile_241 : decode prog_13_method_29_code 241 = .ok (.goto (-35), 3) := by decide +kernel
theorem d_M_readTile_244 : decode prog_13_method_29_code 244 = .ok (.iinc 1 1, 3) := by decide +kernel
theorem d_M_readTile_247 : decode prog_13_method_29_code 247 = .ok (.goto (-114), 3) := by decide +kernel
theorem d_M_readTile_250 : decode prog_13_method_29_code 250 = .ok (.return_, 1) := by decide +kernel
theorem d_M_number_0 : decode prog_13_method_20_code 0 = .ok (.iconst 0, 1) := by decide +kernel
theorem d_M_number_1 : decode prog_13_method_20_code 1 = .ok (.istore_n 2, 1) := by decide +kernel
theorem d_M_number_2 : decode prog_13_method_20_code 2 = .ok (.iconst 0, 1) := by decide +kernel
theorem d_M_number_3 : decode prog_13_method_20_code 3 = .ok (.istore_n 3, 1) := by decide +kernel
theorem d_M_number_4 : decode prog_13_method_20_code 4 = .ok (.iload_n 3, 1) := by decide +kernel
theorem d_M_number_5 : decode prog_13_method_20_code 5 = .ok (.iload_n 1, 1) := by decide +kernel
theorem d_M_number_6 : decode prog_13_method_20_code 6 = .ok (.if_icmp .ge 68, 3) := by decide +kernel
theorem d_M_number_9 : decode prog_13_method_20_code 9 = .ok (.aload_n 0, 1) := by decide +kernel
theorem d_M_number_10 : decode prog_13_method_20_code 10 = .ok (.getfield 123, 3) := by decide +kernel
theorem d_M_number_13 : decode prog_13_method_20_code 13 = .ok (.aload_n 0, 1) := by decide +kernel
theorem d_M_number_14 : decode prog_13_method_20_code 14 = .ok (.getfield 126, 3) := by decide +kernel
theorem d_M_number_17 : decode prog_13_method_20_code 17 = .ok (.if_icmp .lt 11, 3) := by decide +kernel
theorem d_M_number_20 : decode prog_13_method_20_code 20 = .ok (.aload_n 0, 1) := by decide +kernel
theorem d_M_number_21 : decode prog_13_method_20_code 21 = .ok (.bipush 7, 2) := by decide +kernel
theorem d_M_number_23 : decode prog_13_method_20_code 23 = .ok (.invokevirtual 119, 3) := by decide +kernel
theorem d_M_number_26 : decode prog_13_method_20_code 26 = .ok (.iconst 0, 1) := by decide +kernel
theorem d_M_number_27 : decode prog_13_method_20_code 27 = .ok (.ireturn, 1) := by decide +kernel
theorem d_M_number_28 : decode prog_13_method_20_code 28 = .ok (.iconst 2, 1) := by decide +kernel
theorem d_M_number_29 : decode prog_13_method_20_code 29 = .ok (.iload_n 2, 1) := by decide +kernel
theorem d_M_number_30 : decode prog_13_method_20_code 30 = .ok (.imul, 1) := by decide +kernel
theorem d_M_number_31 : decode prog_13_method_20_code 31 = .ok (.aload_n 0, 1) := by decide +kernel
theorem d_M_number_32 : decode prog_13_method_20_code 32 = .ok (.getfield 28, 3) := by decide +kernel
theorem d_M_number_35 : decode prog_13_method_20_code 35 = .ok (.aload_n 0, 1) := by decide +kernel
theorem d_M_number_36 : decode prog_13_method_20_code 36 = .ok (.getfield 123, 3) := by decide +kernel
theorem d_M_number_39 : decode prog_13_method_20_code 39 = .ok (.bipush 8, 2) := by decide +kernel
theorem d_M_number_41 : decode prog_13_method_20_code 41 = .ok (.idiv, 1) := by decide +kernel
theorem d_M_number_42 : decode prog_13_method_20_code 42 = .ok (.iaload, 1) := by decide +kernel
theorem d_M_number_43 : decode prog_13_method_20_code 43 = .ok (.bipush 7, 2) := by decide +kernel
theorem d_M_number_45 : decode prog_13_method_20_code 45 = .ok (.aload_n 0, 1) := by decide +kernel
theorem d_M_number_46 : decode prog_13_method_20_code 46 = .ok (.getfield 123, 3) := by decide +kernel
theorem d_M_number_49 : decode prog_13_method_20_code 49 = .ok (.bipush 8, 2) := by decide +kernel
theorem d_M_number_51 : decode prog_13_method_20_code 51 = .ok (.irem, 1) := by decide +kernel
theorem d_M_number_52 : decode prog_13_method_20_code 52 = .ok (.isub, 1) := by decide +kernel
theorem d_M_number_53 : decode prog_13_method_20_code 53 = .ok (.ishr, 1) := by decide +kernel
theorem d_M_number_54 : decode prog_13_method_20_code 54 = .ok (.iconst 1, 1) := by decide +kernel
theorem d_M_number_55 : decode prog_13_method_20_code 55 = .ok (.iand, 1) := by decide +kernel
theorem d_M_number_56 : decode prog_13_method_20_code 56 = .ok (.iadd, 1) := by decide +kernel
theorem d_M_number_57 : decode prog_13_method_20_code 57 = .ok (.istore_n 2, 1) := by decide +kernel
theorem d_M_number_58 : decode prog_13_method_20_code 58 = .ok (.aload_n 0, 1) := by decide +kernel
theorem d_M_number_59 : decode prog_13_method_20_code 59 = .ok (.dup, 1) := by decide +kernel
theorem d_M_number_60 : decode prog_13_method_20_code 60 = .ok (.getfield 123, 3) := by decide +kernel
theorem d_M_number_63 : decode prog_13_method_20_code 63 = .ok (.iconst 1, 1) := by decide +kernel
theorem d_M_number_64 : decode prog_13_method_20_code 64 = .ok (.iadd, 1) := by decide +kernel
theorem d_M_number_65 : decode prog_13_method_20_code 65 = .ok (.putfield 123, 3) := by decide +kernel
theorem d_M_number_68 : decode prog_13_method_20_code 68 = .ok (.iinc 3 1, 3) := by decide +kernel
theorem d_M_number_71 : decode prog_13_method_20_code 71 = .ok (.goto (-67), 3) := by decide +kernel
theorem d_M_number_74 : decode prog_13_method_20_code 74 = .ok (.iload_n 2, 1) := by decide +kernel
theorem d_M_number_75 : decode prog_13_method_20_code 75 = .ok (.ireturn, 1) := by decide +kernel
theorem d_M_barred_0 : decode prog_13_method_21_code 0 = .ok (.aload_n 0, 1) := by decide +kernel
theorem d_M_barred_1 : decode prog_13_method_21_code 1 = .ok (.iload_n 1, 1) := by decide +kernel
theorem d_M_barred_2 : decode prog_13_method_21_code 2 = .ok (.invokevirtual 161, 3) := by decide +kernel
theorem d_M_barred_5 : decode prog_13_method_21_code 5 = .ok (.ifCond .eq 8, 3) := by decide +kernel
theorem d_M_barred_8 : decode prog_13_method_21_code 8 = .ok (.aload_n 0, 1) := by decide +kernel
theorem d_M_barred_9 : decode prog_13_method_21_code 9 = .ok (.iconst 5, 1) := by decide +kernel
theorem d_M_barred_10 : decode prog_13_method_21_code 10 = .ok (.invokevirtual 119, 3) := by decide +kernel
theorem d_M_barred_13 : decode prog_13_method_21_code 13 = .ok (.return_, 1) := by decide +kernel
theorem d_M_frame_0 : decode prog_13_method_23_code 0 = .ok (.aload_n 0, 1) := by decide +kernel
theorem d_M_frame_1 : decode prog_13_method_23_code 1 = .ok (.iconst 2, 1) := by decide +kernel
theorem d_M_frame_2 : decode prog_13_method_23_code 2 = .ok (.invokevirtual 177, 3) := by decide +kernel
theorem d_M_frame_5 : decode prog_13_method_23_code 5 = .ok (.aload_n 0, 1) := by decide +kernel
theorem d_M_frame_6 : decode prog_13_method_23_code 6 = .ok (.iconst 1, 1) := by decide +kernel
theorem d_M_frame_7 : decode prog_13_method_23_code 7 = .ok (.invokevirtual 177, 3) := by decide +kernel
theorem d_M_frame_10 : decode prog_13_method_23_code 10 = .ok (.aload_n 0, 1) := by decide +kernel
theorem d_M_frame_11 : decode prog_13_method_23_code 11 = .ok (.aload_n 0, 1) := by decide +kernel
theorem d_M_frame_12 : decode prog_13_method_23_code 12 = .ok (.bipush 6, 2) := by decide +kernel
theorem d_M_frame_14 : decode prog_13_method_23_code 14 = .ok (.invokevirtual 161, 3) := by decide +kernel
theorem d_M_frame_17 : decode prog_13_method_23_code 17 = .ok (.putfield 183, 3) := by decide +kernel
theorem d_M_frame_20 : decode prog_13_method_23_code 20 = .ok (.aload_n 0, 1) := by decide +kernel
theorem d_M_frame_21 : decode prog_13_method_23_code 21 = .ok (.aload_n 0, 1) := by decide +kernel
theorem d_M_frame_22 : decode prog_13_method_23_code 22 = .ok (.iconst 1, 1) := by decide +kernel
theorem d_M_frame_23 : decode prog_13_method_23_code 23 = .ok (.invokevirtual 161, 3) := by decide +kernel
theorem d_M_frame_26 : decode prog_13_method_23_code 26 = .ok (.putfield 186, 3) := by decide +kernel
theorem d_M_frame_29 : decode prog_13_method_23_code 29 = .ok (.aload_n 0, 1) := by decide +kernel
theorem d_M_frame_30 : decode prog_13_method_23_code 30 = .ok (.aload_n 0, 1) := by decide +kernel
theorem d_M_frame_31 : decode prog_13_method_23_code 31 = .ok (.iconst 3, 1) := by decide +kernel
theorem d_M_frame_32 : decode prog_13_method_23_code 32 = .ok (.invokevirtual 161, 3) := by decide +kernel
theorem d_M_frame_35 : decode prog_13_method_23_code 35 = .ok (.putfield 189, 3) := by decide +kernel
theorem d_M_frame_38 : decode prog_13_method_23_code 38 = .ok (.aload_n 0, 1) := by decide +kernel
theorem d_M_frame_39 : decode prog_13_method_23_code 39 = .ok (.aload_n 0, 1) := by decide +kernel
theorem d_M_frame_40 : decode prog_13_method_23_code 40 = .ok (.getfield 180, 3) := by decide +kernel
theorem d_M_frame_43 : decode prog_13_method_23_code 43 = .ok (.iconst 1, 1) := by decide +kernel
theorem d_M_frame_44 : decode prog_13_method_23_code 44 = .ok (.if_icmp .ne 11, 3) := by decide +kernel
theorem d_M_frame_47 : decode prog_13_method_23_code 47 = .ok (.aload_n 0, 1) := by decide +kernel
theorem d_M_frame_48 : decode prog_13_method_23_code 48 = .ok (.iconst 2, 1) := by decide +kernel
theorem d_M_frame_49 : decode prog_13_method_23_code 49 = .ok (.invokevirtual 161, 3) := by decide +kernel
theorem d_M_frame_52 : decode prog_13_method_23_code 52 = .ok (.goto 4, 3) := by decide +kernel
theorem d_M_frame_55 : decode prog_13_method_23_code 55 = .ok (.iconst 0, 1) := by decide +kernel
theorem d_M_frame_56 : decode prog_13_method_23_code 56 = .ok (.putfield 192, 3) := by decide +kernel
theorem d_M_frame_59 : decode prog_13_method_23_code 59 = .ok (.aload_n 0, 1) := by decide +kernel
theorem d_M_frame_60 : decode prog_13_method_23_code 60 = .ok (.bipush 8, 2) := by decide +kernel
theorem d_M_frame_62 : decode prog_13_method_23_code 62 = .ok (.aload_n 0, 1) := by decide +kernel
theorem d_M_frame_63 : decode prog_13_method_23_code 63 = .ok (.getfield 123, 3) := by decide +kernel
theorem d_M_frame_66 : decode prog_13_method_23_code 66 = .ok (.bipush 7, 2) := by decide +kernel
theorem d_M_frame_68 : decode prog_13_method_23_code 68 = .ok (.iadd, 1) := by decide +kernel
theorem d_M_frame_69 : decode prog_13_method_23_code 69 = .ok (.bipush 8, 2) := by decide +kernel
theorem d_M_frame_71 : decode prog_13_method_23_code 71 = .ok (.idiv, 1) := by decide +kernel
theorem d_M_frame_72 : decode prog_13_method_23_code 72 = .ok (.imul, 1) := by decide +kernel
theorem d_M_frame_73 : decode prog_13_method_23_code 73 = .ok (.putfield 195, 3) := by decide +kernel
theorem d_M_frame_76 : decode prog_13_method_23_code 76 = .ok (.aload_n 0, 1) := by decide +kernel
theorem d_M_frame_77 : decode prog_13_method_23_code 77 = .ok (.aload_n 0, 1) := by decide +kernel
theorem d_M_frame_78 : decode prog_13_method_23_code 78 = .ok (.getfield 126, 3) := by decide +kernel
theorem d_M_frame_81 : decode prog_13_method_23_code 81 = .ok (.putfield 198, 3) := by decide +kernel
theorem d_M_frame_84 : decode prog_13_method_23_code 84 = .ok (.return_, 1) := by decide +kernel
theorem d_M_sequence_0 : decode prog_13_method_22_code 0 = .ok (.aload_n 0, 1) := by decide +kernel
theorem d_M_sequence_1 : decode prog_13_method_22_code 1 = .ok (.aload_n 0, 1) := by decide +kernel
theorem d_M_sequence_2 : decode prog_13_method_22_code 2 = .ok (.iconst 2, 1) := by decide +kernel
theorem d_M_sequence_3 : decode prog_13_method_22_code 3 = .ok (.invokevirtual 161, 3) := by decide +kernel
theorem d_M_sequence_6 : decode prog_13_method_22_code 6 = .ok (.putfield 165, 3) := by decide +kernel
theorem d_M_sequence_9 : decode prog_13_method_22_code 9 = .ok (.aload_n 0, 1) := by decide +kernel
theorem d_M_sequence_10 : decode prog_13_method_22_code 10 = .ok (.getfield 165, 3) := by decide +kernel
theorem d_M_sequence_13 : decode prog_13_method_22_code 13 = .ok (.iconst 1, 1) := by decide +kernel
theorem d_M_sequence_14 : decode prog_13_method_22_code 14 = .ok (.if_icmp .le 8, 3) := by decide +kernel
theorem d_M_sequence_17 : decode prog_13_method_22_code 17 = .ok (.aload_n 0, 1) := by decide +kernel
theorem d_M_sequence_18 : decode prog_13_method_22_code 18 = .ok (.iconst 5, 1) := by decide +kernel
theorem d_M_sequence_19 : decode prog_13_method_22_code 19 = .ok (.invokevirtual 119, 3) := by decide +kernel
theorem d_M_sequence_22 : decode prog_13_method_22_code 22 = .ok (.aload_n 0, 1) := by decide +kernel
theorem d_M_sequence_23 : decode prog_13_method_22_code 23 = .ok (.aload_n 0, 1) := by decide +kernel
theorem d_M_sequence_24 : decode prog_13_method_22_code 24 = .ok (.iconst 1, 1) := by decide +kernel
theorem d_M_sequence_25 : decode prog_13_method_22_code 25 = .ok (.invokevirtual 161, 3) := by decide +kernel
theorem d_M_sequence_28 : decode prog_13_method_22_code 28 = .ok (.putfield 168, 3) := by decide +kernel
theorem d_M_sequence_31 : decode prog_13_method_22_code 31 = .ok (.aload_n 0, 1) := by decide +kernel
theorem d_M_sequence_32 : decode prog_13_method_22_code 32 = .ok (.aload_n 0, 1) := by decide +kernel
theorem d_M_sequence_33 : decode prog_13_method_22_code 33 = .ok (.iconst 4, 1) := by decide +kernel
theorem d_M_sequence_34 : decode prog_13_method_22_code 34 = .ok (.invokevirtual 161, 3) := by decide +kernel
theorem d_M_sequence_37 : decode prog_13_method_22_code 37 = .ok (.iconst 1, 1) := by decide +kernel
theorem d_M_sequence_38 : decode prog_13_method_22_code 38 = .ok (.iadd, 1) := by decide +kernel
theorem d_M_sequence_39 : decode prog_13_method_22_code 39 = .ok (.putfield 171, 3) := by decide +kernel
theorem d_M_sequence_42 : decode prog_13_method_22_code 42 = .ok (.aload_n 0, 1) := by decide +kernel
theorem d_M_sequence_43 : decode prog_13_method_22_code 43 = .ok (.aload_n 0, 1) := by decide +kernel
theorem d_M_sequence_44 : decode prog_13_method_22_code 44 = .ok (.iconst 4, 1) := by decide +kernel
theorem d_M_sequence_45 : decode prog_13_method_22_code 45 = .ok (.invokevirtual 161, 3) := by decide +kernel
theorem d_M_sequence_48 : decode prog_13_method_22_code 48 = .ok (.iconst 1, 1) := by decide +kernel
theorem d_M_sequence_49 : decode prog_13_method_22_code 49 = .ok (.iadd, 1) := by decide +kernel
theorem d_M_sequence_50 : decode prog_13_method_22_code 50 = .ok (.putfield 174, 3) := by decide +kernel
theorem d_M_sequence_53 : decode prog_13_method_22_code 53 = .ok (.aload_n 0, 1) := by decide +kernel
theorem d_M_sequence_54 : decode prog_13_method_22_code 54 = .ok (.iconst 1, 1) := by decide +kernel
theorem d_M_sequence_55 : decode prog_13_method_22_code 55 = .ok (.invokevirtual 177, 3) := by decide +kernel
theorem d_M_sequence_58 : decode prog_13_method_22_code 58 = .ok (.aload_n 0, 1) := by decide +kernel
theorem d_M_sequence_59 : decode prog_13_method_22_code 59 = .ok (.iconst 1, 1) := by decide +kernel
theorem d_M_sequence_60 : decode prog_13_method_22_code 60 = .ok (.invokevirtual 177, 3) := by decide +kernel
theorem d_M_sequence_63 : decode prog_13_method_22_code 63 = .ok (.aload_n 0, 1) := by decide +kernel
theorem d_M_sequence_64 : decode prog_13_method_22_code 64 = .ok (.aload_n 0, 1) := by decide +kernel
theorem d_M_sequence_65 : decode prog_13_method_22_code 65 = .ok (.iconst 1, 1) := by decide +kernel
theorem d_M_sequence_66 : decode prog_13_method_22_code 66 = .ok (.invokevirtual 161, 3) := by decide +kernel
theorem d_M_sequence_69 : decode prog_13_method_22_code 69 = .ok (.putfield 180, 3) := by decide +kernel
theorem d_M_sequence_72 : decode prog_13_method_22_code 72 = .ok (.aload_n 0, 1) := by decide +kernel
theorem d_M_sequence_73 : decode prog_13_method_22_code 73 = .ok (.getfield 13, 3) := by decide +kernel
theorem d_M_sequence_76 : decode prog_13_method_22_code 76 = .ok (.aload_n 0, 1) := by decide +kernel
theorem d_M_sequence_77 : decode prog_13_method_22_code 77 = .ok (.getfield 139, 3) := by decide +kernel
theorem d_M_sequence_80 : decode prog_13_method_22_code 80 = .ok (.iaload, 1) := by decide +kernel
theorem d_M_sequence_81 : decode prog_13_method_22_code 81 = .ok (.istore_n 1, 1) := by decide +kernel
theorem d_M_sequence_82 : decode prog_13_method_22_code 82 = .ok (.aload_n 0, 1) := by decide +kernel
theorem d_M_sequence_83 : decode prog_13_method_22_code 83 = .ok (.getfield 7, 3) := by decide +kernel
theorem d_M_sequence_86 : decode prog_13_method_22_code 86 = .ok (.iload_n 1, 1) := by decide +kernel
theorem d_M_sequence_87 : decode prog_13_method_22_code 87 = .ok (.iaload, 1) := by decide +kernel
theorem d_M_sequence_88 : decode prog_13_method_22_code 88 = .ok (.aload_n 0, 1) := by decide +kernel
theorem d_M_sequence_89 : decode prog_13_method_22_code 89 = .ok (.getfield 171, 3) := by decide +kernel
theorem d_M_sequence_92 : decode prog_13_method_22_code 92 = .ok (.if_icmp .ne 50, 3) := by decide +kernel
theorem d_M_sequence_95 : decode prog_13_method_22_code 95 = .ok (.aload_n 0, 1) := by decide +kernel
theorem d_M_sequence_96 : decode prog_13_method_22_code 96 = .ok (.getfield 7, 3) := by decide +kernel
theorem d_M_sequence_99 : decode prog_13_method_22_code 99 = .ok (.iload_n 1, 1) := by decide +kernel
theorem d_M_sequence_100 : decode prog_13_method_22_code 100 = .ok (.iconst 1, 1) := by decide +kernel
theorem d_M_sequence_101 : decode prog_13_method_22_code 101 = .ok (.iadd, 1) := by decide +kernel
theorem d_M_sequence_102 : decode prog_13_method_22_code 102 = .ok (.iaload, 1) := by decide +kernel
theorem d_M_sequence_103 : decode prog_13_method_22_code 103 = .ok (.aload_n 0, 1) := by decide +kernel
theorem d_M_sequence_104 : decode prog_13_method_22_code 104 = .ok (.getfield 174, 3) := by decide +kernel
theorem d_M_sequence_107 : decode prog_13_method_22_code 107 = .ok (.if_icmp .ne 35, 3) := by decide +kernel
theorem d_M_sequence_110 : decode prog_13_method_22_code 110 = .ok (.aload_n 0, 1) := by decide +kernel
theorem d_M_sequence_111 : decode prog_13_method_22_code 111 = .ok (.getfield 7, 3) := by decide +kernel
theorem d_M_sequence_114 : decode prog_13_method_22_code 114 = .ok (.aload_n 0, 1) := by decide +kernel
theorem d_M_sequence_115 : decode prog_13_method_22_code 115 = .ok (.getfield 13, 3) := by decide +kernel
theorem d_M_sequence_118 : decode prog_13_method_22_code 118 = .ok (.aload_n 0, 1) := by decide +kernel
theorem d_M_sequence_119 : decode prog_13_method_22_code 119 = .ok (.getfield 142, 3) := by decide +kernel
theorem d_M_sequence_122 : decode prog_13_method_22_code 122 = .ok (.iaload, 1) := by decide +kernel
theorem d_M_sequence_123 : decode prog_13_method_22_code 123 = .ok (.iaload, 1) := by decide +kernel
theorem d_M_sequence_124 : decode prog_13_method_22_code 124 = .ok (.aload_n 0, 1) := by decide +kernel
theorem d_M_sequence_125 : decode prog_13_method_22_code 125 = .ok (.getfield 165, 3) := by decide +kernel
theorem d_M_sequence_128 : decode prog_13_method_22_code 128 = .ok (.iconst 4, 1) := by decide +kernel
theorem d_M_sequence_129 : decode prog_13_method_22_code 129 = .ok (.aload_n 0, 1) := by decide +kernel
theorem d_M_sequence_130 : decode prog_13_method_22_code 130 = .ok (.getfield 168, 3) := by decide +kernel
theorem d_M_sequence_133 : decode prog_13_method_22_code 133 = .ok (.imul, 1) := by decide +kernel
theorem d_M_sequence_134 : decode prog_13_method_22_code 134 = .ok (.iadd, 1) := by decide +kernel
theorem d_M_sequence_135 : decode prog_13_method_22_code 135 = .ok (.if_icmp .ne 7, 3) := by decide +kernel
theorem d_M_sequence_138 : decode prog_13_method_22_code 138 = .ok (.iconst 1, 1) := by decide +kernel
theorem d_M_sequence_139 : decode prog_13_method_22_code 139 = .ok (.goto 4, 3) := by decide +kernel
theorem d_M_sequence_142 : decode prog_13_method_22_code 142 = .ok (.iconst 0, 1) := by decide +kernel
theorem d_M_sequence_143 : decode prog_13_method_22_code 143 = .ok (.istore_n 2, 1) := by decide +kernel
theorem d_M_sequence_144 : decode prog_13_method_22_code 144 = .ok (.aload_n 0, 1) := by decide +kernel
theorem d_M_sequence_145 : decode prog_13_method_22_code 145 = .ok (.getfield 145, 3) := by decide +kernel
theorem d_M_sequence_148 : decode prog_13_method_22_code 148 = .ok (.ifCond .lt 91, 3) := by decide +kernel
theorem d_M_sequence_151 : decode prog_13_method_22_code 151 = .ok (.aload_n 0, 1) := by decide +kernel
theorem d_M_sequence_152 : decode prog_13_method_22_code 152 = .ok (.getfield 13, 3) := by decide +kernel
theorem d_M_sequence_155 : decode prog_13_method_22_code 155 = .ok (.aload_n 0, 1) := by decide +kernel
theorem d_M_sequence_156 : decode prog_13_method_22_code 156 = .ok (.getfield 145, 3) := by decide +kernel
theorem d_M_sequence_159 : decode prog_13_method_22_code 159 = .ok (.iaload, 1) := by decide +kernel
theorem d_M_sequence_160 : decode prog_13_method_22_code 160 = .ok (.istore_n 3, 1) := by decide +kernel
theorem d_M_sequence_161 : decode prog_13_method_22_code 161 = .ok (.iload_n 2, 1) := by decide +kernel
theorem d_M_sequence_162 : decode prog_13_method_22_code 162 = .ok (.ifCond .eq 24, 3) := by decide +kernel
theorem d_M_sequence_165 : decode prog_13_method_22_code 165 = .ok (.aload_n 0, 1) := by decide +kernel
theorem d_M_sequence_166 : decode prog_13_method_22_code 166 = .ok (.getfield 7, 3) := by decide +kernel
theorem d_M_sequence_169 : decode prog_13_method_22_code 169 = .ok (.iload_n 3, 1) := by decide +kernel
theorem d_M_sequence_170 : decode prog_13_method_22_code 170 = .ok (.iaload, 1) := by decide +kernel
theorem d_M_sequence_171 : decode prog_13_method_22_code 171 = .ok (.iconst 1, 1) := by decide +kernel
theorem d_M_sequence_172 : decode prog_13_method_22_code 172 = .ok (.iconst 2, 1) := by decide +kernel
theorem d_M_sequence_173 : decode prog_13_method_22_code 173 = .ok (.aload_n 0, 1) := by decide +kernel
theorem d_M_sequence_174 : decode prog_13_method_22_code 174 = .ok (.getfield 165, 3) := by decide +kernel
theorem d_M_sequence_177 : decode prog_13_method_22_code 177 = .ok (.imul, 1) := by decide +kernel
theorem d_M_sequence_178 : decode prog_13_method_22_code 178 = .ok (.iadd, 1) := by decide +kernel
theorem d_M_sequence_179 : decode prog_13_method_22_code 179 = .ok (.if_icmp .ne 7, 3) := by decide +kernel
theorem d_M_sequence_182 : decode prog_13_method_22_code 182 = .ok (.iconst 1, 1) := by decide +kernel
theorem d_M_sequence_183 : decode prog_13_method_22_code 183 = .ok (.goto 4, 3) := by decide +kernel
theorem d_M_sequence_186 : decode prog_13_method_22_code 186 = .ok (.iconst 0, 1) := by decide +kernel
theorem d_M_sequence_187 : decode prog_13_method_22_code 187 = .ok (.istore_n 2, 1) := by decide +kernel
theorem d_M_sequence_188 : decode prog_13_method_22_code 188 = .ok (.iconst 1, 1) := by decide +kernel
theorem d_M_sequence_189 : decode prog_13_method_22_code 189 = .ok (.istore 4, 2) := by decide +kernel
theorem d_M_sequence_191 : decode prog_13_method_22_code 191 = .ok (.iload 4, 2) := by decide +kernel
theorem d_M_sequence_193 : decode prog_13_method_22_code 193 = .ok (.aload_n 0, 1) := by decide +kernel
theorem d_M_sequence_194 : decode prog_13_method_22_code 194 = .ok (.getfield 7, 3) := by decide +kernel
theorem d_M_sequence_197 : decode prog_13_method_22_code 197 = .ok (.iload_n 3, 1) := by decide +kernel
theorem d_M_sequence_198 : decode prog_13_method_22_code 198 = .ok (.iaload, 1) := by decide +kernel
theorem d_M_sequence_199 : decode prog_13_method_22_code 199 = .ok (.if_icmp .gt 40, 3) := by decide +kernel
theorem d_M_sequence_202 : decode prog_13_method_22_code 202 = .ok (.iload_n 2, 1) := by decide +kernel
theorem d_M_sequence_203 : decode prog_13_method_22_code 203 = .ok (.ifCond .eq 28, 3) := by decide +kernel
theorem d_M_sequence_206 : decode prog_13_method_22_code 206 = .ok (.aload_n 0, 1) := by decide +kernel
theorem d_M_sequence_207 : decode prog_13_method_22_code 207 = .ok (.getfield 7, 3) := by decide +kernel
theorem d_M_sequence_210 : decode prog_13_method_22_code 210 = .ok (.iload_n 3, 1) := by decide +kernel
theorem d_M_sequence_211 : decode prog_13_method_22_code 211 = .ok (.iload 4, 2) := by decide +kernel
theorem d_M_sequence_213 : decode prog_13_method_22_code 213 = .ok (.iadd, 1) := by decide +kernel
theorem d_M_sequence_214 : decode prog_13_method_22_code 214 = .ok (.iaload, 1) := by decide +kernel
theorem d_M_sequence_215 : decode prog_13_method_22_code 215 = .ok (.bipush 8, 2) := by decide +kernel
theorem d_M_sequence_217 : decode prog_13_method_22_code 217 = .ok (.iconst 2, 1) := by decide +kernel
theorem d_M_sequence_218 : decode prog_13_method_22_code 218 = .ok (.aload_n 0, 1) := by decide +kernel
theorem d_M_sequence_219 : decode prog_13_method_22_code 219 = .ok (.getfield 168, 3) := by decide +kernel
theorem d_M_sequence_222 : decode prog_13_method_22_code 222 = .ok (.imul, 1) := by decide +kernel
theorem d_M_sequence_223 : decode prog_13_method_22_code 223 = .ok (.iadd, 1) := by decide +kernel
theorem d_M_sequence_224 : decode prog_13_method_22_code 224 = .ok (.if_icmp .ne 7, 3) := by decide +kernel
theorem d_M_sequence_227 : decode prog_13_method_22_code 227 = .ok (.iconst 1, 1) := by decide +kernel
theorem d_M_sequence_228 : decode prog_13_method_22_code 228 = .ok (.goto 4, 3) := by decide +kernel
theorem d_M_sequence_231 : decode prog_13_method_22_code 231 = .ok (.iconst 0, 1) := by decide +kernel
theorem d_M_sequence_232 : decode prog_13_method_22_code 232 = .ok (.istore_n 2, 1) := by decide +kernel
theorem d_M_sequence_233 : decode prog_13_method_22_code 233 = .ok (.iinc 4 1, 3) := by decide +kernel
theorem d_M_sequence_236 : decode prog_13_method_22_code 236 = .ok (.goto (-45), 3) := by decide +kernel
theorem d_M_sequence_239 : decode prog_13_method_22_code 239 = .ok (.iload_n 2, 1) := by decide +kernel
theorem d_M_sequence_240 : decode prog_13_method_22_code 240 = .ok (.ifCond .ne 9, 3) := by decide +kernel
theorem d_M_sequence_243 : decode prog_13_method_22_code 243 = .ok (.aload_n 0, 1) := by decide +kernel
theorem d_M_sequence_244 : decode prog_13_method_22_code 244 = .ok (.bipush 6, 2) := by decide +kernel
theorem d_M_sequence_246 : decode prog_13_method_22_code 246 = .ok (.invokevirtual 119, 3) := by decide +kernel
theorem d_M_sequence_249 : decode prog_13_method_22_code 249 = .ok (.return_, 1) := by decide +kernel
theorem d_M_units_0 : decode prog_13_method_19_code 0 = .ok (.iconst 0, 1) := by decide +kernel
theorem d_M_units_1 : decode prog_13_method_19_code 1 = .ok (.istore_n 1, 1) := by decide +kernel
theorem d_M_units_2 : decode prog_13_method_19_code 2 = .ok (.iconst 0, 1) := by decide +kernel
theorem d_M_units_3 : decode prog_13_method_19_code 3 = .ok (.istore_n 2, 1) := by decide +kernel
theorem d_M_units_4 : decode prog_13_method_19_code 4 = .ok (.iconst 1, 1) := by decide +kernel
theorem d_M_units_5 : decode prog_13_method_19_code 5 = .ok (.istore_n 3, 1) := by decide +kernel
theorem d_M_units_6 : decode prog_13_method_19_code 6 = .ok (.iload_n 3, 1) := by decide +kernel
theorem d_M_units_7 : decode prog_13_method_19_code 7 = .ok (.ifCond .eq 325, 3) := by decide +kernel
theorem d_M_units_10 : decode prog_13_method_19_code 10 = .ok (.aload_n 0, 1) := by decide +kernel
theorem d_M_units_11 : decode prog_13_method_19_code 11 = .ok (.getfield 78, 3) := by decide +kernel
theorem d_M_units_14 : decode prog_13_method_19_code 14 = .ok (.ifCond .ne 318, 3) := by decide +kernel
theorem d_M_units_17 : decode prog_13_method_19_code 17 = .ok (.iload_n 1, 1) := by decide +kernel
theorem d_M_units_18 : decode prog_13_method_19_code 18 = .ok (.aload_n 0, 1) := by decide +kernel
theorem d_M_units_19 : decode prog_13_method_19_code 19 = .ok (.getfield 129, 3) := by decide +kernel
theorem d_M_units_22 : decode prog_13_method_19_code 22 = .ok (.if_icmp .ge 12, 3) := by decide +kernel
theorem d_M_units_25 : decode prog_13_method_19_code 25 = .ok (.aload_n 0, 1) := by decide +kernel
theorem d_M_units_26 : decode prog_13_method_19_code 26 = .ok (.getfield 28, 3) := by decide +kernel
theorem d_M_units_29 : decode prog_13_method_19_code 29 = .ok (.iload_n 1, 1) := by decide +kernel
theorem d_M_units_30 : decode prog_13_method_19_code 30 = .ok (.iaload, 1) := by decide +kernel
theorem d_M_units_31 : decode prog_13_method_19_code 31 = .ok (.goto 6, 3) := by decide +kernel
theorem d_M_units_34 : decode prog_13_method_19_code 34 = .ok (.sipush 255, 3) := by decide +kernel
theorem d_M_units_37 : decode prog_13_method_19_code 37 = .ok (.istore 4, 2) := by decide +kernel
theorem d_M_units_39 : decode prog_13_method_19_code 39 = .ok (.iload 4, 2) := by decide +kernel
theorem d_M_units_41 : decode prog_13_method_19_code 41 = .ok (.sipush 128, 3) := by decide +kernel
theorem d_M_units_44 : decode prog_13_method_19_code 44 = .ok (.if_icmp .lt 12, 3) := by decide +kernel
theorem d_M_units_47 : decode prog_13_method_19_code 47 = .ok (.aload_n 0, 1) := by decide +kernel
theorem d_M_units_48 : decode prog_13_method_19_code 48 = .ok (.bipush 7, 2) := by decide +kernel
theorem d_M_units_50 : decode prog_13_method_19_code 50 = .ok (.invokevirtual 119, 3) := by decide +kernel
theorem d_M_units_53 : decode prog_13_method_19_code 53 = .ok (.goto 15, 3) := by decide +kernel
theorem d_M_units_56 : decode prog_13_method_19_code 56 = .ok (.iload 4, 2) := by decide +kernel
theorem d_M_units_58 : decode prog_13_method_19_code 58 = .ok (.iconst 4, 1) := by decide +kernel
theorem d_M_units_59 : decode prog_13_method_19_code 59 = .ok (.iand, 1) := by decide +kernel
theorem d_M_units_60 : decode prog_13_method_19_code 60 = .ok (.ifCond .eq 8, 3) := by decide +kernel
theorem d_M_units_63 : decode prog_13_method_19_code 63 = .ok (.aload_n 0, 1) := by decide +kernel
theorem d_M_units_64 : decode prog_13_method_19_code 64 = .ok (.iconst 5, 1) := by decide +kernel
theorem d_M_units_65 : decode prog_13_method_19_code 65 = .ok (.invokevirtual 119, 3) := by decide +kernel
theorem d_M_units_68 : decode prog_13_method_19_code 68 = .ok (.iinc 1 1, 3) := by decide +kernel
theorem d_M_units_71 : decode prog_13_method_19_code 71 = .ok (.aload_n 0, 1) := by decide +kernel
theorem d_M_units_72 : decode prog_13_method_19_code 72 = .ok (.getfield 129, 3) := by decide +kernel
theorem d_M_units_75 : decode prog_13_method_19_code 75 = .ok (.iload_n 1, 1) := by decide +kernel
theorem d_M_units_76 : decode prog_13_method_19_code 76 = .ok (.isub, 1) := by decide +kernel
theorem d_M_units_77 : decode prog_13_method_19_code 77 = .ok (.istore 5, 2) := by decide +kernel
theorem d_M_units_79 : decode prog_13_method_19_code 79 = .ok (.iconst 0, 1) := by decide +kernel
theorem d_M_units_80 : decode prog_13_method_19_code 80 = .ok (.istore 6, 2) := by decide +kernel
theorem d_M_units_82 : decode prog_13_method_19_code 82 = .ok (.iload 6, 2) := by decide +kernel
theorem d_M_units_84 : decode prog_13_method_19_code 84 = .ok (.iconst 3, 1) := by decide +kernel
theorem d_M_units_85 : decode prog_13_method_19_code 85 = .ok (.if_icmp .ge 119, 3) := by decide +kernel
theorem d_M_units_88 : decode prog_13_method_19_code 88 = .ok (.iload 4, 2) := by decide +kernel
theorem d_M_units_90 : decode prog_13_method_19_code 90 = .ok (.iconst 2, 1) := by decide +kernel
theorem d_M_units_91 : decode prog_13_method_19_code 91 = .ok (.iand, 1) := by decide +kernel
theorem d_M_units_92 : decode prog_13_method_19_code 92 = .ok (.ifCond .eq 112, 3) := by decide +kernel
theorem d_M_units_95 : decode prog_13_method_19_code 95 = .ok (.aload_n 0, 1) := by decide +kernel
theorem d_M_units_96 : decode prog_13_method_19_code 96 = .ok (.getfield 78, 3) := by decide +kernel
theorem d_M_units_99 : decode prog_13_method_19_code 99 = .ok (.ifCond .ne 105, 3) := by decide +kernel
theorem d_M_units_102 : decode prog_13_method_19_code 102 = .ok (.iload_n 1, 1) := by decide +kernel
theorem d_M_units_103 : decode prog_13_method_19_code 103 = .ok (.aload_n 0, 1) := by decide +kernel
theorem d_M_units_104 : decode prog_13_method_19_code 104 = .ok (.getfield 129, 3) := by decide +kernel
theorem d_M_units_107 : decode prog_13_method_19_code 107 = .ok (.if_icmp .ge 12, 3) := by decide +kernel
theorem d_M_units_110 : decode prog_13_method_19_code 110 = .ok (.aload_n 0, 1) := by decide +kernel
theorem d_M_units_111 : decode prog_13_method_19_code 111 = .ok (.getfield 28, 3) := by decide +kernel
theorem d_M_units_114 : decode prog_13_method_19_code 114 = .ok (.iload_n 1, 1) := by decide +kernel
theorem d_M_units_115 : decode prog_13_method_19_code 115 = .ok (.iaload, 1) := by decide +kernel
theorem d_M_units_116 : decode prog_13_method_19_code 116 = .ok (.goto 6, 3) := by decide +kernel
theorem d_M_units_119 : decode prog_13_method_19_code 119 = .ok (.sipush 255, 3) := by decide +kernel
theorem d_M_units_122 : decode prog_13_method_19_code 122 = .ok (.istore 7, 2) := by decide +kernel
theorem d_M_units_124 : decode prog_13_method_19_code 124 = .ok (.iload_n 1, 1) := by decide +kernel
theorem d_M_units_125 : decode prog_13_method_19_code 125 = .ok (.aload_n 0, 1) := by decide +kernel
theorem d_M_units_126 : decode prog_13_method_19_code 126 = .ok (.getfield 129, 3) := by decide +kernel
theorem d_M_units_129 : decode prog_13_method_19_code 129 = .ok (.if_icmp .ge 17, 3) := by decide +kernel
theorem d_M_units_132 : decode prog_13_method_19_code 132 = .ok (.iload 6, 2) := by decide +kernel
theorem d_M_units_134 : decode prog_13_method_19_code 134 = .ok (.iconst 2, 1) := by decide +kernel
theorem d_M_units_135 : decode prog_13_method_19_code 135 = .ok (.if_icmp .ne 17, 3) := by decide +kernel
theorem d_M_units_138 : decode prog_13_method_19_code 138 = .ok (.iload 7, 2) := by decide +kernel
theorem d_M_units_140 : decode prog_13_method_19_code 140 = .ok (.sipush 128, 3) := by decide +kernel
theorem d_M_units_143 : decode prog_13_method_19_code 143 = .ok (.if_icmp .lt 9, 3) := by decide +kernel
theorem d_M_units_146 : decode prog_13_method_19_code 146 = .ok (.aload_n 0, 1) := by decide +kernel
theorem d_M_units_147 : decode prog_13_method_19_code 147 = .ok (.bipush 7, 2) := by decide +kernel
theorem d_M_units_149 : decode prog_13_method_19_code 149 = .ok (.invokevirtual 119, 3) := by decide +kernel
theorem d_M_units_152 : decode prog_13_method_19_code 152 = .ok (.iload 6, 2) := by decide +kernel
theorem d_M_units_154 : decode prog_13_method_19_code 154 = .ok (.ifCond .ne 11, 3) := by decide +kernel
theorem d_M_units_157 : decode prog_13_method_19_code 157 = .ok (.iload 7, 2) := by decide +kernel
theorem d_M_units_159 : decode prog_13_method_19_code 159 = .ok (.bipush 127, 2) := by decide +kernel
theorem d_M_units_161 : decode prog_13_method_19_code 161 = .ok (.iand, 1) := by decide +kernel
theorem d_M_units_162 : decode prog_13_method_19_code 162 = .ok (.goto 17, 3) := by decide +kernel
theorem d_M_units_165 : decode prog_13_method_19_code 165 = .ok (.iload 5, 2) := by decide +kernel
theorem d_M_units_167 : decode prog_13_method_19_code 167 = .ok (.iload 7, 2) := by decide +kernel
theorem d_M_units_169 : decode prog_13_method_19_code 169 = .ok (.bipush 127, 2) := by decide +kernel
theorem d_M_units_171 : decode prog_13_method_19_code 171 = .ok (.iand, 1) := by decide +kernel
theorem d_M_units_172 : decode prog_13_method_19_code 172 = .ok (.bipush 7, 2) := by decide +kernel
theorem d_M_units_174 : decode prog_13_method_19_code 174 = .ok (.iload 6, 2) := by decide +kernel
theorem d_M_units_176 : decode prog_13_method_19_code 176 = .ok (.imul, 1) := by decide +kernel
theorem d_M_units_177 : decode prog_13_method_19_code 177 = .ok (.ishl, 1) := by decide +kernel
theorem d_M_units_178 : decode prog_13_method_19_code 178 = .ok (.iadd, 1) := by decide +kernel
theorem d_M_units_179 : decode prog_13_method_19_code 179 = .ok (.istore 5, 2) := by decide +kernel
theorem d_M_units_181 : decode prog_13_method_19_code 181 = .ok (.iinc 1 1, 3) := by decide +kernel
theorem d_M_units_184 : decode prog_13_method_19_code 184 = .ok (.iload 7, 2) := by decide +kernel
theorem d_M_units_186 : decode prog_13_method_19_code 186 = .ok (.sipush 128, 3) := by decide +kernel
theorem d_M_units_189 : decode prog_13_method_19_code 189 = .ok (.if_icmp .ge 9, 3) := by decide +kernel
theorem d_M_units_192 : decode prog_13_method_19_code 192 = .ok (.iload 4, 2) := by decide +kernel
theorem d_M_units_194 : decode prog_13_method_19_code 194 = .ok (.iconst 2, 1) := by decide +kernel
theorem d_M_units_195 : decode prog_13_method_19_code 195 = .ok (.isub, 1) := by decide +kernel
theorem d_M_units_196 : decode prog_13_method_19_code 196 = .ok (.istore 4, 2) := by decide +kernel
theorem d_M_units_198 : decode prog_13_method_19_code 198 = .ok (.iinc 6 1, 3) := by decide +kernel
theorem d_M_units_201 : decode prog_13_method_19_code 201 = .ok (.goto (-119), 3) := by decide +kernel
theorem d_M_units_204 : decode prog_13_method_19_code 204 = .ok (.iload 5, 2) := by decide +kernel
theorem d_M_units_206 : decode prog_13_method_19_code 206 = .ok (.aload_n 0, 1) := by decide +kernel
theorem d_M_units_207 : decode prog_13_method_19_code 207 = .ok (.getfield 129, 3) := by decide +kernel
theorem d_M_units_210 : decode prog_13_method_19_code 210 = .ok (.iload_n 1, 1) := by decide +kernel
theorem d_M_units_211 : decode prog_13_method_19_code 211 = .ok (.isub, 1) := by decide +kernel
theorem d_M_units_212 : decode prog_13_method_19_code 212 = .ok (.if_icmp .le 9, 3) := by decide +kernel
theorem d_M_units_215 : decode prog_13_method_19_code 215 = .ok (.aload_n 0, 1) := by decide +kernel
theorem d_M_units_216 : decode prog_13_method_19_code 216 = .ok (.bipush 7, 2) := by decide +kernel
theorem d_M_units_218 : decode prog_13_method_19_code 218 = .ok (.invokevirtual 119, 3) := by decide +kernel
theorem d_M_units_221 : decode prog_13_method_19_code 221 = .ok (.aload_n 0, 1) := by decide +kernel
theorem d_M_units_222 : decode prog_13_method_19_code 222 = .ok (.getfield 78, 3) := by decide +kernel
theorem d_M_units_225 : decode prog_13_method_19_code 225 = .ok (.ifCond .ne 104, 3) := by decide +kernel
theorem d_M_units_228 : decode prog_13_method_19_code 228 = .ok (.iload 4, 2) := by decide +kernel
theorem d_M_units_230 : decode prog_13_method_19_code 230 = .ok (.iconst 3, 1) := by decide +kernel
theorem d_M_units_231 : decode prog_13_method_19_code 231 = .ok (.ishr, 1) := by decide +kernel
theorem d_M_units_232 : decode prog_13_method_19_code 232 = .ok (.bipush 6, 2) := by decide +kernel
theorem d_M_units_234 : decode prog_13_method_19_code 234 = .ok (.if_icmp .ne 13, 3) := by decide +kernel
theorem d_M_units_237 : decode prog_13_method_19_code 237 = .ok (.iload_n 2, 1) := by decide +kernel
theorem d_M_units_238 : decode prog_13_method_19_code 238 = .ok (.ifCond .ne 9, 3) := by decide +kernel
theorem d_M_units_241 : decode prog_13_method_19_code 241 = .ok (.aload_n 0, 1) := by decide +kernel
theorem d_M_units_242 : decode prog_13_method_19_code 242 = .ok (.bipush 7, 2) := by decide +kernel
theorem d_M_units_244 : decode prog_13_method_19_code 244 = .ok (.invokevirtual 119, 3) := by decide +kernel
theorem d_M_units_247 : decode prog_13_method_19_code 247 = .ok (.aload_n 0, 1) := by decide +kernel
theorem d_M_units_248 : decode prog_13_method_19_code 248 = .ok (.bipush 8, 2) := by decide +kernel
theorem d_M_units_250 : decode prog_13_method_19_code 250 = .ok (.iload_n 1, 1) := by decide +kernel
theorem d_M_units_251 : decode prog_13_method_19_code 251 = .ok (.imul, 1) := by decide +kernel
theorem d_M_units_252 : decode prog_13_method_19_code 252 = .ok (.putfield 123, 3) := by decide +kernel
theorem d_M_units_255 : decode prog_13_method_19_code 255 = .ok (.aload_n 0, 1) := by decide +kernel
theorem d_M_units_256 : decode prog_13_method_19_code 256 = .ok (.bipush 8, 2) := by decide +kernel
theorem d_M_units_258 : decode prog_13_method_19_code 258 = .ok (.iload_n 1, 1) := by decide +kernel
theorem d_M_units_259 : decode prog_13_method_19_code 259 = .ok (.iload 5, 2) := by decide +kernel
theorem d_M_units_261 : decode prog_13_method_19_code 261 = .ok (.iadd, 1) := by decide +kernel
theorem d_M_units_262 : decode prog_13_method_19_code 262 = .ok (.imul, 1) := by decide +kernel
theorem d_M_units_263 : decode prog_13_method_19_code 263 = .ok (.putfield 126, 3) := by decide +kernel
theorem d_M_units_266 : decode prog_13_method_19_code 266 = .ok (.iload 4, 2) := by decide +kernel
theorem d_M_units_268 : decode prog_13_method_19_code 268 = .ok (.iconst 3, 1) := by decide +kernel
theorem d_M_units_269 : decode prog_13_method_19_code 269 = .ok (.ishr, 1) := by decide +kernel
theorem d_M_units_270 : decode prog_13_method_19_code 270 = .ok (.iconst 1, 1) := by decide +kernel
theorem d_M_units_271 : decode prog_13_method_19_code 271 = .ok (.if_icmp .ne 7, 3) := by decide +kernel
theorem d_M_units_274 : decode prog_13_method_19_code 274 = .ok (.aload_n 0, 1) := by decide +kernel
theorem d_M_units_275 : decode prog_13_method_19_code 275 = .ok (.invokevirtual 155, 3) := by decide +kernel
theorem d_M_units_278 : decode prog_13_method_19_code 278 = .ok (.iload 4, 2) := by decide +kernel
theorem d_M_units_280 : decode prog_13_method_19_code 280 = .ok (.iconst 3, 1) := by decide +kernel
theorem d_M_units_281 : decode prog_13_method_19_code 281 = .ok (.ishr, 1) := by decide +kernel
theorem d_M_units_282 : decode prog_13_method_19_code 282 = .ok (.bipush 6, 2) := by decide +kernel
theorem d_M_units_284 : decode prog_13_method_19_code 284 = .ok (.if_icmp .ne 7, 3) := by decide +kernel
theorem d_M_units_287 : decode prog_13_method_19_code 287 = .ok (.aload_n 0, 1) := by decide +kernel
theorem d_M_units_288 : decode prog_13_method_19_code 288 = .ok (.invokevirtual 158, 3) := by decide +kernel
theorem d_M_units_291 : decode prog_13_method_19_code 291 = .ok (.iload_n 2, 1) := by decide +kernel
theorem d_M_units_292 : decode prog_13_method_19_code 292 = .ok (.ifCond .ne 11, 3) := by decide +kernel
theorem d_M_units_295 : decode prog_13_method_19_code 295 = .ok (.iload 4, 2) := by decide +kernel
theorem d_M_units_297 : decode prog_13_method_19_code 297 = .ok (.iconst 3, 1) := by decide +kernel
theorem d_M_units_298 : decode prog_13_method_19_code 298 = .ok (.ishr, 1) := by decide +kernel
theorem d_M_units_299 : decode prog_13_method_19_code 299 = .ok (.iconst 1, 1) := by decide +kernel
theorem d_M_units_300 : decode prog_13_method_19_code 300 = .ok (.if_icmp .ne 7, 3) := by decide +kernel
theorem d_M_units_303 : decode prog_13_method_19_code 303 = .ok (.iconst 1, 1) := by decide +kernel
theorem d_M_units_304 : decode prog_13_method_19_code 304 = .ok (.goto 4, 3) := by decide +kernel
theorem d_M_units_307 : decode prog_13_method_19_code 307 = .ok (.iconst 0, 1) := by decide +kernel
theorem d_M_units_308 : decode prog_13_method_19_code 308 = .ok (.istore_n 2, 1) := by decide +kernel
theorem d_M_units_309 : decode prog_13_method_19_code 309 = .ok (.iload 4, 2) := by decide +kernel
theorem d_M_units_311 : decode prog_13_method_19_code 311 = .ok (.iconst 3, 1) := by decide +kernel
theorem d_M_units_312 : decode prog_13_method_19_code 312 = .ok (.ishr, 1) := by decide +kernel
theorem d_M_units_313 : decode prog_13_method_19_code 313 = .ok (.bipush 6, 2) := by decide +kernel
theorem d_M_units_315 : decode prog_13_method_19_code 315 = .ok (.if_icmp .eq 7, 3) := by decide +kernel
theorem d_M_units_318 : decode prog_13_method_19_code 318 = .ok (.iconst 1, 1) := by decide +kernel
theorem d_M_units_319 : decode prog_13_method_19_code 319 = .ok (.goto 4, 3) := by decide +kernel
theorem d_M_units_322 : decode prog_13_method_19_code 322 = .ok (.iconst 0, 1) := by decide +kernel
theorem d_M_units_323 : decode prog_13_method_19_code 323 = .ok (.istore_n 3, 1) := by decide +kernel
theorem d_M_units_324 : decode prog_13_method_19_code 324 = .ok (.iload_n 1, 1) := by decide +kernel
theorem d_M_units_325 : decode prog_13_method_19_code 325 = .ok (.iload 5, 2) := by decide +kernel
theorem d_M_units_327 : decode prog_13_method_19_code 327 = .ok (.iadd, 1) := by decide +kernel
theorem d_M_units_328 : decode prog_13_method_19_code 328 = .ok (.istore_n 1, 1) := by decide +kernel
theorem d_M_units_329 : decode prog_13_method_19_code 329 = .ok (.goto (-323), 3) := by decide +kernel
theorem d_M_units_332 : decode prog_13_method_19_code 332 = .ok (.return_, 1) := by decide +kernel
theorem d_M_child_0 : decode prog_13_method_11_code 0 = .ok (.iconst (-1), 1) := by decide +kernel
theorem d_M_child_1 : decode prog_13_method_11_code 1 = .ok (.istore_n 3, 1) := by decide +kernel
theorem d_M_child_2 : decode prog_13_method_11_code 2 = .ok (.aload_n 0, 1) := by decide +kernel
theorem d_M_child_3 : decode prog_13_method_11_code 3 = .ok (.getfield 112, 3) := by decide +kernel
theorem d_M_child_6 : decode prog_13_method_11_code 6 = .ok (.iconst 1, 1) := by decide +kernel
theorem d_M_child_7 : decode prog_13_method_11_code 7 = .ok (.isub, 1) := by decide +kernel
theorem d_M_child_8 : decode prog_13_method_11_code 8 = .ok (.istore 4, 2) := by decide +kernel
theorem d_M_child_10 : decode prog_13_method_11_code 10 = .ok (.iload 4, 2) := by decide +kernel
theorem d_M_child_12 : decode prog_13_method_11_code 12 = .ok (.ifCond .lt 38, 3) := by decide +kernel
theorem d_M_child_15 : decode prog_13_method_11_code 15 = .ok (.aload_n 0, 1) := by decide +kernel
theorem d_M_child_16 : decode prog_13_method_11_code 16 = .ok (.getfield 22, 3) := by decide +kernel
theorem d_M_child_19 : decode prog_13_method_11_code 19 = .ok (.iload 4, 2) := by decide +kernel
theorem d_M_child_21 : decode prog_13_method_11_code 21 = .ok (.iaload, 1) := by decide +kernel
theorem d_M_child_22 : decode prog_13_method_11_code 22 = .ok (.iload_n 1, 1) := by decide +kernel
theorem d_M_child_23 : decode prog_13_method_11_code 23 = .ok (.if_icmp .ne 19, 3) := by decide +kernel
theorem d_M_child_26 : decode prog_13_method_11_code 26 = .ok (.aload_n 0, 1) := by decide +kernel
theorem d_M_child_27 : decode prog_13_method_11_code 27 = .ok (.getfield 19, 3) := by decide +kernel
theorem d_M_child_30 : decode prog_13_method_11_code 30 = .ok (.iload 4, 2) := by decide +kernel
theorem d_M_child_32 : decode prog_13_method_11_code 32 = .ok (.iaload, 1) := by decide +kernel
theorem d_M_child_33 : decode prog_13_method_11_code 33 = .ok (.iload_n 2, 1) := by decide +kernel
theorem d_M_child_34 : decode prog_13_method_11_code 34 = .ok (.if_icmp .ne 8, 3) := by decide +kernel
theorem d_M_child_37 : decode prog_13_method_11_code 37 = .ok (.iload 4, 2) := by decide +kernel
theorem d_M_child_39 : decode prog_13_method_11_code 39 = .ok (.goto 4, 3) := by decide +kernel
theorem d_M_child_42 : decode prog_13_method_11_code 42 = .ok (.iload_n 3, 1) := by decide +kernel
theorem d_M_child_43 : decode prog_13_method_11_code 43 = .ok (.istore_n 3, 1) := by decide +kernel
theorem d_M_child_44 : decode prog_13_method_11_code 44 = .ok (.iinc 4 (-1), 3) := by decide +kernel
theorem d_M_child_47 : decode prog_13_method_11_code 47 = .ok (.goto (-37), 3) := by decide +kernel
theorem d_M_child_50 : decode prog_13_method_11_code 50 = .ok (.iload_n 3, 1) := by decide +kernel
theorem d_M_child_51 : decode prog_13_method_11_code 51 = .ok (.ireturn, 1) := by decide +kernel
theorem d_M_associate_0 : decode prog_13_method_18_code 0 = .ok (.iload_n 1, 1) := by decide +kernel
theorem d_M_associate_1 : decode prog_13_method_18_code 1 = .ok (.ifCond .ge 9, 3) := by decide +kernel
theorem d_M_associate_4 : decode prog_13_method_18_code 4 = .ok (.aload_n 0, 1) := by decide +kernel
theorem d_M_associate_5 : decode prog_13_method_18_code 5 = .ok (.iconst 3, 1) := by decide +kernel
theorem d_M_associate_6 : decode prog_13_method_18_code 6 = .ok (.invokevirtual 119, 3) := by decide +kernel
theorem d_M_associate_9 : decode prog_13_method_18_code 9 = .ok (.return_, 1) := by decide +kernel
theorem d_M_associate_10 : decode prog_13_method_18_code 10 = .ok (.aload_n 0, 1) := by decide +kernel
theorem d_M_associate_11 : decode prog_13_method_18_code 11 = .ok (.getfield 19, 3) := by decide +kernel
theorem d_M_associate_14 : decode prog_13_method_18_code 14 = .ok (.iload_n 1, 1) := by decide +kernel
theorem d_M_associate_15 : decode prog_13_method_18_code 15 = .ok (.iaload, 1) := by decide +kernel
theorem d_M_associate_16 : decode prog_13_method_18_code 16 = .ok (.istore_n 3, 1) := by decide +kernel
theorem d_M_associate_17 : decode prog_13_method_18_code 17 = .ok (.iload_n 2, 1) := by decide +kernel
theorem d_M_associate_18 : decode prog_13_method_18_code 18 = .ok (.ifCond .eq 26, 3) := by decide +kernel
theorem d_M_associate_21 : decode prog_13_method_18_code 21 = .ok (.iload_n 3, 1) := by decide +kernel
theorem d_M_associate_22 : decode prog_13_method_18_code 22 = .ok (.bipush 115, 2) := by decide +kernel
theorem d_M_associate_24 : decode prog_13_method_18_code 24 = .ok (.if_icmp .eq 20, 3) := by decide +kernel
theorem d_M_associate_27 : decode prog_13_method_18_code 27 = .ok (.iload_n 3, 1) := by decide +kernel
theorem d_M_associate_28 : decode prog_13_method_18_code 28 = .ok (.bipush 120, 2) := by decide +kernel
theorem d_M_associate_30 : decode prog_13_method_18_code 30 = .ok (.if_icmp .eq 14, 3) := by decide +kernel
theorem d_M_associate_33 : decode prog_13_method_18_code 33 = .ok (.iload_n 3, 1) := by decide +kernel
theorem d_M_associate_34 : decode prog_13_method_18_code 34 = .ok (.bipush 99, 2) := by decide +kernel
theorem d_M_associate_36 : decode prog_13_method_18_code 36 = .ok (.if_icmp .eq 8, 3) := by decide +kernel
theorem d_M_associate_39 : decode prog_13_method_18_code 39 = .ok (.aload_n 0, 1) := by decide +kernel
theorem d_M_associate_40 : decode prog_13_method_18_code 40 = .ok (.iconst 5, 1) := by decide +kernel
theorem d_M_associate_41 : decode prog_13_method_18_code 41 = .ok (.invokevirtual 119, 3) := by decide +kernel
theorem d_M_associate_44 : decode prog_13_method_18_code 44 = .ok (.aload_n 0, 1) := by decide +kernel
theorem d_M_associate_45 : decode prog_13_method_18_code 45 = .ok (.iload_n 3, 1) := by decide +kernel
theorem d_M_associate_46 : decode prog_13_method_18_code 46 = .ok (.bipush 115, 2) := by decide +kernel
theorem d_M_associate_48 : decode prog_13_method_18_code 48 = .ok (.if_icmp .ne 14, 3) := by decide +kernel
theorem d_M_associate_51 : decode prog_13_method_18_code 51 = .ok (.aload_n 0, 1) := by decide +kernel
theorem d_M_associate_52 : decode prog_13_method_18_code 52 = .ok (.getfield 139, 3) := by decide +kernel
theorem d_M_associate_55 : decode prog_13_method_18_code 55 = .ok (.ifCond .ge 7, 3) := by decide +kernel
theorem d_M_associate_58 : decode prog_13_method_18_code 58 = .ok (.iload_n 1, 1) := by decide +kernel
theorem d_M_associate_59 : decode prog_13_method_18_code 59 = .ok (.goto 7, 3) := by decide +kernel
theorem d_M_associate_62 : decode prog_13_method_18_code 62 = .ok (.aload_n 0, 1) := by decide +kernel
theorem d_M_associate_63 : decode prog_13_method_18_code 63 = .ok (.getfield 139, 3) := by decide +kernel
theorem d_M_associate_66 : decode prog_13_method_18_code 66 = .ok (.putfield 139, 3) := by decide +kernel
theorem d_M_associate_69 : decode prog_13_method_18_code 69 = .ok (.aload_n 0, 1) := by decide +kernel
theorem d_M_associate_70 : decode prog_13_method_18_code 70 = .ok (.iload_n 3, 1) := by decide +kernel
theorem d_M_associate_71 : decode prog_13_method_18_code 71 = .ok (.bipush 99, 2) := by decide +kernel
theorem d_M_associate_73 : decode prog_13_method_18_code 73 = .ok (.if_icmp .ne 14, 3) := by decide +kernel
theorem d_M_associate_76 : decode prog_13_method_18_code 76 = .ok (.aload_n 0, 1) := by decide +kernel
theorem d_M_associate_77 : decode prog_13_method_18_code 77 = .ok (.getfield 142, 3) := by decide +kernel
theorem d_M_associate_80 : decode prog_13_method_18_code 80 = .ok (.ifCond .ge 7, 3) := by decide +kernel
theorem d_M_associate_83 : decode prog_13_method_18_code 83 = .ok (.iload_n 1, 1) := by decide +kernel
theorem d_M_associate_84 : decode prog_13_method_18_code 84 = .ok (.goto 7, 3) := by decide +kernel
theorem d_M_associate_87 : decode prog_13_method_18_code 87 = .ok (.aload_n 0, 1) := by decide +kernel
theorem d_M_associate_88 : decode prog_13_method_18_code 88 = .ok (.getfield 142, 3) := by decide +kernel
theorem d_M_associate_91 : decode prog_13_method_18_code 91 = .ok (.putfield 142, 3) := by decide +kernel
theorem d_M_associate_94 : decode prog_13_method_18_code 94 = .ok (.aload_n 0, 1) := by decide +kernel
theorem d_M_associate_95 : decode prog_13_method_18_code 95 = .ok (.iload_n 3, 1) := by decide +kernel
theorem d_M_associate_96 : decode prog_13_method_18_code 96 = .ok (.bipush 120, 2) := by decide +kernel
theorem d_M_associate_98 : decode prog_13_method_18_code 98 = .ok (.if_icmp .ne 14, 3) := by decide +kernel
theorem d_M_associate_101 : decode prog_13_method_18_code 101 = .ok (.aload_n 0, 1) := by decide +kernel
theorem d_M_associate_102 : decode prog_13_method_18_code 102 = .ok (.getfield 145, 3) := by decide +kernel
theorem d_M_associate_105 : decode prog_13_method_18_code 105 = .ok (.ifCond .ge 7, 3) := by decide +kernel
theorem d_M_associate_108 : decode prog_13_method_18_code 108 = .ok (.iload_n 1, 1) := by decide +kernel
theorem d_M_associate_109 : decode prog_13_method_18_code 109 = .ok (.goto 7, 3) := by decide +kernel
theorem d_M_associate_112 : decode prog_13_method_18_code 112 = .ok (.aload_n 0, 1) := by decide +kernel
theorem d_M_associate_113 : decode prog_13_method_18_code 113 = .ok (.getfield 145, 3) := by decide +kernel
theorem d_M_associate_116 : decode prog_13_method_18_code 116 = .ok (.putfield 145, 3) := by decide +kernel
theorem d_M_associate_119 : decode prog_13_method_18_code 119 = .ok (.return_, 1) := by decide +kernel
theorem d_M_take_0 : decode prog_13_method_13_code 0 = .ok (.aload_n 0, 1) := by decide +kernel
theorem d_M_take_1 : decode prog_13_method_13_code 1 = .ok (.getfield 123, 3) := by decide +kernel
theorem d_M_take_4 : decode prog_13_method_13_code 4 = .ok (.aload_n 0, 1) := by decide +kernel
theorem d_M_take_5 : decode prog_13_method_13_code 5 = .ok (.getfield 126, 3) := by decide +kernel
theorem d_M_take_8 : decode prog_13_method_13_code 8 = .ok (.if_icmp .lt 10, 3) := by decide +kernel
theorem d_M_take_11 : decode prog_13_method_13_code 11 = .ok (.aload_n 0, 1) := by decide +kernel
theorem d_M_take_12 : decode prog_13_method_13_code 12 = .ok (.iconst 3, 1) := by decide +kernel
theorem d_M_take_13 : decode prog_13_method_13_code 13 = .ok (.invokevirtual 119, 3) := by decide +kernel
theorem d_M_take_16 : decode prog_13_method_13_code 16 = .ok (.iconst 0, 1) := by decide +kernel
theorem d_M_take_17 : decode prog_13_method_13_code 17 = .ok (.ireturn, 1) := by decide +kernel
theorem d_M_take_18 : decode prog_13_method_13_code 18 = .ok (.aload_n 0, 1) := by decide +kernel
theorem d_M_take_19 : decode prog_13_method_13_code 19 = .ok (.dup, 1) := by decide +kernel
theorem d_M_take_20 : decode prog_13_method_13_code 20 = .ok (.getfield 123, 3) := by decide +kernel
theorem d_M_take_23 : decode prog_13_method_13_code 23 = .ok (.iconst 1, 1) := by decide +kernel
theorem d_M_take_24 : decode prog_13_method_13_code 24 = .ok (.iadd, 1) := by decide +kernel
theorem d_M_take_25 : decode prog_13_method_13_code 25 = .ok (.putfield 123, 3) := by decide +kernel
theorem d_M_take_28 : decode prog_13_method_13_code 28 = .ok (.aload_n 0, 1) := by decide +kernel
theorem d_M_take_29 : decode prog_13_method_13_code 29 = .ok (.getfield 7, 3) := by decide +kernel
theorem d_M_take_32 : decode prog_13_method_13_code 32 = .ok (.aload_n 0, 1) := by decide +kernel
theorem d_M_take_33 : decode prog_13_method_13_code 33 = .ok (.getfield 123, 3) := by decide +kernel
theorem d_M_take_36 : decode prog_13_method_13_code 36 = .ok (.iconst 1, 1) := by decide +kernel
theorem d_M_take_37 : decode prog_13_method_13_code 37 = .ok (.isub, 1) := by decide +kernel
theorem d_M_take_38 : decode prog_13_method_13_code 38 = .ok (.iaload, 1) := by decide +kernel
theorem d_M_take_39 : decode prog_13_method_13_code 39 = .ok (.ireturn, 1) := by decide +kernel
theorem d_M_property_0 : decode prog_13_method_16_code 0 = .ok (.iconst 0, 1) := by decide +kernel
theorem d_M_property_1 : decode prog_13_method_16_code 1 = .ok (.istore_n 3, 1) := by decide +kernel
theorem d_M_property_2 : decode prog_13_method_16_code 2 = .ok (.iconst 0, 1) := by decide +kernel
theorem d_M_property_3 : decode prog_13_method_16_code 3 = .ok (.istore 4, 2) := by decide +kernel
theorem d_M_property_5 : decode prog_13_method_16_code 5 = .ok (.iload 4, 2) := by decide +kernel
theorem d_M_property_7 : decode prog_13_method_16_code 7 = .ok (.aload_n 0, 1) := by decide +kernel
theorem d_M_property_8 : decode prog_13_method_16_code 8 = .ok (.getfield 112, 3) := by decide +kernel
theorem d_M_property_11 : decode prog_13_method_16_code 11 = .ok (.if_icmp .ge 43, 3) := by decide +kernel
theorem d_M_property_14 : decode prog_13_method_16_code 14 = .ok (.aload_n 0, 1) := by decide +kernel
theorem d_M_property_15 : decode prog_13_method_16_code 15 = .ok (.getfield 22, 3) := by decide +kernel
theorem d_M_property_18 : decode prog_13_method_16_code 18 = .ok (.iload 4, 2) := by decide +kernel
theorem d_M_property_20 : decode prog_13_method_16_code 20 = .ok (.iaload, 1) := by decide +kernel
theorem d_M_property_21 : decode prog_13_method_16_code 21 = .ok (.iload_n 1, 1) := by decide +kernel
theorem d_M_property_22 : decode prog_13_method_16_code 22 = .ok (.if_icmp .ne 26, 3) := by decide +kernel
theorem d_M_property_25 : decode prog_13_method_16_code 25 = .ok (.aload_n 0, 1) := by decide +kernel
theorem d_M_property_26 : decode prog_13_method_16_code 26 = .ok (.getfield 19, 3) := by decide +kernel
theorem d_M_property_29 : decode prog_13_method_16_code 29 = .ok (.iload 4, 2) := by decide +kernel
theorem d_M_property_31 : decode prog_13_method_16_code 31 = .ok (.iaload, 1) := by decide +kernel
theorem d_M_property_32 : decode prog_13_method_16_code 32 = .ok (.bipush 97, 2) := by decide +kernel
theorem d_M_property_34 : decode prog_13_method_16_code 34 = .ok (.if_icmp .eq 14, 3) := by decide +kernel
theorem d_M_property_37 : decode prog_13_method_16_code 37 = .ok (.iinc 3 1, 3) := by decide +kernel
theorem d_M_property_40 : decode prog_13_method_16_code 40 = .ok (.iload_n 3, 1) := by decide +kernel
theorem d_M_property_41 : decode prog_13_method_16_code 41 = .ok (.iload_n 2, 1) := by decide +kernel
theorem d_M_property_42 : decode prog_13_method_16_code 42 = .ok (.if_icmp .ne 6, 3) := by decide +kernel
theorem d_M_property_45 : decode prog_13_method_16_code 45 = .ok (.iload 4, 2) := by decide +kernel
theorem d_M_property_47 : decode prog_13_method_16_code 47 = .ok (.ireturn, 1) := by decide +kernel
theorem d_M_property_48 : decode prog_13_method_16_code 48 = .ok (.iinc 4 1, 3) := by decide +kernel
theorem d_M_property_51 : decode prog_13_method_16_code 51 = .ok (.goto (-46), 3) := by decide +kernel
theorem d_M_property_54 : decode prog_13_method_16_code 54 = .ok (.iconst (-1), 1) := by decide +kernel
theorem d_M_property_55 : decode prog_13_method_16_code 55 = .ok (.ireturn, 1) := by decide +kernel
theorem d_M_properties_0 : decode prog_13_method_17_code 0 = .ok (.aload_n 0, 1) := by decide +kernel
theorem d_M_properties_1 : decode prog_13_method_17_code 1 = .ok (.iconst (-1), 1) := by decide +kernel
theorem d_M_properties_2 : decode prog_13_method_17_code 2 = .ok (.putfield 139, 3) := by decide +kernel
theorem d_M_properties_5 : decode prog_13_method_17_code 5 = .ok (.aload_n 0, 1) := by decide +kernel
theorem d_M_properties_6 : decode prog_13_method_17_code 6 = .ok (.iconst (-1), 1) := by decide +kernel
theorem d_M_properties_7 : decode prog_13_method_17_code 7 = .ok (.putfield 142, 3) := by decide +kernel
theorem d_M_properties_10 : decode prog_13_method_17_code 10 = .ok (.aload_n 0, 1) := by decide +kernel
theorem d_M_properties_11 : decode prog_13_method_17_code 11 = .ok (.iconst (-1), 1) := by decide +kernel
theorem d_M_properties_12 : decode prog_13_method_17_code 12 = .ok (.putfield 145, 3) := by decide +kernel
theorem d_M_properties_15 : decode prog_13_method_17_code 15 = .ok (.aload_n 0, 1) := by decide +kernel
theorem d_M_properties_16 : decode prog_13_method_17_code 16 = .ok (.aload_n 0, 1) := by decide +kernel
theorem d_M_properties_17 : decode prog_13_method_17_code 17 = .ok (.getfield 13, 3) := by decide +kernel
theorem d_M_properties_20 : decode prog_13_method_17_code 20 = .ok (.iload_n 2, 1) := by decide +kernel
theorem d_M_properties_21 : decode prog_13_method_17_code 21 = .ok (.iaload, 1) := by decide +kernel
theorem d_M_properties_22 : decode prog_13_method_17_code 22 = .ok (.putfield 123, 3) := by decide +kernel
theorem d_M_properties_25 : decode prog_13_method_17_code 25 = .ok (.aload_n 0, 1) := by decide +kernel
theorem d_M_properties_26 : decode prog_13_method_17_code 26 = .ok (.aload_n 0, 1) := by decide +kernel
theorem d_M_properties_27 : decode prog_13_method_17_code 27 = .ok (.getfield 16, 3) := by decide +kernel
theorem d_M_properties_30 : decode prog_13_method_17_code 30 = .ok (.iload_n 2, 1) := by decide +kernel
theorem d_M_properties_31 : decode prog_13_method_17_code 31 = .ok (.iaload, 1) := by decide +kernel
theorem d_M_properties_32 : decode prog_13_method_17_code 32 = .ok (.putfield 126, 3) := by decide +kernel
theorem d_M_properties_35 : decode prog_13_method_17_code 35 = .ok (.aload_n 0, 1) := by decide +kernel
theorem d_M_properties_36 : decode prog_13_method_17_code 36 = .ok (.getfield 123, 3) := by decide +kernel
theorem d_M_properties_39 : decode prog_13_method_17_code 39 = .ok (.aload_n 0, 1) := by decide +kernel
theorem d_M_properties_40 : decode prog_13_method_17_code 40 = .ok (.getfield 126, 3) := by decide +kernel
theorem d_M_properties_43 : decode prog_13_method_17_code 43 = .ok (.if_icmp .ge 110, 3) := by decide +kernel
theorem d_M_properties_46 : decode prog_13_method_17_code 46 = .ok (.aload_n 0, 1) := by decide +kernel
theorem d_M_properties_47 : decode prog_13_method_17_code 47 = .ok (.getfield 78, 3) := by decide +kernel
theorem d_M_properties_50 : decode prog_13_method_17_code 50 = .ok (.ifCond .ne 103, 3) := by decide +kernel
theorem d_M_properties_53 : decode prog_13_method_17_code 53 = .ok (.aload_n 0, 1) := by decide +kernel
theorem d_M_properties_54 : decode prog_13_method_17_code 54 = .ok (.invokevirtual 132, 3) := by decide +kernel
theorem d_M_properties_57 : decode prog_13_method_17_code 57 = .ok (.iload_n 3, 1) := by decide +kernel
theorem d_M_properties_58 : decode prog_13_method_17_code 58 = .ok (.if_icmp .ne 7, 3) := by decide +kernel
theorem d_M_properties_61 : decode prog_13_method_17_code 61 = .ok (.iconst 1, 1) := by decide +kernel
theorem d_M_properties_62 : decode prog_13_method_17_code 62 = .ok (.goto 4, 3) := by decide +kernel
theorem d_M_properties_65 : decode prog_13_method_17_code 65 = .ok (.iconst 0, 1) := by decide +kernel
theorem d_M_properties_66 : decode prog_13_method_17_code 66 = .ok (.istore 4, 2) := by decide +kernel
theorem d_M_properties_68 : decode prog_13_method_17_code 68 = .ok (.aload_n 0, 1) := by decide +kernel
theorem d_M_properties_69 : decode prog_13_method_17_code 69 = .ok (.invokevirtual 132, 3) := by decide +kernel
theorem d_M_properties_72 : decode prog_13_method_17_code 72 = .ok (.istore 5, 2) := by decide +kernel
theorem d_M_properties_74 : decode prog_13_method_17_code 74 = .ok (.iconst 0, 1) := by decide +kernel
theorem d_M_properties_75 : decode prog_13_method_17_code 75 = .ok (.istore 6, 2) := by decide +kernel
theorem d_M_properties_77 : decode prog_13_method_17_code 77 = .ok (.iload 6, 2) := by decide +kernel
theorem d_M_properties_79 : decode prog_13_method_17_code 79 = .ok (.iload 5, 2) := by decide +kernel
theorem d_M_properties_81 : decode prog_13_method_17_code 81 = .ok (.if_icmp .ge 69, 3) := by decide +kernel
theorem d_M_properties_84 : decode prog_13_method_17_code 84 = .ok (.aload_n 0, 1) := by decide +kernel
theorem d_M_properties_85 : decode prog_13_method_17_code 85 = .ok (.getfield 78, 3) := by decide +kernel
theorem d_M_properties_88 : decode prog_13_method_17_code 88 = .ok (.ifCond .ne 62, 3) := by decide +kernel
theorem d_M_properties_91 : decode prog_13_method_17_code 91 = .ok (.aload_n 0, 1) := by decide +kernel
theorem d_M_properties_92 : decode prog_13_method_17_code 92 = .ok (.invokevirtual 132, 3) := by decide +kernel
theorem d_M_properties_95 : decode prog_13_method_17_code 95 = .ok (.istore 7, 2) := by decide +kernel
theorem d_M_properties_97 : decode prog_13_method_17_code 97 = .ok (.iload 4, 2) := by decide +kernel
theorem d_M_properties_99 : decode prog_13_method_17_code 99 = .ok (.ifCond .eq 45, 3) := by decide +kernel
theorem d_M_properties_102 : decode prog_13_method_17_code 102 = .ok (.aload_n 0, 1) := by decide +kernel
theorem d_M_properties_103 : decode prog_13_method_17_code 103 = .ok (.getfield 78, 3) := by decide +kernel
theorem d_M_properties_106 : decode prog_13_method_17_code 106 = .ok (.ifCond .ne 38, 3) := by decide +kernel
theorem d_M_properties_109 : decode prog_13_method_17_code 109 = .ok (.iload 7, 2) := by decide +kernel
theorem d_M_properties_111 : decode prog_13_method_17_code 111 = .ok (.bipush 127, 2) := by decide +kernel
theorem d_M_properties_113 : decode prog_13_method_17_code 113 = .ok (.iand, 1) := by decide +kernel
theorem d_M_properties_114 : decode prog_13_method_17_code 114 = .ok (.ifCond .eq 30, 3) := by decide +kernel
theorem d_M_properties_117 : decode prog_13_method_17_code 117 = .ok (.aload_n 0, 1) := by decide +kernel
theorem d_M_properties_118 : decode prog_13_method_17_code 118 = .ok (.aload_n 0, 1) := by decide +kernel
theorem d_M_properties_119 : decode prog_13_method_17_code 119 = .ok (.iload_n 1, 1) := by decide +kernel
theorem d_M_properties_120 : decode prog_13_method_17_code 120 = .ok (.iload 7, 2) := by decide +kernel
theorem d_M_properties_122 : decode prog_13_method_17_code 122 = .ok (.bipush 127, 2) := by decide +kernel
theorem d_M_properties_124 : decode prog_13_method_17_code 124 = .ok (.iand, 1) := by decide +kernel
theorem d_M_properties_125 : decode prog_13_method_17_code 125 = .ok (.invokevirtual 148, 3) := by decide +kernel
theorem d_M_properties_128 : decode prog_13_method_17_code 128 = .ok (.iload 7, 2) := by decide +kernel
theorem d_M_properties_130 : decode prog_13_method_17_code 130 = .ok (.sipush 128, 3) := by decide +kernel
theorem d_M_properties_133 : decode prog_13_method_17_code 133 = .ok (.if_icmp .lt 7, 3) := by decide +kernel
theorem d_M_properties_136 : decode prog_13_method_17_code 136 = .ok (.iconst 1, 1) := by decide +kernel
theorem d_M_properties_137 : decode prog_13_method_17_code 137 = .ok (.goto 4, 3) := by decide +kernel
theorem d_M_properties_140 : decode prog_13_method_17_code 140 = .ok (.iconst 0, 1) := by decide +kernel
theorem d_M_properties_141 : decode prog_13_method_17_code 141 = .ok (.invokevirtual 151, 3) := by decide +kernel
theorem d_M_properties_144 : decode prog_13_method_17_code 144 = .ok (.iinc 6 1, 3) := by decide +kernel
theorem d_M_properties_147 : decode prog_13_method_17_code 147 = .ok (.goto (-70), 3) := by decide +kernel
theorem d_M_properties_150 : decode prog_13_method_17_code 150 = .ok (.goto (-115), 3) := by decide +kernel
theorem d_M_properties_153 : decode prog_13_method_17_code 153 = .ok (.aload_n 0, 1) := by decide +kernel
theorem d_M_properties_154 : decode prog_13_method_17_code 154 = .ok (.getfield 78, 3) := by decide +kernel
theorem d_M_properties_157 : decode prog_13_method_17_code 157 = .ok (.ifCond .eq 4, 3) := by decide +kernel
theorem d_M_properties_160 : decode prog_13_method_17_code 160 = .ok (.return_, 1) := by decide +kernel
theorem d_M_properties_161 : decode prog_13_method_17_code 161 = .ok (.aload_n 0, 1) := by decide +kernel
theorem d_M_properties_162 : decode prog_13_method_17_code 162 = .ok (.getfield 139, 3) := by decide +kernel
theorem d_M_properties_165 : decode prog_13_method_17_code 165 = .ok (.ifCond .lt 60, 3) := by decide +kernel
theorem d_M_properties_168 : decode prog_13_method_17_code 168 = .ok (.aload_n 0, 1) := by decide +kernel
theorem d_M_properties_169 : decode prog_13_method_17_code 169 = .ok (.getfield 142, 3) := by decide +kernel
theorem d_M_properties_172 : decode prog_13_method_17_code 172 = .ok (.ifCond .lt 53, 3) := by decide +kernel
theorem d_M_properties_175 : decode prog_13_method_17_code 175 = .ok (.aload_n 0, 1) := by decide +kernel
theorem d_M_properties_176 : decode prog_13_method_17_code 176 = .ok (.getfield 16, 3) := by decide +kernel
theorem d_M_properties_179 : decode prog_13_method_17_code 179 = .ok (.aload_n 0, 1) := by decide +kernel
theorem d_M_properties_180 : decode prog_13_method_17_code 180 = .ok (.getfield 139, 3) := by decide +kernel
theorem d_M_properties_183 : decode prog_13_method_17_code 183 = .ok (.iaload, 1) := by decide +kernel
theorem d_M_properties_184 : decode prog_13_method_17_code 184 = .ok (.aload_n 0, 1) := by decide +kernel
theorem d_M_properties_185 : decode prog_13_method_17_code 185 = .ok (.getfield 13, 3) := by decide +kernel
theorem d_M_properties_188 : decode prog_13_method_17_code 188 = .ok (.aload_n 0, 1) := by decide +kernel
theorem d_M_properties_189 : decode prog_13_method_17_code 189 = .ok (.getfield 139, 3) := by decide +kernel
theorem d_M_properties_192 : decode prog_13_method_17_code 192 = .ok (.iaload, 1) := by decide +kernel
theorem d_M_properties_193 : decode prog_13_method_17_code 193 = .ok (.isub, 1) := by decide +kernel
theorem d_M_properties_194 : decode prog_13_method_17_code 194 = .ok (.iconst 2, 1) := by decide +kernel
theorem d_M_properties_195 : decode prog_13_method_17_code 195 = .ok (.if_icmp .lt 30, 3) := by decide +kernel
theorem d_M_properties_198 : decode prog_13_method_17_code 198 = .ok (.aload_n 0, 1) := by decide +kernel
theorem d_M_properties_199 : decode prog_13_method_17_code 199 = .ok (.getfield 16, 3) := by decide +kernel
theorem d_M_properties_202 : decode prog_13_method_17_code 202 = .ok (.aload_n 0, 1) := by decide +kernel
theorem d_M_properties_203 : decode prog_13_method_17_code 203 = .ok (.getfield 142, 3) := by decide +kernel
theorem d_M_properties_206 : decode prog_13_method_17_code 206 = .ok (.iaload, 1) := by decide +kernel
theorem d_M_properties_207 : decode prog_13_method_17_code 207 = .ok (.aload_n 0, 1) := by decide +kernel
theorem d_M_properties_208 : decode prog_13_method_17_code 208 = .ok (.getfield 13, 3) := by decide +kernel
theorem d_M_properties_211 : decode prog_13_method_17_code 211 = .ok (.aload_n 0, 1) := by decide +kernel
theorem d_M_properties_212 : decode prog_13_method_17_code 212 = .ok (.getfield 142, 3) := by decide +kernel
theorem d_M_properties_215 : decode prog_13_method_17_code 215 = .ok (.iaload, 1) := by decide +kernel
theorem d_M_properties_216 : decode prog_13_method_17_code 216 = .ok (.isub, 1) := by decide +kernel
theorem d_M_properties_217 : decode prog_13_method_17_code 217 = .ok (.iconst 1, 1) := by decide +kernel
theorem d_M_properties_218 : decode prog_13_method_17_code 218 = .ok (.if_icmp .lt 7, 3) := by decide +kernel
theorem d_M_properties_221 : decode prog_13_method_17_code 221 = .ok (.iconst 1, 1) := by decide +kernel
theorem d_M_properties_222 : decode prog_13_method_17_code 222 = .ok (.goto 4, 3) := by decide +kernel
theorem d_M_properties_225 : decode prog_13_method_17_code 225 = .ok (.iconst 0, 1) := by decide +kernel
theorem d_M_properties_226 : decode prog_13_method_17_code 226 = .ok (.istore 4, 2) := by decide +kernel
theorem d_M_properties_228 : decode prog_13_method_17_code 228 = .ok (.iload 4, 2) := by decide +kernel
theorem d_M_properties_230 : decode prog_13_method_17_code 230 = .ok (.ifCond .eq 84, 3) := by decide +kernel
theorem d_M_properties_233 : decode prog_13_method_17_code 233 = .ok (.aload_n 0, 1) := by decide +kernel
theorem d_M_properties_234 : decode prog_13_method_17_code 234 = .ok (.getfield 145, 3) := by decide +kernel
theorem d_M_properties_237 : decode prog_13_method_17_code 237 = .ok (.ifCond .lt 77, 3) := by decide +kernel
theorem d_M_properties_240 : decode prog_13_method_17_code 240 = .ok (.aload_n 0, 1) := by decide +kernel
theorem d_M_properties_241 : decode prog_13_method_17_code 241 = .ok (.getfield 13, 3) := by decide +kernel
theorem d_M_properties_244 : decode prog_13_method_17_code 244 = .ok (.aload_n 0, 1) := by decide +kernel
theorem d_M_properties_245 : decode prog_13_method_17_code 245 = .ok (.getfield 145, 3) := by decide +kernel
theorem d_M_properties_248 : decode prog_13_method_17_code 248 = .ok (.iaload, 1) := by decide +kernel
theorem d_M_properties_249 : decode prog_13_method_17_code 249 = .ok (.aload_n 0, 1) := by decide +kernel
theorem d_M_properties_250 : decode prog_13_method_17_code 250 = .ok (.getfield 16, 3) := by decide +kernel
theorem d_M_properties_253 : decode prog_13_method_17_code 253 = .ok (.aload_n 0, 1) := by decide +kernel
theorem d_M_properties_254 : decode prog_13_method_17_code 254 = .ok (.getfield 145, 3) := by decide +kernel
theorem d_M_properties_257 : decode prog_13_method_17_code 257 = .ok (.iaload, 1) := by decide +kernel
theorem d_M_properties_258 : decode prog_13_method_17_code 258 = .ok (.if_icmp .ge 20, 3) := by decide +kernel
theorem d_M_properties_261 : decode prog_13_method_17_code 261 = .ok (.aload_n 0, 1) := by decide +kernel
theorem d_M_properties_262 : decode prog_13_method_17_code 262 = .ok (.getfield 7, 3) := by decide +kernel
theorem d_M_properties_265 : decode prog_13_method_17_code 265 = .ok (.aload_n 0, 1) := by decide +kernel
theorem d_M_properties_266 : decode prog_13_method_17_code 266 = .ok (.getfield 13, 3) := by decide +kernel
theorem d_M_properties_269 : decode prog_13_method_17_code 269 = .ok (.aload_n 0, 1) := by decide +kernel
theorem d_M_properties_270 : decode prog_13_method_17_code 270 = .ok (.getfield 145, 3) := by decide +kernel
theorem d_M_properties_273 : decode prog_13_method_17_code 273 = .ok (.iaload, 1) := by decide +kernel
theorem d_M_properties_274 : decode prog_13_method_17_code 274 = .ok (.iaload, 1) := by decide +kernel
theorem d_M_properties_275 : decode prog_13_method_17_code 275 = .ok (.goto 6, 3) := by decide +kernel
theorem d_M_properties_278 : decode prog_13_method_17_code 278 = .ok (.sipush 999, 3) := by decide +kernel
theorem d_M_properties_281 : decode prog_13_method_17_code 281 = .ok (.istore 5, 2) := by decide +kernel
theorem d_M_properties_283 : decode prog_13_method_17_code 283 = .ok (.aload_n 0, 1) := by decide +kernel
theorem d_M_properties_284 : decode prog_13_method_17_code 284 = .ok (.getfield 16, 3) := by decide +kernel
theorem d_M_properties_287 : decode prog_13_method_17_code 287 = .ok (.aload_n 0, 1) := by decide +kernel
theorem d_M_properties_288 : decode prog_13_method_17_code 288 = .ok (.getfield 145, 3) := by decide +kernel
theorem d_M_properties_291 : decode prog_13_method_17_code 291 = .ok (.iaload, 1) := by decide +kernel
theorem d_M_properties_292 : decode prog_13_method_17_code 292 = .ok (.aload_n 0, 1) := by decide +kernel
theorem d_M_properties_293 : decode prog_13_method_17_code 293 = .ok (.getfield 13, 3) := by decide +kernel
theorem d_M_properties_296 : decode prog_13_method_17_code 296 = .ok (.aload_n 0, 1) := by decide +kernel
theorem d_M_properties_297 : decode prog_13_method_17_code 297 = .ok (.getfield 145, 3) := by decide +kernel
theorem d_M_properties_300 : decode prog_13_method_17_code 300 = .ok (.iaload, 1) := by decide +kernel
theorem d_M_properties_301 : decode prog_13_method_17_code 301 = .ok (.isub, 1) := by decide +kernel
theorem d_M_properties_302 : decode prog_13_method_17_code 302 = .ok (.iload 5, 2) := by decide +kernel
theorem d_M_properties_304 : decode prog_13_method_17_code 304 = .ok (.if_icmp .le 7, 3) := by decide +kernel
theorem d_M_properties_307 : decode prog_13_method_17_code 307 = .ok (.iconst 1, 1) := by decide +kernel
theorem d_M_properties_308 : decode prog_13_method_17_code 308 = .ok (.goto 4, 3) := by decide +kernel
theorem d_M_properties_311 : decode prog_13_method_17_code 311 = .ok (.iconst 0, 1) := by decide +kernel
theorem d_M_properties_312 : decode prog_13_method_17_code 312 = .ok (.istore 4, 2) := by decide +kernel
theorem d_M_properties_314 : decode prog_13_method_17_code 314 = .ok (.iload 4, 2) := by decide +kernel
theorem d_M_properties_316 : decode prog_13_method_17_code 316 = .ok (.ifCond .ne 8, 3) := by decide +kernel
theorem d_M_properties_319 : decode prog_13_method_17_code 319 = .ok (.aload_n 0, 1) := by decide +kernel
theorem d_M_properties_320 : decode prog_13_method_17_code 320 = .ok (.iconst 3, 1) := by decide +kernel
theorem d_M_properties_321 : decode prog_13_method_17_code 321 = .ok (.invokevirtual 119, 3) := by decide +kernel
theorem d_M_properties_324 : decode prog_13_method_17_code 324 = .ok (.return_, 1) := by decide +kernel
theorem d_M_gather_0 : decode prog_13_method_15_code 0 = .ok (.iload_n 1, 1) := by decide +kernel
theorem d_M_gather_1 : decode prog_13_method_15_code 1 = .ok (.iload_n 2, 1) := by decide +kernel
theorem d_M_gather_2 : decode prog_13_method_15_code 2 = .ok (.iadd, 1) := by decide +kernel
theorem d_M_gather_3 : decode prog_13_method_15_code 3 = .ok (.aload_n 0, 1) := by decide +kernel
theorem d_M_gather_4 : decode prog_13_method_15_code 4 = .ok (.getfield 70, 3) := by decide +kernel
theorem d_M_gather_7 : decode prog_13_method_15_code 7 = .ok (.if_icmp .gt 15, 3) := by decide +kernel
theorem d_M_gather_10 : decode prog_13_method_15_code 10 = .ok (.aload_n 0, 1) := by decide +kernel
theorem d_M_gather_11 : decode prog_13_method_15_code 11 = .ok (.getfield 129, 3) := by decide +kernel
theorem d_M_gather_14 : decode prog_13_method_15_code 14 = .ok (.iload_n 2, 1) := by decide +kernel
theorem d_M_gather_15 : decode prog_13_method_15_code 15 = .ok (.iadd, 1) := by decide +kernel
theorem d_M_gather_16 : decode prog_13_method_15_code 16 = .ok (.sipush 200, 3) := by decide +kernel
theorem d_M_gather_19 : decode prog_13_method_15_code 19 = .ok (.if_icmp .le 9, 3) := by decide +kernel
theorem d_M_gather_22 : decode prog_13_method_15_code 22 = .ok (.aload_n 0, 1) := by decide +kernel
theorem d_M_gather_23 : decode prog_13_method_15_code 23 = .ok (.iconst 4, 1) := by decide +kernel
theorem d_M_gather_24 : decode prog_13_method_15_code 24 = .ok (.invokevirtual 119, 3) := by decide +kernel
theorem d_M_gather_27 : decode prog_13_method_15_code 27 = .ok (.return_, 1) := by decide +kernel
theorem d_M_gather_28 : decode prog_13_method_15_code 28 = .ok (.iconst 0, 1) := by decide +kernel
theorem d_M_gather_29 : decode prog_13_method_15_code 29 = .ok (.istore_n 3, 1) := by decide +kernel
theorem d_M_gather_30 : decode prog_13_method_15_code 30 = .ok (.iload_n 3, 1) := by decide +kernel
theorem d_M_gather_31 : decode prog_13_method_15_code 31 = .ok (.iload_n 2, 1) := by decide +kernel
theorem d_M_gather_32 : decode prog_13_method_15_code 32 = .ok (.if_icmp .ge 28, 3) := by decide +kernel
theorem d_M_gather_35 : decode prog_13_method_15_code 35 = .ok (.aload_n 0, 1) := by decide +kernel
theorem d_M_gather_36 : decode prog_13_method_15_code 36 = .ok (.getfield 28, 3) := by decide +kernel
theorem d_M_gather_39 : decode prog_13_method_15_code 39 = .ok (.aload_n 0, 1) := by decide +kernel
theorem d_M_gather_40 : decode prog_13_method_15_code 40 = .ok (.getfield 129, 3) := by decide +kernel
theorem d_M_gather_43 : decode prog_13_method_15_code 43 = .ok (.iload_n 3, 1) := by decide +kernel
theorem d_M_gather_44 : decode prog_13_method_15_code 44 = .ok (.iadd, 1) := by decide +kernel
theorem d_M_gather_45 : decode prog_13_method_15_code 45 = .ok (.aload_n 0, 1) := by decide +kernel
theorem d_M_gather_46 : decode prog_13_method_15_code 46 = .ok (.getfield 7, 3) := by decide +kernel
theorem d_M_gather_49 : decode prog_13_method_15_code 49 = .ok (.iload_n 1, 1) := by decide +kernel
theorem d_M_gather_50 : decode prog_13_method_15_code 50 = .ok (.iload_n 3, 1) := by decide +kernel
theorem d_M_gather_51 : decode prog_13_method_15_code 51 = .ok (.iadd, 1) := by decide +kernel
theorem d_M_gather_52 : decode prog_13_method_15_code 52 = .ok (.iaload, 1) := by decide +kernel
theorem d_M_gather_53 : decode prog_13_method_15_code 53 = .ok (.iastore, 1) := by decide +kernel
theorem d_M_gather_54 : decode prog_13_method_15_code 54 = .ok (.iinc 3 1, 3) := by decide +kernel
theorem d_M_gather_57 : decode prog_13_method_15_code 57 = .ok (.goto (-27), 3) := by decide +kernel
theorem d_M_gather_60 : decode prog_13_method_15_code 60 = .ok (.aload_n 0, 1) := by decide +kernel
theorem d_M_gather_61 : decode prog_13_method_15_code 61 = .ok (.aload_n 0, 1) := by decide +kernel
theorem d_M_gather_62 : decode prog_13_method_15_code 62 = .ok (.getfield 129, 3) := by decide +kernel
theorem d_M_gather_65 : decode prog_13_method_15_code 65 = .ok (.iload_n 2, 1) := by decide +kernel
theorem d_M_gather_66 : decode prog_13_method_15_code 66 = .ok (.iadd, 1) := by decide +kernel
theorem d_M_gather_67 : decode prog_13_method_15_code 67 = .ok (.putfield 129, 3) := by decide +kernel
theorem d_M_gather_70 : decode prog_13_method_15_code 70 = .ok (.return_, 1) := by decide +kernel
theorem d_M_extents_0 : decode prog_13_method_14_code 0 = .ok (.iload_n 1, 1) := by decide +kernel
theorem d_M_extents_1 : decode prog_13_method_14_code 1 = .ok (.ifCond .lt 13, 3) := by decide +kernel
theorem d_M_extents_4 : decode prog_13_method_14_code 4 = .ok (.aload_n 0, 1) := by decide +kernel
theorem d_M_extents_5 : decode prog_13_method_14_code 5 = .ok (.iload_n 1, 1) := by decide +kernel
theorem d_M_extents_6 : decode prog_13_method_14_code 6 = .ok (.bipush 112, 2) := by decide +kernel
theorem d_M_extents_8 : decode prog_13_method_14_code 8 = .ok (.invokevirtual 87, 3) := by decide +kernel
theorem d_M_extents_11 : decode prog_13_method_14_code 11 = .ok (.goto 4, 3) := by decide +kernel
theorem d_M_extents_14 : decode prog_13_method_14_code 14 = .ok (.iconst (-1), 1) := by decide +kernel
theorem d_M_extents_15 : decode prog_13_method_14_code 15 = .ok (.istore_n 3, 1) := by decide +kernel
theorem d_M_extents_16 : decode prog_13_method_14_code 16 = .ok (.iload_n 1, 1) := by decide +kernel
theorem d_M_extents_17 : decode prog_13_method_14_code 17 = .ok (.ifCond .lt 13, 3) := by decide +kernel
theorem d_M_extents_20 : decode prog_13_method_14_code 20 = .ok (.aload_n 0, 1) := by decide +kernel
theorem d_M_extents_21 : decode prog_13_method_14_code 21 = .ok (.iload_n 1, 1) := by decide +kernel
theorem d_M_extents_22 : decode prog_13_method_14_code 22 = .ok (.bipush 108, 2) := by decide +kernel
theorem d_M_extents_24 : decode prog_13_method_14_code 24 = .ok (.invokevirtual 87, 3) := by decide +kernel
theorem d_M_extents_27 : decode prog_13_method_14_code 27 = .ok (.goto 4, 3) := by decide +kernel
theorem d_M_extents_30 : decode prog_13_method_14_code 30 = .ok (.iconst (-1), 1) := by decide +kernel
theorem d_M_extents_31 : decode prog_13_method_14_code 31 = .ok (.istore 4, 2) := by decide +kernel
theorem d_M_extents_33 : decode prog_13_method_14_code 33 = .ok (.iload_n 3, 1) := by decide +kernel
theorem d_M_extents_34 : decode prog_13_method_14_code 34 = .ok (.ifCond .lt 37, 3) := by decide +kernel
theorem d_M_extents_37 : decode prog_13_method_14_code 37 = .ok (.iload 4, 2) := by decide +kernel
theorem d_M_extents_39 : decode prog_13_method_14_code 39 = .ok (.ifCond .lt 32, 3) := by decide +kernel
theorem d_M_extents_42 : decode prog_13_method_14_code 42 = .ok (.iload_n 2, 1) := by decide +kernel
theorem d_M_extents_43 : decode prog_13_method_14_code 43 = .ok (.ifCond .lt 28, 3) := by decide +kernel
theorem d_M_extents_46 : decode prog_13_method_14_code 46 = .ok (.aload_n 0, 1) := by decide +kernel
theorem d_M_extents_47 : decode prog_13_method_14_code 47 = .ok (.iload_n 2, 1) := by decide +kernel
theorem d_M_extents_48 : decode prog_13_method_14_code 48 = .ok (.bipush 97, 2) := by decide +kernel
theorem d_M_extents_50 : decode prog_13_method_14_code 50 = .ok (.invokevirtual 87, 3) := by decide +kernel
theorem d_M_extents_53 : decode prog_13_method_14_code 53 = .ok (.ifCond .lt 18, 3) := by decide +kernel
theorem d_M_extents_56 : decode prog_13_method_14_code 56 = .ok (.aload_n 0, 1) := by decide +kernel
theorem d_M_extents_57 : decode prog_13_method_14_code 57 = .ok (.getfield 13, 3) := by decide +kernel
theorem d_M_extents_60 : decode prog_13_method_14_code 60 = .ok (.iload_n 3, 1) := by decide +kernel
theorem d_M_extents_61 : decode prog_13_method_14_code 61 = .ok (.iaload, 1) := by decide +kernel
theorem d_M_extents_62 : decode prog_13_method_14_code 62 = .ok (.aload_n 0, 1) := by decide +kernel
theorem d_M_extents_63 : decode prog_13_method_14_code 63 = .ok (.getfield 16, 3) := by decide +kernel
theorem d_M_extents_66 : decode prog_13_method_14_code 66 = .ok (.iload_n 3, 1) := by decide +kernel
theorem d_M_extents_67 : decode prog_13_method_14_code 67 = .ok (.iaload, 1) := by decide +kernel
theorem d_M_extents_68 : decode prog_13_method_14_code 68 = .ok (.if_icmp .lt 9, 3) := by decide +kernel
theorem d_M_extents_71 : decode prog_13_method_14_code 71 = .ok (.aload_n 0, 1) := by decide +kernel
theorem d_M_extents_72 : decode prog_13_method_14_code 72 = .ok (.iconst 3, 1) := by decide +kernel
theorem d_M_extents_73 : decode prog_13_method_14_code 73 = .ok (.invokevirtual 119, 3) := by decide +kernel
theorem d_M_extents_76 : decode prog_13_method_14_code 76 = .ok (.return_, 1) := by decide +kernel
theorem d_M_extents_77 : decode prog_13_method_14_code 77 = .ok (.aload_n 0, 1) := by decide +kernel
theorem d_M_extents_78 : decode prog_13_method_14_code 78 = .ok (.getfield 7, 3) := by decide +kernel
theorem d_M_extents_81 : decode prog_13_method_14_code 81 = .ok (.aload_n 0, 1) := by decide +kernel
theorem d_M_extents_82 : decode prog_13_method_14_code 82 = .ok (.getfield 13, 3) := by decide +kernel
theorem d_M_extents_85 : decode prog_13_method_14_code 85 = .ok (.iload_n 3, 1) := by decide +kernel
theorem d_M_extents_86 : decode prog_13_method_14_code 86 = .ok (.iaload, 1) := by decide +kernel
theorem d_M_extents_87 : decode prog_13_method_14_code 87 = .ok (.iaload, 1) := by decide +kernel
theorem d_M_extents_88 : decode prog_13_method_14_code 88 = .ok (.istore 5, 2) := by decide +kernel
theorem d_M_extents_90 : decode prog_13_method_14_code 90 = .ok (.aload_n 0, 1) := by decide +kernel
theorem d_M_extents_91 : decode prog_13_method_14_code 91 = .ok (.aload_n 0, 1) := by decide +kernel
theorem d_M_extents_92 : decode prog_13_method_14_code 92 = .ok (.getfield 13, 3) := by decide +kernel
theorem d_M_extents_95 : decode prog_13_method_14_code 95 = .ok (.iload 4, 2) := by decide +kernel
theorem d_M_extents_97 : decode prog_13_method_14_code 97 = .ok (.iaload, 1) := by decide +kernel
theorem d_M_extents_98 : decode prog_13_method_14_code 98 = .ok (.putfield 123, 3) := by decide +kernel
theorem d_M_extents_101 : decode prog_13_method_14_code 101 = .ok (.aload_n 0, 1) := by decide +kernel
theorem d_M_extents_102 : decode prog_13_method_14_code 102 = .ok (.aload_n 0, 1) := by decide +kernel
theorem d_M_extents_103 : decode prog_13_method_14_code 103 = .ok (.getfield 16, 3) := by decide +kernel
theorem d_M_extents_106 : decode prog_13_method_14_code 106 = .ok (.iload 4, 2) := by decide +kernel
theorem d_M_extents_108 : decode prog_13_method_14_code 108 = .ok (.iaload, 1) := by decide +kernel
theorem d_M_extents_109 : decode prog_13_method_14_code 109 = .ok (.putfield 126, 3) := by decide +kernel
theorem d_M_extents_112 : decode prog_13_method_14_code 112 = .ok (.aload_n 0, 1) := by decide +kernel
theorem d_M_extents_113 : decode prog_13_method_14_code 113 = .ok (.iconst 0, 1) := by decide +kernel
theorem d_M_extents_114 : decode prog_13_method_14_code 114 = .ok (.putfield 129, 3) := by decide +kernel
theorem d_M_extents_117 : decode prog_13_method_14_code 117 = .ok (.aload_n 0, 1) := by decide +kernel
theorem d_M_extents_118 : decode prog_13_method_14_code 118 = .ok (.invokevirtual 132, 3) := by decide +kernel
theorem d_M_extents_121 : decode prog_13_method_14_code 121 = .ok (.istore 6, 2) := by decide +kernel
theorem d_M_extents_123 : decode prog_13_method_14_code 123 = .ok (.iconst 0, 1) := by decide +kernel
theorem d_M_extents_124 : decode prog_13_method_14_code 124 = .ok (.istore 7, 2) := by decide +kernel
theorem d_M_extents_126 : decode prog_13_method_14_code 126 = .ok (.iconst 0, 1) := by decide +kernel
theorem d_M_extents_127 : decode prog_13_method_14_code 127 = .ok (.istore 8, 2) := by decide +kernel
theorem d_M_extents_129 : decode prog_13_method_14_code 129 = .ok (.iload 8, 2) := by decide +kernel
theorem d_M_extents_131 : decode prog_13_method_14_code 131 = .ok (.iload 6, 2) := by decide +kernel
theorem d_M_extents_133 : decode prog_13_method_14_code 133 = .ok (.if_icmp .ge 98, 3) := by decide +kernel
theorem d_M_extents_136 : decode prog_13_method_14_code 136 = .ok (.iload 7, 2) := by decide +kernel
theorem d_M_extents_138 : decode prog_13_method_14_code 138 = .ok (.ifCond .ne 93, 3) := by decide +kernel
theorem d_M_extents_141 : decode prog_13_method_14_code 141 = .ok (.aload_n 0, 1) := by decide +kernel
theorem d_M_extents_142 : decode prog_13_method_14_code 142 = .ok (.getfield 78, 3) := by decide +kernel
theorem d_M_extents_145 : decode prog_13_method_14_code 145 = .ok (.ifCond .ne 86, 3) := by decide +kernel
