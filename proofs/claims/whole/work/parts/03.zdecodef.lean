/-! decode rows, written by a program -/
theorem d_M_extents_148 : decode prog_13_method_14_code 148 = .ok (.aload_n 0, 1) := by decide +kernel
theorem d_M_extents_149 : decode prog_13_method_14_code 149 = .ok (.invokevirtual 132, 3) := by decide +kernel
theorem d_M_extents_152 : decode prog_13_method_14_code 152 = .ok (.iload 5, 2) := by decide +kernel
theorem d_M_extents_154 : decode prog_13_method_14_code 154 = .ok (.if_icmp .ne 7, 3) := by decide +kernel
theorem d_M_extents_157 : decode prog_13_method_14_code 157 = .ok (.iconst 1, 1) := by decide +kernel
theorem d_M_extents_158 : decode prog_13_method_14_code 158 = .ok (.goto 4, 3) := by decide +kernel
theorem d_M_extents_161 : decode prog_13_method_14_code 161 = .ok (.iconst 0, 1) := by decide +kernel
theorem d_M_extents_162 : decode prog_13_method_14_code 162 = .ok (.istore 7, 2) := by decide +kernel
theorem d_M_extents_164 : decode prog_13_method_14_code 164 = .ok (.aload_n 0, 1) := by decide +kernel
theorem d_M_extents_165 : decode prog_13_method_14_code 165 = .ok (.invokevirtual 132, 3) := by decide +kernel
theorem d_M_extents_168 : decode prog_13_method_14_code 168 = .ok (.istore 9, 2) := by decide +kernel
theorem d_M_extents_170 : decode prog_13_method_14_code 170 = .ok (.iconst 0, 1) := by decide +kernel
theorem d_M_extents_171 : decode prog_13_method_14_code 171 = .ok (.istore 10, 2) := by decide +kernel
theorem d_M_extents_173 : decode prog_13_method_14_code 173 = .ok (.iload 10, 2) := by decide +kernel
theorem d_M_extents_175 : decode prog_13_method_14_code 175 = .ok (.iload 9, 2) := by decide +kernel
theorem d_M_extents_177 : decode prog_13_method_14_code 177 = .ok (.if_icmp .ge 48, 3) := by decide +kernel
theorem d_M_extents_180 : decode prog_13_method_14_code 180 = .ok (.aload_n 0, 1) := by decide +kernel
theorem d_M_extents_181 : decode prog_13_method_14_code 181 = .ok (.getfield 78, 3) := by decide +kernel
theorem d_M_extents_184 : decode prog_13_method_14_code 184 = .ok (.ifCond .ne 41, 3) := by decide +kernel
theorem d_M_extents_187 : decode prog_13_method_14_code 187 = .ok (.aload_n 0, 1) := by decide +kernel
theorem d_M_extents_188 : decode prog_13_method_14_code 188 = .ok (.invokevirtual 132, 3) := by decide +kernel
theorem d_M_extents_191 : decode prog_13_method_14_code 191 = .ok (.istore 11, 2) := by decide +kernel
theorem d_M_extents_193 : decode prog_13_method_14_code 193 = .ok (.aload_n 0, 1) := by decide +kernel
theorem d_M_extents_194 : decode prog_13_method_14_code 194 = .ok (.invokevirtual 132, 3) := by decide +kernel
theorem d_M_extents_197 : decode prog_13_method_14_code 197 = .ok (.istore 12, 2) := by decide +kernel
theorem d_M_extents_199 : decode prog_13_method_14_code 199 = .ok (.iload 7, 2) := by decide +kernel
theorem d_M_extents_201 : decode prog_13_method_14_code 201 = .ok (.ifCond .eq 18, 3) := by decide +kernel
theorem d_M_extents_204 : decode prog_13_method_14_code 204 = .ok (.aload_n 0, 1) := by decide +kernel
theorem d_M_extents_205 : decode prog_13_method_14_code 205 = .ok (.getfield 78, 3) := by decide +kernel
theorem d_M_extents_208 : decode prog_13_method_14_code 208 = .ok (.ifCond .ne 11, 3) := by decide +kernel
theorem d_M_extents_211 : decode prog_13_method_14_code 211 = .ok (.aload_n 0, 1) := by decide +kernel
theorem d_M_extents_212 : decode prog_13_method_14_code 212 = .ok (.iload 11, 2) := by decide +kernel
theorem d_M_extents_214 : decode prog_13_method_14_code 214 = .ok (.iload 12, 2) := by decide +kernel
theorem d_M_extents_216 : decode prog_13_method_14_code 216 = .ok (.invokevirtual 136, 3) := by decide +kernel
theorem d_M_extents_219 : decode prog_13_method_14_code 219 = .ok (.iinc 10 1, 3) := by decide +kernel
theorem d_M_extents_222 : decode prog_13_method_14_code 222 = .ok (.goto (-49), 3) := by decide +kernel
theorem d_M_extents_225 : decode prog_13_method_14_code 225 = .ok (.iinc 8 1, 3) := by decide +kernel
theorem d_M_extents_228 : decode prog_13_method_14_code 228 = .ok (.goto (-99), 3) := by decide +kernel
theorem d_M_extents_231 : decode prog_13_method_14_code 231 = .ok (.iload 7, 2) := by decide +kernel
theorem d_M_extents_233 : decode prog_13_method_14_code 233 = .ok (.ifCond .ne 8, 3) := by decide +kernel
theorem d_M_extents_236 : decode prog_13_method_14_code 236 = .ok (.aload_n 0, 1) := by decide +kernel
theorem d_M_extents_237 : decode prog_13_method_14_code 237 = .ok (.iconst 3, 1) := by decide +kernel
theorem d_M_extents_238 : decode prog_13_method_14_code 238 = .ok (.invokevirtual 119, 3) := by decide +kernel
theorem d_M_extents_241 : decode prog_13_method_14_code 241 = .ok (.return_, 1) := by decide +kernel
theorem d_M_stretch_0 : decode prog_13_method_10_code 0 = .ok (.iload_n 1, 1) := by decide +kernel
theorem d_M_stretch_1 : decode prog_13_method_10_code 1 = .ok (.istore 5, 2) := by decide +kernel
theorem d_M_stretch_3 : decode prog_13_method_10_code 3 = .ok (.iload 5, 2) := by decide +kernel
theorem d_M_stretch_5 : decode prog_13_method_10_code 5 = .ok (.iload_n 2, 1) := by decide +kernel
theorem d_M_stretch_6 : decode prog_13_method_10_code 6 = .ok (.if_icmp .ge 160, 3) := by decide +kernel
theorem d_M_stretch_9 : decode prog_13_method_10_code 9 = .ok (.aload_n 0, 1) := by decide +kernel
theorem d_M_stretch_10 : decode prog_13_method_10_code 10 = .ok (.getfield 78, 3) := by decide +kernel
theorem d_M_stretch_13 : decode prog_13_method_10_code 13 = .ok (.ifCond .ne 153, 3) := by decide +kernel
theorem d_M_stretch_16 : decode prog_13_method_10_code 16 = .ok (.aload_n 0, 1) := by decide +kernel
theorem d_M_stretch_17 : decode prog_13_method_10_code 17 = .ok (.getfield 7, 3) := by decide +kernel
theorem d_M_stretch_20 : decode prog_13_method_10_code 20 = .ok (.iload 5, 2) := by decide +kernel
theorem d_M_stretch_22 : decode prog_13_method_10_code 22 = .ok (.iaload, 1) := by decide +kernel
theorem d_M_stretch_23 : decode prog_13_method_10_code 23 = .ok (.ifCond .ne 10, 3) := by decide +kernel
theorem d_M_stretch_26 : decode prog_13_method_10_code 26 = .ok (.iload_n 2, 1) := by decide +kernel
theorem d_M_stretch_27 : decode prog_13_method_10_code 27 = .ok (.iload 5, 2) := by decide +kernel
theorem d_M_stretch_29 : decode prog_13_method_10_code 29 = .ok (.isub, 1) := by decide +kernel
theorem d_M_stretch_30 : decode prog_13_method_10_code 30 = .ok (.goto 10, 3) := by decide +kernel
theorem d_M_stretch_33 : decode prog_13_method_10_code 33 = .ok (.aload_n 0, 1) := by decide +kernel
theorem d_M_stretch_34 : decode prog_13_method_10_code 34 = .ok (.getfield 7, 3) := by decide +kernel
theorem d_M_stretch_37 : decode prog_13_method_10_code 37 = .ok (.iload 5, 2) := by decide +kernel
theorem d_M_stretch_39 : decode prog_13_method_10_code 39 = .ok (.iaload, 1) := by decide +kernel
theorem d_M_stretch_40 : decode prog_13_method_10_code 40 = .ok (.istore 6, 2) := by decide +kernel
theorem d_M_stretch_42 : decode prog_13_method_10_code 42 = .ok (.iload 6, 2) := by decide +kernel
theorem d_M_stretch_44 : decode prog_13_method_10_code 44 = .ok (.iconst 2, 1) := by decide +kernel
theorem d_M_stretch_45 : decode prog_13_method_10_code 45 = .ok (.if_icmp .lt 27, 3) := by decide +kernel
theorem d_M_stretch_48 : decode prog_13_method_10_code 48 = .ok (.iload 5, 2) := by decide +kernel
theorem d_M_stretch_50 : decode prog_13_method_10_code 50 = .ok (.iload 6, 2) := by decide +kernel
theorem d_M_stretch_52 : decode prog_13_method_10_code 52 = .ok (.iadd, 1) := by decide +kernel
theorem d_M_stretch_53 : decode prog_13_method_10_code 53 = .ok (.iload_n 2, 1) := by decide +kernel
theorem d_M_stretch_54 : decode prog_13_method_10_code 54 = .ok (.if_icmp .gt 18, 3) := by decide +kernel
theorem d_M_stretch_57 : decode prog_13_method_10_code 57 = .ok (.aload_n 0, 1) := by decide +kernel
theorem d_M_stretch_58 : decode prog_13_method_10_code 58 = .ok (.getfield 112, 3) := by decide +kernel
theorem d_M_stretch_61 : decode prog_13_method_10_code 61 = .ok (.bipush 16, 2) := by decide +kernel
theorem d_M_stretch_63 : decode prog_13_method_10_code 63 = .ok (.if_icmp .ge 9, 3) := by decide +kernel
theorem d_M_stretch_66 : decode prog_13_method_10_code 66 = .ok (.iload 4, 2) := by decide +kernel
theorem d_M_stretch_68 : decode prog_13_method_10_code 68 = .ok (.iconst 5, 1) := by decide +kernel
theorem d_M_stretch_69 : decode prog_13_method_10_code 69 = .ok (.if_icmp .lt 11, 3) := by decide +kernel
theorem d_M_stretch_72 : decode prog_13_method_10_code 72 = .ok (.aload_n 0, 1) := by decide +kernel
theorem d_M_stretch_73 : decode prog_13_method_10_code 73 = .ok (.iconst 1, 1) := by decide +kernel
theorem d_M_stretch_74 : decode prog_13_method_10_code 74 = .ok (.invokevirtual 119, 3) := by decide +kernel
theorem d_M_stretch_77 : decode prog_13_method_10_code 77 = .ok (.goto 86, 3) := by decide +kernel
theorem d_M_stretch_80 : decode prog_13_method_10_code 80 = .ok (.aload_n 0, 1) := by decide +kernel
theorem d_M_stretch_81 : decode prog_13_method_10_code 81 = .ok (.getfield 13, 3) := by decide +kernel
theorem d_M_stretch_84 : decode prog_13_method_10_code 84 = .ok (.aload_n 0, 1) := by decide +kernel
theorem d_M_stretch_85 : decode prog_13_method_10_code 85 = .ok (.getfield 112, 3) := by decide +kernel
theorem d_M_stretch_88 : decode prog_13_method_10_code 88 = .ok (.iload 5, 2) := by decide +kernel
theorem d_M_stretch_90 : decode prog_13_method_10_code 90 = .ok (.iconst 2, 1) := by decide +kernel
theorem d_M_stretch_91 : decode prog_13_method_10_code 91 = .ok (.iadd, 1) := by decide +kernel
theorem d_M_stretch_92 : decode prog_13_method_10_code 92 = .ok (.iastore, 1) := by decide +kernel
theorem d_M_stretch_93 : decode prog_13_method_10_code 93 = .ok (.aload_n 0, 1) := by decide +kernel
theorem d_M_stretch_94 : decode prog_13_method_10_code 94 = .ok (.getfield 16, 3) := by decide +kernel
theorem d_M_stretch_97 : decode prog_13_method_10_code 97 = .ok (.aload_n 0, 1) := by decide +kernel
theorem d_M_stretch_98 : decode prog_13_method_10_code 98 = .ok (.getfield 112, 3) := by decide +kernel
theorem d_M_stretch_101 : decode prog_13_method_10_code 101 = .ok (.iload 5, 2) := by decide +kernel
theorem d_M_stretch_103 : decode prog_13_method_10_code 103 = .ok (.iload 6, 2) := by decide +kernel
theorem d_M_stretch_105 : decode prog_13_method_10_code 105 = .ok (.iadd, 1) := by decide +kernel
theorem d_M_stretch_106 : decode prog_13_method_10_code 106 = .ok (.iastore, 1) := by decide +kernel
theorem d_M_stretch_107 : decode prog_13_method_10_code 107 = .ok (.aload_n 0, 1) := by decide +kernel
theorem d_M_stretch_108 : decode prog_13_method_10_code 108 = .ok (.getfield 19, 3) := by decide +kernel
theorem d_M_stretch_111 : decode prog_13_method_10_code 111 = .ok (.aload_n 0, 1) := by decide +kernel
theorem d_M_stretch_112 : decode prog_13_method_10_code 112 = .ok (.getfield 112, 3) := by decide +kernel
theorem d_M_stretch_115 : decode prog_13_method_10_code 115 = .ok (.aload_n 0, 1) := by decide +kernel
theorem d_M_stretch_116 : decode prog_13_method_10_code 116 = .ok (.getfield 7, 3) := by decide +kernel
theorem d_M_stretch_119 : decode prog_13_method_10_code 119 = .ok (.iload 5, 2) := by decide +kernel
theorem d_M_stretch_121 : decode prog_13_method_10_code 121 = .ok (.iconst 1, 1) := by decide +kernel
theorem d_M_stretch_122 : decode prog_13_method_10_code 122 = .ok (.iadd, 1) := by decide +kernel
theorem d_M_stretch_123 : decode prog_13_method_10_code 123 = .ok (.iaload, 1) := by decide +kernel
theorem d_M_stretch_124 : decode prog_13_method_10_code 124 = .ok (.iastore, 1) := by decide +kernel
theorem d_M_stretch_125 : decode prog_13_method_10_code 125 = .ok (.aload_n 0, 1) := by decide +kernel
theorem d_M_stretch_126 : decode prog_13_method_10_code 126 = .ok (.getfield 22, 3) := by decide +kernel
theorem d_M_stretch_129 : decode prog_13_method_10_code 129 = .ok (.aload_n 0, 1) := by decide +kernel
theorem d_M_stretch_130 : decode prog_13_method_10_code 130 = .ok (.getfield 112, 3) := by decide +kernel
theorem d_M_stretch_133 : decode prog_13_method_10_code 133 = .ok (.iload_n 3, 1) := by decide +kernel
theorem d_M_stretch_134 : decode prog_13_method_10_code 134 = .ok (.iastore, 1) := by decide +kernel
theorem d_M_stretch_135 : decode prog_13_method_10_code 135 = .ok (.aload_n 0, 1) := by decide +kernel
theorem d_M_stretch_136 : decode prog_13_method_10_code 136 = .ok (.getfield 25, 3) := by decide +kernel
theorem d_M_stretch_139 : decode prog_13_method_10_code 139 = .ok (.aload_n 0, 1) := by decide +kernel
theorem d_M_stretch_140 : decode prog_13_method_10_code 140 = .ok (.getfield 112, 3) := by decide +kernel
theorem d_M_stretch_143 : decode prog_13_method_10_code 143 = .ok (.iload 4, 2) := by decide +kernel
theorem d_M_stretch_145 : decode prog_13_method_10_code 145 = .ok (.iastore, 1) := by decide +kernel
theorem d_M_stretch_146 : decode prog_13_method_10_code 146 = .ok (.aload_n 0, 1) := by decide +kernel
theorem d_M_stretch_147 : decode prog_13_method_10_code 147 = .ok (.dup, 1) := by decide +kernel
theorem d_M_stretch_148 : decode prog_13_method_10_code 148 = .ok (.getfield 112, 3) := by decide +kernel
theorem d_M_stretch_151 : decode prog_13_method_10_code 151 = .ok (.iconst 1, 1) := by decide +kernel
theorem d_M_stretch_152 : decode prog_13_method_10_code 152 = .ok (.iadd, 1) := by decide +kernel
theorem d_M_stretch_153 : decode prog_13_method_10_code 153 = .ok (.putfield 112, 3) := by decide +kernel
theorem d_M_stretch_156 : decode prog_13_method_10_code 156 = .ok (.iload 5, 2) := by decide +kernel
theorem d_M_stretch_158 : decode prog_13_method_10_code 158 = .ok (.iload 6, 2) := by decide +kernel
theorem d_M_stretch_160 : decode prog_13_method_10_code 160 = .ok (.iadd, 1) := by decide +kernel
theorem d_M_stretch_161 : decode prog_13_method_10_code 161 = .ok (.istore 5, 2) := by decide +kernel
theorem d_M_stretch_163 : decode prog_13_method_10_code 163 = .ok (.goto (-160), 3) := by decide +kernel
theorem d_M_stretch_166 : decode prog_13_method_10_code 166 = .ok (.return_, 1) := by decide +kernel
theorem d_M_split_0 : decode prog_13_method_9_code 0 = .ok (.aload_n 0, 1) := by decide +kernel
theorem d_M_split_1 : decode prog_13_method_9_code 1 = .ok (.iconst 0, 1) := by decide +kernel
theorem d_M_split_2 : decode prog_13_method_9_code 2 = .ok (.putfield 112, 3) := by decide +kernel
theorem d_M_split_5 : decode prog_13_method_9_code 5 = .ok (.aload_n 0, 1) := by decide +kernel
theorem d_M_split_6 : decode prog_13_method_9_code 6 = .ok (.iconst 0, 1) := by decide +kernel
theorem d_M_split_7 : decode prog_13_method_9_code 7 = .ok (.aload_n 0, 1) := by decide +kernel
theorem d_M_split_8 : decode prog_13_method_9_code 8 = .ok (.getfield 70, 3) := by decide +kernel
theorem d_M_split_11 : decode prog_13_method_9_code 11 = .ok (.iconst (-1), 1) := by decide +kernel
theorem d_M_split_12 : decode prog_13_method_9_code 12 = .ok (.iconst 1, 1) := by decide +kernel
theorem d_M_split_13 : decode prog_13_method_9_code 13 = .ok (.invokevirtual 115, 3) := by decide +kernel
theorem d_M_split_16 : decode prog_13_method_9_code 16 = .ok (.iconst 0, 1) := by decide +kernel
theorem d_M_split_17 : decode prog_13_method_9_code 17 = .ok (.istore_n 1, 1) := by decide +kernel
theorem d_M_split_18 : decode prog_13_method_9_code 18 = .ok (.iload_n 1, 1) := by decide +kernel
theorem d_M_split_19 : decode prog_13_method_9_code 19 = .ok (.aload_n 0, 1) := by decide +kernel
theorem d_M_split_20 : decode prog_13_method_9_code 20 = .ok (.getfield 112, 3) := by decide +kernel
theorem d_M_split_23 : decode prog_13_method_9_code 23 = .ok (.if_icmp .ge 63, 3) := by decide +kernel
theorem d_M_split_26 : decode prog_13_method_9_code 26 = .ok (.aload_n 0, 1) := by decide +kernel
theorem d_M_split_27 : decode prog_13_method_9_code 27 = .ok (.getfield 78, 3) := by decide +kernel
theorem d_M_split_30 : decode prog_13_method_9_code 30 = .ok (.ifCond .ne 56, 3) := by decide +kernel
theorem d_M_split_33 : decode prog_13_method_9_code 33 = .ok (.aload_n 0, 1) := by decide +kernel
theorem d_M_split_34 : decode prog_13_method_9_code 34 = .ok (.getfield 19, 3) := by decide +kernel
theorem d_M_split_37 : decode prog_13_method_9_code 37 = .ok (.iload_n 1, 1) := by decide +kernel
theorem d_M_split_38 : decode prog_13_method_9_code 38 = .ok (.iaload, 1) := by decide +kernel
theorem d_M_split_39 : decode prog_13_method_9_code 39 = .ok (.bipush 109, 2) := by decide +kernel
theorem d_M_split_41 : decode prog_13_method_9_code 41 = .ok (.if_icmp .eq 14, 3) := by decide +kernel
theorem d_M_split_44 : decode prog_13_method_9_code 44 = .ok (.aload_n 0, 1) := by decide +kernel
theorem d_M_split_45 : decode prog_13_method_9_code 45 = .ok (.getfield 19, 3) := by decide +kernel
theorem d_M_split_48 : decode prog_13_method_9_code 48 = .ok (.iload_n 1, 1) := by decide +kernel
theorem d_M_split_49 : decode prog_13_method_9_code 49 = .ok (.iaload, 1) := by decide +kernel
theorem d_M_split_50 : decode prog_13_method_9_code 50 = .ok (.bipush 114, 2) := by decide +kernel
theorem d_M_split_52 : decode prog_13_method_9_code 52 = .ok (.if_icmp .ne 28, 3) := by decide +kernel
theorem d_M_split_55 : decode prog_13_method_9_code 55 = .ok (.aload_n 0, 1) := by decide +kernel
theorem d_M_split_56 : decode prog_13_method_9_code 56 = .ok (.aload_n 0, 1) := by decide +kernel
theorem d_M_split_57 : decode prog_13_method_9_code 57 = .ok (.getfield 13, 3) := by decide +kernel
theorem d_M_split_60 : decode prog_13_method_9_code 60 = .ok (.iload_n 1, 1) := by decide +kernel
theorem d_M_split_61 : decode prog_13_method_9_code 61 = .ok (.iaload, 1) := by decide +kernel
theorem d_M_split_62 : decode prog_13_method_9_code 62 = .ok (.aload_n 0, 1) := by decide +kernel
theorem d_M_split_63 : decode prog_13_method_9_code 63 = .ok (.getfield 16, 3) := by decide +kernel
theorem d_M_split_66 : decode prog_13_method_9_code 66 = .ok (.iload_n 1, 1) := by decide +kernel
theorem d_M_split_67 : decode prog_13_method_9_code 67 = .ok (.iaload, 1) := by decide +kernel
theorem d_M_split_68 : decode prog_13_method_9_code 68 = .ok (.iload_n 1, 1) := by decide +kernel
theorem d_M_split_69 : decode prog_13_method_9_code 69 = .ok (.aload_n 0, 1) := by decide +kernel
theorem d_M_split_70 : decode prog_13_method_9_code 70 = .ok (.getfield 25, 3) := by decide +kernel
theorem d_M_split_73 : decode prog_13_method_9_code 73 = .ok (.iload_n 1, 1) := by decide +kernel
theorem d_M_split_74 : decode prog_13_method_9_code 74 = .ok (.iaload, 1) := by decide +kernel
theorem d_M_split_75 : decode prog_13_method_9_code 75 = .ok (.iconst 1, 1) := by decide +kernel
theorem d_M_split_76 : decode prog_13_method_9_code 76 = .ok (.iadd, 1) := by decide +kernel
theorem d_M_split_77 : decode prog_13_method_9_code 77 = .ok (.invokevirtual 115, 3) := by decide +kernel
theorem d_M_split_80 : decode prog_13_method_9_code 80 = .ok (.iinc 1 1, 3) := by decide +kernel
theorem d_M_split_83 : decode prog_13_method_9_code 83 = .ok (.goto (-65), 3) := by decide +kernel
theorem d_M_split_86 : decode prog_13_method_9_code 86 = .ok (.return_, 1) := by decide +kernel
theorem d_M_brand_0 : decode prog_13_method_12_code 0 = .ok (.iconst 0, 1) := by decide +kernel
theorem d_M_brand_1 : decode prog_13_method_12_code 1 = .ok (.istore_n 1, 1) := by decide +kernel
theorem d_M_brand_2 : decode prog_13_method_12_code 2 = .ok (.aload_n 0, 1) := by decide +kernel
theorem d_M_brand_3 : decode prog_13_method_12_code 3 = .ok (.getfield 112, 3) := by decide +kernel
theorem d_M_brand_6 : decode prog_13_method_12_code 6 = .ok (.ifCond .le 12, 3) := by decide +kernel
theorem d_M_brand_9 : decode prog_13_method_12_code 9 = .ok (.aload_n 0, 1) := by decide +kernel
theorem d_M_brand_10 : decode prog_13_method_12_code 10 = .ok (.getfield 13, 3) := by decide +kernel
theorem d_M_brand_13 : decode prog_13_method_12_code 13 = .ok (.iconst 0, 1) := by decide +kernel
theorem d_M_brand_14 : decode prog_13_method_12_code 14 = .ok (.iaload, 1) := by decide +kernel
theorem d_M_brand_15 : decode prog_13_method_12_code 15 = .ok (.goto 7, 3) := by decide +kernel
theorem d_M_brand_18 : decode prog_13_method_12_code 18 = .ok (.aload_n 0, 1) := by decide +kernel
theorem d_M_brand_19 : decode prog_13_method_12_code 19 = .ok (.getfield 70, 3) := by decide +kernel
theorem d_M_brand_22 : decode prog_13_method_12_code 22 = .ok (.istore_n 2, 1) := by decide +kernel
theorem d_M_brand_23 : decode prog_13_method_12_code 23 = .ok (.iload_n 2, 1) := by decide +kernel
theorem d_M_brand_24 : decode prog_13_method_12_code 24 = .ok (.aload_n 0, 1) := by decide +kernel
theorem d_M_brand_25 : decode prog_13_method_12_code 25 = .ok (.getfield 70, 3) := by decide +kernel
theorem d_M_brand_28 : decode prog_13_method_12_code 28 = .ok (.if_icmp .ge 40, 3) := by decide +kernel
theorem d_M_brand_31 : decode prog_13_method_12_code 31 = .ok (.iload_n 2, 1) := by decide +kernel
theorem d_M_brand_32 : decode prog_13_method_12_code 32 = .ok (.aload_n 0, 1) := by decide +kernel
theorem d_M_brand_33 : decode prog_13_method_12_code 33 = .ok (.getfield 16, 3) := by decide +kernel
theorem d_M_brand_36 : decode prog_13_method_12_code 36 = .ok (.iconst 0, 1) := by decide +kernel
theorem d_M_brand_37 : decode prog_13_method_12_code 37 = .ok (.iaload, 1) := by decide +kernel
theorem d_M_brand_38 : decode prog_13_method_12_code 38 = .ok (.if_icmp .ge 30, 3) := by decide +kernel
theorem d_M_brand_41 : decode prog_13_method_12_code 41 = .ok (.iload_n 1, 1) := by decide +kernel
theorem d_M_brand_42 : decode prog_13_method_12_code 42 = .ok (.ifCond .ne 14, 3) := by decide +kernel
theorem d_M_brand_45 : decode prog_13_method_12_code 45 = .ok (.aload_n 0, 1) := by decide +kernel
theorem d_M_brand_46 : decode prog_13_method_12_code 46 = .ok (.getfield 7, 3) := by decide +kernel
theorem d_M_brand_49 : decode prog_13_method_12_code 49 = .ok (.iload_n 2, 1) := by decide +kernel
theorem d_M_brand_50 : decode prog_13_method_12_code 50 = .ok (.iaload, 1) := by decide +kernel
theorem d_M_brand_51 : decode prog_13_method_12_code 51 = .ok (.bipush 118, 2) := by decide +kernel
theorem d_M_brand_53 : decode prog_13_method_12_code 53 = .ok (.if_icmp .ne 7, 3) := by decide +kernel
theorem d_M_brand_56 : decode prog_13_method_12_code 56 = .ok (.iconst 1, 1) := by decide +kernel
theorem d_M_brand_57 : decode prog_13_method_12_code 57 = .ok (.goto 4, 3) := by decide +kernel
theorem d_M_brand_60 : decode prog_13_method_12_code 60 = .ok (.iconst 0, 1) := by decide +kernel
theorem d_M_brand_61 : decode prog_13_method_12_code 61 = .ok (.istore_n 1, 1) := by decide +kernel
theorem d_M_brand_62 : decode prog_13_method_12_code 62 = .ok (.iinc 2 1, 3) := by decide +kernel
theorem d_M_brand_65 : decode prog_13_method_12_code 65 = .ok (.goto (-42), 3) := by decide +kernel
theorem d_M_brand_68 : decode prog_13_method_12_code 68 = .ok (.aload_n 0, 1) := by decide +kernel
theorem d_M_brand_69 : decode prog_13_method_12_code 69 = .ok (.getfield 112, 3) := by decide +kernel
theorem d_M_brand_72 : decode prog_13_method_12_code 72 = .ok (.ifCond .eq 18, 3) := by decide +kernel
theorem d_M_brand_75 : decode prog_13_method_12_code 75 = .ok (.aload_n 0, 1) := by decide +kernel
theorem d_M_brand_76 : decode prog_13_method_12_code 76 = .ok (.getfield 19, 3) := by decide +kernel
theorem d_M_brand_79 : decode prog_13_method_12_code 79 = .ok (.iconst 0, 1) := by decide +kernel
theorem d_M_brand_80 : decode prog_13_method_12_code 80 = .ok (.iaload, 1) := by decide +kernel
theorem d_M_brand_81 : decode prog_13_method_12_code 81 = .ok (.bipush 102, 2) := by decide +kernel
theorem d_M_brand_83 : decode prog_13_method_12_code 83 = .ok (.if_icmp .ne 7, 3) := by decide +kernel
theorem d_M_brand_86 : decode prog_13_method_12_code 86 = .ok (.iload_n 1, 1) := by decide +kernel
theorem d_M_brand_87 : decode prog_13_method_12_code 87 = .ok (.ifCond .ne 8, 3) := by decide +kernel
theorem d_M_brand_90 : decode prog_13_method_12_code 90 = .ok (.aload_n 0, 1) := by decide +kernel
theorem d_M_brand_91 : decode prog_13_method_12_code 91 = .ok (.iconst 2, 1) := by decide +kernel
theorem d_M_brand_92 : decode prog_13_method_12_code 92 = .ok (.invokevirtual 119, 3) := by decide +kernel
theorem d_M_brand_95 : decode prog_13_method_12_code 95 = .ok (.return_, 1) := by decide +kernel
theorem d_M_decode_0 : decode prog_13_method_7_code 0 = .ok (.aload_n 0, 1) := by decide +kernel
theorem d_M_decode_1 : decode prog_13_method_7_code 1 = .ok (.iconst 0, 1) := by decide +kernel
theorem d_M_decode_2 : decode prog_13_method_7_code 2 = .ok (.putfield 78, 3) := by decide +kernel
theorem d_M_decode_5 : decode prog_13_method_7_code 5 = .ok (.aload_n 0, 1) := by decide +kernel
theorem d_M_decode_6 : decode prog_13_method_7_code 6 = .ok (.invokevirtual 81, 3) := by decide +kernel
theorem d_M_decode_9 : decode prog_13_method_7_code 9 = .ok (.aload_n 0, 1) := by decide +kernel
theorem d_M_decode_10 : decode prog_13_method_7_code 10 = .ok (.getfield 78, 3) := by decide +kernel
theorem d_M_decode_13 : decode prog_13_method_7_code 13 = .ok (.ifCond .ne 7, 3) := by decide +kernel
theorem d_M_decode_16 : decode prog_13_method_7_code 16 = .ok (.aload_n 0, 1) := by decide +kernel
theorem d_M_decode_17 : decode prog_13_method_7_code 17 = .ok (.invokevirtual 84, 3) := by decide +kernel
theorem d_M_decode_20 : decode prog_13_method_7_code 20 = .ok (.aload_n 0, 1) := by decide +kernel
theorem d_M_decode_21 : decode prog_13_method_7_code 21 = .ok (.getfield 78, 3) := by decide +kernel
theorem d_M_decode_24 : decode prog_13_method_7_code 24 = .ok (.ifCond .ne 13, 3) := by decide +kernel
theorem d_M_decode_27 : decode prog_13_method_7_code 27 = .ok (.aload_n 0, 1) := by decide +kernel
theorem d_M_decode_28 : decode prog_13_method_7_code 28 = .ok (.iconst (-1), 1) := by decide +kernel
theorem d_M_decode_29 : decode prog_13_method_7_code 29 = .ok (.bipush 109, 2) := by decide +kernel
theorem d_M_decode_31 : decode prog_13_method_7_code 31 = .ok (.invokevirtual 87, 3) := by decide +kernel
theorem d_M_decode_34 : decode prog_13_method_7_code 34 = .ok (.goto 4, 3) := by decide +kernel
theorem d_M_decode_37 : decode prog_13_method_7_code 37 = .ok (.iconst (-1), 1) := by decide +kernel
theorem d_M_decode_38 : decode prog_13_method_7_code 38 = .ok (.istore_n 1, 1) := by decide +kernel
theorem d_M_decode_39 : decode prog_13_method_7_code 39 = .ok (.iload_n 1, 1) := by decide +kernel
theorem d_M_decode_40 : decode prog_13_method_7_code 40 = .ok (.ifCond .lt 13, 3) := by decide +kernel
theorem d_M_decode_43 : decode prog_13_method_7_code 43 = .ok (.aload_n 0, 1) := by decide +kernel
theorem d_M_decode_44 : decode prog_13_method_7_code 44 = .ok (.iload_n 1, 1) := by decide +kernel
theorem d_M_decode_45 : decode prog_13_method_7_code 45 = .ok (.bipush 114, 2) := by decide +kernel
theorem d_M_decode_47 : decode prog_13_method_7_code 47 = .ok (.invokevirtual 87, 3) := by decide +kernel
theorem d_M_decode_50 : decode prog_13_method_7_code 50 = .ok (.goto 4, 3) := by decide +kernel
theorem d_M_decode_53 : decode prog_13_method_7_code 53 = .ok (.iconst (-1), 1) := by decide +kernel
theorem d_M_decode_54 : decode prog_13_method_7_code 54 = .ok (.istore_n 2, 1) := by decide +kernel
theorem d_M_decode_55 : decode prog_13_method_7_code 55 = .ok (.aload_n 0, 1) := by decide +kernel
theorem d_M_decode_56 : decode prog_13_method_7_code 56 = .ok (.getfield 78, 3) := by decide +kernel
theorem d_M_decode_59 : decode prog_13_method_7_code 59 = .ok (.ifCond .ne 9, 3) := by decide +kernel
theorem d_M_decode_62 : decode prog_13_method_7_code 62 = .ok (.aload_n 0, 1) := by decide +kernel
theorem d_M_decode_63 : decode prog_13_method_7_code 63 = .ok (.iload_n 1, 1) := by decide +kernel
theorem d_M_decode_64 : decode prog_13_method_7_code 64 = .ok (.iload_n 2, 1) := by decide +kernel
theorem d_M_decode_65 : decode prog_13_method_7_code 65 = .ok (.invokevirtual 91, 3) := by decide +kernel
theorem d_M_decode_68 : decode prog_13_method_7_code 68 = .ok (.aload_n 0, 1) := by decide +kernel
theorem d_M_decode_69 : decode prog_13_method_7_code 69 = .ok (.getfield 78, 3) := by decide +kernel
theorem d_M_decode_72 : decode prog_13_method_7_code 72 = .ok (.ifCond .ne 32, 3) := by decide +kernel
theorem d_M_decode_75 : decode prog_13_method_7_code 75 = .ok (.aload_n 0, 1) := by decide +kernel
theorem d_M_decode_76 : decode prog_13_method_7_code 76 = .ok (.iload_n 2, 1) := by decide +kernel
theorem d_M_decode_77 : decode prog_13_method_7_code 77 = .ok (.aload_n 0, 1) := by decide +kernel
theorem d_M_decode_78 : decode prog_13_method_7_code 78 = .ok (.iload_n 2, 1) := by decide +kernel
theorem d_M_decode_79 : decode prog_13_method_7_code 79 = .ok (.bipush 97, 2) := by decide +kernel
theorem d_M_decode_81 : decode prog_13_method_7_code 81 = .ok (.invokevirtual 87, 3) := by decide +kernel
theorem d_M_decode_84 : decode prog_13_method_7_code 84 = .ok (.aload_n 0, 1) := by decide +kernel
theorem d_M_decode_85 : decode prog_13_method_7_code 85 = .ok (.getfield 7, 3) := by decide +kernel
theorem d_M_decode_88 : decode prog_13_method_7_code 88 = .ok (.aload_n 0, 1) := by decide +kernel
theorem d_M_decode_89 : decode prog_13_method_7_code 89 = .ok (.getfield 13, 3) := by decide +kernel
theorem d_M_decode_92 : decode prog_13_method_7_code 92 = .ok (.aload_n 0, 1) := by decide +kernel
theorem d_M_decode_93 : decode prog_13_method_7_code 93 = .ok (.iload_n 1, 1) := by decide +kernel
theorem d_M_decode_94 : decode prog_13_method_7_code 94 = .ok (.bipush 112, 2) := by decide +kernel
theorem d_M_decode_96 : decode prog_13_method_7_code 96 = .ok (.invokevirtual 87, 3) := by decide +kernel
theorem d_M_decode_99 : decode prog_13_method_7_code 99 = .ok (.iaload, 1) := by decide +kernel
theorem d_M_decode_100 : decode prog_13_method_7_code 100 = .ok (.iaload, 1) := by decide +kernel
theorem d_M_decode_101 : decode prog_13_method_7_code 101 = .ok (.invokevirtual 95, 3) := by decide +kernel
theorem d_M_decode_104 : decode prog_13_method_7_code 104 = .ok (.aload_n 0, 1) := by decide +kernel
theorem d_M_decode_105 : decode prog_13_method_7_code 105 = .ok (.getfield 78, 3) := by decide +kernel
theorem d_M_decode_108 : decode prog_13_method_7_code 108 = .ok (.ifCond .ne 7, 3) := by decide +kernel
theorem d_M_decode_111 : decode prog_13_method_7_code 111 = .ok (.aload_n 0, 1) := by decide +kernel
theorem d_M_decode_112 : decode prog_13_method_7_code 112 = .ok (.invokevirtual 99, 3) := by decide +kernel
theorem d_M_decode_115 : decode prog_13_method_7_code 115 = .ok (.aload_n 0, 1) := by decide +kernel
theorem d_M_decode_116 : decode prog_13_method_7_code 116 = .ok (.getfield 78, 3) := by decide +kernel
theorem d_M_decode_119 : decode prog_13_method_7_code 119 = .ok (.ifCond .ne 7, 3) := by decide +kernel
theorem d_M_decode_122 : decode prog_13_method_7_code 122 = .ok (.aload_n 0, 1) := by decide +kernel
theorem d_M_decode_123 : decode prog_13_method_7_code 123 = .ok (.invokevirtual 102, 3) := by decide +kernel
theorem d_M_decode_126 : decode prog_13_method_7_code 126 = .ok (.aload_n 0, 1) := by decide +kernel
theorem d_M_decode_127 : decode prog_13_method_7_code 127 = .ok (.getfield 78, 3) := by decide +kernel
theorem d_M_decode_130 : decode prog_13_method_7_code 130 = .ok (.ifCond .ne 7, 3) := by decide +kernel
theorem d_M_decode_133 : decode prog_13_method_7_code 133 = .ok (.aload_n 0, 1) := by decide +kernel
theorem d_M_decode_134 : decode prog_13_method_7_code 134 = .ok (.invokevirtual 105, 3) := by decide +kernel
theorem d_M_decode_137 : decode prog_13_method_7_code 137 = .ok (.aload_n 0, 1) := by decide +kernel
theorem d_M_decode_138 : decode prog_13_method_7_code 138 = .ok (.aload_n 0, 1) := by decide +kernel
theorem d_M_decode_139 : decode prog_13_method_7_code 139 = .ok (.getfield 78, 3) := by decide +kernel
theorem d_M_decode_142 : decode prog_13_method_7_code 142 = .ok (.ifCond .ne 7, 3) := by decide +kernel
theorem d_M_decode_145 : decode prog_13_method_7_code 145 = .ok (.iconst 1, 1) := by decide +kernel
theorem d_M_decode_146 : decode prog_13_method_7_code 146 = .ok (.goto 4, 3) := by decide +kernel
theorem d_M_decode_149 : decode prog_13_method_7_code 149 = .ok (.iconst 0, 1) := by decide +kernel
theorem d_M_decode_150 : decode prog_13_method_7_code 150 = .ok (.putfield 108, 3) := by decide +kernel
theorem d_M_decode_153 : decode prog_13_method_7_code 153 = .ok (.aload_n 0, 1) := by decide +kernel
theorem d_M_decode_154 : decode prog_13_method_7_code 154 = .ok (.getfield 78, 3) := by decide +kernel
theorem d_M_decode_157 : decode prog_13_method_7_code 157 = .ok (.ireturn, 1) := by decide +kernel
theorem d_M_planes_0 : decode prog_13_method_44_code 0 = .ok (.aload_n 0, 1) := by decide +kernel
theorem d_M_planes_1 : decode prog_13_method_44_code 1 = .ok (.getfield 108, 3) := by decide +kernel
theorem d_M_planes_4 : decode prog_13_method_44_code 4 = .ok (.ifCond .eq 14, 3) := by decide +kernel
theorem d_M_planes_7 : decode prog_13_method_44_code 7 = .ok (.iconst 1, 1) := by decide +kernel
theorem d_M_planes_8 : decode prog_13_method_44_code 8 = .ok (.iconst 2, 1) := by decide +kernel
theorem d_M_planes_9 : decode prog_13_method_44_code 9 = .ok (.aload_n 0, 1) := by decide +kernel
theorem d_M_planes_10 : decode prog_13_method_44_code 10 = .ok (.getfield 165, 3) := by decide +kernel
theorem d_M_planes_13 : decode prog_13_method_44_code 13 = .ok (.imul, 1) := by decide +kernel
theorem d_M_planes_14 : decode prog_13_method_44_code 14 = .ok (.iadd, 1) := by decide +kernel
theorem d_M_planes_15 : decode prog_13_method_44_code 15 = .ok (.goto 4, 3) := by decide +kernel
theorem d_M_planes_18 : decode prog_13_method_44_code 18 = .ok (.iconst 0, 1) := by decide +kernel
theorem d_M_planes_19 : decode prog_13_method_44_code 19 = .ok (.ireturn, 1) := by decide +kernel
theorem d_M_width_0 : decode prog_13_method_45_code 0 = .ok (.aload_n 0, 1) := by decide +kernel
theorem d_M_width_1 : decode prog_13_method_45_code 1 = .ok (.getfield 108, 3) := by decide +kernel
theorem d_M_width_4 : decode prog_13_method_45_code 4 = .ok (.ifCond .eq 10, 3) := by decide +kernel
theorem d_M_width_7 : decode prog_13_method_45_code 7 = .ok (.aload_n 0, 1) := by decide +kernel
theorem d_M_width_8 : decode prog_13_method_45_code 8 = .ok (.getfield 171, 3) := by decide +kernel
theorem d_M_width_11 : decode prog_13_method_45_code 11 = .ok (.goto 4, 3) := by decide +kernel
theorem d_M_width_14 : decode prog_13_method_45_code 14 = .ok (.iconst 0, 1) := by decide +kernel
theorem d_M_width_15 : decode prog_13_method_45_code 15 = .ok (.ireturn, 1) := by decide +kernel
theorem d_M_height_0 : decode prog_13_method_46_code 0 = .ok (.aload_n 0, 1) := by decide +kernel
theorem d_M_height_1 : decode prog_13_method_46_code 1 = .ok (.getfield 108, 3) := by decide +kernel
theorem d_M_height_4 : decode prog_13_method_46_code 4 = .ok (.ifCond .eq 10, 3) := by decide +kernel
theorem d_M_height_7 : decode prog_13_method_46_code 7 = .ok (.aload_n 0, 1) := by decide +kernel
theorem d_M_height_8 : decode prog_13_method_46_code 8 = .ok (.getfield 174, 3) := by decide +kernel
theorem d_M_height_11 : decode prog_13_method_46_code 11 = .ok (.goto 4, 3) := by decide +kernel
theorem d_M_height_14 : decode prog_13_method_46_code 14 = .ok (.iconst 0, 1) := by decide +kernel
theorem d_M_height_15 : decode prog_13_method_46_code 15 = .ok (.ireturn, 1) := by decide +kernel
theorem d_M_depth_0 : decode prog_13_method_47_code 0 = .ok (.aload_n 0, 1) := by decide +kernel
theorem d_M_depth_1 : decode prog_13_method_47_code 1 = .ok (.getfield 108, 3) := by decide +kernel
theorem d_M_depth_4 : decode prog_13_method_47_code 4 = .ok (.ifCond .eq 15, 3) := by decide +kernel
theorem d_M_depth_7 : decode prog_13_method_47_code 7 = .ok (.bipush 8, 2) := by decide +kernel
theorem d_M_depth_9 : decode prog_13_method_47_code 9 = .ok (.iconst 2, 1) := by decide +kernel
theorem d_M_depth_10 : decode prog_13_method_47_code 10 = .ok (.aload_n 0, 1) := by decide +kernel
theorem d_M_depth_11 : decode prog_13_method_47_code 11 = .ok (.getfield 168, 3) := by decide +kernel
theorem d_M_depth_14 : decode prog_13_method_47_code 14 = .ok (.imul, 1) := by decide +kernel
theorem d_M_depth_15 : decode prog_13_method_47_code 15 = .ok (.iadd, 1) := by decide +kernel
theorem d_M_depth_16 : decode prog_13_method_47_code 16 = .ok (.goto 4, 3) := by decide +kernel
theorem d_M_depth_19 : decode prog_13_method_47_code 19 = .ok (.iconst 0, 1) := by decide +kernel
theorem d_M_depth_20 : decode prog_13_method_47_code 20 = .ok (.ireturn, 1) := by decide +kernel
theorem d_M_there_0 : decode prog_13_method_48_code 0 = .ok (.aload_n 0, 1) := by decide +kernel
theorem d_M_there_1 : decode prog_13_method_48_code 1 = .ok (.getfield 108, 3) := by decide +kernel
theorem d_M_there_4 : decode prog_13_method_48_code 4 = .ok (.ifCond .eq 31, 3) := by decide +kernel
theorem d_M_there_7 : decode prog_13_method_48_code 7 = .ok (.iload_n 1, 1) := by decide +kernel
theorem d_M_there_8 : decode prog_13_method_48_code 8 = .ok (.ifCond .lt 27, 3) := by decide +kernel
theorem d_M_there_11 : decode prog_13_method_48_code 11 = .ok (.iload_n 1, 1) := by decide +kernel
theorem d_M_there_12 : decode prog_13_method_48_code 12 = .ok (.aload_n 0, 1) := by decide +kernel
theorem d_M_there_13 : decode prog_13_method_48_code 13 = .ok (.getfield 171, 3) := by decide +kernel
theorem d_M_there_16 : decode prog_13_method_48_code 16 = .ok (.if_icmp .ge 19, 3) := by decide +kernel
theorem d_M_there_19 : decode prog_13_method_48_code 19 = .ok (.iload_n 2, 1) := by decide +kernel
theorem d_M_there_20 : decode prog_13_method_48_code 20 = .ok (.ifCond .lt 15, 3) := by decide +kernel
theorem d_M_there_23 : decode prog_13_method_48_code 23 = .ok (.iload_n 2, 1) := by decide +kernel
theorem d_M_there_24 : decode prog_13_method_48_code 24 = .ok (.aload_n 0, 1) := by decide +kernel
theorem d_M_there_25 : decode prog_13_method_48_code 25 = .ok (.getfield 174, 3) := by decide +kernel
theorem d_M_there_28 : decode prog_13_method_48_code 28 = .ok (.if_icmp .ge 7, 3) := by decide +kernel
theorem d_M_there_31 : decode prog_13_method_48_code 31 = .ok (.iconst 1, 1) := by decide +kernel
theorem d_M_there_32 : decode prog_13_method_48_code 32 = .ok (.goto 4, 3) := by decide +kernel
theorem d_M_there_35 : decode prog_13_method_48_code 35 = .ok (.iconst 0, 1) := by decide +kernel
theorem d_M_there_36 : decode prog_13_method_48_code 36 = .ok (.ireturn, 1) := by decide +kernel
theorem d_M_sample_0 : decode prog_13_method_49_code 0 = .ok (.aload_n 0, 1) := by decide +kernel
theorem d_M_sample_1 : decode prog_13_method_49_code 1 = .ok (.iload_n 2, 1) := by decide +kernel
theorem d_M_sample_2 : decode prog_13_method_49_code 2 = .ok (.iload_n 3, 1) := by decide +kernel
theorem d_M_sample_3 : decode prog_13_method_49_code 3 = .ok (.invokevirtual 277, 3) := by decide +kernel
theorem d_M_sample_6 : decode prog_13_method_49_code 6 = .ok (.ifCond .eq 39, 3) := by decide +kernel
theorem d_M_sample_9 : decode prog_13_method_49_code 9 = .ok (.iload_n 1, 1) := by decide +kernel
theorem d_M_sample_10 : decode prog_13_method_49_code 10 = .ok (.ifCond .lt 35, 3) := by decide +kernel
theorem d_M_sample_13 : decode prog_13_method_49_code 13 = .ok (.iload_n 1, 1) := by decide +kernel
theorem d_M_sample_14 : decode prog_13_method_49_code 14 = .ok (.iconst 1, 1) := by decide +kernel
theorem d_M_sample_15 : decode prog_13_method_49_code 15 = .ok (.iconst 2, 1) := by decide +kernel
theorem d_M_sample_16 : decode prog_13_method_49_code 16 = .ok (.aload_n 0, 1) := by decide +kernel
theorem d_M_sample_17 : decode prog_13_method_49_code 17 = .ok (.getfield 165, 3) := by decide +kernel
theorem d_M_sample_20 : decode prog_13_method_49_code 20 = .ok (.imul, 1) := by decide +kernel
theorem d_M_sample_21 : decode prog_13_method_49_code 21 = .ok (.iadd, 1) := by decide +kernel
theorem d_M_sample_22 : decode prog_13_method_49_code 22 = .ok (.if_icmp .ge 23, 3) := by decide +kernel
theorem d_M_sample_25 : decode prog_13_method_49_code 25 = .ok (.aload_n 0, 1) := by decide +kernel
theorem d_M_sample_26 : decode prog_13_method_49_code 26 = .ok (.getfield 37, 3) := by decide +kernel
theorem d_M_sample_29 : decode prog_13_method_49_code 29 = .ok (.sipush 256, 3) := by decide +kernel
theorem d_M_sample_32 : decode prog_13_method_49_code 32 = .ok (.iload_n 1, 1) := by decide +kernel
theorem d_M_sample_33 : decode prog_13_method_49_code 33 = .ok (.imul, 1) := by decide +kernel
theorem d_M_sample_34 : decode prog_13_method_49_code 34 = .ok (.bipush 16, 2) := by decide +kernel
theorem d_M_sample_36 : decode prog_13_method_49_code 36 = .ok (.iload_n 3, 1) := by decide +kernel
theorem d_M_sample_37 : decode prog_13_method_49_code 37 = .ok (.imul, 1) := by decide +kernel
theorem d_M_sample_38 : decode prog_13_method_49_code 38 = .ok (.iadd, 1) := by decide +kernel
theorem d_M_sample_39 : decode prog_13_method_49_code 39 = .ok (.iload_n 2, 1) := by decide +kernel
theorem d_M_sample_40 : decode prog_13_method_49_code 40 = .ok (.iadd, 1) := by decide +kernel
theorem d_M_sample_41 : decode prog_13_method_49_code 41 = .ok (.iaload, 1) := by decide +kernel
theorem d_M_sample_42 : decode prog_13_method_49_code 42 = .ok (.goto 4, 3) := by decide +kernel
theorem d_M_sample_45 : decode prog_13_method_49_code 45 = .ok (.iconst (-1), 1) := by decide +kernel
theorem d_M_sample_46 : decode prog_13_method_49_code 46 = .ok (.ireturn, 1) := by decide +kernel
theorem d_M_block_0 : decode prog_13_method_50_code 0 = .ok (.aload_n 0, 1) := by decide +kernel
theorem d_M_block_1 : decode prog_13_method_50_code 1 = .ok (.iload_n 1, 1) := by decide +kernel
theorem d_M_block_2 : decode prog_13_method_50_code 2 = .ok (.iload_n 2, 1) := by decide +kernel
theorem d_M_block_3 : decode prog_13_method_50_code 3 = .ok (.invokevirtual 277, 3) := by decide +kernel
theorem d_M_block_6 : decode prog_13_method_50_code 6 = .ok (.ifCond .eq 38, 3) := by decide +kernel
theorem d_M_block_9 : decode prog_13_method_50_code 9 = .ok (.iload_n 3, 1) := by decide +kernel
theorem d_M_block_10 : decode prog_13_method_50_code 10 = .ok (.ifCond .lt 34, 3) := by decide +kernel
theorem d_M_block_13 : decode prog_13_method_50_code 13 = .ok (.iload_n 3, 1) := by decide +kernel
theorem d_M_block_14 : decode prog_13_method_50_code 14 = .ok (.iconst 3, 1) := by decide +kernel
theorem d_M_block_15 : decode prog_13_method_50_code 15 = .ok (.if_icmp .gt 29, 3) := by decide +kernel
theorem d_M_block_18 : decode prog_13_method_50_code 18 = .ok (.aload_n 0, 1) := by decide +kernel
theorem d_M_block_19 : decode prog_13_method_50_code 19 = .ok (.getfield 46, 3) := by decide +kernel
theorem d_M_block_22 : decode prog_13_method_50_code 22 = .ok (.iconst 4, 1) := by decide +kernel
theorem d_M_block_23 : decode prog_13_method_50_code 23 = .ok (.aload_n 0, 1) := by decide +kernel
theorem d_M_block_24 : decode prog_13_method_50_code 24 = .ok (.getfield 43, 3) := by decide +kernel
theorem d_M_block_27 : decode prog_13_method_50_code 27 = .ok (.iload_n 2, 1) := by decide +kernel
theorem d_M_block_28 : decode prog_13_method_50_code 28 = .ok (.iconst 4, 1) := by decide +kernel
theorem d_M_block_29 : decode prog_13_method_50_code 29 = .ok (.idiv, 1) := by decide +kernel
theorem d_M_block_30 : decode prog_13_method_50_code 30 = .ok (.iconst 4, 1) := by decide +kernel
theorem d_M_block_31 : decode prog_13_method_50_code 31 = .ok (.imul, 1) := by decide +kernel
theorem d_M_block_32 : decode prog_13_method_50_code 32 = .ok (.iload_n 1, 1) := by decide +kernel
theorem d_M_block_33 : decode prog_13_method_50_code 33 = .ok (.iconst 4, 1) := by decide +kernel
theorem d_M_block_34 : decode prog_13_method_50_code 34 = .ok (.idiv, 1) := by decide +kernel
theorem d_M_block_35 : decode prog_13_method_50_code 35 = .ok (.iadd, 1) := by decide +kernel
theorem d_M_block_36 : decode prog_13_method_50_code 36 = .ok (.iaload, 1) := by decide +kernel
theorem d_M_block_37 : decode prog_13_method_50_code 37 = .ok (.imul, 1) := by decide +kernel
theorem d_M_block_38 : decode prog_13_method_50_code 38 = .ok (.iload_n 3, 1) := by decide +kernel
theorem d_M_block_39 : decode prog_13_method_50_code 39 = .ok (.iadd, 1) := by decide +kernel
theorem d_M_block_40 : decode prog_13_method_50_code 40 = .ok (.iaload, 1) := by decide +kernel
theorem d_M_block_41 : decode prog_13_method_50_code 41 = .ok (.goto 4, 3) := by decide +kernel
theorem d_M_block_44 : decode prog_13_method_50_code 44 = .ok (.iconst (-1), 1) := by decide +kernel
theorem d_M_block_45 : decode prog_13_method_50_code 45 = .ok (.ireturn, 1) := by decide +kernel
theorem d_M_blocks_0 : decode prog_13_method_51_code 0 = .ok (.aload_n 0, 1) := by decide +kernel
theorem d_M_blocks_1 : decode prog_13_method_51_code 1 = .ok (.getfield 108, 3) := by decide +kernel
theorem d_M_blocks_4 : decode prog_13_method_51_code 4 = .ok (.ifCond .eq 10, 3) := by decide +kernel
theorem d_M_blocks_7 : decode prog_13_method_51_code 7 = .ok (.aload_n 0, 1) := by decide +kernel
theorem d_M_blocks_8 : decode prog_13_method_51_code 8 = .ok (.getfield 223, 3) := by decide +kernel
theorem d_M_blocks_11 : decode prog_13_method_51_code 11 = .ok (.goto 4, 3) := by decide +kernel
theorem d_M_blocks_14 : decode prog_13_method_51_code 14 = .ok (.iconst 0, 1) := by decide +kernel
theorem d_M_blocks_15 : decode prog_13_method_51_code 15 = .ok (.ireturn, 1) := by decide +kernel
theorem d_M_symbols_0 : decode prog_13_method_52_code 0 = .ok (.aload_n 0, 1) := by decide +kernel
theorem d_M_symbols_1 : decode prog_13_method_52_code 1 = .ok (.getfield 108, 3) := by decide +kernel
theorem d_M_symbols_4 : decode prog_13_method_52_code 4 = .ok (.ifCond .eq 10, 3) := by decide +kernel
theorem d_M_symbols_7 : decode prog_13_method_52_code 7 = .ok (.aload_n 0, 1) := by decide +kernel
theorem d_M_symbols_8 : decode prog_13_method_52_code 8 = .ok (.getfield 210, 3) := by decide +kernel
theorem d_M_symbols_11 : decode prog_13_method_52_code 11 = .ok (.goto 4, 3) := by decide +kernel
theorem d_M_symbols_14 : decode prog_13_method_52_code 14 = .ok (.iconst 0, 1) := by decide +kernel
theorem d_M_symbols_15 : decode prog_13_method_52_code 15 = .ok (.ireturn, 1) := by decide +kernel
theorem d_M_taken_0 : decode prog_13_method_53_code 0 = .ok (.aload_n 0, 1) := by decide +kernel
theorem d_M_taken_1 : decode prog_13_method_53_code 1 = .ok (.getfield 108, 3) := by decide +kernel
theorem d_M_taken_4 : decode prog_13_method_53_code 4 = .ok (.ifCond .eq 10, 3) := by decide +kernel
theorem d_M_taken_7 : decode prog_13_method_53_code 7 = .ok (.aload_n 0, 1) := by decide +kernel
theorem d_M_taken_8 : decode prog_13_method_53_code 8 = .ok (.getfield 201, 3) := by decide +kernel
theorem d_M_taken_11 : decode prog_13_method_53_code 11 = .ok (.goto 4, 3) := by decide +kernel
theorem d_M_taken_14 : decode prog_13_method_53_code 14 = .ok (.iconst 0, 1) := by decide +kernel
theorem d_M_taken_15 : decode prog_13_method_53_code 15 = .ok (.ireturn, 1) := by decide +kernel
theorem d_M_table_0 : decode prog_13_method_54_code 0 = .ok (.aload_n 0, 1) := by decide +kernel
theorem d_M_table_1 : decode prog_13_method_54_code 1 = .ok (.getfield 108, 3) := by decide +kernel
theorem d_M_table_4 : decode prog_13_method_54_code 4 = .ok (.ifCond .eq 39, 3) := by decide +kernel
theorem d_M_table_7 : decode prog_13_method_54_code 7 = .ok (.iload_n 1, 1) := by decide +kernel
theorem d_M_table_8 : decode prog_13_method_54_code 8 = .ok (.ifCond .lt 35, 3) := by decide +kernel
theorem d_M_table_11 : decode prog_13_method_54_code 11 = .ok (.iload_n 1, 1) := by decide +kernel
theorem d_M_table_12 : decode prog_13_method_54_code 12 = .ok (.bipush 18, 2) := by decide +kernel
theorem d_M_table_14 : decode prog_13_method_54_code 14 = .ok (.if_icmp .gt 29, 3) := by decide +kernel
theorem d_M_table_17 : decode prog_13_method_54_code 17 = .ok (.iload_n 2, 1) := by decide +kernel
theorem d_M_table_18 : decode prog_13_method_54_code 18 = .ok (.ifCond .lt 25, 3) := by decide +kernel
theorem d_M_table_21 : decode prog_13_method_54_code 21 = .ok (.iload_n 2, 1) := by decide +kernel
theorem d_M_table_22 : decode prog_13_method_54_code 22 = .ok (.iload_n 1, 1) := by decide +kernel
theorem d_M_table_23 : decode prog_13_method_54_code 23 = .ok (.invokestatic 216, 3) := by decide +kernel
theorem d_M_table_26 : decode prog_13_method_54_code 26 = .ok (.if_icmp .ge 17, 3) := by decide +kernel
theorem d_M_table_29 : decode prog_13_method_54_code 29 = .ok (.aload_n 0, 1) := by decide +kernel
theorem d_M_table_30 : decode prog_13_method_54_code 30 = .ok (.getfield 31, 3) := by decide +kernel
theorem d_M_table_33 : decode prog_13_method_54_code 33 = .ok (.bipush 16, 2) := by decide +kernel
theorem d_M_table_35 : decode prog_13_method_54_code 35 = .ok (.iload_n 1, 1) := by decide +kernel
theorem d_M_table_36 : decode prog_13_method_54_code 36 = .ok (.imul, 1) := by decide +kernel
theorem d_M_table_37 : decode prog_13_method_54_code 37 = .ok (.iload_n 2, 1) := by decide +kernel
theorem d_M_table_38 : decode prog_13_method_54_code 38 = .ok (.iadd, 1) := by decide +kernel
theorem d_M_table_39 : decode prog_13_method_54_code 39 = .ok (.iaload, 1) := by decide +kernel
theorem d_M_table_40 : decode prog_13_method_54_code 40 = .ok (.goto 4, 3) := by decide +kernel
theorem d_M_table_43 : decode prog_13_method_54_code 43 = .ok (.iconst (-1), 1) := by decide +kernel
theorem d_M_table_44 : decode prog_13_method_54_code 44 = .ok (.ireturn, 1) := by decide +kernel
