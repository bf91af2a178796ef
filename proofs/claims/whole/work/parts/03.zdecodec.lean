/-! decode rows, written by a program -/
theorem d_H_readUnit_77 : decode prog_7_method_3_code 77 = .ok (.iload_n 3, 1) := by decide +kernel
theorem d_H_readUnit_78 : decode prog_7_method_3_code 78 = .ok (.iload_n 3, 1) := by decide +kernel
theorem d_H_readUnit_79 : decode prog_7_method_3_code 79 = .ok (.iload_n 2, 1) := by decide +kernel
theorem d_H_readUnit_80 : decode prog_7_method_3_code 80 = .ok (.iadd, 1) := by decide +kernel
theorem d_H_readUnit_81 : decode prog_7_method_3_code 81 = .ok (.invokevirtual 44, 3) := by decide +kernel
theorem d_H_readUnit_84 : decode prog_7_method_3_code 84 = .ok (.iload_n 1, 1) := by decide +kernel
theorem d_H_readUnit_85 : decode prog_7_method_3_code 85 = .ok (.iconst 3, 1) := by decide +kernel
theorem d_H_readUnit_86 : decode prog_7_method_3_code 86 = .ok (.ishr, 1) := by decide +kernel
theorem d_H_readUnit_87 : decode prog_7_method_3_code 87 = .ok (.istore 4, 2) := by decide +kernel
theorem d_H_readUnit_89 : decode prog_7_method_3_code 89 = .ok (.iload 4, 2) := by decide +kernel
theorem d_H_readUnit_91 : decode prog_7_method_3_code 91 = .ok (.iconst 1, 1) := by decide +kernel
theorem d_H_readUnit_92 : decode prog_7_method_3_code 92 = .ok (.if_icmp .ne 8, 3) := by decide +kernel
theorem d_H_readUnit_95 : decode prog_7_method_3_code 95 = .ok (.aload_n 0, 1) := by decide +kernel
theorem d_H_readUnit_96 : decode prog_7_method_3_code 96 = .ok (.invokevirtual 68, 3) := by decide +kernel
theorem d_H_readUnit_99 : decode prog_7_method_3_code 99 = .ok (.ireturn, 1) := by decide +kernel
theorem d_H_readUnit_100 : decode prog_7_method_3_code 100 = .ok (.iload 4, 2) := by decide +kernel
theorem d_H_readUnit_102 : decode prog_7_method_3_code 102 = .ok (.bipush 6, 2) := by decide +kernel
theorem d_H_readUnit_104 : decode prog_7_method_3_code 104 = .ok (.if_icmp .ne 20, 3) := by decide +kernel
theorem d_H_readUnit_107 : decode prog_7_method_3_code 107 = .ok (.aload_n 0, 1) := by decide +kernel
theorem d_H_readUnit_108 : decode prog_7_method_3_code 108 = .ok (.getfield 33, 3) := by decide +kernel
theorem d_H_readUnit_111 : decode prog_7_method_3_code 111 = .ok (.ifCond .eq 10, 3) := by decide +kernel
theorem d_H_readUnit_114 : decode prog_7_method_3_code 114 = .ok (.aload_n 0, 1) := by decide +kernel
theorem d_H_readUnit_115 : decode prog_7_method_3_code 115 = .ok (.invokevirtual 71, 3) := by decide +kernel
theorem d_H_readUnit_118 : decode prog_7_method_3_code 118 = .ok (.goto 5, 3) := by decide +kernel
theorem d_H_readUnit_121 : decode prog_7_method_3_code 121 = .ok (.bipush 7, 2) := by decide +kernel
theorem d_H_readUnit_123 : decode prog_7_method_3_code 123 = .ok (.ireturn, 1) := by decide +kernel
theorem d_H_readUnit_124 : decode prog_7_method_3_code 124 = .ok (.iconst 0, 1) := by decide +kernel
theorem d_H_readUnit_125 : decode prog_7_method_3_code 125 = .ok (.ireturn, 1) := by decide +kernel
theorem d_H_read_0 : decode prog_7_method_2_code 0 = .ok (.aload_n 0, 1) := by decide +kernel
theorem d_H_read_1 : decode prog_7_method_2_code 1 = .ok (.iconst 0, 1) := by decide +kernel
theorem d_H_read_2 : decode prog_7_method_2_code 2 = .ok (.putfield 33, 3) := by decide +kernel
theorem d_H_read_5 : decode prog_7_method_2_code 5 = .ok (.aload_n 0, 1) := by decide +kernel
theorem d_H_read_6 : decode prog_7_method_2_code 6 = .ok (.iconst 0, 1) := by decide +kernel
theorem d_H_read_7 : decode prog_7_method_2_code 7 = .ok (.putfield 37, 3) := by decide +kernel
theorem d_H_read_10 : decode prog_7_method_2_code 10 = .ok (.aload_n 0, 1) := by decide +kernel
theorem d_H_read_11 : decode prog_7_method_2_code 11 = .ok (.getfield 26, 3) := by decide +kernel
theorem d_H_read_14 : decode prog_7_method_2_code 14 = .ok (.iconst 0, 1) := by decide +kernel
theorem d_H_read_15 : decode prog_7_method_2_code 15 = .ok (.aload_n 0, 1) := by decide +kernel
theorem d_H_read_16 : decode prog_7_method_2_code 16 = .ok (.getfield 9, 3) := by decide +kernel
theorem d_H_read_19 : decode prog_7_method_2_code 19 = .ok (.getfield 40, 3) := by decide +kernel
theorem d_H_read_22 : decode prog_7_method_2_code 22 = .ok (.invokevirtual 44, 3) := by decide +kernel
theorem d_H_read_25 : decode prog_7_method_2_code 25 = .ok (.iconst 0, 1) := by decide +kernel
theorem d_H_read_26 : decode prog_7_method_2_code 26 = .ok (.istore_n 1, 1) := by decide +kernel
theorem d_H_read_27 : decode prog_7_method_2_code 27 = .ok (.iload_n 1, 1) := by decide +kernel
theorem d_H_read_28 : decode prog_7_method_2_code 28 = .ok (.sipush 200, 3) := by decide +kernel
theorem d_H_read_31 : decode prog_7_method_2_code 31 = .ok (.if_icmp .gt 27, 3) := by decide +kernel
theorem d_H_read_34 : decode prog_7_method_2_code 34 = .ok (.aload_n 0, 1) := by decide +kernel
theorem d_H_read_35 : decode prog_7_method_2_code 35 = .ok (.invokevirtual 48, 3) := by decide +kernel
theorem d_H_read_38 : decode prog_7_method_2_code 38 = .ok (.istore_n 2, 1) := by decide +kernel
theorem d_H_read_39 : decode prog_7_method_2_code 39 = .ok (.iload_n 2, 1) := by decide +kernel
theorem d_H_read_40 : decode prog_7_method_2_code 40 = .ok (.ifCond .ne 10, 3) := by decide +kernel
theorem d_H_read_43 : decode prog_7_method_2_code 43 = .ok (.aload_n 0, 1) := by decide +kernel
theorem d_H_read_44 : decode prog_7_method_2_code 44 = .ok (.getfield 37, 3) := by decide +kernel
theorem d_H_read_47 : decode prog_7_method_2_code 47 = .ok (.ifCond .eq 5, 3) := by decide +kernel
theorem d_H_read_50 : decode prog_7_method_2_code 50 = .ok (.iload_n 2, 1) := by decide +kernel
theorem d_H_read_51 : decode prog_7_method_2_code 51 = .ok (.ireturn, 1) := by decide +kernel
theorem d_H_read_52 : decode prog_7_method_2_code 52 = .ok (.iinc 1 1, 3) := by decide +kernel
theorem d_H_read_55 : decode prog_7_method_2_code 55 = .ok (.goto (-28), 3) := by decide +kernel
theorem d_H_read_58 : decode prog_7_method_2_code 58 = .ok (.bipush 7, 2) := by decide +kernel
theorem d_H_read_60 : decode prog_7_method_2_code 60 = .ok (.ireturn, 1) := by decide +kernel
theorem d_B_readStretch_0 : decode prog_2_method_3_code 0 = .ok (.iload_n 3, 1) := by decide +kernel
theorem d_B_readStretch_1 : decode prog_2_method_3_code 1 = .ok (.iconst (-1), 1) := by decide +kernel
theorem d_B_readStretch_2 : decode prog_2_method_3_code 2 = .ok (.if_icmp .ne 7, 3) := by decide +kernel
theorem d_B_readStretch_5 : decode prog_2_method_3_code 5 = .ok (.iconst 1, 1) := by decide +kernel
theorem d_B_readStretch_6 : decode prog_2_method_3_code 6 = .ok (.goto 11, 3) := by decide +kernel
theorem d_B_readStretch_9 : decode prog_2_method_3_code 9 = .ok (.aload_n 0, 1) := by decide +kernel
theorem d_B_readStretch_10 : decode prog_2_method_3_code 10 = .ok (.getfield 24, 3) := by decide +kernel
theorem d_B_readStretch_13 : decode prog_2_method_3_code 13 = .ok (.iload_n 3, 1) := by decide +kernel
theorem d_B_readStretch_14 : decode prog_2_method_3_code 14 = .ok (.iaload, 1) := by decide +kernel
theorem d_B_readStretch_15 : decode prog_2_method_3_code 15 = .ok (.iconst 1, 1) := by decide +kernel
theorem d_B_readStretch_16 : decode prog_2_method_3_code 16 = .ok (.iadd, 1) := by decide +kernel
theorem d_B_readStretch_17 : decode prog_2_method_3_code 17 = .ok (.istore 4, 2) := by decide +kernel
theorem d_B_readStretch_19 : decode prog_2_method_3_code 19 = .ok (.iload_n 1, 1) := by decide +kernel
theorem d_B_readStretch_20 : decode prog_2_method_3_code 20 = .ok (.istore 5, 2) := by decide +kernel
theorem d_B_readStretch_22 : decode prog_2_method_3_code 22 = .ok (.iconst 0, 1) := by decide +kernel
theorem d_B_readStretch_23 : decode prog_2_method_3_code 23 = .ok (.istore 6, 2) := by decide +kernel
theorem d_B_readStretch_25 : decode prog_2_method_3_code 25 = .ok (.iload 6, 2) := by decide +kernel
theorem d_B_readStretch_27 : decode prog_2_method_3_code 27 = .ok (.bipush 16, 2) := by decide +kernel
theorem d_B_readStretch_29 : decode prog_2_method_3_code 29 = .ok (.if_icmp .gt 166, 3) := by decide +kernel
theorem d_B_readStretch_32 : decode prog_2_method_3_code 32 = .ok (.iload 5, 2) := by decide +kernel
theorem d_B_readStretch_34 : decode prog_2_method_3_code 34 = .ok (.iload_n 2, 1) := by decide +kernel
theorem d_B_readStretch_35 : decode prog_2_method_3_code 35 = .ok (.if_icmp .ge 160, 3) := by decide +kernel
theorem d_B_readStretch_38 : decode prog_2_method_3_code 38 = .ok (.iload_n 2, 1) := by decide +kernel
theorem d_B_readStretch_39 : decode prog_2_method_3_code 39 = .ok (.iload 5, 2) := by decide +kernel
theorem d_B_readStretch_41 : decode prog_2_method_3_code 41 = .ok (.isub, 1) := by decide +kernel
theorem d_B_readStretch_42 : decode prog_2_method_3_code 42 = .ok (.iconst 2, 1) := by decide +kernel
theorem d_B_readStretch_43 : decode prog_2_method_3_code 43 = .ok (.if_icmp .lt 18, 3) := by decide +kernel
theorem d_B_readStretch_46 : decode prog_2_method_3_code 46 = .ok (.aload_n 0, 1) := by decide +kernel
theorem d_B_readStretch_47 : decode prog_2_method_3_code 47 = .ok (.getfield 30, 3) := by decide +kernel
theorem d_B_readStretch_50 : decode prog_2_method_3_code 50 = .ok (.bipush 16, 2) := by decide +kernel
theorem d_B_readStretch_52 : decode prog_2_method_3_code 52 = .ok (.if_icmp .ge 9, 3) := by decide +kernel
theorem d_B_readStretch_55 : decode prog_2_method_3_code 55 = .ok (.iload 4, 2) := by decide +kernel
theorem d_B_readStretch_57 : decode prog_2_method_3_code 57 = .ok (.iconst 4, 1) := by decide +kernel
theorem d_B_readStretch_58 : decode prog_2_method_3_code 58 = .ok (.if_icmp .le 5, 3) := by decide +kernel
theorem d_B_readStretch_61 : decode prog_2_method_3_code 61 = .ok (.iconst 0, 1) := by decide +kernel
theorem d_B_readStretch_62 : decode prog_2_method_3_code 62 = .ok (.ireturn, 1) := by decide +kernel
theorem d_B_readStretch_63 : decode prog_2_method_3_code 63 = .ok (.aload_n 0, 1) := by decide +kernel
theorem d_B_readStretch_64 : decode prog_2_method_3_code 64 = .ok (.getfield 27, 3) := by decide +kernel
theorem d_B_readStretch_67 : decode prog_2_method_3_code 67 = .ok (.iload 5, 2) := by decide +kernel
theorem d_B_readStretch_69 : decode prog_2_method_3_code 69 = .ok (.iaload, 1) := by decide +kernel
theorem d_B_readStretch_70 : decode prog_2_method_3_code 70 = .ok (.ifCond .ne 10, 3) := by decide +kernel
theorem d_B_readStretch_73 : decode prog_2_method_3_code 73 = .ok (.iload_n 2, 1) := by decide +kernel
theorem d_B_readStretch_74 : decode prog_2_method_3_code 74 = .ok (.iload 5, 2) := by decide +kernel
theorem d_B_readStretch_76 : decode prog_2_method_3_code 76 = .ok (.isub, 1) := by decide +kernel
theorem d_B_readStretch_77 : decode prog_2_method_3_code 77 = .ok (.goto 10, 3) := by decide +kernel
theorem d_B_readStretch_80 : decode prog_2_method_3_code 80 = .ok (.aload_n 0, 1) := by decide +kernel
theorem d_B_readStretch_81 : decode prog_2_method_3_code 81 = .ok (.getfield 27, 3) := by decide +kernel
theorem d_B_readStretch_84 : decode prog_2_method_3_code 84 = .ok (.iload 5, 2) := by decide +kernel
theorem d_B_readStretch_86 : decode prog_2_method_3_code 86 = .ok (.iaload, 1) := by decide +kernel
theorem d_B_readStretch_87 : decode prog_2_method_3_code 87 = .ok (.istore 7, 2) := by decide +kernel
theorem d_B_readStretch_89 : decode prog_2_method_3_code 89 = .ok (.iload 7, 2) := by decide +kernel
theorem d_B_readStretch_91 : decode prog_2_method_3_code 91 = .ok (.iconst 2, 1) := by decide +kernel
theorem d_B_readStretch_92 : decode prog_2_method_3_code 92 = .ok (.if_icmp .lt 12, 3) := by decide +kernel
theorem d_B_readStretch_95 : decode prog_2_method_3_code 95 = .ok (.iload 7, 2) := by decide +kernel
theorem d_B_readStretch_97 : decode prog_2_method_3_code 97 = .ok (.iload_n 2, 1) := by decide +kernel
theorem d_B_readStretch_98 : decode prog_2_method_3_code 98 = .ok (.iload 5, 2) := by decide +kernel
theorem d_B_readStretch_100 : decode prog_2_method_3_code 100 = .ok (.isub, 1) := by decide +kernel
theorem d_B_readStretch_101 : decode prog_2_method_3_code 101 = .ok (.if_icmp .le 5, 3) := by decide +kernel
theorem d_B_readStretch_104 : decode prog_2_method_3_code 104 = .ok (.iconst 0, 1) := by decide +kernel
theorem d_B_readStretch_105 : decode prog_2_method_3_code 105 = .ok (.ireturn, 1) := by decide +kernel
theorem d_B_readStretch_106 : decode prog_2_method_3_code 106 = .ok (.aload_n 0, 1) := by decide +kernel
theorem d_B_readStretch_107 : decode prog_2_method_3_code 107 = .ok (.getfield 11, 3) := by decide +kernel
theorem d_B_readStretch_110 : decode prog_2_method_3_code 110 = .ok (.aload_n 0, 1) := by decide +kernel
theorem d_B_readStretch_111 : decode prog_2_method_3_code 111 = .ok (.getfield 30, 3) := by decide +kernel
theorem d_B_readStretch_114 : decode prog_2_method_3_code 114 = .ok (.aload_n 0, 1) := by decide +kernel
theorem d_B_readStretch_115 : decode prog_2_method_3_code 115 = .ok (.getfield 27, 3) := by decide +kernel
theorem d_B_readStretch_118 : decode prog_2_method_3_code 118 = .ok (.iload 5, 2) := by decide +kernel
theorem d_B_readStretch_120 : decode prog_2_method_3_code 120 = .ok (.iconst 1, 1) := by decide +kernel
theorem d_B_readStretch_121 : decode prog_2_method_3_code 121 = .ok (.iadd, 1) := by decide +kernel
theorem d_B_readStretch_122 : decode prog_2_method_3_code 122 = .ok (.iaload, 1) := by decide +kernel
theorem d_B_readStretch_123 : decode prog_2_method_3_code 123 = .ok (.iastore, 1) := by decide +kernel
theorem d_B_readStretch_124 : decode prog_2_method_3_code 124 = .ok (.aload_n 0, 1) := by decide +kernel
theorem d_B_readStretch_125 : decode prog_2_method_3_code 125 = .ok (.getfield 15, 3) := by decide +kernel
theorem d_B_readStretch_128 : decode prog_2_method_3_code 128 = .ok (.aload_n 0, 1) := by decide +kernel
theorem d_B_readStretch_129 : decode prog_2_method_3_code 129 = .ok (.getfield 30, 3) := by decide +kernel
theorem d_B_readStretch_132 : decode prog_2_method_3_code 132 = .ok (.iload 5, 2) := by decide +kernel
theorem d_B_readStretch_134 : decode prog_2_method_3_code 134 = .ok (.iconst 2, 1) := by decide +kernel
theorem d_B_readStretch_135 : decode prog_2_method_3_code 135 = .ok (.iadd, 1) := by decide +kernel
theorem d_B_readStretch_136 : decode prog_2_method_3_code 136 = .ok (.iastore, 1) := by decide +kernel
theorem d_B_readStretch_137 : decode prog_2_method_3_code 137 = .ok (.aload_n 0, 1) := by decide +kernel
theorem d_B_readStretch_138 : decode prog_2_method_3_code 138 = .ok (.getfield 18, 3) := by decide +kernel
theorem d_B_readStretch_141 : decode prog_2_method_3_code 141 = .ok (.aload_n 0, 1) := by decide +kernel
theorem d_B_readStretch_142 : decode prog_2_method_3_code 142 = .ok (.getfield 30, 3) := by decide +kernel
theorem d_B_readStretch_145 : decode prog_2_method_3_code 145 = .ok (.iload 5, 2) := by decide +kernel
theorem d_B_readStretch_147 : decode prog_2_method_3_code 147 = .ok (.iload 7, 2) := by decide +kernel
theorem d_B_readStretch_149 : decode prog_2_method_3_code 149 = .ok (.iadd, 1) := by decide +kernel
theorem d_B_readStretch_150 : decode prog_2_method_3_code 150 = .ok (.iastore, 1) := by decide +kernel
theorem d_B_readStretch_151 : decode prog_2_method_3_code 151 = .ok (.aload_n 0, 1) := by decide +kernel
theorem d_B_readStretch_152 : decode prog_2_method_3_code 152 = .ok (.getfield 21, 3) := by decide +kernel
theorem d_B_readStretch_155 : decode prog_2_method_3_code 155 = .ok (.aload_n 0, 1) := by decide +kernel
theorem d_B_readStretch_156 : decode prog_2_method_3_code 156 = .ok (.getfield 30, 3) := by decide +kernel
theorem d_B_readStretch_159 : decode prog_2_method_3_code 159 = .ok (.iload_n 3, 1) := by decide +kernel
theorem d_B_readStretch_160 : decode prog_2_method_3_code 160 = .ok (.iastore, 1) := by decide +kernel
theorem d_B_readStretch_161 : decode prog_2_method_3_code 161 = .ok (.aload_n 0, 1) := by decide +kernel
theorem d_B_readStretch_162 : decode prog_2_method_3_code 162 = .ok (.getfield 24, 3) := by decide +kernel
theorem d_B_readStretch_165 : decode prog_2_method_3_code 165 = .ok (.aload_n 0, 1) := by decide +kernel
theorem d_B_readStretch_166 : decode prog_2_method_3_code 166 = .ok (.getfield 30, 3) := by decide +kernel
theorem d_B_readStretch_169 : decode prog_2_method_3_code 169 = .ok (.iload 4, 2) := by decide +kernel
theorem d_B_readStretch_171 : decode prog_2_method_3_code 171 = .ok (.iastore, 1) := by decide +kernel
theorem d_B_readStretch_172 : decode prog_2_method_3_code 172 = .ok (.aload_n 0, 1) := by decide +kernel
theorem d_B_readStretch_173 : decode prog_2_method_3_code 173 = .ok (.dup, 1) := by decide +kernel
theorem d_B_readStretch_174 : decode prog_2_method_3_code 174 = .ok (.getfield 30, 3) := by decide +kernel
theorem d_B_readStretch_177 : decode prog_2_method_3_code 177 = .ok (.iconst 1, 1) := by decide +kernel
theorem d_B_readStretch_178 : decode prog_2_method_3_code 178 = .ok (.iadd, 1) := by decide +kernel
theorem d_B_readStretch_179 : decode prog_2_method_3_code 179 = .ok (.putfield 30, 3) := by decide +kernel
theorem d_B_readStretch_182 : decode prog_2_method_3_code 182 = .ok (.iload 5, 2) := by decide +kernel
theorem d_B_readStretch_184 : decode prog_2_method_3_code 184 = .ok (.iload 7, 2) := by decide +kernel
theorem d_B_readStretch_186 : decode prog_2_method_3_code 186 = .ok (.iadd, 1) := by decide +kernel
theorem d_B_readStretch_187 : decode prog_2_method_3_code 187 = .ok (.istore 5, 2) := by decide +kernel
theorem d_B_readStretch_189 : decode prog_2_method_3_code 189 = .ok (.iinc 6 1, 3) := by decide +kernel
theorem d_B_readStretch_192 : decode prog_2_method_3_code 192 = .ok (.goto (-167), 3) := by decide +kernel
theorem d_B_readStretch_195 : decode prog_2_method_3_code 195 = .ok (.iconst 1, 1) := by decide +kernel
theorem d_B_readStretch_196 : decode prog_2_method_3_code 196 = .ok (.ireturn, 1) := by decide +kernel
theorem d_B_read_0 : decode prog_2_method_2_code 0 = .ok (.aload_n 0, 1) := by decide +kernel
theorem d_B_read_1 : decode prog_2_method_2_code 1 = .ok (.iconst 0, 1) := by decide +kernel
theorem d_B_read_2 : decode prog_2_method_2_code 2 = .ok (.putfield 30, 3) := by decide +kernel
theorem d_B_read_5 : decode prog_2_method_2_code 5 = .ok (.aload_n 0, 1) := by decide +kernel
theorem d_B_read_6 : decode prog_2_method_2_code 6 = .ok (.iconst 0, 1) := by decide +kernel
theorem d_B_read_7 : decode prog_2_method_2_code 7 = .ok (.iload_n 1, 1) := by decide +kernel
theorem d_B_read_8 : decode prog_2_method_2_code 8 = .ok (.iconst (-1), 1) := by decide +kernel
theorem d_B_read_9 : decode prog_2_method_2_code 9 = .ok (.invokevirtual 34, 3) := by decide +kernel
theorem d_B_read_12 : decode prog_2_method_2_code 12 = .ok (.ifCond .ne 5, 3) := by decide +kernel
theorem d_B_read_15 : decode prog_2_method_2_code 15 = .ok (.iconst 1, 1) := by decide +kernel
theorem d_B_read_16 : decode prog_2_method_2_code 16 = .ok (.ireturn, 1) := by decide +kernel
theorem d_B_read_17 : decode prog_2_method_2_code 17 = .ok (.iconst 0, 1) := by decide +kernel
theorem d_B_read_18 : decode prog_2_method_2_code 18 = .ok (.istore_n 2, 1) := by decide +kernel
theorem d_B_read_19 : decode prog_2_method_2_code 19 = .ok (.iload_n 2, 1) := by decide +kernel
theorem d_B_read_20 : decode prog_2_method_2_code 20 = .ok (.bipush 16, 2) := by decide +kernel
theorem d_B_read_22 : decode prog_2_method_2_code 22 = .ok (.if_icmp .ge 71, 3) := by decide +kernel
theorem d_B_read_25 : decode prog_2_method_2_code 25 = .ok (.iload_n 2, 1) := by decide +kernel
theorem d_B_read_26 : decode prog_2_method_2_code 26 = .ok (.aload_n 0, 1) := by decide +kernel
theorem d_B_read_27 : decode prog_2_method_2_code 27 = .ok (.getfield 30, 3) := by decide +kernel
theorem d_B_read_30 : decode prog_2_method_2_code 30 = .ok (.if_icmp .ge 63, 3) := by decide +kernel
theorem d_B_read_33 : decode prog_2_method_2_code 33 = .ok (.aload_n 0, 1) := by decide +kernel
theorem d_B_read_34 : decode prog_2_method_2_code 34 = .ok (.getfield 11, 3) := by decide +kernel
theorem d_B_read_37 : decode prog_2_method_2_code 37 = .ok (.iload_n 2, 1) := by decide +kernel
theorem d_B_read_38 : decode prog_2_method_2_code 38 = .ok (.iaload, 1) := by decide +kernel
theorem d_B_read_39 : decode prog_2_method_2_code 39 = .ok (.bipush 109, 2) := by decide +kernel
theorem d_B_read_41 : decode prog_2_method_2_code 41 = .ok (.if_icmp .eq 14, 3) := by decide +kernel
theorem d_B_read_44 : decode prog_2_method_2_code 44 = .ok (.aload_n 0, 1) := by decide +kernel
theorem d_B_read_45 : decode prog_2_method_2_code 45 = .ok (.getfield 11, 3) := by decide +kernel
theorem d_B_read_48 : decode prog_2_method_2_code 48 = .ok (.iload_n 2, 1) := by decide +kernel
theorem d_B_read_49 : decode prog_2_method_2_code 49 = .ok (.iaload, 1) := by decide +kernel
theorem d_B_read_50 : decode prog_2_method_2_code 50 = .ok (.bipush 114, 2) := by decide +kernel
theorem d_B_read_52 : decode prog_2_method_2_code 52 = .ok (.if_icmp .ne 7, 3) := by decide +kernel
theorem d_B_read_55 : decode prog_2_method_2_code 55 = .ok (.iconst 1, 1) := by decide +kernel
theorem d_B_read_56 : decode prog_2_method_2_code 56 = .ok (.goto 4, 3) := by decide +kernel
theorem d_B_read_59 : decode prog_2_method_2_code 59 = .ok (.iconst 0, 1) := by decide +kernel
theorem d_B_read_60 : decode prog_2_method_2_code 60 = .ok (.istore_n 3, 1) := by decide +kernel
theorem d_B_read_61 : decode prog_2_method_2_code 61 = .ok (.iload_n 3, 1) := by decide +kernel
theorem d_B_read_62 : decode prog_2_method_2_code 62 = .ok (.ifCond .eq 25, 3) := by decide +kernel
theorem d_B_read_65 : decode prog_2_method_2_code 65 = .ok (.aload_n 0, 1) := by decide +kernel
theorem d_B_read_66 : decode prog_2_method_2_code 66 = .ok (.aload_n 0, 1) := by decide +kernel
theorem d_B_read_67 : decode prog_2_method_2_code 67 = .ok (.getfield 15, 3) := by decide +kernel
theorem d_B_read_70 : decode prog_2_method_2_code 70 = .ok (.iload_n 2, 1) := by decide +kernel
theorem d_B_read_71 : decode prog_2_method_2_code 71 = .ok (.iaload, 1) := by decide +kernel
theorem d_B_read_72 : decode prog_2_method_2_code 72 = .ok (.aload_n 0, 1) := by decide +kernel
theorem d_B_read_73 : decode prog_2_method_2_code 73 = .ok (.getfield 18, 3) := by decide +kernel
theorem d_B_read_76 : decode prog_2_method_2_code 76 = .ok (.iload_n 2, 1) := by decide +kernel
theorem d_B_read_77 : decode prog_2_method_2_code 77 = .ok (.iaload, 1) := by decide +kernel
theorem d_B_read_78 : decode prog_2_method_2_code 78 = .ok (.iload_n 2, 1) := by decide +kernel
theorem d_B_read_79 : decode prog_2_method_2_code 79 = .ok (.invokevirtual 34, 3) := by decide +kernel
theorem d_B_read_82 : decode prog_2_method_2_code 82 = .ok (.ifCond .ne 5, 3) := by decide +kernel
theorem d_B_read_85 : decode prog_2_method_2_code 85 = .ok (.iconst 1, 1) := by decide +kernel
theorem d_B_read_86 : decode prog_2_method_2_code 86 = .ok (.ireturn, 1) := by decide +kernel
theorem d_B_read_87 : decode prog_2_method_2_code 87 = .ok (.iinc 2 1, 3) := by decide +kernel
theorem d_B_read_90 : decode prog_2_method_2_code 90 = .ok (.goto (-71), 3) := by decide +kernel
theorem d_B_read_93 : decode prog_2_method_2_code 93 = .ok (.iconst 0, 1) := by decide +kernel
theorem d_B_read_94 : decode prog_2_method_2_code 94 = .ok (.ireturn, 1) := by decide +kernel
theorem d_B_isBranded_0 : decode prog_2_method_6_code 0 = .ok (.aload_n 0, 1) := by decide +kernel
theorem d_B_isBranded_1 : decode prog_2_method_6_code 1 = .ok (.getfield 30, 3) := by decide +kernel
theorem d_B_isBranded_4 : decode prog_2_method_6_code 4 = .ok (.ifCond .eq 14, 3) := by decide +kernel
theorem d_B_isBranded_7 : decode prog_2_method_6_code 7 = .ok (.aload_n 0, 1) := by decide +kernel
theorem d_B_isBranded_8 : decode prog_2_method_6_code 8 = .ok (.getfield 11, 3) := by decide +kernel
theorem d_B_isBranded_11 : decode prog_2_method_6_code 11 = .ok (.iconst 0, 1) := by decide +kernel
theorem d_B_isBranded_12 : decode prog_2_method_6_code 12 = .ok (.iaload, 1) := by decide +kernel
theorem d_B_isBranded_13 : decode prog_2_method_6_code 13 = .ok (.bipush 102, 2) := by decide +kernel
theorem d_B_isBranded_15 : decode prog_2_method_6_code 15 = .ok (.if_icmp .eq 5, 3) := by decide +kernel
theorem d_B_isBranded_18 : decode prog_2_method_6_code 18 = .ok (.iconst 0, 1) := by decide +kernel
theorem d_B_isBranded_19 : decode prog_2_method_6_code 19 = .ok (.ireturn, 1) := by decide +kernel
theorem d_B_isBranded_20 : decode prog_2_method_6_code 20 = .ok (.aload_n 0, 1) := by decide +kernel
theorem d_B_isBranded_21 : decode prog_2_method_6_code 21 = .ok (.getfield 15, 3) := by decide +kernel
theorem d_B_isBranded_24 : decode prog_2_method_6_code 24 = .ok (.iconst 0, 1) := by decide +kernel
theorem d_B_isBranded_25 : decode prog_2_method_6_code 25 = .ok (.iaload, 1) := by decide +kernel
theorem d_B_isBranded_26 : decode prog_2_method_6_code 26 = .ok (.istore_n 1, 1) := by decide +kernel
theorem d_B_isBranded_27 : decode prog_2_method_6_code 27 = .ok (.iload_n 1, 1) := by decide +kernel
theorem d_B_isBranded_28 : decode prog_2_method_6_code 28 = .ok (.aload_n 0, 1) := by decide +kernel
theorem d_B_isBranded_29 : decode prog_2_method_6_code 29 = .ok (.getfield 18, 3) := by decide +kernel
theorem d_B_isBranded_32 : decode prog_2_method_6_code 32 = .ok (.iconst 0, 1) := by decide +kernel
theorem d_B_isBranded_33 : decode prog_2_method_6_code 33 = .ok (.iaload, 1) := by decide +kernel
theorem d_B_isBranded_34 : decode prog_2_method_6_code 34 = .ok (.if_icmp .ge 22, 3) := by decide +kernel
theorem d_B_isBranded_37 : decode prog_2_method_6_code 37 = .ok (.aload_n 0, 1) := by decide +kernel
theorem d_B_isBranded_38 : decode prog_2_method_6_code 38 = .ok (.getfield 27, 3) := by decide +kernel
theorem d_B_isBranded_41 : decode prog_2_method_6_code 41 = .ok (.iload_n 1, 1) := by decide +kernel
theorem d_B_isBranded_42 : decode prog_2_method_6_code 42 = .ok (.iaload, 1) := by decide +kernel
theorem d_B_isBranded_43 : decode prog_2_method_6_code 43 = .ok (.bipush 118, 2) := by decide +kernel
theorem d_B_isBranded_45 : decode prog_2_method_6_code 45 = .ok (.if_icmp .ne 5, 3) := by decide +kernel
theorem d_B_isBranded_48 : decode prog_2_method_6_code 48 = .ok (.iconst 1, 1) := by decide +kernel
theorem d_B_isBranded_49 : decode prog_2_method_6_code 49 = .ok (.ireturn, 1) := by decide +kernel
theorem d_B_isBranded_50 : decode prog_2_method_6_code 50 = .ok (.iinc 1 1, 3) := by decide +kernel
theorem d_B_isBranded_53 : decode prog_2_method_6_code 53 = .ok (.goto (-26), 3) := by decide +kernel
theorem d_B_isBranded_56 : decode prog_2_method_6_code 56 = .ok (.iconst 0, 1) := by decide +kernel
theorem d_B_isBranded_57 : decode prog_2_method_6_code 57 = .ok (.ireturn, 1) := by decide +kernel
theorem d_B_first_0 : decode prog_2_method_4_code 0 = .ok (.iconst 0, 1) := by decide +kernel
theorem d_B_first_1 : decode prog_2_method_4_code 1 = .ok (.istore_n 3, 1) := by decide +kernel
theorem d_B_first_2 : decode prog_2_method_4_code 2 = .ok (.iload_n 3, 1) := by decide +kernel
theorem d_B_first_3 : decode prog_2_method_4_code 3 = .ok (.aload_n 0, 1) := by decide +kernel
theorem d_B_first_4 : decode prog_2_method_4_code 4 = .ok (.getfield 30, 3) := by decide +kernel
theorem d_B_first_7 : decode prog_2_method_4_code 7 = .ok (.if_icmp .ge 31, 3) := by decide +kernel
theorem d_B_first_10 : decode prog_2_method_4_code 10 = .ok (.aload_n 0, 1) := by decide +kernel
theorem d_B_first_11 : decode prog_2_method_4_code 11 = .ok (.getfield 21, 3) := by decide +kernel
theorem d_B_first_14 : decode prog_2_method_4_code 14 = .ok (.iload_n 3, 1) := by decide +kernel
theorem d_B_first_15 : decode prog_2_method_4_code 15 = .ok (.iaload, 1) := by decide +kernel
theorem d_B_first_16 : decode prog_2_method_4_code 16 = .ok (.iload_n 1, 1) := by decide +kernel
theorem d_B_first_17 : decode prog_2_method_4_code 17 = .ok (.if_icmp .ne 15, 3) := by decide +kernel
theorem d_B_first_20 : decode prog_2_method_4_code 20 = .ok (.aload_n 0, 1) := by decide +kernel
theorem d_B_first_21 : decode prog_2_method_4_code 21 = .ok (.getfield 11, 3) := by decide +kernel
theorem d_B_first_24 : decode prog_2_method_4_code 24 = .ok (.iload_n 3, 1) := by decide +kernel
theorem d_B_first_25 : decode prog_2_method_4_code 25 = .ok (.iaload, 1) := by decide +kernel
theorem d_B_first_26 : decode prog_2_method_4_code 26 = .ok (.iload_n 2, 1) := by decide +kernel
theorem d_B_first_27 : decode prog_2_method_4_code 27 = .ok (.if_icmp .ne 5, 3) := by decide +kernel
theorem d_B_first_30 : decode prog_2_method_4_code 30 = .ok (.iload_n 3, 1) := by decide +kernel
theorem d_B_first_31 : decode prog_2_method_4_code 31 = .ok (.ireturn, 1) := by decide +kernel
theorem d_B_first_32 : decode prog_2_method_4_code 32 = .ok (.iinc 3 1, 3) := by decide +kernel
theorem d_B_first_35 : decode prog_2_method_4_code 35 = .ok (.goto (-33), 3) := by decide +kernel
theorem d_B_first_38 : decode prog_2_method_4_code 38 = .ok (.iconst (-1), 1) := by decide +kernel
theorem d_B_first_39 : decode prog_2_method_4_code 39 = .ok (.ireturn, 1) := by decide +kernel
theorem d_B_contentLength_0 : decode prog_2_method_7_code 0 = .ok (.aload_n 0, 1) := by decide +kernel
theorem d_B_contentLength_1 : decode prog_2_method_7_code 1 = .ok (.getfield 18, 3) := by decide +kernel
theorem d_B_contentLength_4 : decode prog_2_method_7_code 4 = .ok (.iload_n 1, 1) := by decide +kernel
theorem d_B_contentLength_5 : decode prog_2_method_7_code 5 = .ok (.iaload, 1) := by decide +kernel
theorem d_B_contentLength_6 : decode prog_2_method_7_code 6 = .ok (.aload_n 0, 1) := by decide +kernel
theorem d_B_contentLength_7 : decode prog_2_method_7_code 7 = .ok (.getfield 15, 3) := by decide +kernel
theorem d_B_contentLength_10 : decode prog_2_method_7_code 10 = .ok (.iload_n 1, 1) := by decide +kernel
theorem d_B_contentLength_11 : decode prog_2_method_7_code 11 = .ok (.iaload, 1) := by decide +kernel
theorem d_B_contentLength_12 : decode prog_2_method_7_code 12 = .ok (.isub, 1) := by decide +kernel
theorem d_B_contentLength_13 : decode prog_2_method_7_code 13 = .ok (.ireturn, 1) := by decide +kernel
theorem d_I_readPairs_0 : decode prog_8_method_4_code 0 = .ok (.aload_n 0, 1) := by decide +kernel
theorem d_I_readPairs_1 : decode prog_8_method_4_code 1 = .ok (.iconst 0, 1) := by decide +kernel
theorem d_I_readPairs_2 : decode prog_8_method_4_code 2 = .ok (.putfield 82, 3) := by decide +kernel
theorem d_I_readPairs_5 : decode prog_8_method_4_code 5 = .ok (.iconst 0, 1) := by decide +kernel
theorem d_I_readPairs_6 : decode prog_8_method_4_code 6 = .ok (.istore_n 2, 1) := by decide +kernel
theorem d_I_readPairs_7 : decode prog_8_method_4_code 7 = .ok (.iload_n 2, 1) := by decide +kernel
theorem d_I_readPairs_8 : decode prog_8_method_4_code 8 = .ok (.iload_n 1, 1) := by decide +kernel
theorem d_I_readPairs_9 : decode prog_8_method_4_code 9 = .ok (.if_icmp .ge 88, 3) := by decide +kernel
theorem d_I_readPairs_12 : decode prog_8_method_4_code 12 = .ok (.aload_n 0, 1) := by decide +kernel
theorem d_I_readPairs_13 : decode prog_8_method_4_code 13 = .ok (.getfield 27, 3) := by decide +kernel
theorem d_I_readPairs_16 : decode prog_8_method_4_code 16 = .ok (.invokevirtual 71, 3) := by decide +kernel
theorem d_I_readPairs_19 : decode prog_8_method_4_code 19 = .ok (.istore_n 3, 1) := by decide +kernel
theorem d_I_readPairs_20 : decode prog_8_method_4_code 20 = .ok (.aload_n 0, 1) := by decide +kernel
theorem d_I_readPairs_21 : decode prog_8_method_4_code 21 = .ok (.getfield 27, 3) := by decide +kernel
theorem d_I_readPairs_24 : decode prog_8_method_4_code 24 = .ok (.invokevirtual 71, 3) := by decide +kernel
theorem d_I_readPairs_27 : decode prog_8_method_4_code 27 = .ok (.istore 4, 2) := by decide +kernel
theorem d_I_readPairs_29 : decode prog_8_method_4_code 29 = .ok (.iload 4, 2) := by decide +kernel
theorem d_I_readPairs_31 : decode prog_8_method_4_code 31 = .ok (.ifCond .ge 5, 3) := by decide +kernel
theorem d_I_readPairs_34 : decode prog_8_method_4_code 34 = .ok (.iconst 3, 1) := by decide +kernel
theorem d_I_readPairs_35 : decode prog_8_method_4_code 35 = .ok (.ireturn, 1) := by decide +kernel
theorem d_I_readPairs_36 : decode prog_8_method_4_code 36 = .ok (.iload_n 3, 1) := by decide +kernel
theorem d_I_readPairs_37 : decode prog_8_method_4_code 37 = .ok (.iload 4, 2) := by decide +kernel
theorem d_I_readPairs_39 : decode prog_8_method_4_code 39 = .ok (.iadd, 1) := by decide +kernel
theorem d_I_readPairs_40 : decode prog_8_method_4_code 40 = .ok (.aload_n 0, 1) := by decide +kernel
theorem d_I_readPairs_41 : decode prog_8_method_4_code 41 = .ok (.getfield 31, 3) := by decide +kernel
theorem d_I_readPairs_44 : decode prog_8_method_4_code 44 = .ok (.if_icmp .gt 16, 3) := by decide +kernel
theorem d_I_readPairs_47 : decode prog_8_method_4_code 47 = .ok (.aload_n 0, 1) := by decide +kernel
theorem d_I_readPairs_48 : decode prog_8_method_4_code 48 = .ok (.getfield 82, 3) := by decide +kernel
theorem d_I_readPairs_51 : decode prog_8_method_4_code 51 = .ok (.iload 4, 2) := by decide +kernel
theorem d_I_readPairs_53 : decode prog_8_method_4_code 53 = .ok (.iadd, 1) := by decide +kernel
theorem d_I_readPairs_54 : decode prog_8_method_4_code 54 = .ok (.sipush 200, 3) := by decide +kernel
theorem d_I_readPairs_57 : decode prog_8_method_4_code 57 = .ok (.if_icmp .le 5, 3) := by decide +kernel
theorem d_I_readPairs_60 : decode prog_8_method_4_code 60 = .ok (.iconst 4, 1) := by decide +kernel
theorem d_I_readPairs_61 : decode prog_8_method_4_code 61 = .ok (.ireturn, 1) := by decide +kernel
theorem d_I_readPairs_62 : decode prog_8_method_4_code 62 = .ok (.aload_n 0, 1) := by decide +kernel
theorem d_I_readPairs_63 : decode prog_8_method_4_code 63 = .ok (.getfield 15, 3) := by decide +kernel
theorem d_I_readPairs_66 : decode prog_8_method_4_code 66 = .ok (.iload_n 3, 1) := by decide +kernel
theorem d_I_readPairs_67 : decode prog_8_method_4_code 67 = .ok (.aload_n 0, 1) := by decide +kernel
theorem d_I_readPairs_68 : decode prog_8_method_4_code 68 = .ok (.getfield 11, 3) := by decide +kernel
theorem d_I_readPairs_71 : decode prog_8_method_4_code 71 = .ok (.aload_n 0, 1) := by decide +kernel
theorem d_I_readPairs_72 : decode prog_8_method_4_code 72 = .ok (.getfield 82, 3) := by decide +kernel
theorem d_I_readPairs_75 : decode prog_8_method_4_code 75 = .ok (.iload 4, 2) := by decide +kernel
theorem d_I_readPairs_77 : decode prog_8_method_4_code 77 = .ok (.invokestatic 85, 3) := by decide +kernel
theorem d_I_readPairs_80 : decode prog_8_method_4_code 80 = .ok (.aload_n 0, 1) := by decide +kernel
theorem d_I_readPairs_81 : decode prog_8_method_4_code 81 = .ok (.dup, 1) := by decide +kernel
theorem d_I_readPairs_82 : decode prog_8_method_4_code 82 = .ok (.getfield 82, 3) := by decide +kernel
theorem d_I_readPairs_85 : decode prog_8_method_4_code 85 = .ok (.iload 4, 2) := by decide +kernel
theorem d_I_readPairs_87 : decode prog_8_method_4_code 87 = .ok (.iadd, 1) := by decide +kernel
theorem d_I_readPairs_88 : decode prog_8_method_4_code 88 = .ok (.putfield 82, 3) := by decide +kernel
theorem d_I_readPairs_91 : decode prog_8_method_4_code 91 = .ok (.iinc 2 1, 3) := by decide +kernel
theorem d_I_readPairs_94 : decode prog_8_method_4_code 94 = .ok (.goto (-87), 3) := by decide +kernel
theorem d_I_readPairs_97 : decode prog_8_method_4_code 97 = .ok (.iconst 0, 1) := by decide +kernel
theorem d_I_readPairs_98 : decode prog_8_method_4_code 98 = .ok (.ireturn, 1) := by decide +kernel
theorem d_I_readPlaces_0 : decode prog_8_method_3_code 0 = .ok (.aload_n 0, 1) := by decide +kernel
theorem d_I_readPlaces_1 : decode prog_8_method_3_code 1 = .ok (.getfield 27, 3) := by decide +kernel
theorem d_I_readPlaces_4 : decode prog_8_method_3_code 4 = .ok (.aload_n 0, 1) := by decide +kernel
theorem d_I_readPlaces_5 : decode prog_8_method_3_code 5 = .ok (.getfield 18, 3) := by decide +kernel
theorem d_I_readPlaces_8 : decode prog_8_method_3_code 8 = .ok (.getfield 52, 3) := by decide +kernel
theorem d_I_readPlaces_11 : decode prog_8_method_3_code 11 = .ok (.iload_n 1, 1) := by decide +kernel
theorem d_I_readPlaces_12 : decode prog_8_method_3_code 12 = .ok (.iaload, 1) := by decide +kernel
theorem d_I_readPlaces_13 : decode prog_8_method_3_code 13 = .ok (.aload_n 0, 1) := by decide +kernel
theorem d_I_readPlaces_14 : decode prog_8_method_3_code 14 = .ok (.getfield 18, 3) := by decide +kernel
theorem d_I_readPlaces_17 : decode prog_8_method_3_code 17 = .ok (.getfield 64, 3) := by decide +kernel
theorem d_I_readPlaces_20 : decode prog_8_method_3_code 20 = .ok (.iload_n 1, 1) := by decide +kernel
theorem d_I_readPlaces_21 : decode prog_8_method_3_code 21 = .ok (.iaload, 1) := by decide +kernel
theorem d_I_readPlaces_22 : decode prog_8_method_3_code 22 = .ok (.invokevirtual 67, 3) := by decide +kernel
theorem d_I_readPlaces_25 : decode prog_8_method_3_code 25 = .ok (.aload_n 0, 1) := by decide +kernel
theorem d_I_readPlaces_26 : decode prog_8_method_3_code 26 = .ok (.getfield 27, 3) := by decide +kernel
theorem d_I_readPlaces_29 : decode prog_8_method_3_code 29 = .ok (.invokevirtual 71, 3) := by decide +kernel
theorem d_I_readPlaces_32 : decode prog_8_method_3_code 32 = .ok (.istore_n 2, 1) := by decide +kernel
theorem d_I_readPlaces_33 : decode prog_8_method_3_code 33 = .ok (.iconst 0, 1) := by decide +kernel
theorem d_I_readPlaces_34 : decode prog_8_method_3_code 34 = .ok (.istore_n 3, 1) := by decide +kernel
theorem d_I_readPlaces_35 : decode prog_8_method_3_code 35 = .ok (.iload_n 3, 1) := by decide +kernel
theorem d_I_readPlaces_36 : decode prog_8_method_3_code 36 = .ok (.iload_n 2, 1) := by decide +kernel
theorem d_I_readPlaces_37 : decode prog_8_method_3_code 37 = .ok (.if_icmp .ge 66, 3) := by decide +kernel
theorem d_I_readPlaces_40 : decode prog_8_method_3_code 40 = .ok (.aload_n 0, 1) := by decide +kernel
theorem d_I_readPlaces_41 : decode prog_8_method_3_code 41 = .ok (.getfield 27, 3) := by decide +kernel
theorem d_I_readPlaces_44 : decode prog_8_method_3_code 44 = .ok (.invokevirtual 71, 3) := by decide +kernel
theorem d_I_readPlaces_47 : decode prog_8_method_3_code 47 = .ok (.istore 4, 2) := by decide +kernel
theorem d_I_readPlaces_49 : decode prog_8_method_3_code 49 = .ok (.aload_n 0, 1) := by decide +kernel
theorem d_I_readPlaces_50 : decode prog_8_method_3_code 50 = .ok (.getfield 27, 3) := by decide +kernel
theorem d_I_readPlaces_53 : decode prog_8_method_3_code 53 = .ok (.invokevirtual 71, 3) := by decide +kernel
theorem d_I_readPlaces_56 : decode prog_8_method_3_code 56 = .ok (.istore 5, 2) := by decide +kernel
theorem d_I_readPlaces_58 : decode prog_8_method_3_code 58 = .ok (.iload 5, 2) := by decide +kernel
theorem d_I_readPlaces_60 : decode prog_8_method_3_code 60 = .ok (.ifCond .ge 5, 3) := by decide +kernel
theorem d_I_readPlaces_63 : decode prog_8_method_3_code 63 = .ok (.iconst 3, 1) := by decide +kernel
theorem d_I_readPlaces_64 : decode prog_8_method_3_code 64 = .ok (.ireturn, 1) := by decide +kernel
theorem d_I_readPlaces_65 : decode prog_8_method_3_code 65 = .ok (.iload 4, 2) := by decide +kernel
theorem d_I_readPlaces_67 : decode prog_8_method_3_code 67 = .ok (.aload_n 0, 1) := by decide +kernel
theorem d_I_readPlaces_68 : decode prog_8_method_3_code 68 = .ok (.getfield 55, 3) := by decide +kernel
theorem d_I_readPlaces_71 : decode prog_8_method_3_code 71 = .ok (.if_icmp .ne 10, 3) := by decide +kernel
theorem d_I_readPlaces_74 : decode prog_8_method_3_code 74 = .ok (.aload_n 0, 1) := by decide +kernel
theorem d_I_readPlaces_75 : decode prog_8_method_3_code 75 = .ok (.iload 5, 2) := by decide +kernel
theorem d_I_readPlaces_77 : decode prog_8_method_3_code 77 = .ok (.invokevirtual 75, 3) := by decide +kernel
theorem d_I_readPlaces_80 : decode prog_8_method_3_code 80 = .ok (.ireturn, 1) := by decide +kernel
theorem d_I_readPlaces_81 : decode prog_8_method_3_code 81 = .ok (.aload_n 0, 1) := by decide +kernel
theorem d_I_readPlaces_82 : decode prog_8_method_3_code 82 = .ok (.getfield 27, 3) := by decide +kernel
theorem d_I_readPlaces_85 : decode prog_8_method_3_code 85 = .ok (.iconst 2, 1) := by decide +kernel
theorem d_I_readPlaces_86 : decode prog_8_method_3_code 86 = .ok (.iload 5, 2) := by decide +kernel
theorem d_I_readPlaces_88 : decode prog_8_method_3_code 88 = .ok (.imul, 1) := by decide +kernel
theorem d_I_readPlaces_89 : decode prog_8_method_3_code 89 = .ok (.invokevirtual 78, 3) := by decide +kernel
theorem d_I_readPlaces_92 : decode prog_8_method_3_code 92 = .ok (.ifCond .ne 5, 3) := by decide +kernel
theorem d_I_readPlaces_95 : decode prog_8_method_3_code 95 = .ok (.iconst 3, 1) := by decide +kernel
theorem d_I_readPlaces_96 : decode prog_8_method_3_code 96 = .ok (.ireturn, 1) := by decide +kernel
theorem d_I_readPlaces_97 : decode prog_8_method_3_code 97 = .ok (.iinc 3 1, 3) := by decide +kernel
theorem d_I_readPlaces_100 : decode prog_8_method_3_code 100 = .ok (.goto (-65), 3) := by decide +kernel
theorem d_I_readPlaces_103 : decode prog_8_method_3_code 103 = .ok (.iconst 3, 1) := by decide +kernel
theorem d_I_readPlaces_104 : decode prog_8_method_3_code 104 = .ok (.ireturn, 1) := by decide +kernel
theorem d_I_areLinksWhole_0 : decode prog_8_method_8_code 0 = .ok (.aload_n 0, 1) := by decide +kernel
theorem d_I_areLinksWhole_1 : decode prog_8_method_8_code 1 = .ok (.getfield 91, 3) := by decide +kernel
theorem d_I_areLinksWhole_4 : decode prog_8_method_8_code 4 = .ok (.iconst (-1), 1) := by decide +kernel
theorem d_I_areLinksWhole_5 : decode prog_8_method_8_code 5 = .ok (.if_icmp .eq 11, 3) := by decide +kernel
theorem d_I_areLinksWhole_8 : decode prog_8_method_8_code 8 = .ok (.aload_n 0, 1) := by decide +kernel
theorem d_I_areLinksWhole_9 : decode prog_8_method_8_code 9 = .ok (.getfield 94, 3) := by decide +kernel
theorem d_I_areLinksWhole_12 : decode prog_8_method_8_code 12 = .ok (.iconst (-1), 1) := by decide +kernel
theorem d_I_areLinksWhole_13 : decode prog_8_method_8_code 13 = .ok (.if_icmp .ne 5, 3) := by decide +kernel
theorem d_I_areLinksWhole_16 : decode prog_8_method_8_code 16 = .ok (.iconst 0, 1) := by decide +kernel
theorem d_I_areLinksWhole_17 : decode prog_8_method_8_code 17 = .ok (.ireturn, 1) := by decide +kernel
theorem d_I_areLinksWhole_18 : decode prog_8_method_8_code 18 = .ok (.aload_n 0, 1) := by decide +kernel
theorem d_I_areLinksWhole_19 : decode prog_8_method_8_code 19 = .ok (.getfield 18, 3) := by decide +kernel
theorem d_I_areLinksWhole_22 : decode prog_8_method_8_code 22 = .ok (.aload_n 0, 1) := by decide +kernel
theorem d_I_areLinksWhole_23 : decode prog_8_method_8_code 23 = .ok (.getfield 91, 3) := by decide +kernel
theorem d_I_areLinksWhole_26 : decode prog_8_method_8_code 26 = .ok (.invokevirtual 48, 3) := by decide +kernel
theorem d_I_areLinksWhole_29 : decode prog_8_method_8_code 29 = .ok (.iconst 2, 1) := by decide +kernel
theorem d_I_areLinksWhole_30 : decode prog_8_method_8_code 30 = .ok (.if_icmp .lt 18, 3) := by decide +kernel
theorem d_I_areLinksWhole_33 : decode prog_8_method_8_code 33 = .ok (.aload_n 0, 1) := by decide +kernel
theorem d_I_areLinksWhole_34 : decode prog_8_method_8_code 34 = .ok (.getfield 18, 3) := by decide +kernel
theorem d_I_areLinksWhole_37 : decode prog_8_method_8_code 37 = .ok (.aload_n 0, 1) := by decide +kernel
theorem d_I_areLinksWhole_38 : decode prog_8_method_8_code 38 = .ok (.getfield 94, 3) := by decide +kernel
theorem d_I_areLinksWhole_41 : decode prog_8_method_8_code 41 = .ok (.invokevirtual 48, 3) := by decide +kernel
theorem d_I_areLinksWhole_44 : decode prog_8_method_8_code 44 = .ok (.iconst 1, 1) := by decide +kernel
theorem d_I_areLinksWhole_45 : decode prog_8_method_8_code 45 = .ok (.if_icmp .ge 5, 3) := by decide +kernel
theorem d_I_areLinksWhole_48 : decode prog_8_method_8_code 48 = .ok (.iconst 0, 1) := by decide +kernel
theorem d_I_areLinksWhole_49 : decode prog_8_method_8_code 49 = .ok (.ireturn, 1) := by decide +kernel
theorem d_I_areLinksWhole_50 : decode prog_8_method_8_code 50 = .ok (.aload_n 0, 1) := by decide +kernel
theorem d_I_areLinksWhole_51 : decode prog_8_method_8_code 51 = .ok (.getfield 97, 3) := by decide +kernel
theorem d_I_areLinksWhole_54 : decode prog_8_method_8_code 54 = .ok (.iconst (-1), 1) := by decide +kernel
theorem d_I_areLinksWhole_55 : decode prog_8_method_8_code 55 = .ok (.if_icmp .ne 5, 3) := by decide +kernel
theorem d_I_areLinksWhole_58 : decode prog_8_method_8_code 58 = .ok (.iconst 1, 1) := by decide +kernel
theorem d_I_areLinksWhole_59 : decode prog_8_method_8_code 59 = .ok (.ireturn, 1) := by decide +kernel
theorem d_I_areLinksWhole_60 : decode prog_8_method_8_code 60 = .ok (.aload_n 0, 1) := by decide +kernel
theorem d_I_areLinksWhole_61 : decode prog_8_method_8_code 61 = .ok (.getfield 18, 3) := by decide +kernel
theorem d_I_areLinksWhole_64 : decode prog_8_method_8_code 64 = .ok (.aload_n 0, 1) := by decide +kernel
theorem d_I_areLinksWhole_65 : decode prog_8_method_8_code 65 = .ok (.getfield 97, 3) := by decide +kernel
theorem d_I_areLinksWhole_68 : decode prog_8_method_8_code 68 = .ok (.invokevirtual 48, 3) := by decide +kernel
theorem d_I_areLinksWhole_71 : decode prog_8_method_8_code 71 = .ok (.istore_n 1, 1) := by decide +kernel
theorem d_I_areLinksWhole_72 : decode prog_8_method_8_code 72 = .ok (.iload_n 1, 1) := by decide +kernel
theorem d_I_areLinksWhole_73 : decode prog_8_method_8_code 73 = .ok (.ifCond .le 28, 3) := by decide +kernel
theorem d_I_areLinksWhole_76 : decode prog_8_method_8_code 76 = .ok (.iload_n 1, 1) := by decide +kernel
theorem d_I_areLinksWhole_77 : decode prog_8_method_8_code 77 = .ok (.aload_n 0, 1) := by decide +kernel
theorem d_I_areLinksWhole_78 : decode prog_8_method_8_code 78 = .ok (.getfield 15, 3) := by decide +kernel
theorem d_I_areLinksWhole_81 : decode prog_8_method_8_code 81 = .ok (.aload_n 0, 1) := by decide +kernel
theorem d_I_areLinksWhole_82 : decode prog_8_method_8_code 82 = .ok (.getfield 18, 3) := by decide +kernel
theorem d_I_areLinksWhole_85 : decode prog_8_method_8_code 85 = .ok (.getfield 52, 3) := by decide +kernel
theorem d_I_areLinksWhole_88 : decode prog_8_method_8_code 88 = .ok (.aload_n 0, 1) := by decide +kernel
theorem d_I_areLinksWhole_89 : decode prog_8_method_8_code 89 = .ok (.getfield 97, 3) := by decide +kernel
theorem d_I_areLinksWhole_92 : decode prog_8_method_8_code 92 = .ok (.iaload, 1) := by decide +kernel
theorem d_I_areLinksWhole_93 : decode prog_8_method_8_code 93 = .ok (.iaload, 1) := by decide +kernel
theorem d_I_areLinksWhole_94 : decode prog_8_method_8_code 94 = .ok (.if_icmp .le 7, 3) := by decide +kernel
theorem d_I_areLinksWhole_97 : decode prog_8_method_8_code 97 = .ok (.iconst 1, 1) := by decide +kernel
theorem d_I_areLinksWhole_98 : decode prog_8_method_8_code 98 = .ok (.goto 4, 3) := by decide +kernel
theorem d_I_areLinksWhole_101 : decode prog_8_method_8_code 101 = .ok (.iconst 0, 1) := by decide +kernel
theorem d_I_areLinksWhole_102 : decode prog_8_method_8_code 102 = .ok (.ireturn, 1) := by decide +kernel
theorem d_B_property_0 : decode prog_2_method_5_code 0 = .ok (.iconst 0, 1) := by decide +kernel
theorem d_B_property_1 : decode prog_2_method_5_code 1 = .ok (.istore_n 3, 1) := by decide +kernel
theorem d_B_property_2 : decode prog_2_method_5_code 2 = .ok (.iconst 0, 1) := by decide +kernel
theorem d_B_property_3 : decode prog_2_method_5_code 3 = .ok (.istore 4, 2) := by decide +kernel
theorem d_B_property_5 : decode prog_2_method_5_code 5 = .ok (.iload 4, 2) := by decide +kernel
theorem d_B_property_7 : decode prog_2_method_5_code 7 = .ok (.aload_n 0, 1) := by decide +kernel
theorem d_B_property_8 : decode prog_2_method_5_code 8 = .ok (.getfield 30, 3) := by decide +kernel
theorem d_B_property_11 : decode prog_2_method_5_code 11 = .ok (.if_icmp .ge 43, 3) := by decide +kernel
theorem d_B_property_14 : decode prog_2_method_5_code 14 = .ok (.aload_n 0, 1) := by decide +kernel
theorem d_B_property_15 : decode prog_2_method_5_code 15 = .ok (.getfield 21, 3) := by decide +kernel
theorem d_B_property_18 : decode prog_2_method_5_code 18 = .ok (.iload 4, 2) := by decide +kernel
theorem d_B_property_20 : decode prog_2_method_5_code 20 = .ok (.iaload, 1) := by decide +kernel
theorem d_B_property_21 : decode prog_2_method_5_code 21 = .ok (.iload_n 1, 1) := by decide +kernel
theorem d_B_property_22 : decode prog_2_method_5_code 22 = .ok (.if_icmp .ne 26, 3) := by decide +kernel
theorem d_B_property_25 : decode prog_2_method_5_code 25 = .ok (.aload_n 0, 1) := by decide +kernel
theorem d_B_property_26 : decode prog_2_method_5_code 26 = .ok (.getfield 11, 3) := by decide +kernel
theorem d_B_property_29 : decode prog_2_method_5_code 29 = .ok (.iload 4, 2) := by decide +kernel
theorem d_B_property_31 : decode prog_2_method_5_code 31 = .ok (.iaload, 1) := by decide +kernel
theorem d_B_property_32 : decode prog_2_method_5_code 32 = .ok (.bipush 97, 2) := by decide +kernel
theorem d_B_property_34 : decode prog_2_method_5_code 34 = .ok (.if_icmp .eq 14, 3) := by decide +kernel
theorem d_B_property_37 : decode prog_2_method_5_code 37 = .ok (.iinc 3 1, 3) := by decide +kernel
theorem d_B_property_40 : decode prog_2_method_5_code 40 = .ok (.iload_n 3, 1) := by decide +kernel
theorem d_B_property_41 : decode prog_2_method_5_code 41 = .ok (.iload_n 2, 1) := by decide +kernel
theorem d_B_property_42 : decode prog_2_method_5_code 42 = .ok (.if_icmp .ne 6, 3) := by decide +kernel
theorem d_B_property_45 : decode prog_2_method_5_code 45 = .ok (.iload 4, 2) := by decide +kernel
theorem d_B_property_47 : decode prog_2_method_5_code 47 = .ok (.ireturn, 1) := by decide +kernel
theorem d_B_property_48 : decode prog_2_method_5_code 48 = .ok (.iinc 4 1, 3) := by decide +kernel
theorem d_B_property_51 : decode prog_2_method_5_code 51 = .ok (.goto (-46), 3) := by decide +kernel
theorem d_B_property_54 : decode prog_2_method_5_code 54 = .ok (.iconst (-1), 1) := by decide +kernel
theorem d_B_property_55 : decode prog_2_method_5_code 55 = .ok (.ireturn, 1) := by decide +kernel
theorem d_I_link_0 : decode prog_8_method_7_code 0 = .ok (.iload_n 1, 1) := by decide +kernel
theorem d_I_link_1 : decode prog_8_method_7_code 1 = .ok (.bipush 127, 2) := by decide +kernel
theorem d_I_link_3 : decode prog_8_method_7_code 3 = .ok (.iand, 1) := by decide +kernel
theorem d_I_link_4 : decode prog_8_method_7_code 4 = .ok (.istore_n 2, 1) := by decide +kernel
theorem d_I_link_5 : decode prog_8_method_7_code 5 = .ok (.iload_n 2, 1) := by decide +kernel
theorem d_I_link_6 : decode prog_8_method_7_code 6 = .ok (.ifCond .ne 5, 3) := by decide +kernel
theorem d_I_link_9 : decode prog_8_method_7_code 9 = .ok (.iconst 0, 1) := by decide +kernel
theorem d_I_link_10 : decode prog_8_method_7_code 10 = .ok (.ireturn, 1) := by decide +kernel
theorem d_I_link_11 : decode prog_8_method_7_code 11 = .ok (.aload_n 0, 1) := by decide +kernel
theorem d_I_link_12 : decode prog_8_method_7_code 12 = .ok (.getfield 18, 3) := by decide +kernel
theorem d_I_link_15 : decode prog_8_method_7_code 15 = .ok (.aload_n 0, 1) := by decide +kernel
theorem d_I_link_16 : decode prog_8_method_7_code 16 = .ok (.getfield 45, 3) := by decide +kernel
theorem d_I_link_19 : decode prog_8_method_7_code 19 = .ok (.iload_n 2, 1) := by decide +kernel
theorem d_I_link_20 : decode prog_8_method_7_code 20 = .ok (.invokevirtual 112, 3) := by decide +kernel
theorem d_I_link_23 : decode prog_8_method_7_code 23 = .ok (.istore_n 3, 1) := by decide +kernel
theorem d_I_link_24 : decode prog_8_method_7_code 24 = .ok (.iload_n 3, 1) := by decide +kernel
theorem d_I_link_25 : decode prog_8_method_7_code 25 = .ok (.ifCond .ge 5, 3) := by decide +kernel
theorem d_I_link_28 : decode prog_8_method_7_code 28 = .ok (.iconst 3, 1) := by decide +kernel
theorem d_I_link_29 : decode prog_8_method_7_code 29 = .ok (.ireturn, 1) := by decide +kernel
theorem d_I_link_30 : decode prog_8_method_7_code 30 = .ok (.aload_n 0, 1) := by decide +kernel
theorem d_I_link_31 : decode prog_8_method_7_code 31 = .ok (.getfield 18, 3) := by decide +kernel
theorem d_I_link_34 : decode prog_8_method_7_code 34 = .ok (.getfield 115, 3) := by decide +kernel
theorem d_I_link_37 : decode prog_8_method_7_code 37 = .ok (.iload_n 3, 1) := by decide +kernel
theorem d_I_link_38 : decode prog_8_method_7_code 38 = .ok (.iaload, 1) := by decide +kernel
theorem d_I_link_39 : decode prog_8_method_7_code 39 = .ok (.istore 4, 2) := by decide +kernel
theorem d_I_link_41 : decode prog_8_method_7_code 41 = .ok (.iload 4, 2) := by decide +kernel
theorem d_I_link_43 : decode prog_8_method_7_code 43 = .ok (.bipush 115, 2) := by decide +kernel
theorem d_I_link_45 : decode prog_8_method_7_code 45 = .ok (.if_icmp .ne 26, 3) := by decide +kernel
theorem d_I_link_48 : decode prog_8_method_7_code 48 = .ok (.aload_n 0, 1) := by decide +kernel
theorem d_I_link_49 : decode prog_8_method_7_code 49 = .ok (.aload_n 0, 1) := by decide +kernel
theorem d_I_link_50 : decode prog_8_method_7_code 50 = .ok (.getfield 91, 3) := by decide +kernel
theorem d_I_link_53 : decode prog_8_method_7_code 53 = .ok (.iconst (-1), 1) := by decide +kernel
theorem d_I_link_54 : decode prog_8_method_7_code 54 = .ok (.if_icmp .ne 7, 3) := by decide +kernel
theorem d_I_link_57 : decode prog_8_method_7_code 57 = .ok (.iload_n 3, 1) := by decide +kernel
theorem d_I_link_58 : decode prog_8_method_7_code 58 = .ok (.goto 7, 3) := by decide +kernel
theorem d_I_link_61 : decode prog_8_method_7_code 61 = .ok (.aload_n 0, 1) := by decide +kernel
theorem d_I_link_62 : decode prog_8_method_7_code 62 = .ok (.getfield 91, 3) := by decide +kernel
theorem d_I_link_65 : decode prog_8_method_7_code 65 = .ok (.putfield 91, 3) := by decide +kernel
theorem d_I_link_68 : decode prog_8_method_7_code 68 = .ok (.goto 72, 3) := by decide +kernel
theorem d_I_link_71 : decode prog_8_method_7_code 71 = .ok (.iload 4, 2) := by decide +kernel
theorem d_I_link_73 : decode prog_8_method_7_code 73 = .ok (.bipush 99, 2) := by decide +kernel
theorem d_I_link_75 : decode prog_8_method_7_code 75 = .ok (.if_icmp .ne 26, 3) := by decide +kernel
theorem d_I_link_78 : decode prog_8_method_7_code 78 = .ok (.aload_n 0, 1) := by decide +kernel
theorem d_I_link_79 : decode prog_8_method_7_code 79 = .ok (.aload_n 0, 1) := by decide +kernel
theorem d_I_link_80 : decode prog_8_method_7_code 80 = .ok (.getfield 94, 3) := by decide +kernel
theorem d_I_link_83 : decode prog_8_method_7_code 83 = .ok (.iconst (-1), 1) := by decide +kernel
theorem d_I_link_84 : decode prog_8_method_7_code 84 = .ok (.if_icmp .ne 7, 3) := by decide +kernel
theorem d_I_link_87 : decode prog_8_method_7_code 87 = .ok (.iload_n 3, 1) := by decide +kernel
theorem d_I_link_88 : decode prog_8_method_7_code 88 = .ok (.goto 7, 3) := by decide +kernel
theorem d_I_link_91 : decode prog_8_method_7_code 91 = .ok (.aload_n 0, 1) := by decide +kernel
theorem d_I_link_92 : decode prog_8_method_7_code 92 = .ok (.getfield 94, 3) := by decide +kernel
theorem d_I_link_95 : decode prog_8_method_7_code 95 = .ok (.putfield 94, 3) := by decide +kernel
theorem d_I_link_98 : decode prog_8_method_7_code 98 = .ok (.goto 42, 3) := by decide +kernel
theorem d_I_link_101 : decode prog_8_method_7_code 101 = .ok (.iload 4, 2) := by decide +kernel
theorem d_I_link_103 : decode prog_8_method_7_code 103 = .ok (.bipush 120, 2) := by decide +kernel
theorem d_I_link_105 : decode prog_8_method_7_code 105 = .ok (.if_icmp .ne 26, 3) := by decide +kernel
theorem d_I_link_108 : decode prog_8_method_7_code 108 = .ok (.aload_n 0, 1) := by decide +kernel
theorem d_I_link_109 : decode prog_8_method_7_code 109 = .ok (.aload_n 0, 1) := by decide +kernel
theorem d_I_link_110 : decode prog_8_method_7_code 110 = .ok (.getfield 97, 3) := by decide +kernel
theorem d_I_link_113 : decode prog_8_method_7_code 113 = .ok (.iconst (-1), 1) := by decide +kernel
theorem d_I_link_114 : decode prog_8_method_7_code 114 = .ok (.if_icmp .ne 7, 3) := by decide +kernel
theorem d_I_link_117 : decode prog_8_method_7_code 117 = .ok (.iload_n 3, 1) := by decide +kernel
theorem d_I_link_118 : decode prog_8_method_7_code 118 = .ok (.goto 7, 3) := by decide +kernel
theorem d_I_link_121 : decode prog_8_method_7_code 121 = .ok (.aload_n 0, 1) := by decide +kernel
theorem d_I_link_122 : decode prog_8_method_7_code 122 = .ok (.getfield 97, 3) := by decide +kernel
theorem d_I_link_125 : decode prog_8_method_7_code 125 = .ok (.putfield 97, 3) := by decide +kernel
theorem d_I_link_128 : decode prog_8_method_7_code 128 = .ok (.goto 12, 3) := by decide +kernel
theorem d_I_link_131 : decode prog_8_method_7_code 131 = .ok (.iload_n 1, 1) := by decide +kernel
theorem d_I_link_132 : decode prog_8_method_7_code 132 = .ok (.sipush 128, 3) := by decide +kernel
theorem d_I_link_135 : decode prog_8_method_7_code 135 = .ok (.if_icmp .lt 5, 3) := by decide +kernel
theorem d_I_link_138 : decode prog_8_method_7_code 138 = .ok (.iconst 5, 1) := by decide +kernel
theorem d_I_link_139 : decode prog_8_method_7_code 139 = .ok (.ireturn, 1) := by decide +kernel
theorem d_I_link_140 : decode prog_8_method_7_code 140 = .ok (.iconst 0, 1) := by decide +kernel
theorem d_I_link_141 : decode prog_8_method_7_code 141 = .ok (.ireturn, 1) := by decide +kernel
theorem d_I_readLink_0 : decode prog_8_method_6_code 0 = .ok (.aload_n 0, 1) := by decide +kernel
theorem d_I_readLink_1 : decode prog_8_method_6_code 1 = .ok (.getfield 27, 3) := by decide +kernel
theorem d_I_readLink_4 : decode prog_8_method_6_code 4 = .ok (.invokevirtual 71, 3) := by decide +kernel
theorem d_I_readLink_7 : decode prog_8_method_6_code 7 = .ok (.istore_n 1, 1) := by decide +kernel
theorem d_I_readLink_8 : decode prog_8_method_6_code 8 = .ok (.aload_n 0, 1) := by decide +kernel
theorem d_I_readLink_9 : decode prog_8_method_6_code 9 = .ok (.getfield 27, 3) := by decide +kernel
theorem d_I_readLink_12 : decode prog_8_method_6_code 12 = .ok (.invokevirtual 71, 3) := by decide +kernel
theorem d_I_readLink_15 : decode prog_8_method_6_code 15 = .ok (.istore_n 2, 1) := by decide +kernel
theorem d_I_readLink_16 : decode prog_8_method_6_code 16 = .ok (.iload_n 2, 1) := by decide +kernel
theorem d_I_readLink_17 : decode prog_8_method_6_code 17 = .ok (.ifCond .ge 5, 3) := by decide +kernel
theorem d_I_readLink_20 : decode prog_8_method_6_code 20 = .ok (.iconst 3, 1) := by decide +kernel
theorem d_I_readLink_21 : decode prog_8_method_6_code 21 = .ok (.ireturn, 1) := by decide +kernel
theorem d_I_readLink_22 : decode prog_8_method_6_code 22 = .ok (.iconst 0, 1) := by decide +kernel
theorem d_I_readLink_23 : decode prog_8_method_6_code 23 = .ok (.istore_n 3, 1) := by decide +kernel
theorem d_I_readLink_24 : decode prog_8_method_6_code 24 = .ok (.iload_n 3, 1) := by decide +kernel
theorem d_I_readLink_25 : decode prog_8_method_6_code 25 = .ok (.iload_n 2, 1) := by decide +kernel
theorem d_I_readLink_26 : decode prog_8_method_6_code 26 = .ok (.if_icmp .ge 53, 3) := by decide +kernel
theorem d_I_readLink_29 : decode prog_8_method_6_code 29 = .ok (.aload_n 0, 1) := by decide +kernel
theorem d_I_readLink_30 : decode prog_8_method_6_code 30 = .ok (.getfield 27, 3) := by decide +kernel
theorem d_I_readLink_33 : decode prog_8_method_6_code 33 = .ok (.invokevirtual 71, 3) := by decide +kernel
theorem d_I_readLink_36 : decode prog_8_method_6_code 36 = .ok (.istore 4, 2) := by decide +kernel
theorem d_I_readLink_38 : decode prog_8_method_6_code 38 = .ok (.iload 4, 2) := by decide +kernel
theorem d_I_readLink_40 : decode prog_8_method_6_code 40 = .ok (.ifCond .ge 5, 3) := by decide +kernel
theorem d_I_readLink_43 : decode prog_8_method_6_code 43 = .ok (.iconst 3, 1) := by decide +kernel
theorem d_I_readLink_44 : decode prog_8_method_6_code 44 = .ok (.ireturn, 1) := by decide +kernel
theorem d_I_readLink_45 : decode prog_8_method_6_code 45 = .ok (.iload_n 1, 1) := by decide +kernel
theorem d_I_readLink_46 : decode prog_8_method_6_code 46 = .ok (.aload_n 0, 1) := by decide +kernel
theorem d_I_readLink_47 : decode prog_8_method_6_code 47 = .ok (.getfield 55, 3) := by decide +kernel
theorem d_I_readLink_50 : decode prog_8_method_6_code 50 = .ok (.if_icmp .ne 12, 3) := by decide +kernel
theorem d_I_readLink_53 : decode prog_8_method_6_code 53 = .ok (.aload_n 0, 1) := by decide +kernel
theorem d_I_readLink_54 : decode prog_8_method_6_code 54 = .ok (.iload 4, 2) := by decide +kernel
theorem d_I_readLink_56 : decode prog_8_method_6_code 56 = .ok (.invokevirtual 109, 3) := by decide +kernel
theorem d_I_readLink_59 : decode prog_8_method_6_code 59 = .ok (.goto 4, 3) := by decide +kernel
theorem d_I_readLink_62 : decode prog_8_method_6_code 62 = .ok (.iconst 0, 1) := by decide +kernel
theorem d_I_readLink_63 : decode prog_8_method_6_code 63 = .ok (.istore 5, 2) := by decide +kernel
theorem d_I_readLink_65 : decode prog_8_method_6_code 65 = .ok (.iload 5, 2) := by decide +kernel
theorem d_I_readLink_67 : decode prog_8_method_6_code 67 = .ok (.ifCond .eq 6, 3) := by decide +kernel
theorem d_I_readLink_70 : decode prog_8_method_6_code 70 = .ok (.iload 5, 2) := by decide +kernel
theorem d_I_readLink_72 : decode prog_8_method_6_code 72 = .ok (.ireturn, 1) := by decide +kernel
theorem d_I_readLink_73 : decode prog_8_method_6_code 73 = .ok (.iinc 3 1, 3) := by decide +kernel
theorem d_I_readLink_76 : decode prog_8_method_6_code 76 = .ok (.goto (-52), 3) := by decide +kernel
theorem d_I_readLink_79 : decode prog_8_method_6_code 79 = .ok (.iconst 0, 1) := by decide +kernel
theorem d_I_readLink_80 : decode prog_8_method_6_code 80 = .ok (.ireturn, 1) := by decide +kernel
theorem d_I_readLinks_0 : decode prog_8_method_5_code 0 = .ok (.aload_n 0, 1) := by decide +kernel
theorem d_I_readLinks_1 : decode prog_8_method_5_code 1 = .ok (.iconst (-1), 1) := by decide +kernel
theorem d_I_readLinks_2 : decode prog_8_method_5_code 2 = .ok (.putfield 91, 3) := by decide +kernel
theorem d_I_readLinks_5 : decode prog_8_method_5_code 5 = .ok (.aload_n 0, 1) := by decide +kernel
theorem d_I_readLinks_6 : decode prog_8_method_5_code 6 = .ok (.iconst (-1), 1) := by decide +kernel
theorem d_I_readLinks_7 : decode prog_8_method_5_code 7 = .ok (.putfield 94, 3) := by decide +kernel
theorem d_I_readLinks_10 : decode prog_8_method_5_code 10 = .ok (.aload_n 0, 1) := by decide +kernel
theorem d_I_readLinks_11 : decode prog_8_method_5_code 11 = .ok (.iconst (-1), 1) := by decide +kernel
theorem d_I_readLinks_12 : decode prog_8_method_5_code 12 = .ok (.putfield 97, 3) := by decide +kernel
theorem d_I_readLinks_15 : decode prog_8_method_5_code 15 = .ok (.aload_n 0, 1) := by decide +kernel
theorem d_I_readLinks_16 : decode prog_8_method_5_code 16 = .ok (.getfield 27, 3) := by decide +kernel
theorem d_I_readLinks_19 : decode prog_8_method_5_code 19 = .ok (.aload_n 0, 1) := by decide +kernel
theorem d_I_readLinks_20 : decode prog_8_method_5_code 20 = .ok (.getfield 18, 3) := by decide +kernel
theorem d_I_readLinks_23 : decode prog_8_method_5_code 23 = .ok (.getfield 52, 3) := by decide +kernel
theorem d_I_readLinks_26 : decode prog_8_method_5_code 26 = .ok (.iload_n 1, 1) := by decide +kernel
theorem d_I_readLinks_27 : decode prog_8_method_5_code 27 = .ok (.iaload, 1) := by decide +kernel
theorem d_I_readLinks_28 : decode prog_8_method_5_code 28 = .ok (.aload_n 0, 1) := by decide +kernel
theorem d_I_readLinks_29 : decode prog_8_method_5_code 29 = .ok (.getfield 18, 3) := by decide +kernel
theorem d_I_readLinks_32 : decode prog_8_method_5_code 32 = .ok (.getfield 64, 3) := by decide +kernel
theorem d_I_readLinks_35 : decode prog_8_method_5_code 35 = .ok (.iload_n 1, 1) := by decide +kernel
theorem d_I_readLinks_36 : decode prog_8_method_5_code 36 = .ok (.iaload, 1) := by decide +kernel
theorem d_I_readLinks_37 : decode prog_8_method_5_code 37 = .ok (.invokevirtual 67, 3) := by decide +kernel
theorem d_I_readLinks_40 : decode prog_8_method_5_code 40 = .ok (.iconst 0, 1) := by decide +kernel
theorem d_I_readLinks_41 : decode prog_8_method_5_code 41 = .ok (.istore_n 2, 1) := by decide +kernel
theorem d_I_readLinks_42 : decode prog_8_method_5_code 42 = .ok (.iload_n 2, 1) := by decide +kernel
theorem d_I_readLinks_43 : decode prog_8_method_5_code 43 = .ok (.sipush 240, 3) := by decide +kernel
theorem d_I_readLinks_46 : decode prog_8_method_5_code 46 = .ok (.if_icmp .ge 30, 3) := by decide +kernel
theorem d_I_readLinks_49 : decode prog_8_method_5_code 49 = .ok (.aload_n 0, 1) := by decide +kernel
theorem d_I_readLinks_50 : decode prog_8_method_5_code 50 = .ok (.getfield 27, 3) := by decide +kernel
theorem d_I_readLinks_53 : decode prog_8_method_5_code 53 = .ok (.invokevirtual 100, 3) := by decide +kernel
theorem d_I_readLinks_56 : decode prog_8_method_5_code 56 = .ok (.ifCond .le 20, 3) := by decide +kernel
theorem d_I_readLinks_59 : decode prog_8_method_5_code 59 = .ok (.aload_n 0, 1) := by decide +kernel
theorem d_I_readLinks_60 : decode prog_8_method_5_code 60 = .ok (.invokevirtual 103, 3) := by decide +kernel
theorem d_I_readLinks_63 : decode prog_8_method_5_code 63 = .ok (.istore_n 3, 1) := by decide +kernel
theorem d_I_readLinks_64 : decode prog_8_method_5_code 64 = .ok (.iload_n 3, 1) := by decide +kernel
theorem d_I_readLinks_65 : decode prog_8_method_5_code 65 = .ok (.ifCond .eq 5, 3) := by decide +kernel
theorem d_I_readLinks_68 : decode prog_8_method_5_code 68 = .ok (.iload_n 3, 1) := by decide +kernel
theorem d_I_readLinks_69 : decode prog_8_method_5_code 69 = .ok (.ireturn, 1) := by decide +kernel
theorem d_I_readLinks_70 : decode prog_8_method_5_code 70 = .ok (.iinc 2 1, 3) := by decide +kernel
theorem d_I_readLinks_73 : decode prog_8_method_5_code 73 = .ok (.goto (-31), 3) := by decide +kernel
theorem d_I_readLinks_76 : decode prog_8_method_5_code 76 = .ok (.aload_n 0, 1) := by decide +kernel
theorem d_I_readLinks_77 : decode prog_8_method_5_code 77 = .ok (.invokevirtual 106, 3) := by decide +kernel
theorem d_I_readLinks_80 : decode prog_8_method_5_code 80 = .ok (.ifCond .eq 7, 3) := by decide +kernel
theorem d_I_readLinks_83 : decode prog_8_method_5_code 83 = .ok (.iconst 0, 1) := by decide +kernel
theorem d_I_readLinks_84 : decode prog_8_method_5_code 84 = .ok (.goto 4, 3) := by decide +kernel
theorem d_I_readLinks_87 : decode prog_8_method_5_code 87 = .ok (.iconst 3, 1) := by decide +kernel
theorem d_I_readLinks_88 : decode prog_8_method_5_code 88 = .ok (.ireturn, 1) := by decide +kernel
theorem d_I_find_0 : decode prog_8_method_2_code 0 = .ok (.aload_n 0, 1) := by decide +kernel
theorem d_I_find_1 : decode prog_8_method_2_code 1 = .ok (.iload_n 1, 1) := by decide +kernel
theorem d_I_find_2 : decode prog_8_method_2_code 2 = .ok (.putfield 31, 3) := by decide +kernel
theorem d_I_find_5 : decode prog_8_method_2_code 5 = .ok (.aload_n 0, 1) := by decide +kernel
theorem d_I_find_6 : decode prog_8_method_2_code 6 = .ok (.getfield 18, 3) := by decide +kernel
theorem d_I_find_9 : decode prog_8_method_2_code 9 = .ok (.invokevirtual 35, 3) := by decide +kernel
theorem d_I_find_12 : decode prog_8_method_2_code 12 = .ok (.ifCond .ne 5, 3) := by decide +kernel
theorem d_I_find_15 : decode prog_8_method_2_code 15 = .ok (.iconst 2, 1) := by decide +kernel
theorem d_I_find_16 : decode prog_8_method_2_code 16 = .ok (.ireturn, 1) := by decide +kernel
theorem d_I_find_17 : decode prog_8_method_2_code 17 = .ok (.aload_n 0, 1) := by decide +kernel
theorem d_I_find_18 : decode prog_8_method_2_code 18 = .ok (.getfield 18, 3) := by decide +kernel
theorem d_I_find_21 : decode prog_8_method_2_code 21 = .ok (.iconst (-1), 1) := by decide +kernel
theorem d_I_find_22 : decode prog_8_method_2_code 22 = .ok (.bipush 109, 2) := by decide +kernel
theorem d_I_find_24 : decode prog_8_method_2_code 24 = .ok (.invokevirtual 41, 3) := by decide +kernel
theorem d_I_find_27 : decode prog_8_method_2_code 27 = .ok (.istore_n 2, 1) := by decide +kernel
theorem d_I_find_28 : decode prog_8_method_2_code 28 = .ok (.iload_n 2, 1) := by decide +kernel
theorem d_I_find_29 : decode prog_8_method_2_code 29 = .ok (.ifCond .ge 5, 3) := by decide +kernel
theorem d_I_find_32 : decode prog_8_method_2_code 32 = .ok (.iconst 3, 1) := by decide +kernel
theorem d_I_find_33 : decode prog_8_method_2_code 33 = .ok (.ireturn, 1) := by decide +kernel
theorem d_I_find_34 : decode prog_8_method_2_code 34 = .ok (.aload_n 0, 1) := by decide +kernel
theorem d_I_find_35 : decode prog_8_method_2_code 35 = .ok (.getfield 18, 3) := by decide +kernel
theorem d_I_find_38 : decode prog_8_method_2_code 38 = .ok (.iload_n 2, 1) := by decide +kernel
theorem d_I_find_39 : decode prog_8_method_2_code 39 = .ok (.bipush 112, 2) := by decide +kernel
theorem d_I_find_41 : decode prog_8_method_2_code 41 = .ok (.invokevirtual 41, 3) := by decide +kernel
theorem d_I_find_44 : decode prog_8_method_2_code 44 = .ok (.istore_n 3, 1) := by decide +kernel
theorem d_I_find_45 : decode prog_8_method_2_code 45 = .ok (.aload_n 0, 1) := by decide +kernel
theorem d_I_find_46 : decode prog_8_method_2_code 46 = .ok (.getfield 18, 3) := by decide +kernel
theorem d_I_find_49 : decode prog_8_method_2_code 49 = .ok (.iload_n 2, 1) := by decide +kernel
theorem d_I_find_50 : decode prog_8_method_2_code 50 = .ok (.bipush 108, 2) := by decide +kernel
theorem d_I_find_52 : decode prog_8_method_2_code 52 = .ok (.invokevirtual 41, 3) := by decide +kernel
theorem d_I_find_55 : decode prog_8_method_2_code 55 = .ok (.istore 4, 2) := by decide +kernel
theorem d_I_find_57 : decode prog_8_method_2_code 57 = .ok (.aload_n 0, 1) := by decide +kernel
theorem d_I_find_58 : decode prog_8_method_2_code 58 = .ok (.aload_n 0, 1) := by decide +kernel
theorem d_I_find_59 : decode prog_8_method_2_code 59 = .ok (.getfield 18, 3) := by decide +kernel
theorem d_I_find_62 : decode prog_8_method_2_code 62 = .ok (.iload_n 2, 1) := by decide +kernel
theorem d_I_find_63 : decode prog_8_method_2_code 63 = .ok (.bipush 114, 2) := by decide +kernel
theorem d_I_find_65 : decode prog_8_method_2_code 65 = .ok (.invokevirtual 41, 3) := by decide +kernel
theorem d_I_find_68 : decode prog_8_method_2_code 68 = .ok (.putfield 45, 3) := by decide +kernel
theorem d_I_find_71 : decode prog_8_method_2_code 71 = .ok (.iload_n 3, 1) := by decide +kernel
theorem d_I_find_72 : decode prog_8_method_2_code 72 = .ok (.ifCond .lt 15, 3) := by decide +kernel
theorem d_I_find_75 : decode prog_8_method_2_code 75 = .ok (.iload 4, 2) := by decide +kernel
theorem d_I_find_77 : decode prog_8_method_2_code 77 = .ok (.ifCond .lt 10, 3) := by decide +kernel
theorem d_I_find_80 : decode prog_8_method_2_code 80 = .ok (.aload_n 0, 1) := by decide +kernel
theorem d_I_find_81 : decode prog_8_method_2_code 81 = .ok (.getfield 45, 3) := by decide +kernel
theorem d_I_find_84 : decode prog_8_method_2_code 84 = .ok (.ifCond .ge 5, 3) := by decide +kernel
theorem d_I_find_87 : decode prog_8_method_2_code 87 = .ok (.iconst 3, 1) := by decide +kernel
theorem d_I_find_88 : decode prog_8_method_2_code 88 = .ok (.ireturn, 1) := by decide +kernel
theorem d_I_find_89 : decode prog_8_method_2_code 89 = .ok (.aload_n 0, 1) := by decide +kernel
theorem d_I_find_90 : decode prog_8_method_2_code 90 = .ok (.getfield 18, 3) := by decide +kernel
theorem d_I_find_93 : decode prog_8_method_2_code 93 = .ok (.aload_n 0, 1) := by decide +kernel
theorem d_I_find_94 : decode prog_8_method_2_code 94 = .ok (.getfield 45, 3) := by decide +kernel
theorem d_I_find_97 : decode prog_8_method_2_code 97 = .ok (.bipush 97, 2) := by decide +kernel
theorem d_I_find_99 : decode prog_8_method_2_code 99 = .ok (.invokevirtual 41, 3) := by decide +kernel
theorem d_I_find_102 : decode prog_8_method_2_code 102 = .ok (.istore 5, 2) := by decide +kernel
theorem d_I_find_104 : decode prog_8_method_2_code 104 = .ok (.iload 5, 2) := by decide +kernel
theorem d_I_find_106 : decode prog_8_method_2_code 106 = .ok (.ifCond .lt 14, 3) := by decide +kernel
theorem d_I_find_109 : decode prog_8_method_2_code 109 = .ok (.aload_n 0, 1) := by decide +kernel
theorem d_I_find_110 : decode prog_8_method_2_code 110 = .ok (.getfield 18, 3) := by decide +kernel
theorem d_I_find_113 : decode prog_8_method_2_code 113 = .ok (.iload_n 3, 1) := by decide +kernel
theorem d_I_find_114 : decode prog_8_method_2_code 114 = .ok (.invokevirtual 48, 3) := by decide +kernel
theorem d_I_find_117 : decode prog_8_method_2_code 117 = .ok (.ifCond .ne 5, 3) := by decide +kernel
theorem d_I_find_120 : decode prog_8_method_2_code 120 = .ok (.iconst 3, 1) := by decide +kernel
theorem d_I_find_121 : decode prog_8_method_2_code 121 = .ok (.ireturn, 1) := by decide +kernel
theorem d_I_find_122 : decode prog_8_method_2_code 122 = .ok (.aload_n 0, 1) := by decide +kernel
theorem d_I_find_123 : decode prog_8_method_2_code 123 = .ok (.aload_n 0, 1) := by decide +kernel
theorem d_I_find_124 : decode prog_8_method_2_code 124 = .ok (.getfield 15, 3) := by decide +kernel
theorem d_I_find_127 : decode prog_8_method_2_code 127 = .ok (.aload_n 0, 1) := by decide +kernel
theorem d_I_find_128 : decode prog_8_method_2_code 128 = .ok (.getfield 18, 3) := by decide +kernel
theorem d_I_find_131 : decode prog_8_method_2_code 131 = .ok (.getfield 52, 3) := by decide +kernel
theorem d_I_find_134 : decode prog_8_method_2_code 134 = .ok (.iload_n 3, 1) := by decide +kernel
theorem d_I_find_135 : decode prog_8_method_2_code 135 = .ok (.iaload, 1) := by decide +kernel
theorem d_I_find_136 : decode prog_8_method_2_code 136 = .ok (.iaload, 1) := by decide +kernel
theorem d_I_find_137 : decode prog_8_method_2_code 137 = .ok (.putfield 55, 3) := by decide +kernel
theorem d_I_find_140 : decode prog_8_method_2_code 140 = .ok (.aload_n 0, 1) := by decide +kernel
theorem d_I_find_141 : decode prog_8_method_2_code 141 = .ok (.iload 4, 2) := by decide +kernel
theorem d_I_find_143 : decode prog_8_method_2_code 143 = .ok (.invokevirtual 58, 3) := by decide +kernel
theorem d_I_find_146 : decode prog_8_method_2_code 146 = .ok (.istore 6, 2) := by decide +kernel
theorem d_I_find_148 : decode prog_8_method_2_code 148 = .ok (.iload 6, 2) := by decide +kernel
theorem d_I_find_150 : decode prog_8_method_2_code 150 = .ok (.ifCond .ne 12, 3) := by decide +kernel
theorem d_I_find_153 : decode prog_8_method_2_code 153 = .ok (.aload_n 0, 1) := by decide +kernel
theorem d_I_find_154 : decode prog_8_method_2_code 154 = .ok (.iload 5, 2) := by decide +kernel
theorem d_I_find_156 : decode prog_8_method_2_code 156 = .ok (.invokevirtual 61, 3) := by decide +kernel
theorem d_I_find_159 : decode prog_8_method_2_code 159 = .ok (.goto 5, 3) := by decide +kernel
theorem d_I_find_162 : decode prog_8_method_2_code 162 = .ok (.iload 6, 2) := by decide +kernel
theorem d_I_find_164 : decode prog_8_method_2_code 164 = .ok (.ireturn, 1) := by decide +kernel
theorem d_S_decode_0 : decode prog_1_method_7_code 0 = .ok (.aload_n 0, 1) := by decide +kernel
theorem d_S_decode_1 : decode prog_1_method_7_code 1 = .ok (.iconst 0, 1) := by decide +kernel
theorem d_S_decode_2 : decode prog_1_method_7_code 2 = .ok (.putfield 79, 3) := by decide +kernel
theorem d_S_decode_5 : decode prog_1_method_7_code 5 = .ok (.aload_n 0, 1) := by decide +kernel
theorem d_S_decode_6 : decode prog_1_method_7_code 6 = .ok (.getfield 18, 3) := by decide +kernel
theorem d_S_decode_9 : decode prog_1_method_7_code 9 = .ok (.aload_n 0, 1) := by decide +kernel
theorem d_S_decode_10 : decode prog_1_method_7_code 10 = .ok (.getfield 75, 3) := by decide +kernel
theorem d_S_decode_13 : decode prog_1_method_7_code 13 = .ok (.invokevirtual 87, 3) := by decide +kernel
theorem d_S_decode_16 : decode prog_1_method_7_code 16 = .ok (.istore_n 1, 1) := by decide +kernel
theorem d_S_decode_17 : decode prog_1_method_7_code 17 = .ok (.iload_n 1, 1) := by decide +kernel
theorem d_S_decode_18 : decode prog_1_method_7_code 18 = .ok (.ifCond .ne 15, 3) := by decide +kernel
theorem d_S_decode_21 : decode prog_1_method_7_code 21 = .ok (.aload_n 0, 1) := by decide +kernel
theorem d_S_decode_22 : decode prog_1_method_7_code 22 = .ok (.getfield 27, 3) := by decide +kernel
theorem d_S_decode_25 : decode prog_1_method_7_code 25 = .ok (.aload_n 0, 1) := by decide +kernel
theorem d_S_decode_26 : decode prog_1_method_7_code 26 = .ok (.getfield 75, 3) := by decide +kernel
theorem d_S_decode_29 : decode prog_1_method_7_code 29 = .ok (.invokevirtual 91, 3) := by decide +kernel
theorem d_S_decode_32 : decode prog_1_method_7_code 32 = .ok (.istore_n 1, 1) := by decide +kernel
theorem d_S_decode_33 : decode prog_1_method_7_code 33 = .ok (.iload_n 1, 1) := by decide +kernel
theorem d_S_decode_34 : decode prog_1_method_7_code 34 = .ok (.ifCond .ne 11, 3) := by decide +kernel
theorem d_S_decode_37 : decode prog_1_method_7_code 37 = .ok (.aload_n 0, 1) := by decide +kernel
theorem d_S_decode_38 : decode prog_1_method_7_code 38 = .ok (.getfield 36, 3) := by decide +kernel
theorem d_S_decode_41 : decode prog_1_method_7_code 41 = .ok (.invokevirtual 94, 3) := by decide +kernel
theorem d_S_decode_44 : decode prog_1_method_7_code 44 = .ok (.istore_n 1, 1) := by decide +kernel
theorem d_S_decode_45 : decode prog_1_method_7_code 45 = .ok (.iload_n 1, 1) := by decide +kernel
theorem d_S_decode_46 : decode prog_1_method_7_code 46 = .ok (.ifCond .ne 11, 3) := by decide +kernel
theorem d_S_decode_49 : decode prog_1_method_7_code 49 = .ok (.aload_n 0, 1) := by decide +kernel
theorem d_S_decode_50 : decode prog_1_method_7_code 50 = .ok (.getfield 62, 3) := by decide +kernel
theorem d_S_decode_53 : decode prog_1_method_7_code 53 = .ok (.invokevirtual 97, 3) := by decide +kernel
theorem d_S_decode_56 : decode prog_1_method_7_code 56 = .ok (.istore_n 1, 1) := by decide +kernel
theorem d_S_decode_57 : decode prog_1_method_7_code 57 = .ok (.iload_n 1, 1) := by decide +kernel
theorem d_S_decode_58 : decode prog_1_method_7_code 58 = .ok (.ifCond .ne 15, 3) := by decide +kernel
theorem d_S_decode_61 : decode prog_1_method_7_code 61 = .ok (.aload_n 0, 1) := by decide +kernel
theorem d_S_decode_62 : decode prog_1_method_7_code 62 = .ok (.getfield 71, 3) := by decide +kernel
theorem d_S_decode_65 : decode prog_1_method_7_code 65 = .ok (.invokevirtual 98, 3) := by decide +kernel
theorem d_S_decode_68 : decode prog_1_method_7_code 68 = .ok (.aload_n 0, 1) := by decide +kernel
theorem d_S_decode_69 : decode prog_1_method_7_code 69 = .ok (.iconst 1, 1) := by decide +kernel
theorem d_S_decode_70 : decode prog_1_method_7_code 70 = .ok (.putfield 79, 3) := by decide +kernel
theorem d_S_decode_73 : decode prog_1_method_7_code 73 = .ok (.iload_n 1, 1) := by decide +kernel
theorem d_S_decode_74 : decode prog_1_method_7_code 74 = .ok (.ireturn, 1) := by decide +kernel
theorem d_S_planes_0 : decode prog_1_method_8_code 0 = .ok (.aload_n 0, 1) := by decide +kernel
theorem d_S_planes_1 : decode prog_1_method_8_code 1 = .ok (.getfield 79, 3) := by decide +kernel
theorem d_S_planes_4 : decode prog_1_method_8_code 4 = .ok (.ifCond .eq 13, 3) := by decide +kernel
theorem d_S_planes_7 : decode prog_1_method_8_code 7 = .ok (.aload_n 0, 1) := by decide +kernel
theorem d_S_planes_8 : decode prog_1_method_8_code 8 = .ok (.getfield 36, 3) := by decide +kernel
theorem d_S_planes_11 : decode prog_1_method_8_code 11 = .ok (.getfield 101, 3) := by decide +kernel
theorem d_S_planes_14 : decode prog_1_method_8_code 14 = .ok (.goto 4, 3) := by decide +kernel
theorem d_S_planes_17 : decode prog_1_method_8_code 17 = .ok (.iconst 0, 1) := by decide +kernel
theorem d_S_planes_18 : decode prog_1_method_8_code 18 = .ok (.ireturn, 1) := by decide +kernel
theorem d_S_width_0 : decode prog_1_method_9_code 0 = .ok (.aload_n 0, 1) := by decide +kernel
theorem d_S_width_1 : decode prog_1_method_9_code 1 = .ok (.getfield 79, 3) := by decide +kernel
theorem d_S_width_4 : decode prog_1_method_9_code 4 = .ok (.ifCond .eq 13, 3) := by decide +kernel
theorem d_S_width_7 : decode prog_1_method_9_code 7 = .ok (.aload_n 0, 1) := by decide +kernel
theorem d_S_width_8 : decode prog_1_method_9_code 8 = .ok (.getfield 36, 3) := by decide +kernel
theorem d_S_width_11 : decode prog_1_method_9_code 11 = .ok (.getfield 104, 3) := by decide +kernel
theorem d_S_width_14 : decode prog_1_method_9_code 14 = .ok (.goto 4, 3) := by decide +kernel
theorem d_S_width_17 : decode prog_1_method_9_code 17 = .ok (.iconst 0, 1) := by decide +kernel
theorem d_S_width_18 : decode prog_1_method_9_code 18 = .ok (.ireturn, 1) := by decide +kernel
theorem d_S_height_0 : decode prog_1_method_10_code 0 = .ok (.aload_n 0, 1) := by decide +kernel
theorem d_S_height_1 : decode prog_1_method_10_code 1 = .ok (.getfield 79, 3) := by decide +kernel
theorem d_S_height_4 : decode prog_1_method_10_code 4 = .ok (.ifCond .eq 13, 3) := by decide +kernel
theorem d_S_height_7 : decode prog_1_method_10_code 7 = .ok (.aload_n 0, 1) := by decide +kernel
theorem d_S_height_8 : decode prog_1_method_10_code 8 = .ok (.getfield 36, 3) := by decide +kernel
theorem d_S_height_11 : decode prog_1_method_10_code 11 = .ok (.getfield 107, 3) := by decide +kernel
theorem d_S_height_14 : decode prog_1_method_10_code 14 = .ok (.goto 4, 3) := by decide +kernel
theorem d_S_height_17 : decode prog_1_method_10_code 17 = .ok (.iconst 0, 1) := by decide +kernel
theorem d_S_height_18 : decode prog_1_method_10_code 18 = .ok (.ireturn, 1) := by decide +kernel
theorem d_S_depth_0 : decode prog_1_method_11_code 0 = .ok (.aload_n 0, 1) := by decide +kernel
theorem d_S_depth_1 : decode prog_1_method_11_code 1 = .ok (.getfield 79, 3) := by decide +kernel
theorem d_S_depth_4 : decode prog_1_method_11_code 4 = .ok (.ifCond .eq 13, 3) := by decide +kernel
theorem d_S_depth_7 : decode prog_1_method_11_code 7 = .ok (.aload_n 0, 1) := by decide +kernel
theorem d_S_depth_8 : decode prog_1_method_11_code 8 = .ok (.getfield 36, 3) := by decide +kernel
theorem d_S_depth_11 : decode prog_1_method_11_code 11 = .ok (.getfield 110, 3) := by decide +kernel
theorem d_S_depth_14 : decode prog_1_method_11_code 14 = .ok (.goto 4, 3) := by decide +kernel
theorem d_S_depth_17 : decode prog_1_method_11_code 17 = .ok (.iconst 0, 1) := by decide +kernel
theorem d_S_depth_18 : decode prog_1_method_11_code 18 = .ok (.ireturn, 1) := by decide +kernel
theorem d_S_isInPicture_0 : decode prog_1_method_18_code 0 = .ok (.aload_n 0, 1) := by decide +kernel
theorem d_S_isInPicture_1 : decode prog_1_method_18_code 1 = .ok (.getfield 79, 3) := by decide +kernel
theorem d_S_isInPicture_4 : decode prog_1_method_18_code 4 = .ok (.ifCond .eq 37, 3) := by decide +kernel
theorem d_S_isInPicture_7 : decode prog_1_method_18_code 7 = .ok (.iload_n 1, 1) := by decide +kernel
theorem d_S_isInPicture_8 : decode prog_1_method_18_code 8 = .ok (.ifCond .lt 33, 3) := by decide +kernel
theorem d_S_isInPicture_11 : decode prog_1_method_18_code 11 = .ok (.iload_n 1, 1) := by decide +kernel
theorem d_S_isInPicture_12 : decode prog_1_method_18_code 12 = .ok (.aload_n 0, 1) := by decide +kernel
theorem d_S_isInPicture_13 : decode prog_1_method_18_code 13 = .ok (.getfield 36, 3) := by decide +kernel
theorem d_S_isInPicture_16 : decode prog_1_method_18_code 16 = .ok (.getfield 104, 3) := by decide +kernel
theorem d_S_isInPicture_19 : decode prog_1_method_18_code 19 = .ok (.if_icmp .ge 22, 3) := by decide +kernel
theorem d_S_isInPicture_22 : decode prog_1_method_18_code 22 = .ok (.iload_n 2, 1) := by decide +kernel
theorem d_S_isInPicture_23 : decode prog_1_method_18_code 23 = .ok (.ifCond .lt 18, 3) := by decide +kernel
theorem d_S_isInPicture_26 : decode prog_1_method_18_code 26 = .ok (.iload_n 2, 1) := by decide +kernel
theorem d_S_isInPicture_27 : decode prog_1_method_18_code 27 = .ok (.aload_n 0, 1) := by decide +kernel
theorem d_S_isInPicture_28 : decode prog_1_method_18_code 28 = .ok (.getfield 36, 3) := by decide +kernel
theorem d_S_isInPicture_31 : decode prog_1_method_18_code 31 = .ok (.getfield 107, 3) := by decide +kernel
theorem d_S_isInPicture_34 : decode prog_1_method_18_code 34 = .ok (.if_icmp .ge 7, 3) := by decide +kernel
theorem d_S_isInPicture_37 : decode prog_1_method_18_code 37 = .ok (.iconst 1, 1) := by decide +kernel
theorem d_S_isInPicture_38 : decode prog_1_method_18_code 38 = .ok (.goto 4, 3) := by decide +kernel
theorem d_S_isInPicture_41 : decode prog_1_method_18_code 41 = .ok (.iconst 0, 1) := by decide +kernel
theorem d_S_isInPicture_42 : decode prog_1_method_18_code 42 = .ok (.ireturn, 1) := by decide +kernel
theorem d_S_sample_0 : decode prog_1_method_12_code 0 = .ok (.aload_n 0, 1) := by decide +kernel
theorem d_S_sample_1 : decode prog_1_method_12_code 1 = .ok (.iload_n 2, 1) := by decide +kernel
theorem d_S_sample_2 : decode prog_1_method_12_code 2 = .ok (.iload_n 3, 1) := by decide +kernel
theorem d_S_sample_3 : decode prog_1_method_12_code 3 = .ok (.invokevirtual 113, 3) := by decide +kernel
theorem d_S_sample_6 : decode prog_1_method_12_code 6 = .ok (.ifCond .eq 18, 3) := by decide +kernel
theorem d_S_sample_9 : decode prog_1_method_12_code 9 = .ok (.iload_n 1, 1) := by decide +kernel
theorem d_S_sample_10 : decode prog_1_method_12_code 10 = .ok (.ifCond .lt 14, 3) := by decide +kernel
theorem d_S_sample_13 : decode prog_1_method_12_code 13 = .ok (.iload_n 1, 1) := by decide +kernel
theorem d_S_sample_14 : decode prog_1_method_12_code 14 = .ok (.aload_n 0, 1) := by decide +kernel
theorem d_S_sample_15 : decode prog_1_method_12_code 15 = .ok (.getfield 36, 3) := by decide +kernel
theorem d_S_sample_18 : decode prog_1_method_12_code 18 = .ok (.getfield 101, 3) := by decide +kernel
theorem d_S_sample_21 : decode prog_1_method_12_code 21 = .ok (.if_icmp .lt 5, 3) := by decide +kernel
theorem d_S_sample_24 : decode prog_1_method_12_code 24 = .ok (.iconst (-1), 1) := by decide +kernel
theorem d_S_sample_25 : decode prog_1_method_12_code 25 = .ok (.ireturn, 1) := by decide +kernel
theorem d_S_sample_26 : decode prog_1_method_12_code 26 = .ok (.aload_n 0, 1) := by decide +kernel
theorem d_S_sample_27 : decode prog_1_method_12_code 27 = .ok (.getfield 53, 3) := by decide +kernel
theorem d_S_sample_30 : decode prog_1_method_12_code 30 = .ok (.getfield 117, 3) := by decide +kernel
theorem d_S_sample_33 : decode prog_1_method_12_code 33 = .ok (.iload_n 1, 1) := by decide +kernel
theorem d_S_sample_34 : decode prog_1_method_12_code 34 = .ok (.iload_n 2, 1) := by decide +kernel
theorem d_S_sample_35 : decode prog_1_method_12_code 35 = .ok (.iload_n 3, 1) := by decide +kernel
theorem d_S_sample_36 : decode prog_1_method_12_code 36 = .ok (.invokestatic 120, 3) := by decide +kernel
theorem d_S_sample_39 : decode prog_1_method_12_code 39 = .ok (.iaload, 1) := by decide +kernel
theorem d_S_sample_40 : decode prog_1_method_12_code 40 = .ok (.ireturn, 1) := by decide +kernel
theorem d_S_block_0 : decode prog_1_method_13_code 0 = .ok (.aload_n 0, 1) := by decide +kernel
theorem d_S_block_1 : decode prog_1_method_13_code 1 = .ok (.iload_n 1, 1) := by decide +kernel
theorem d_S_block_2 : decode prog_1_method_13_code 2 = .ok (.iload_n 2, 1) := by decide +kernel
theorem d_S_block_3 : decode prog_1_method_13_code 3 = .ok (.invokevirtual 113, 3) := by decide +kernel
theorem d_S_block_6 : decode prog_1_method_13_code 6 = .ok (.ifCond .eq 12, 3) := by decide +kernel
theorem d_S_block_9 : decode prog_1_method_13_code 9 = .ok (.iload_n 3, 1) := by decide +kernel
theorem d_S_block_10 : decode prog_1_method_13_code 10 = .ok (.ifCond .lt 8, 3) := by decide +kernel
theorem d_S_block_13 : decode prog_1_method_13_code 13 = .ok (.iload_n 3, 1) := by decide +kernel
theorem d_S_block_14 : decode prog_1_method_13_code 14 = .ok (.iconst 3, 1) := by decide +kernel
theorem d_S_block_15 : decode prog_1_method_13_code 15 = .ok (.if_icmp .le 5, 3) := by decide +kernel
theorem d_S_block_18 : decode prog_1_method_13_code 18 = .ok (.iconst (-1), 1) := by decide +kernel
theorem d_S_block_19 : decode prog_1_method_13_code 19 = .ok (.ireturn, 1) := by decide +kernel
theorem d_S_block_20 : decode prog_1_method_13_code 20 = .ok (.aload_n 0, 1) := by decide +kernel
theorem d_S_block_21 : decode prog_1_method_13_code 21 = .ok (.getfield 53, 3) := by decide +kernel
theorem d_S_block_24 : decode prog_1_method_13_code 24 = .ok (.aload_n 0, 1) := by decide +kernel
theorem d_S_block_25 : decode prog_1_method_13_code 25 = .ok (.getfield 53, 3) := by decide +kernel
theorem d_S_block_28 : decode prog_1_method_13_code 28 = .ok (.iload_n 1, 1) := by decide +kernel
theorem d_S_block_29 : decode prog_1_method_13_code 29 = .ok (.iload_n 2, 1) := by decide +kernel
theorem d_S_block_30 : decode prog_1_method_13_code 30 = .ok (.invokevirtual 124, 3) := by decide +kernel
theorem d_S_block_33 : decode prog_1_method_13_code 33 = .ok (.iload_n 3, 1) := by decide +kernel
theorem d_S_block_34 : decode prog_1_method_13_code 34 = .ok (.invokevirtual 128, 3) := by decide +kernel
theorem d_S_block_37 : decode prog_1_method_13_code 37 = .ok (.ireturn, 1) := by decide +kernel
theorem d_S_blocks_0 : decode prog_1_method_14_code 0 = .ok (.aload_n 0, 1) := by decide +kernel
theorem d_S_blocks_1 : decode prog_1_method_14_code 1 = .ok (.getfield 79, 3) := by decide +kernel
theorem d_S_blocks_4 : decode prog_1_method_14_code 4 = .ok (.ifCond .eq 13, 3) := by decide +kernel
theorem d_S_blocks_7 : decode prog_1_method_14_code 7 = .ok (.aload_n 0, 1) := by decide +kernel
theorem d_S_blocks_8 : decode prog_1_method_14_code 8 = .ok (.getfield 53, 3) := by decide +kernel
theorem d_S_blocks_11 : decode prog_1_method_14_code 11 = .ok (.getfield 131, 3) := by decide +kernel
theorem d_S_blocks_14 : decode prog_1_method_14_code 14 = .ok (.goto 4, 3) := by decide +kernel
theorem d_S_blocks_17 : decode prog_1_method_14_code 17 = .ok (.iconst 0, 1) := by decide +kernel
theorem d_S_blocks_18 : decode prog_1_method_14_code 18 = .ok (.ireturn, 1) := by decide +kernel
theorem d_S_symbols_0 : decode prog_1_method_15_code 0 = .ok (.aload_n 0, 1) := by decide +kernel
theorem d_S_symbols_1 : decode prog_1_method_15_code 1 = .ok (.getfield 79, 3) := by decide +kernel
theorem d_S_symbols_4 : decode prog_1_method_15_code 4 = .ok (.ifCond .eq 13, 3) := by decide +kernel
theorem d_S_symbols_7 : decode prog_1_method_15_code 7 = .ok (.aload_n 0, 1) := by decide +kernel
theorem d_S_symbols_8 : decode prog_1_method_15_code 8 = .ok (.getfield 46, 3) := by decide +kernel
theorem d_S_symbols_11 : decode prog_1_method_15_code 11 = .ok (.getfield 134, 3) := by decide +kernel
theorem d_S_symbols_14 : decode prog_1_method_15_code 14 = .ok (.goto 4, 3) := by decide +kernel
theorem d_S_symbols_17 : decode prog_1_method_15_code 17 = .ok (.iconst 0, 1) := by decide +kernel
theorem d_S_symbols_18 : decode prog_1_method_15_code 18 = .ok (.ireturn, 1) := by decide +kernel
theorem d_S_taken_0 : decode prog_1_method_16_code 0 = .ok (.aload_n 0, 1) := by decide +kernel
theorem d_S_taken_1 : decode prog_1_method_16_code 1 = .ok (.getfield 79, 3) := by decide +kernel
theorem d_S_taken_4 : decode prog_1_method_16_code 4 = .ok (.ifCond .eq 13, 3) := by decide +kernel
theorem d_S_taken_7 : decode prog_1_method_16_code 7 = .ok (.aload_n 0, 1) := by decide +kernel
theorem d_S_taken_8 : decode prog_1_method_16_code 8 = .ok (.getfield 46, 3) := by decide +kernel
theorem d_S_taken_11 : decode prog_1_method_16_code 11 = .ok (.getfield 137, 3) := by decide +kernel
theorem d_S_taken_14 : decode prog_1_method_16_code 14 = .ok (.goto 4, 3) := by decide +kernel
theorem d_S_taken_17 : decode prog_1_method_16_code 17 = .ok (.iconst 0, 1) := by decide +kernel
theorem d_S_taken_18 : decode prog_1_method_16_code 18 = .ok (.ireturn, 1) := by decide +kernel
theorem d_C_numberOf_0 : decode prog_3_method_9_code 0 = .ok (.iload_n 1, 1) := by decide +kernel
theorem d_C_numberOf_1 : decode prog_3_method_9_code 1 = .ok (.ifCond .lt 22, 3) := by decide +kernel
theorem d_C_numberOf_4 : decode prog_3_method_9_code 4 = .ok (.iload_n 1, 1) := by decide +kernel
theorem d_C_numberOf_5 : decode prog_3_method_9_code 5 = .ok (.bipush 19, 2) := by decide +kernel
theorem d_C_numberOf_7 : decode prog_3_method_9_code 7 = .ok (.if_icmp .ge 16, 3) := by decide +kernel
theorem d_C_numberOf_10 : decode prog_3_method_9_code 10 = .ok (.iload_n 2, 1) := by decide +kernel
theorem d_C_numberOf_11 : decode prog_3_method_9_code 11 = .ok (.ifCond .lt 12, 3) := by decide +kernel
theorem d_C_numberOf_14 : decode prog_3_method_9_code 14 = .ok (.iload_n 2, 1) := by decide +kernel
theorem d_C_numberOf_15 : decode prog_3_method_9_code 15 = .ok (.getstatic 48, 3) := by decide +kernel
theorem d_C_numberOf_18 : decode prog_3_method_9_code 18 = .ok (.iload_n 1, 1) := by decide +kernel
theorem d_C_numberOf_19 : decode prog_3_method_9_code 19 = .ok (.iaload, 1) := by decide +kernel
theorem d_C_numberOf_20 : decode prog_3_method_9_code 20 = .ok (.if_icmp .lt 5, 3) := by decide +kernel
theorem d_C_numberOf_23 : decode prog_3_method_9_code 23 = .ok (.iconst (-1), 1) := by decide +kernel
theorem d_C_numberOf_24 : decode prog_3_method_9_code 24 = .ok (.ireturn, 1) := by decide +kernel
theorem d_C_numberOf_25 : decode prog_3_method_9_code 25 = .ok (.aload_n 0, 1) := by decide +kernel
theorem d_C_numberOf_26 : decode prog_3_method_9_code 26 = .ok (.getfield 9, 3) := by decide +kernel
theorem d_C_numberOf_29 : decode prog_3_method_9_code 29 = .ok (.iload_n 1, 1) := by decide +kernel
theorem d_C_numberOf_30 : decode prog_3_method_9_code 30 = .ok (.bipush 16, 2) := by decide +kernel
theorem d_C_numberOf_32 : decode prog_3_method_9_code 32 = .ok (.imul, 1) := by decide +kernel
theorem d_C_numberOf_33 : decode prog_3_method_9_code 33 = .ok (.iload_n 2, 1) := by decide +kernel
theorem d_C_numberOf_34 : decode prog_3_method_9_code 34 = .ok (.iadd, 1) := by decide +kernel
theorem d_C_numberOf_35 : decode prog_3_method_9_code 35 = .ok (.iaload, 1) := by decide +kernel
theorem d_C_numberOf_36 : decode prog_3_method_9_code 36 = .ok (.ireturn, 1) := by decide +kernel
theorem d_S_table_0 : decode prog_1_method_17_code 0 = .ok (.aload_n 0, 1) := by decide +kernel
theorem d_S_table_1 : decode prog_1_method_17_code 1 = .ok (.getfield 79, 3) := by decide +kernel
theorem d_S_table_4 : decode prog_1_method_17_code 4 = .ok (.ifCond .eq 15, 3) := by decide +kernel
theorem d_S_table_7 : decode prog_1_method_17_code 7 = .ok (.aload_n 0, 1) := by decide +kernel
theorem d_S_table_8 : decode prog_1_method_17_code 8 = .ok (.getfield 46, 3) := by decide +kernel
theorem d_S_table_11 : decode prog_1_method_17_code 11 = .ok (.iload_n 1, 1) := by decide +kernel
theorem d_S_table_12 : decode prog_1_method_17_code 12 = .ok (.iload_n 2, 1) := by decide +kernel
theorem d_S_table_13 : decode prog_1_method_17_code 13 = .ok (.invokevirtual 140, 3) := by decide +kernel
theorem d_S_table_16 : decode prog_1_method_17_code 16 = .ok (.goto 4, 3) := by decide +kernel
theorem d_S_table_19 : decode prog_1_method_17_code 19 = .ok (.iconst (-1), 1) := by decide +kernel
theorem d_S_table_20 : decode prog_1_method_17_code 20 = .ok (.ireturn, 1) := by decide +kernel
theorem d_M_add_0 : decode prog_13_method_2_code 0 = .ok (.iload_n 1, 1) := by decide +kernel
theorem d_M_add_1 : decode prog_13_method_2_code 1 = .ok (.ifCond .lt 20, 3) := by decide +kernel
theorem d_M_add_4 : decode prog_13_method_2_code 4 = .ok (.iload_n 1, 1) := by decide +kernel
theorem d_M_add_5 : decode prog_13_method_2_code 5 = .ok (.sipush 255, 3) := by decide +kernel
theorem d_M_add_8 : decode prog_13_method_2_code 8 = .ok (.if_icmp .gt 13, 3) := by decide +kernel
theorem d_M_add_11 : decode prog_13_method_2_code 11 = .ok (.aload_n 0, 1) := by decide +kernel
theorem d_M_add_12 : decode prog_13_method_2_code 12 = .ok (.getfield 70, 3) := by decide +kernel
theorem d_M_add_15 : decode prog_13_method_2_code 15 = .ok (.sipush 240, 3) := by decide +kernel
theorem d_M_add_18 : decode prog_13_method_2_code 18 = .ok (.if_icmp .lt 5, 3) := by decide +kernel
theorem d_M_add_21 : decode prog_13_method_2_code 21 = .ok (.iconst 0, 1) := by decide +kernel
theorem d_M_add_22 : decode prog_13_method_2_code 22 = .ok (.ireturn, 1) := by decide +kernel
theorem d_M_add_23 : decode prog_13_method_2_code 23 = .ok (.aload_n 0, 1) := by decide +kernel
theorem d_M_add_24 : decode prog_13_method_2_code 24 = .ok (.getfield 7, 3) := by decide +kernel
theorem d_M_add_27 : decode prog_13_method_2_code 27 = .ok (.aload_n 0, 1) := by decide +kernel
theorem d_M_add_28 : decode prog_13_method_2_code 28 = .ok (.getfield 70, 3) := by decide +kernel
theorem d_M_add_31 : decode prog_13_method_2_code 31 = .ok (.iload_n 1, 1) := by decide +kernel
theorem d_M_add_32 : decode prog_13_method_2_code 32 = .ok (.iastore, 1) := by decide +kernel
theorem d_M_add_33 : decode prog_13_method_2_code 33 = .ok (.aload_n 0, 1) := by decide +kernel
theorem d_M_add_34 : decode prog_13_method_2_code 34 = .ok (.dup, 1) := by decide +kernel
theorem d_M_add_35 : decode prog_13_method_2_code 35 = .ok (.getfield 70, 3) := by decide +kernel
theorem d_M_add_38 : decode prog_13_method_2_code 38 = .ok (.iconst 1, 1) := by decide +kernel
theorem d_M_add_39 : decode prog_13_method_2_code 39 = .ok (.iadd, 1) := by decide +kernel
theorem d_M_add_40 : decode prog_13_method_2_code 40 = .ok (.putfield 70, 3) := by decide +kernel
theorem d_M_add_43 : decode prog_13_method_2_code 43 = .ok (.iconst 1, 1) := by decide +kernel
theorem d_M_add_44 : decode prog_13_method_2_code 44 = .ok (.ireturn, 1) := by decide +kernel
theorem d_M_word_0 : decode prog_13_method_3_code 0 = .ok (.aload_n 0, 1) := by decide +kernel
theorem d_M_word_1 : decode prog_13_method_3_code 1 = .ok (.getfield 70, 3) := by decide +kernel
theorem d_M_word_4 : decode prog_13_method_3_code 4 = .ok (.sipush 236, 3) := by decide +kernel
theorem d_M_word_7 : decode prog_13_method_3_code 7 = .ok (.if_icmp .le 5, 3) := by decide +kernel
theorem d_M_word_10 : decode prog_13_method_3_code 10 = .ok (.iconst 0, 1) := by decide +kernel
theorem d_M_word_11 : decode prog_13_method_3_code 11 = .ok (.ireturn, 1) := by decide +kernel
theorem d_M_word_12 : decode prog_13_method_3_code 12 = .ok (.bipush 24, 2) := by decide +kernel
theorem d_M_word_14 : decode prog_13_method_3_code 14 = .ok (.istore_n 2, 1) := by decide +kernel
theorem d_M_word_15 : decode prog_13_method_3_code 15 = .ok (.iload_n 2, 1) := by decide +kernel
theorem d_M_word_16 : decode prog_13_method_3_code 16 = .ok (.ifCond .lt 23, 3) := by decide +kernel
theorem d_M_word_19 : decode prog_13_method_3_code 19 = .ok (.aload_n 0, 1) := by decide +kernel
theorem d_M_word_20 : decode prog_13_method_3_code 20 = .ok (.iload_n 1, 1) := by decide +kernel
theorem d_M_word_21 : decode prog_13_method_3_code 21 = .ok (.iload_n 2, 1) := by decide +kernel
theorem d_M_word_22 : decode prog_13_method_3_code 22 = .ok (.ishr, 1) := by decide +kernel
theorem d_M_word_23 : decode prog_13_method_3_code 23 = .ok (.sipush 255, 3) := by decide +kernel
theorem d_M_word_26 : decode prog_13_method_3_code 26 = .ok (.iand, 1) := by decide +kernel
theorem d_M_word_27 : decode prog_13_method_3_code 27 = .ok (.invokevirtual 74, 3) := by decide +kernel
theorem d_M_word_30 : decode prog_13_method_3_code 30 = .ok (.pop, 1) := by decide +kernel
theorem d_M_word_31 : decode prog_13_method_3_code 31 = .ok (.iload_n 2, 1) := by decide +kernel
theorem d_M_word_32 : decode prog_13_method_3_code 32 = .ok (.bipush 8, 2) := by decide +kernel
theorem d_M_word_34 : decode prog_13_method_3_code 34 = .ok (.isub, 1) := by decide +kernel
theorem d_M_word_35 : decode prog_13_method_3_code 35 = .ok (.istore_n 2, 1) := by decide +kernel
theorem d_M_word_36 : decode prog_13_method_3_code 36 = .ok (.goto (-21), 3) := by decide +kernel
theorem d_M_word_39 : decode prog_13_method_3_code 39 = .ok (.iconst 1, 1) := by decide +kernel
theorem d_M_word_40 : decode prog_13_method_3_code 40 = .ok (.ireturn, 1) := by decide +kernel
theorem d_M_patch_0 : decode prog_13_method_4_code 0 = .ok (.iload_n 1, 1) := by decide +kernel
theorem d_M_patch_1 : decode prog_13_method_4_code 1 = .ok (.ifCond .lt 22, 3) := by decide +kernel
theorem d_M_patch_4 : decode prog_13_method_4_code 4 = .ok (.iload_n 1, 1) := by decide +kernel
theorem d_M_patch_5 : decode prog_13_method_4_code 5 = .ok (.aload_n 0, 1) := by decide +kernel
theorem d_M_patch_6 : decode prog_13_method_4_code 6 = .ok (.getfield 70, 3) := by decide +kernel
theorem d_M_patch_9 : decode prog_13_method_4_code 9 = .ok (.if_icmp .ge 14, 3) := by decide +kernel
theorem d_M_patch_12 : decode prog_13_method_4_code 12 = .ok (.iload_n 2, 1) := by decide +kernel
theorem d_M_patch_13 : decode prog_13_method_4_code 13 = .ok (.ifCond .lt 10, 3) := by decide +kernel
theorem d_M_patch_16 : decode prog_13_method_4_code 16 = .ok (.iload_n 2, 1) := by decide +kernel
theorem d_M_patch_17 : decode prog_13_method_4_code 17 = .ok (.sipush 255, 3) := by decide +kernel
theorem d_M_patch_20 : decode prog_13_method_4_code 20 = .ok (.if_icmp .le 5, 3) := by decide +kernel
theorem d_M_patch_23 : decode prog_13_method_4_code 23 = .ok (.iconst (-1), 1) := by decide +kernel
theorem d_M_patch_24 : decode prog_13_method_4_code 24 = .ok (.ireturn, 1) := by decide +kernel
theorem d_M_patch_25 : decode prog_13_method_4_code 25 = .ok (.aload_n 0, 1) := by decide +kernel
theorem d_M_patch_26 : decode prog_13_method_4_code 26 = .ok (.getfield 7, 3) := by decide +kernel
theorem d_M_patch_29 : decode prog_13_method_4_code 29 = .ok (.iload_n 1, 1) := by decide +kernel
theorem d_M_patch_30 : decode prog_13_method_4_code 30 = .ok (.iaload, 1) := by decide +kernel
theorem d_M_patch_31 : decode prog_13_method_4_code 31 = .ok (.istore_n 3, 1) := by decide +kernel
theorem d_M_patch_32 : decode prog_13_method_4_code 32 = .ok (.aload_n 0, 1) := by decide +kernel
theorem d_M_patch_33 : decode prog_13_method_4_code 33 = .ok (.getfield 7, 3) := by decide +kernel
theorem d_M_patch_36 : decode prog_13_method_4_code 36 = .ok (.iload_n 1, 1) := by decide +kernel
theorem d_M_patch_37 : decode prog_13_method_4_code 37 = .ok (.iload_n 2, 1) := by decide +kernel
theorem d_M_patch_38 : decode prog_13_method_4_code 38 = .ok (.iastore, 1) := by decide +kernel
theorem d_M_patch_39 : decode prog_13_method_4_code 39 = .ok (.iload_n 3, 1) := by decide +kernel
theorem d_M_patch_40 : decode prog_13_method_4_code 40 = .ok (.ireturn, 1) := by decide +kernel
theorem d_M_clear_0 : decode prog_13_method_5_code 0 = .ok (.aload_n 0, 1) := by decide +kernel
theorem d_M_clear_1 : decode prog_13_method_5_code 1 = .ok (.iconst 0, 1) := by decide +kernel
theorem d_M_clear_2 : decode prog_13_method_5_code 2 = .ok (.putfield 70, 3) := by decide +kernel
theorem d_M_clear_5 : decode prog_13_method_5_code 5 = .ok (.return_, 1) := by decide +kernel
theorem d_M_size_0 : decode prog_13_method_6_code 0 = .ok (.aload_n 0, 1) := by decide +kernel
theorem d_M_size_1 : decode prog_13_method_6_code 1 = .ok (.getfield 70, 3) := by decide +kernel
theorem d_M_size_4 : decode prog_13_method_6_code 4 = .ok (.ireturn, 1) := by decide +kernel
theorem d_M_limited_0 : decode prog_13_method_38_code 0 = .ok (.iload_n 0, 1) := by decide +kernel
theorem d_M_limited_1 : decode prog_13_method_38_code 1 = .ok (.iload_n 1, 1) := by decide +kernel
theorem d_M_limited_2 : decode prog_13_method_38_code 2 = .ok (.ineg, 1) := by decide +kernel
theorem d_M_limited_3 : decode prog_13_method_38_code 3 = .ok (.if_icmp .ge 8, 3) := by decide +kernel
theorem d_M_limited_6 : decode prog_13_method_38_code 6 = .ok (.iload_n 1, 1) := by decide +kernel
theorem d_M_limited_7 : decode prog_13_method_38_code 7 = .ok (.ineg, 1) := by decide +kernel
theorem d_M_limited_8 : decode prog_13_method_38_code 8 = .ok (.goto 13, 3) := by decide +kernel
theorem d_M_limited_11 : decode prog_13_method_38_code 11 = .ok (.iload_n 0, 1) := by decide +kernel
theorem d_M_limited_12 : decode prog_13_method_38_code 12 = .ok (.iload_n 1, 1) := by decide +kernel
theorem d_M_limited_13 : decode prog_13_method_38_code 13 = .ok (.if_icmp .le 7, 3) := by decide +kernel
theorem d_M_limited_16 : decode prog_13_method_38_code 16 = .ok (.iload_n 1, 1) := by decide +kernel
theorem d_M_limited_17 : decode prog_13_method_38_code 17 = .ok (.goto 4, 3) := by decide +kernel
theorem d_M_limited_20 : decode prog_13_method_38_code 20 = .ok (.iload_n 0, 1) := by decide +kernel
theorem d_M_limited_21 : decode prog_13_method_38_code 21 = .ok (.ireturn, 1) := by decide +kernel
theorem d_M_far_0 : decode prog_13_method_35_code 0 = .ok (.iload_n 0, 1) := by decide +kernel
theorem d_M_far_1 : decode prog_13_method_35_code 1 = .ok (.iload_n 1, 1) := by decide +kernel
theorem d_M_far_2 : decode prog_13_method_35_code 2 = .ok (.if_icmp .ge 9, 3) := by decide +kernel
theorem d_M_far_5 : decode prog_13_method_35_code 5 = .ok (.iload_n 1, 1) := by decide +kernel
theorem d_M_far_6 : decode prog_13_method_35_code 6 = .ok (.iload_n 0, 1) := by decide +kernel
theorem d_M_far_7 : decode prog_13_method_35_code 7 = .ok (.isub, 1) := by decide +kernel
theorem d_M_far_8 : decode prog_13_method_35_code 8 = .ok (.goto 6, 3) := by decide +kernel
theorem d_M_far_11 : decode prog_13_method_35_code 11 = .ok (.iload_n 0, 1) := by decide +kernel
theorem d_M_far_12 : decode prog_13_method_35_code 12 = .ok (.iload_n 1, 1) := by decide +kernel
theorem d_M_far_13 : decode prog_13_method_35_code 13 = .ok (.isub, 1) := by decide +kernel
theorem d_M_far_14 : decode prog_13_method_35_code 14 = .ok (.ireturn, 1) := by decide +kernel
theorem d_M_pull_0 : decode prog_13_method_43_code 0 = .ok (.aload_n 0, 1) := by decide +kernel
theorem d_M_pull_1 : decode prog_13_method_43_code 1 = .ok (.getfield 168, 3) := by decide +kernel
theorem d_M_pull_4 : decode prog_13_method_43_code 4 = .ok (.iconst 1, 1) := by decide +kernel
theorem d_M_pull_5 : decode prog_13_method_43_code 5 = .ok (.if_icmp .ne 12, 3) := by decide +kernel
theorem d_M_pull_8 : decode prog_13_method_43_code 8 = .ok (.iconst 4, 1) := by decide +kernel
theorem d_M_pull_9 : decode prog_13_method_43_code 9 = .ok (.aload_n 0, 1) := by decide +kernel
theorem d_M_pull_10 : decode prog_13_method_43_code 10 = .ok (.getfield 192, 3) := by decide +kernel
theorem d_M_pull_13 : decode prog_13_method_43_code 13 = .ok (.imul, 1) := by decide +kernel
theorem d_M_pull_14 : decode prog_13_method_43_code 14 = .ok (.goto 7, 3) := by decide +kernel
theorem d_M_pull_17 : decode prog_13_method_43_code 17 = .ok (.aload_n 0, 1) := by decide +kernel
theorem d_M_pull_18 : decode prog_13_method_43_code 18 = .ok (.getfield 192, 3) := by decide +kernel
theorem d_M_pull_21 : decode prog_13_method_43_code 21 = .ok (.istore_n 2, 1) := by decide +kernel
theorem d_M_pull_22 : decode prog_13_method_43_code 22 = .ok (.iconst 4, 1) := by decide +kernel
theorem d_M_pull_23 : decode prog_13_method_43_code 23 = .ok (.iload_n 2, 1) := by decide +kernel
theorem d_M_pull_24 : decode prog_13_method_43_code 24 = .ok (.imul, 1) := by decide +kernel
theorem d_M_pull_25 : decode prog_13_method_43_code 25 = .ok (.iload_n 1, 1) := by decide +kernel
theorem d_M_pull_26 : decode prog_13_method_43_code 26 = .ok (.iconst 0, 1) := by decide +kernel
theorem d_M_pull_27 : decode prog_13_method_43_code 27 = .ok (.invokestatic 251, 3) := by decide +kernel
theorem d_M_pull_30 : decode prog_13_method_43_code 30 = .ok (.iconst 1, 1) := by decide +kernel
theorem d_M_pull_31 : decode prog_13_method_43_code 31 = .ok (.ishr, 1) := by decide +kernel
theorem d_M_pull_32 : decode prog_13_method_43_code 32 = .ok (.isub, 1) := by decide +kernel
theorem d_M_pull_33 : decode prog_13_method_43_code 33 = .ok (.istore_n 3, 1) := by decide +kernel
theorem d_M_pull_34 : decode prog_13_method_43_code 34 = .ok (.iload_n 1, 1) := by decide +kernel
theorem d_M_pull_35 : decode prog_13_method_43_code 35 = .ok (.iload_n 3, 1) := by decide +kernel
theorem d_M_pull_36 : decode prog_13_method_43_code 36 = .ok (.ifCond .ge 7, 3) := by decide +kernel
theorem d_M_pull_39 : decode prog_13_method_43_code 39 = .ok (.iconst 0, 1) := by decide +kernel
theorem d_M_pull_40 : decode prog_13_method_43_code 40 = .ok (.goto 4, 3) := by decide +kernel
theorem d_M_pull_43 : decode prog_13_method_43_code 43 = .ok (.iload_n 3, 1) := by decide +kernel
theorem d_M_pull_44 : decode prog_13_method_43_code 44 = .ok (.invokestatic 260, 3) := by decide +kernel
theorem d_M_pull_47 : decode prog_13_method_43_code 47 = .ok (.ireturn, 1) := by decide +kernel
theorem d_M_soften_0 : decode prog_13_method_42_code 0 = .ok (.iconst 0, 1) := by decide +kernel
theorem d_M_soften_1 : decode prog_13_method_42_code 1 = .ok (.istore_n 2, 1) := by decide +kernel
theorem d_M_soften_2 : decode prog_13_method_42_code 2 = .ok (.iload_n 2, 1) := by decide +kernel
theorem d_M_soften_3 : decode prog_13_method_42_code 3 = .ok (.sipush 256, 3) := by decide +kernel
theorem d_M_soften_6 : decode prog_13_method_42_code 6 = .ok (.if_icmp .ge 23, 3) := by decide +kernel
theorem d_M_soften_9 : decode prog_13_method_42_code 9 = .ok (.aload_n 0, 1) := by decide +kernel
theorem d_M_soften_10 : decode prog_13_method_42_code 10 = .ok (.getfield 40, 3) := by decide +kernel
theorem d_M_soften_13 : decode prog_13_method_42_code 13 = .ok (.iload_n 2, 1) := by decide +kernel
theorem d_M_soften_14 : decode prog_13_method_42_code 14 = .ok (.aload_n 0, 1) := by decide +kernel
theorem d_M_soften_15 : decode prog_13_method_42_code 15 = .ok (.getfield 37, 3) := by decide +kernel
theorem d_M_soften_18 : decode prog_13_method_42_code 18 = .ok (.iload_n 1, 1) := by decide +kernel
theorem d_M_soften_19 : decode prog_13_method_42_code 19 = .ok (.iload_n 2, 1) := by decide +kernel
theorem d_M_soften_20 : decode prog_13_method_42_code 20 = .ok (.iadd, 1) := by decide +kernel
theorem d_M_soften_21 : decode prog_13_method_42_code 21 = .ok (.iaload, 1) := by decide +kernel
theorem d_M_soften_22 : decode prog_13_method_42_code 22 = .ok (.iastore, 1) := by decide +kernel
theorem d_M_soften_23 : decode prog_13_method_42_code 23 = .ok (.iinc 2 1, 3) := by decide +kernel
theorem d_M_soften_26 : decode prog_13_method_42_code 26 = .ok (.goto (-24), 3) := by decide +kernel
theorem d_M_soften_29 : decode prog_13_method_42_code 29 = .ok (.iconst 0, 1) := by decide +kernel
theorem d_M_soften_30 : decode prog_13_method_42_code 30 = .ok (.istore_n 2, 1) := by decide +kernel
theorem d_M_soften_31 : decode prog_13_method_42_code 31 = .ok (.iload_n 2, 1) := by decide +kernel
theorem d_M_soften_32 : decode prog_13_method_42_code 32 = .ok (.aload_n 0, 1) := by decide +kernel
theorem d_M_soften_33 : decode prog_13_method_42_code 33 = .ok (.getfield 174, 3) := by decide +kernel
theorem d_M_soften_36 : decode prog_13_method_42_code 36 = .ok (.if_icmp .ge 203, 3) := by decide +kernel
theorem d_M_soften_39 : decode prog_13_method_42_code 39 = .ok (.iconst 0, 1) := by decide +kernel
theorem d_M_soften_40 : decode prog_13_method_42_code 40 = .ok (.istore_n 3, 1) := by decide +kernel
theorem d_M_soften_41 : decode prog_13_method_42_code 41 = .ok (.iload_n 3, 1) := by decide +kernel
theorem d_M_soften_42 : decode prog_13_method_42_code 42 = .ok (.aload_n 0, 1) := by decide +kernel
theorem d_M_soften_43 : decode prog_13_method_42_code 43 = .ok (.getfield 171, 3) := by decide +kernel
theorem d_M_soften_46 : decode prog_13_method_42_code 46 = .ok (.if_icmp .ge 187, 3) := by decide +kernel
theorem d_M_soften_49 : decode prog_13_method_42_code 49 = .ok (.aload_n 0, 1) := by decide +kernel
theorem d_M_soften_50 : decode prog_13_method_42_code 50 = .ok (.getfield 40, 3) := by decide +kernel
theorem d_M_soften_53 : decode prog_13_method_42_code 53 = .ok (.bipush 16, 2) := by decide +kernel
theorem d_M_soften_55 : decode prog_13_method_42_code 55 = .ok (.iload_n 2, 1) := by decide +kernel
theorem d_M_soften_56 : decode prog_13_method_42_code 56 = .ok (.imul, 1) := by decide +kernel
theorem d_M_soften_57 : decode prog_13_method_42_code 57 = .ok (.iload_n 3, 1) := by decide +kernel
theorem d_M_soften_58 : decode prog_13_method_42_code 58 = .ok (.iadd, 1) := by decide +kernel
theorem d_M_soften_59 : decode prog_13_method_42_code 59 = .ok (.iaload, 1) := by decide +kernel
theorem d_M_soften_60 : decode prog_13_method_42_code 60 = .ok (.istore 4, 2) := by decide +kernel
theorem d_M_soften_62 : decode prog_13_method_42_code 62 = .ok (.iload_n 3, 1) := by decide +kernel
theorem d_M_soften_63 : decode prog_13_method_42_code 63 = .ok (.ifCond .le 26, 3) := by decide +kernel
theorem d_M_soften_66 : decode prog_13_method_42_code 66 = .ok (.aload_n 0, 1) := by decide +kernel
theorem d_M_soften_67 : decode prog_13_method_42_code 67 = .ok (.aload_n 0, 1) := by decide +kernel
theorem d_M_soften_68 : decode prog_13_method_42_code 68 = .ok (.getfield 40, 3) := by decide +kernel
theorem d_M_soften_71 : decode prog_13_method_42_code 71 = .ok (.bipush 16, 2) := by decide +kernel
theorem d_M_soften_73 : decode prog_13_method_42_code 73 = .ok (.iload_n 2, 1) := by decide +kernel
theorem d_M_soften_74 : decode prog_13_method_42_code 74 = .ok (.imul, 1) := by decide +kernel
theorem d_M_soften_75 : decode prog_13_method_42_code 75 = .ok (.iload_n 3, 1) := by decide +kernel
theorem d_M_soften_76 : decode prog_13_method_42_code 76 = .ok (.iadd, 1) := by decide +kernel
theorem d_M_soften_77 : decode prog_13_method_42_code 77 = .ok (.iconst 1, 1) := by decide +kernel
theorem d_M_soften_78 : decode prog_13_method_42_code 78 = .ok (.isub, 1) := by decide +kernel
theorem d_M_soften_79 : decode prog_13_method_42_code 79 = .ok (.iaload, 1) := by decide +kernel
theorem d_M_soften_80 : decode prog_13_method_42_code 80 = .ok (.iload 4, 2) := by decide +kernel
theorem d_M_soften_82 : decode prog_13_method_42_code 82 = .ok (.isub, 1) := by decide +kernel
theorem d_M_soften_83 : decode prog_13_method_42_code 83 = .ok (.invokevirtual 274, 3) := by decide +kernel
theorem d_M_soften_86 : decode prog_13_method_42_code 86 = .ok (.goto 4, 3) := by decide +kernel
theorem d_M_soften_89 : decode prog_13_method_42_code 89 = .ok (.iconst 0, 1) := by decide +kernel
theorem d_M_soften_90 : decode prog_13_method_42_code 90 = .ok (.istore 5, 2) := by decide +kernel
theorem d_M_soften_92 : decode prog_13_method_42_code 92 = .ok (.iload 5, 2) := by decide +kernel
theorem d_M_soften_94 : decode prog_13_method_42_code 94 = .ok (.iload_n 3, 1) := by decide +kernel
theorem d_M_soften_95 : decode prog_13_method_42_code 95 = .ok (.iconst 1, 1) := by decide +kernel
theorem d_M_soften_96 : decode prog_13_method_42_code 96 = .ok (.iadd, 1) := by decide +kernel
theorem d_M_soften_97 : decode prog_13_method_42_code 97 = .ok (.aload_n 0, 1) := by decide +kernel
theorem d_M_soften_98 : decode prog_13_method_42_code 98 = .ok (.getfield 171, 3) := by decide +kernel
theorem d_M_soften_101 : decode prog_13_method_42_code 101 = .ok (.if_icmp .ge 26, 3) := by decide +kernel
theorem d_M_soften_104 : decode prog_13_method_42_code 104 = .ok (.aload_n 0, 1) := by decide +kernel
theorem d_M_soften_105 : decode prog_13_method_42_code 105 = .ok (.aload_n 0, 1) := by decide +kernel
theorem d_M_soften_106 : decode prog_13_method_42_code 106 = .ok (.getfield 40, 3) := by decide +kernel
theorem d_M_soften_109 : decode prog_13_method_42_code 109 = .ok (.bipush 16, 2) := by decide +kernel
theorem d_M_soften_111 : decode prog_13_method_42_code 111 = .ok (.iload_n 2, 1) := by decide +kernel
theorem d_M_soften_112 : decode prog_13_method_42_code 112 = .ok (.imul, 1) := by decide +kernel
theorem d_M_soften_113 : decode prog_13_method_42_code 113 = .ok (.iload_n 3, 1) := by decide +kernel
theorem d_M_soften_114 : decode prog_13_method_42_code 114 = .ok (.iadd, 1) := by decide +kernel
theorem d_M_soften_115 : decode prog_13_method_42_code 115 = .ok (.iconst 1, 1) := by decide +kernel
theorem d_M_soften_116 : decode prog_13_method_42_code 116 = .ok (.iadd, 1) := by decide +kernel
theorem d_M_soften_117 : decode prog_13_method_42_code 117 = .ok (.iaload, 1) := by decide +kernel
theorem d_M_soften_118 : decode prog_13_method_42_code 118 = .ok (.iload 4, 2) := by decide +kernel
theorem d_M_soften_120 : decode prog_13_method_42_code 120 = .ok (.isub, 1) := by decide +kernel
theorem d_M_soften_121 : decode prog_13_method_42_code 121 = .ok (.invokevirtual 274, 3) := by decide +kernel
theorem d_M_soften_124 : decode prog_13_method_42_code 124 = .ok (.goto 4, 3) := by decide +kernel
theorem d_M_soften_127 : decode prog_13_method_42_code 127 = .ok (.iconst 0, 1) := by decide +kernel
theorem d_M_soften_128 : decode prog_13_method_42_code 128 = .ok (.iadd, 1) := by decide +kernel
theorem d_M_soften_129 : decode prog_13_method_42_code 129 = .ok (.istore 5, 2) := by decide +kernel
theorem d_M_soften_131 : decode prog_13_method_42_code 131 = .ok (.iload 5, 2) := by decide +kernel
theorem d_M_soften_133 : decode prog_13_method_42_code 133 = .ok (.iload_n 2, 1) := by decide +kernel
theorem d_M_soften_134 : decode prog_13_method_42_code 134 = .ok (.ifCond .le 27, 3) := by decide +kernel
theorem d_M_soften_137 : decode prog_13_method_42_code 137 = .ok (.aload_n 0, 1) := by decide +kernel
theorem d_M_soften_138 : decode prog_13_method_42_code 138 = .ok (.aload_n 0, 1) := by decide +kernel
theorem d_M_soften_139 : decode prog_13_method_42_code 139 = .ok (.getfield 40, 3) := by decide +kernel
theorem d_M_soften_142 : decode prog_13_method_42_code 142 = .ok (.bipush 16, 2) := by decide +kernel
theorem d_M_soften_144 : decode prog_13_method_42_code 144 = .ok (.iload_n 2, 1) := by decide +kernel
theorem d_M_soften_145 : decode prog_13_method_42_code 145 = .ok (.imul, 1) := by decide +kernel
theorem d_M_soften_146 : decode prog_13_method_42_code 146 = .ok (.iload_n 3, 1) := by decide +kernel
theorem d_M_soften_147 : decode prog_13_method_42_code 147 = .ok (.iadd, 1) := by decide +kernel
theorem d_M_soften_148 : decode prog_13_method_42_code 148 = .ok (.bipush 16, 2) := by decide +kernel
theorem d_M_soften_150 : decode prog_13_method_42_code 150 = .ok (.isub, 1) := by decide +kernel
theorem d_M_soften_151 : decode prog_13_method_42_code 151 = .ok (.iaload, 1) := by decide +kernel
theorem d_M_soften_152 : decode prog_13_method_42_code 152 = .ok (.iload 4, 2) := by decide +kernel
theorem d_M_soften_154 : decode prog_13_method_42_code 154 = .ok (.isub, 1) := by decide +kernel
theorem d_M_soften_155 : decode prog_13_method_42_code 155 = .ok (.invokevirtual 274, 3) := by decide +kernel
theorem d_M_soften_158 : decode prog_13_method_42_code 158 = .ok (.goto 4, 3) := by decide +kernel
theorem d_M_soften_161 : decode prog_13_method_42_code 161 = .ok (.iconst 0, 1) := by decide +kernel
theorem d_M_soften_162 : decode prog_13_method_42_code 162 = .ok (.iadd, 1) := by decide +kernel
theorem d_M_soften_163 : decode prog_13_method_42_code 163 = .ok (.istore 5, 2) := by decide +kernel
theorem d_M_soften_165 : decode prog_13_method_42_code 165 = .ok (.iload 5, 2) := by decide +kernel
theorem d_M_soften_167 : decode prog_13_method_42_code 167 = .ok (.iload_n 2, 1) := by decide +kernel
theorem d_M_soften_168 : decode prog_13_method_42_code 168 = .ok (.iconst 1, 1) := by decide +kernel
theorem d_M_soften_169 : decode prog_13_method_42_code 169 = .ok (.iadd, 1) := by decide +kernel
theorem d_M_soften_170 : decode prog_13_method_42_code 170 = .ok (.aload_n 0, 1) := by decide +kernel
theorem d_M_soften_171 : decode prog_13_method_42_code 171 = .ok (.getfield 174, 3) := by decide +kernel
theorem d_M_soften_174 : decode prog_13_method_42_code 174 = .ok (.if_icmp .ge 27, 3) := by decide +kernel
theorem d_M_soften_177 : decode prog_13_method_42_code 177 = .ok (.aload_n 0, 1) := by decide +kernel
theorem d_M_soften_178 : decode prog_13_method_42_code 178 = .ok (.aload_n 0, 1) := by decide +kernel
theorem d_M_soften_179 : decode prog_13_method_42_code 179 = .ok (.getfield 40, 3) := by decide +kernel
theorem d_M_soften_182 : decode prog_13_method_42_code 182 = .ok (.bipush 16, 2) := by decide +kernel
theorem d_M_soften_184 : decode prog_13_method_42_code 184 = .ok (.iload_n 2, 1) := by decide +kernel
theorem d_M_soften_185 : decode prog_13_method_42_code 185 = .ok (.imul, 1) := by decide +kernel
theorem d_M_soften_186 : decode prog_13_method_42_code 186 = .ok (.iload_n 3, 1) := by decide +kernel
theorem d_M_soften_187 : decode prog_13_method_42_code 187 = .ok (.iadd, 1) := by decide +kernel
theorem d_M_soften_188 : decode prog_13_method_42_code 188 = .ok (.bipush 16, 2) := by decide +kernel
theorem d_M_soften_190 : decode prog_13_method_42_code 190 = .ok (.iadd, 1) := by decide +kernel
theorem d_M_soften_191 : decode prog_13_method_42_code 191 = .ok (.iaload, 1) := by decide +kernel
theorem d_M_soften_192 : decode prog_13_method_42_code 192 = .ok (.iload 4, 2) := by decide +kernel
theorem d_M_soften_194 : decode prog_13_method_42_code 194 = .ok (.isub, 1) := by decide +kernel
theorem d_M_soften_195 : decode prog_13_method_42_code 195 = .ok (.invokevirtual 274, 3) := by decide +kernel
theorem d_M_soften_198 : decode prog_13_method_42_code 198 = .ok (.goto 4, 3) := by decide +kernel
theorem d_M_soften_201 : decode prog_13_method_42_code 201 = .ok (.iconst 0, 1) := by decide +kernel
theorem d_M_soften_202 : decode prog_13_method_42_code 202 = .ok (.iadd, 1) := by decide +kernel
theorem d_M_soften_203 : decode prog_13_method_42_code 203 = .ok (.istore 5, 2) := by decide +kernel
theorem d_M_soften_205 : decode prog_13_method_42_code 205 = .ok (.aload_n 0, 1) := by decide +kernel
theorem d_M_soften_206 : decode prog_13_method_42_code 206 = .ok (.getfield 37, 3) := by decide +kernel
theorem d_M_soften_209 : decode prog_13_method_42_code 209 = .ok (.iload_n 1, 1) := by decide +kernel
theorem d_M_soften_210 : decode prog_13_method_42_code 210 = .ok (.bipush 16, 2) := by decide +kernel
theorem d_M_soften_212 : decode prog_13_method_42_code 212 = .ok (.iload_n 2, 1) := by decide +kernel
theorem d_M_soften_213 : decode prog_13_method_42_code 213 = .ok (.imul, 1) := by decide +kernel
theorem d_M_soften_214 : decode prog_13_method_42_code 214 = .ok (.iadd, 1) := by decide +kernel
theorem d_M_soften_215 : decode prog_13_method_42_code 215 = .ok (.iload_n 3, 1) := by decide +kernel
theorem d_M_soften_216 : decode prog_13_method_42_code 216 = .ok (.iadd, 1) := by decide +kernel
theorem d_M_soften_217 : decode prog_13_method_42_code 217 = .ok (.iload 4, 2) := by decide +kernel
theorem d_M_soften_219 : decode prog_13_method_42_code 219 = .ok (.iload 5, 2) := by decide +kernel
theorem d_M_soften_221 : decode prog_13_method_42_code 221 = .ok (.iconst 2, 1) := by decide +kernel
theorem d_M_soften_222 : decode prog_13_method_42_code 222 = .ok (.iadd, 1) := by decide +kernel
theorem d_M_soften_223 : decode prog_13_method_42_code 223 = .ok (.iconst 2, 1) := by decide +kernel
theorem d_M_soften_224 : decode prog_13_method_42_code 224 = .ok (.ishr, 1) := by decide +kernel
theorem d_M_soften_225 : decode prog_13_method_42_code 225 = .ok (.iadd, 1) := by decide +kernel
theorem d_M_soften_226 : decode prog_13_method_42_code 226 = .ok (.iastore, 1) := by decide +kernel
theorem d_M_soften_227 : decode prog_13_method_42_code 227 = .ok (.iinc 3 1, 3) := by decide +kernel
theorem d_M_soften_230 : decode prog_13_method_42_code 230 = .ok (.goto (-189), 3) := by decide +kernel
theorem d_M_soften_233 : decode prog_13_method_42_code 233 = .ok (.iinc 2 1, 3) := by decide +kernel
theorem d_M_soften_236 : decode prog_13_method_42_code 236 = .ok (.goto (-205), 3) := by decide +kernel
theorem d_M_soften_239 : decode prog_13_method_42_code 239 = .ok (.return_, 1) := by decide +kernel
theorem d_M_within_0 : decode prog_13_method_32_code 0 = .ok (.aload_n 0, 1) := by decide +kernel
theorem d_M_within_1 : decode prog_13_method_32_code 1 = .ok (.getfield 168, 3) := by decide +kernel
theorem d_M_within_4 : decode prog_13_method_32_code 4 = .ok (.iconst 1, 1) := by decide +kernel
theorem d_M_within_5 : decode prog_13_method_32_code 5 = .ok (.if_icmp .ne 9, 3) := by decide +kernel
theorem d_M_within_8 : decode prog_13_method_32_code 8 = .ok (.sipush 1023, 3) := by decide +kernel
theorem d_M_within_11 : decode prog_13_method_32_code 11 = .ok (.goto 6, 3) := by decide +kernel
theorem d_M_within_14 : decode prog_13_method_32_code 14 = .ok (.sipush 255, 3) := by decide +kernel
theorem d_M_within_17 : decode prog_13_method_32_code 17 = .ok (.istore_n 2, 1) := by decide +kernel
theorem d_M_within_18 : decode prog_13_method_32_code 18 = .ok (.iload_n 1, 1) := by decide +kernel
theorem d_M_within_19 : decode prog_13_method_32_code 19 = .ok (.ifCond .ge 7, 3) := by decide +kernel
theorem d_M_within_22 : decode prog_13_method_32_code 22 = .ok (.iconst 0, 1) := by decide +kernel
theorem d_M_within_23 : decode prog_13_method_32_code 23 = .ok (.goto 13, 3) := by decide +kernel
theorem d_M_within_26 : decode prog_13_method_32_code 26 = .ok (.iload_n 1, 1) := by decide +kernel
theorem d_M_within_27 : decode prog_13_method_32_code 27 = .ok (.iload_n 2, 1) := by decide +kernel
theorem d_M_within_28 : decode prog_13_method_32_code 28 = .ok (.if_icmp .le 7, 3) := by decide +kernel
theorem d_M_within_31 : decode prog_13_method_32_code 31 = .ok (.iload_n 2, 1) := by decide +kernel
theorem d_M_within_32 : decode prog_13_method_32_code 32 = .ok (.goto 4, 3) := by decide +kernel
theorem d_M_within_35 : decode prog_13_method_32_code 35 = .ok (.iload_n 1, 1) := by decide +kernel
theorem d_M_within_36 : decode prog_13_method_32_code 36 = .ok (.ireturn, 1) := by decide +kernel
theorem d_M_smooth_0 : decode prog_13_method_41_code 0 = .ok (.iload 4, 2) := by decide +kernel
theorem d_M_smooth_2 : decode prog_13_method_41_code 2 = .ok (.ifCond .eq 7, 3) := by decide +kernel
theorem d_M_smooth_5 : decode prog_13_method_41_code 5 = .ok (.iload_n 2, 1) := by decide +kernel
theorem d_M_smooth_6 : decode prog_13_method_41_code 6 = .ok (.goto 4, 3) := by decide +kernel
theorem d_M_smooth_9 : decode prog_13_method_41_code 9 = .ok (.iload_n 3, 1) := by decide +kernel
theorem d_M_smooth_10 : decode prog_13_method_41_code 10 = .ok (.istore 5, 2) := by decide +kernel
theorem d_M_smooth_12 : decode prog_13_method_41_code 12 = .ok (.iload_n 2, 1) := by decide +kernel
theorem d_M_smooth_13 : decode prog_13_method_41_code 13 = .ok (.aload_n 0, 1) := by decide +kernel
theorem d_M_smooth_14 : decode prog_13_method_41_code 14 = .ok (.getfield 171, 3) := by decide +kernel
theorem d_M_smooth_17 : decode prog_13_method_41_code 17 = .ok (.if_icmp .ge 23, 3) := by decide +kernel
theorem d_M_smooth_20 : decode prog_13_method_41_code 20 = .ok (.iload_n 3, 1) := by decide +kernel
theorem d_M_smooth_21 : decode prog_13_method_41_code 21 = .ok (.aload_n 0, 1) := by decide +kernel
theorem d_M_smooth_22 : decode prog_13_method_41_code 22 = .ok (.getfield 174, 3) := by decide +kernel
theorem d_M_smooth_25 : decode prog_13_method_41_code 25 = .ok (.if_icmp .ge 15, 3) := by decide +kernel
theorem d_M_smooth_28 : decode prog_13_method_41_code 28 = .ok (.iload 5, 2) := by decide +kernel
theorem d_M_smooth_30 : decode prog_13_method_41_code 30 = .ok (.ifCond .eq 10, 3) := by decide +kernel
theorem d_M_smooth_33 : decode prog_13_method_41_code 33 = .ok (.iload 5, 2) := by decide +kernel
theorem d_M_smooth_35 : decode prog_13_method_41_code 35 = .ok (.iconst 4, 1) := by decide +kernel
theorem d_M_smooth_36 : decode prog_13_method_41_code 36 = .ok (.irem, 1) := by decide +kernel
theorem d_M_smooth_37 : decode prog_13_method_41_code 37 = .ok (.ifCond .eq 4, 3) := by decide +kernel
theorem d_M_smooth_40 : decode prog_13_method_41_code 40 = .ok (.return_, 1) := by decide +kernel
theorem d_M_smooth_41 : decode prog_13_method_41_code 41 = .ok (.iload_n 3, 1) := by decide +kernel
theorem d_M_smooth_42 : decode prog_13_method_41_code 42 = .ok (.iconst 4, 1) := by decide +kernel
theorem d_M_smooth_43 : decode prog_13_method_41_code 43 = .ok (.idiv, 1) := by decide +kernel
theorem d_M_smooth_44 : decode prog_13_method_41_code 44 = .ok (.iconst 4, 1) := by decide +kernel
theorem d_M_smooth_45 : decode prog_13_method_41_code 45 = .ok (.imul, 1) := by decide +kernel
theorem d_M_smooth_46 : decode prog_13_method_41_code 46 = .ok (.iload_n 2, 1) := by decide +kernel
theorem d_M_smooth_47 : decode prog_13_method_41_code 47 = .ok (.iconst 4, 1) := by decide +kernel
theorem d_M_smooth_48 : decode prog_13_method_41_code 48 = .ok (.idiv, 1) := by decide +kernel
theorem d_M_smooth_49 : decode prog_13_method_41_code 49 = .ok (.iadd, 1) := by decide +kernel
theorem d_M_smooth_50 : decode prog_13_method_41_code 50 = .ok (.istore 6, 2) := by decide +kernel
theorem d_M_smooth_52 : decode prog_13_method_41_code 52 = .ok (.aload_n 0, 1) := by decide +kernel
theorem d_M_smooth_53 : decode prog_13_method_41_code 53 = .ok (.getfield 43, 3) := by decide +kernel
theorem d_M_smooth_56 : decode prog_13_method_41_code 56 = .ok (.iload 6, 2) := by decide +kernel
theorem d_M_smooth_58 : decode prog_13_method_41_code 58 = .ok (.iaload, 1) := by decide +kernel
theorem d_M_smooth_59 : decode prog_13_method_41_code 59 = .ok (.aload_n 0, 1) := by decide +kernel
theorem d_M_smooth_60 : decode prog_13_method_41_code 60 = .ok (.getfield 43, 3) := by decide +kernel
theorem d_M_smooth_63 : decode prog_13_method_41_code 63 = .ok (.iload 4, 2) := by decide +kernel
theorem d_M_smooth_65 : decode prog_13_method_41_code 65 = .ok (.ifCond .eq 10, 3) := by decide +kernel
theorem d_M_smooth_68 : decode prog_13_method_41_code 68 = .ok (.iload 6, 2) := by decide +kernel
theorem d_M_smooth_70 : decode prog_13_method_41_code 70 = .ok (.iconst 1, 1) := by decide +kernel
theorem d_M_smooth_71 : decode prog_13_method_41_code 71 = .ok (.isub, 1) := by decide +kernel
theorem d_M_smooth_72 : decode prog_13_method_41_code 72 = .ok (.goto 7, 3) := by decide +kernel
theorem d_M_smooth_75 : decode prog_13_method_41_code 75 = .ok (.iload 6, 2) := by decide +kernel
theorem d_M_smooth_77 : decode prog_13_method_41_code 77 = .ok (.iconst 4, 1) := by decide +kernel
theorem d_M_smooth_78 : decode prog_13_method_41_code 78 = .ok (.isub, 1) := by decide +kernel
theorem d_M_smooth_79 : decode prog_13_method_41_code 79 = .ok (.iaload, 1) := by decide +kernel
theorem d_M_smooth_80 : decode prog_13_method_41_code 80 = .ok (.if_icmp .ne 4, 3) := by decide +kernel
theorem d_M_smooth_83 : decode prog_13_method_41_code 83 = .ok (.return_, 1) := by decide +kernel
theorem d_M_smooth_84 : decode prog_13_method_41_code 84 = .ok (.iload 4, 2) := by decide +kernel
theorem d_M_smooth_86 : decode prog_13_method_41_code 86 = .ok (.ifCond .eq 7, 3) := by decide +kernel
theorem d_M_smooth_89 : decode prog_13_method_41_code 89 = .ok (.iconst 1, 1) := by decide +kernel
theorem d_M_smooth_90 : decode prog_13_method_41_code 90 = .ok (.goto 5, 3) := by decide +kernel
