/-! decode rows, written by a program -/
theorem d_S_isByte_0 : decode prog_1_method_19_code 0 = .ok (.iload_n 0, 1) := by decide +kernel
theorem d_S_isByte_1 : decode prog_1_method_19_code 1 = .ok (.ifCond .lt 14, 3) := by decide +kernel
theorem d_S_isByte_4 : decode prog_1_method_19_code 4 = .ok (.iload_n 0, 1) := by decide +kernel
theorem d_S_isByte_5 : decode prog_1_method_19_code 5 = .ok (.sipush 255, 3) := by decide +kernel
theorem d_S_isByte_8 : decode prog_1_method_19_code 8 = .ok (.if_icmp .gt 7, 3) := by decide +kernel
theorem d_S_isByte_11 : decode prog_1_method_19_code 11 = .ok (.iconst 1, 1) := by decide +kernel
theorem d_S_isByte_12 : decode prog_1_method_19_code 12 = .ok (.goto 4, 3) := by decide +kernel
theorem d_S_isByte_15 : decode prog_1_method_19_code 15 = .ok (.iconst 0, 1) := by decide +kernel
theorem d_S_isByte_16 : decode prog_1_method_19_code 16 = .ok (.ireturn, 1) := by decide +kernel
theorem d_S_add_0 : decode prog_1_method_2_code 0 = .ok (.iload_n 1, 1) := by decide +kernel
theorem d_S_add_1 : decode prog_1_method_2_code 1 = .ok (.invokestatic 83, 3) := by decide +kernel
theorem d_S_add_4 : decode prog_1_method_2_code 4 = .ok (.ifCond .eq 13, 3) := by decide +kernel
theorem d_S_add_7 : decode prog_1_method_2_code 7 = .ok (.aload_n 0, 1) := by decide +kernel
theorem d_S_add_8 : decode prog_1_method_2_code 8 = .ok (.getfield 75, 3) := by decide +kernel
theorem d_S_add_11 : decode prog_1_method_2_code 11 = .ok (.sipush 240, 3) := by decide +kernel
theorem d_S_add_14 : decode prog_1_method_2_code 14 = .ok (.if_icmp .lt 5, 3) := by decide +kernel
theorem d_S_add_17 : decode prog_1_method_2_code 17 = .ok (.iconst 0, 1) := by decide +kernel
theorem d_S_add_18 : decode prog_1_method_2_code 18 = .ok (.ireturn, 1) := by decide +kernel
theorem d_S_add_19 : decode prog_1_method_2_code 19 = .ok (.aload_n 0, 1) := by decide +kernel
theorem d_S_add_20 : decode prog_1_method_2_code 20 = .ok (.getfield 9, 3) := by decide +kernel
theorem d_S_add_23 : decode prog_1_method_2_code 23 = .ok (.aload_n 0, 1) := by decide +kernel
theorem d_S_add_24 : decode prog_1_method_2_code 24 = .ok (.getfield 75, 3) := by decide +kernel
theorem d_S_add_27 : decode prog_1_method_2_code 27 = .ok (.iload_n 1, 1) := by decide +kernel
theorem d_S_add_28 : decode prog_1_method_2_code 28 = .ok (.iastore, 1) := by decide +kernel
theorem d_S_add_29 : decode prog_1_method_2_code 29 = .ok (.aload_n 0, 1) := by decide +kernel
theorem d_S_add_30 : decode prog_1_method_2_code 30 = .ok (.dup, 1) := by decide +kernel
theorem d_S_add_31 : decode prog_1_method_2_code 31 = .ok (.getfield 75, 3) := by decide +kernel
theorem d_S_add_34 : decode prog_1_method_2_code 34 = .ok (.iconst 1, 1) := by decide +kernel
theorem d_S_add_35 : decode prog_1_method_2_code 35 = .ok (.iadd, 1) := by decide +kernel
theorem d_S_add_36 : decode prog_1_method_2_code 36 = .ok (.putfield 75, 3) := by decide +kernel
theorem d_S_add_39 : decode prog_1_method_2_code 39 = .ok (.iconst 1, 1) := by decide +kernel
theorem d_S_add_40 : decode prog_1_method_2_code 40 = .ok (.ireturn, 1) := by decide +kernel
theorem d_S_word_0 : decode prog_1_method_3_code 0 = .ok (.aload_n 0, 1) := by decide +kernel
theorem d_S_word_1 : decode prog_1_method_3_code 1 = .ok (.getfield 75, 3) := by decide +kernel
theorem d_S_word_4 : decode prog_1_method_3_code 4 = .ok (.sipush 236, 3) := by decide +kernel
theorem d_S_word_7 : decode prog_1_method_3_code 7 = .ok (.if_icmp .le 5, 3) := by decide +kernel
theorem d_S_word_10 : decode prog_1_method_3_code 10 = .ok (.iconst 0, 1) := by decide +kernel
theorem d_S_word_11 : decode prog_1_method_3_code 11 = .ok (.ireturn, 1) := by decide +kernel
theorem d_S_word_12 : decode prog_1_method_3_code 12 = .ok (.iconst 0, 1) := by decide +kernel
theorem d_S_word_13 : decode prog_1_method_3_code 13 = .ok (.istore_n 2, 1) := by decide +kernel
theorem d_S_word_14 : decode prog_1_method_3_code 14 = .ok (.iload_n 2, 1) := by decide +kernel
theorem d_S_word_15 : decode prog_1_method_3_code 15 = .ok (.iconst 4, 1) := by decide +kernel
theorem d_S_word_16 : decode prog_1_method_3_code 16 = .ok (.if_icmp .ge 33, 3) := by decide +kernel
theorem d_S_word_19 : decode prog_1_method_3_code 19 = .ok (.aload_n 0, 1) := by decide +kernel
theorem d_S_word_20 : decode prog_1_method_3_code 20 = .ok (.getfield 9, 3) := by decide +kernel
theorem d_S_word_23 : decode prog_1_method_3_code 23 = .ok (.aload_n 0, 1) := by decide +kernel
theorem d_S_word_24 : decode prog_1_method_3_code 24 = .ok (.getfield 75, 3) := by decide +kernel
theorem d_S_word_27 : decode prog_1_method_3_code 27 = .ok (.iload_n 2, 1) := by decide +kernel
theorem d_S_word_28 : decode prog_1_method_3_code 28 = .ok (.iadd, 1) := by decide +kernel
theorem d_S_word_29 : decode prog_1_method_3_code 29 = .ok (.iload_n 1, 1) := by decide +kernel
theorem d_S_word_30 : decode prog_1_method_3_code 30 = .ok (.bipush 24, 2) := by decide +kernel
theorem d_S_word_32 : decode prog_1_method_3_code 32 = .ok (.bipush 8, 2) := by decide +kernel
theorem d_S_word_34 : decode prog_1_method_3_code 34 = .ok (.iload_n 2, 1) := by decide +kernel
theorem d_S_word_35 : decode prog_1_method_3_code 35 = .ok (.imul, 1) := by decide +kernel
theorem d_S_word_36 : decode prog_1_method_3_code 36 = .ok (.isub, 1) := by decide +kernel
theorem d_S_word_37 : decode prog_1_method_3_code 37 = .ok (.ishr, 1) := by decide +kernel
theorem d_S_word_38 : decode prog_1_method_3_code 38 = .ok (.sipush 255, 3) := by decide +kernel
theorem d_S_word_41 : decode prog_1_method_3_code 41 = .ok (.iand, 1) := by decide +kernel
theorem d_S_word_42 : decode prog_1_method_3_code 42 = .ok (.iastore, 1) := by decide +kernel
theorem d_S_word_43 : decode prog_1_method_3_code 43 = .ok (.iinc 2 1, 3) := by decide +kernel
theorem d_S_word_46 : decode prog_1_method_3_code 46 = .ok (.goto (-32), 3) := by decide +kernel
theorem d_S_word_49 : decode prog_1_method_3_code 49 = .ok (.aload_n 0, 1) := by decide +kernel
theorem d_S_word_50 : decode prog_1_method_3_code 50 = .ok (.dup, 1) := by decide +kernel
theorem d_S_word_51 : decode prog_1_method_3_code 51 = .ok (.getfield 75, 3) := by decide +kernel
theorem d_S_word_54 : decode prog_1_method_3_code 54 = .ok (.iconst 4, 1) := by decide +kernel
theorem d_S_word_55 : decode prog_1_method_3_code 55 = .ok (.iadd, 1) := by decide +kernel
theorem d_S_word_56 : decode prog_1_method_3_code 56 = .ok (.putfield 75, 3) := by decide +kernel
theorem d_S_word_59 : decode prog_1_method_3_code 59 = .ok (.iconst 1, 1) := by decide +kernel
theorem d_S_word_60 : decode prog_1_method_3_code 60 = .ok (.ireturn, 1) := by decide +kernel
theorem d_S_patch_0 : decode prog_1_method_4_code 0 = .ok (.iload_n 1, 1) := by decide +kernel
theorem d_S_patch_1 : decode prog_1_method_4_code 1 = .ok (.ifCond .lt 18, 3) := by decide +kernel
theorem d_S_patch_4 : decode prog_1_method_4_code 4 = .ok (.iload_n 1, 1) := by decide +kernel
theorem d_S_patch_5 : decode prog_1_method_4_code 5 = .ok (.aload_n 0, 1) := by decide +kernel
theorem d_S_patch_6 : decode prog_1_method_4_code 6 = .ok (.getfield 75, 3) := by decide +kernel
theorem d_S_patch_9 : decode prog_1_method_4_code 9 = .ok (.if_icmp .ge 10, 3) := by decide +kernel
theorem d_S_patch_12 : decode prog_1_method_4_code 12 = .ok (.iload_n 2, 1) := by decide +kernel
theorem d_S_patch_13 : decode prog_1_method_4_code 13 = .ok (.invokestatic 83, 3) := by decide +kernel
theorem d_S_patch_16 : decode prog_1_method_4_code 16 = .ok (.ifCond .ne 5, 3) := by decide +kernel
theorem d_S_patch_19 : decode prog_1_method_4_code 19 = .ok (.iconst (-1), 1) := by decide +kernel
theorem d_S_patch_20 : decode prog_1_method_4_code 20 = .ok (.ireturn, 1) := by decide +kernel
theorem d_S_patch_21 : decode prog_1_method_4_code 21 = .ok (.aload_n 0, 1) := by decide +kernel
theorem d_S_patch_22 : decode prog_1_method_4_code 22 = .ok (.getfield 9, 3) := by decide +kernel
theorem d_S_patch_25 : decode prog_1_method_4_code 25 = .ok (.iload_n 1, 1) := by decide +kernel
theorem d_S_patch_26 : decode prog_1_method_4_code 26 = .ok (.iaload, 1) := by decide +kernel
theorem d_S_patch_27 : decode prog_1_method_4_code 27 = .ok (.istore_n 3, 1) := by decide +kernel
theorem d_S_patch_28 : decode prog_1_method_4_code 28 = .ok (.aload_n 0, 1) := by decide +kernel
theorem d_S_patch_29 : decode prog_1_method_4_code 29 = .ok (.getfield 9, 3) := by decide +kernel
theorem d_S_patch_32 : decode prog_1_method_4_code 32 = .ok (.iload_n 1, 1) := by decide +kernel
theorem d_S_patch_33 : decode prog_1_method_4_code 33 = .ok (.iload_n 2, 1) := by decide +kernel
theorem d_S_patch_34 : decode prog_1_method_4_code 34 = .ok (.iastore, 1) := by decide +kernel
theorem d_S_patch_35 : decode prog_1_method_4_code 35 = .ok (.iload_n 3, 1) := by decide +kernel
theorem d_S_patch_36 : decode prog_1_method_4_code 36 = .ok (.ireturn, 1) := by decide +kernel
theorem d_S_clear_0 : decode prog_1_method_5_code 0 = .ok (.aload_n 0, 1) := by decide +kernel
theorem d_S_clear_1 : decode prog_1_method_5_code 1 = .ok (.iconst 0, 1) := by decide +kernel
theorem d_S_clear_2 : decode prog_1_method_5_code 2 = .ok (.putfield 75, 3) := by decide +kernel
theorem d_S_clear_5 : decode prog_1_method_5_code 5 = .ok (.return_, 1) := by decide +kernel
theorem d_S_size_0 : decode prog_1_method_6_code 0 = .ok (.aload_n 0, 1) := by decide +kernel
theorem d_S_size_1 : decode prog_1_method_6_code 1 = .ok (.getfield 75, 3) := by decide +kernel
theorem d_S_size_4 : decode prog_1_method_6_code 4 = .ok (.ireturn, 1) := by decide +kernel
theorem d_F_pull_0 : decode prog_6_method_7_code 0 = .ok (.iload_n 0, 1) := by decide +kernel
theorem d_F_pull_1 : decode prog_6_method_7_code 1 = .ok (.invokestatic 69, 3) := by decide +kernel
theorem d_F_pull_4 : decode prog_6_method_7_code 4 = .ok (.istore_n 2, 1) := by decide +kernel
theorem d_F_pull_5 : decode prog_6_method_7_code 5 = .ok (.iconst 0, 1) := by decide +kernel
theorem d_F_pull_6 : decode prog_6_method_7_code 6 = .ok (.iconst 4, 1) := by decide +kernel
theorem d_F_pull_7 : decode prog_6_method_7_code 7 = .ok (.iload_n 1, 1) := by decide +kernel
theorem d_F_pull_8 : decode prog_6_method_7_code 8 = .ok (.imul, 1) := by decide +kernel
theorem d_F_pull_9 : decode prog_6_method_7_code 9 = .ok (.iload_n 2, 1) := by decide +kernel
theorem d_F_pull_10 : decode prog_6_method_7_code 10 = .ok (.iconst 1, 1) := by decide +kernel
theorem d_F_pull_11 : decode prog_6_method_7_code 11 = .ok (.ishr, 1) := by decide +kernel
theorem d_F_pull_12 : decode prog_6_method_7_code 12 = .ok (.isub, 1) := by decide +kernel
theorem d_F_pull_13 : decode prog_6_method_7_code 13 = .ok (.invokestatic 78, 3) := by decide +kernel
theorem d_F_pull_16 : decode prog_6_method_7_code 16 = .ok (.istore_n 3, 1) := by decide +kernel
theorem d_F_pull_17 : decode prog_6_method_7_code 17 = .ok (.iload_n 2, 1) := by decide +kernel
theorem d_F_pull_18 : decode prog_6_method_7_code 18 = .ok (.iload_n 3, 1) := by decide +kernel
theorem d_F_pull_19 : decode prog_6_method_7_code 19 = .ok (.invokestatic 75, 3) := by decide +kernel
theorem d_F_pull_22 : decode prog_6_method_7_code 22 = .ok (.istore 4, 2) := by decide +kernel
theorem d_F_pull_24 : decode prog_6_method_7_code 24 = .ok (.iload_n 0, 1) := by decide +kernel
theorem d_F_pull_25 : decode prog_6_method_7_code 25 = .ok (.ifCond .ge 9, 3) := by decide +kernel
theorem d_F_pull_28 : decode prog_6_method_7_code 28 = .ok (.iload 4, 2) := by decide +kernel
theorem d_F_pull_30 : decode prog_6_method_7_code 30 = .ok (.ineg, 1) := by decide +kernel
theorem d_F_pull_31 : decode prog_6_method_7_code 31 = .ok (.goto 5, 3) := by decide +kernel
theorem d_F_pull_34 : decode prog_6_method_7_code 34 = .ok (.iload 4, 2) := by decide +kernel
theorem d_F_pull_36 : decode prog_6_method_7_code 36 = .ok (.ireturn, 1) := by decide +kernel
theorem d_P_placeOf_0 : decode prog_9_method_2_code 0 = .ok (.iload_n 0, 1) := by decide +kernel
theorem d_P_placeOf_1 : decode prog_9_method_2_code 1 = .ok (.sipush 256, 3) := by decide +kernel
theorem d_P_placeOf_4 : decode prog_9_method_2_code 4 = .ok (.imul, 1) := by decide +kernel
theorem d_P_placeOf_5 : decode prog_9_method_2_code 5 = .ok (.iload_n 2, 1) := by decide +kernel
theorem d_P_placeOf_6 : decode prog_9_method_2_code 6 = .ok (.bipush 16, 2) := by decide +kernel
theorem d_P_placeOf_8 : decode prog_9_method_2_code 8 = .ok (.imul, 1) := by decide +kernel
theorem d_P_placeOf_9 : decode prog_9_method_2_code 9 = .ok (.iadd, 1) := by decide +kernel
theorem d_P_placeOf_10 : decode prog_9_method_2_code 10 = .ok (.iload_n 1, 1) := by decide +kernel
theorem d_P_placeOf_11 : decode prog_9_method_2_code 11 = .ok (.iadd, 1) := by decide +kernel
theorem d_P_placeOf_12 : decode prog_9_method_2_code 12 = .ok (.ireturn, 1) := by decide +kernel
theorem d_F_soften_0 : decode prog_6_method_6_code 0 = .ok (.aload_n 0, 1) := by decide +kernel
theorem d_F_soften_1 : decode prog_6_method_6_code 1 = .ok (.getfield 19, 3) := by decide +kernel
theorem d_F_soften_4 : decode prog_6_method_6_code 4 = .ok (.getfield 66, 3) := by decide +kernel
theorem d_F_soften_7 : decode prog_6_method_6_code 7 = .ok (.astore_n 3, 1) := by decide +kernel
theorem d_F_soften_8 : decode prog_6_method_6_code 8 = .ok (.iconst 0, 1) := by decide +kernel
theorem d_F_soften_9 : decode prog_6_method_6_code 9 = .ok (.istore 4, 2) := by decide +kernel
theorem d_F_soften_11 : decode prog_6_method_6_code 11 = .ok (.iload 4, 2) := by decide +kernel
theorem d_F_soften_13 : decode prog_6_method_6_code 13 = .ok (.aload_n 0, 1) := by decide +kernel
theorem d_F_soften_14 : decode prog_6_method_6_code 14 = .ok (.getfield 15, 3) := by decide +kernel
theorem d_F_soften_17 : decode prog_6_method_6_code 17 = .ok (.getfield 51, 3) := by decide +kernel
theorem d_F_soften_20 : decode prog_6_method_6_code 20 = .ok (.if_icmp .ge 193, 3) := by decide +kernel
theorem d_F_soften_23 : decode prog_6_method_6_code 23 = .ok (.iconst 0, 1) := by decide +kernel
theorem d_F_soften_24 : decode prog_6_method_6_code 24 = .ok (.istore 5, 2) := by decide +kernel
theorem d_F_soften_26 : decode prog_6_method_6_code 26 = .ok (.iload 5, 2) := by decide +kernel
theorem d_F_soften_28 : decode prog_6_method_6_code 28 = .ok (.aload_n 0, 1) := by decide +kernel
theorem d_F_soften_29 : decode prog_6_method_6_code 29 = .ok (.getfield 15, 3) := by decide +kernel
theorem d_F_soften_32 : decode prog_6_method_6_code 32 = .ok (.getfield 48, 3) := by decide +kernel
theorem d_F_soften_35 : decode prog_6_method_6_code 35 = .ok (.if_icmp .ge 172, 3) := by decide +kernel
theorem d_F_soften_38 : decode prog_6_method_6_code 38 = .ok (.iload_n 1, 1) := by decide +kernel
theorem d_F_soften_39 : decode prog_6_method_6_code 39 = .ok (.iload 5, 2) := by decide +kernel
theorem d_F_soften_41 : decode prog_6_method_6_code 41 = .ok (.iload 4, 2) := by decide +kernel
theorem d_F_soften_43 : decode prog_6_method_6_code 43 = .ok (.invokestatic 58, 3) := by decide +kernel
theorem d_F_soften_46 : decode prog_6_method_6_code 46 = .ok (.istore 6, 2) := by decide +kernel
theorem d_F_soften_48 : decode prog_6_method_6_code 48 = .ok (.aload_n 3, 1) := by decide +kernel
theorem d_F_soften_49 : decode prog_6_method_6_code 49 = .ok (.iload 6, 2) := by decide +kernel
theorem d_F_soften_51 : decode prog_6_method_6_code 51 = .ok (.iaload, 1) := by decide +kernel
theorem d_F_soften_52 : decode prog_6_method_6_code 52 = .ok (.istore 7, 2) := by decide +kernel
theorem d_F_soften_54 : decode prog_6_method_6_code 54 = .ok (.iload 5, 2) := by decide +kernel
theorem d_F_soften_56 : decode prog_6_method_6_code 56 = .ok (.ifCond .le 19, 3) := by decide +kernel
theorem d_F_soften_59 : decode prog_6_method_6_code 59 = .ok (.aload_n 3, 1) := by decide +kernel
theorem d_F_soften_60 : decode prog_6_method_6_code 60 = .ok (.iload 6, 2) := by decide +kernel
theorem d_F_soften_62 : decode prog_6_method_6_code 62 = .ok (.iconst 1, 1) := by decide +kernel
theorem d_F_soften_63 : decode prog_6_method_6_code 63 = .ok (.isub, 1) := by decide +kernel
theorem d_F_soften_64 : decode prog_6_method_6_code 64 = .ok (.iaload, 1) := by decide +kernel
theorem d_F_soften_65 : decode prog_6_method_6_code 65 = .ok (.iload 7, 2) := by decide +kernel
theorem d_F_soften_67 : decode prog_6_method_6_code 67 = .ok (.isub, 1) := by decide +kernel
theorem d_F_soften_68 : decode prog_6_method_6_code 68 = .ok (.iload_n 2, 1) := by decide +kernel
theorem d_F_soften_69 : decode prog_6_method_6_code 69 = .ok (.invokestatic 84, 3) := by decide +kernel
theorem d_F_soften_72 : decode prog_6_method_6_code 72 = .ok (.goto 4, 3) := by decide +kernel
theorem d_F_soften_75 : decode prog_6_method_6_code 75 = .ok (.iconst 0, 1) := by decide +kernel
theorem d_F_soften_76 : decode prog_6_method_6_code 76 = .ok (.istore 8, 2) := by decide +kernel
theorem d_F_soften_78 : decode prog_6_method_6_code 78 = .ok (.iload 8, 2) := by decide +kernel
theorem d_F_soften_80 : decode prog_6_method_6_code 80 = .ok (.iload 5, 2) := by decide +kernel
theorem d_F_soften_82 : decode prog_6_method_6_code 82 = .ok (.iconst 1, 1) := by decide +kernel
theorem d_F_soften_83 : decode prog_6_method_6_code 83 = .ok (.iadd, 1) := by decide +kernel
theorem d_F_soften_84 : decode prog_6_method_6_code 84 = .ok (.aload_n 0, 1) := by decide +kernel
theorem d_F_soften_85 : decode prog_6_method_6_code 85 = .ok (.getfield 15, 3) := by decide +kernel
theorem d_F_soften_88 : decode prog_6_method_6_code 88 = .ok (.getfield 48, 3) := by decide +kernel
theorem d_F_soften_91 : decode prog_6_method_6_code 91 = .ok (.if_icmp .ge 19, 3) := by decide +kernel
theorem d_F_soften_94 : decode prog_6_method_6_code 94 = .ok (.aload_n 3, 1) := by decide +kernel
theorem d_F_soften_95 : decode prog_6_method_6_code 95 = .ok (.iload 6, 2) := by decide +kernel
theorem d_F_soften_97 : decode prog_6_method_6_code 97 = .ok (.iconst 1, 1) := by decide +kernel
theorem d_F_soften_98 : decode prog_6_method_6_code 98 = .ok (.iadd, 1) := by decide +kernel
theorem d_F_soften_99 : decode prog_6_method_6_code 99 = .ok (.iaload, 1) := by decide +kernel
theorem d_F_soften_100 : decode prog_6_method_6_code 100 = .ok (.iload 7, 2) := by decide +kernel
theorem d_F_soften_102 : decode prog_6_method_6_code 102 = .ok (.isub, 1) := by decide +kernel
theorem d_F_soften_103 : decode prog_6_method_6_code 103 = .ok (.iload_n 2, 1) := by decide +kernel
theorem d_F_soften_104 : decode prog_6_method_6_code 104 = .ok (.invokestatic 84, 3) := by decide +kernel
theorem d_F_soften_107 : decode prog_6_method_6_code 107 = .ok (.goto 4, 3) := by decide +kernel
theorem d_F_soften_110 : decode prog_6_method_6_code 110 = .ok (.iconst 0, 1) := by decide +kernel
theorem d_F_soften_111 : decode prog_6_method_6_code 111 = .ok (.iadd, 1) := by decide +kernel
theorem d_F_soften_112 : decode prog_6_method_6_code 112 = .ok (.istore 8, 2) := by decide +kernel
theorem d_F_soften_114 : decode prog_6_method_6_code 114 = .ok (.iload 8, 2) := by decide +kernel
theorem d_F_soften_116 : decode prog_6_method_6_code 116 = .ok (.iload 4, 2) := by decide +kernel
theorem d_F_soften_118 : decode prog_6_method_6_code 118 = .ok (.ifCond .le 20, 3) := by decide +kernel
theorem d_F_soften_121 : decode prog_6_method_6_code 121 = .ok (.aload_n 3, 1) := by decide +kernel
theorem d_F_soften_122 : decode prog_6_method_6_code 122 = .ok (.iload 6, 2) := by decide +kernel
theorem d_F_soften_124 : decode prog_6_method_6_code 124 = .ok (.bipush 16, 2) := by decide +kernel
theorem d_F_soften_126 : decode prog_6_method_6_code 126 = .ok (.isub, 1) := by decide +kernel
theorem d_F_soften_127 : decode prog_6_method_6_code 127 = .ok (.iaload, 1) := by decide +kernel
theorem d_F_soften_128 : decode prog_6_method_6_code 128 = .ok (.iload 7, 2) := by decide +kernel
theorem d_F_soften_130 : decode prog_6_method_6_code 130 = .ok (.isub, 1) := by decide +kernel
theorem d_F_soften_131 : decode prog_6_method_6_code 131 = .ok (.iload_n 2, 1) := by decide +kernel
theorem d_F_soften_132 : decode prog_6_method_6_code 132 = .ok (.invokestatic 84, 3) := by decide +kernel
theorem d_F_soften_135 : decode prog_6_method_6_code 135 = .ok (.goto 4, 3) := by decide +kernel
theorem d_F_soften_138 : decode prog_6_method_6_code 138 = .ok (.iconst 0, 1) := by decide +kernel
theorem d_F_soften_139 : decode prog_6_method_6_code 139 = .ok (.iadd, 1) := by decide +kernel
theorem d_F_soften_140 : decode prog_6_method_6_code 140 = .ok (.istore 8, 2) := by decide +kernel
theorem d_F_soften_142 : decode prog_6_method_6_code 142 = .ok (.iload 8, 2) := by decide +kernel
theorem d_F_soften_144 : decode prog_6_method_6_code 144 = .ok (.iload 4, 2) := by decide +kernel
theorem d_F_soften_146 : decode prog_6_method_6_code 146 = .ok (.iconst 1, 1) := by decide +kernel
theorem d_F_soften_147 : decode prog_6_method_6_code 147 = .ok (.iadd, 1) := by decide +kernel
theorem d_F_soften_148 : decode prog_6_method_6_code 148 = .ok (.aload_n 0, 1) := by decide +kernel
theorem d_F_soften_149 : decode prog_6_method_6_code 149 = .ok (.getfield 15, 3) := by decide +kernel
theorem d_F_soften_152 : decode prog_6_method_6_code 152 = .ok (.getfield 51, 3) := by decide +kernel
theorem d_F_soften_155 : decode prog_6_method_6_code 155 = .ok (.if_icmp .ge 20, 3) := by decide +kernel
theorem d_F_soften_158 : decode prog_6_method_6_code 158 = .ok (.aload_n 3, 1) := by decide +kernel
theorem d_F_soften_159 : decode prog_6_method_6_code 159 = .ok (.iload 6, 2) := by decide +kernel
theorem d_F_soften_161 : decode prog_6_method_6_code 161 = .ok (.bipush 16, 2) := by decide +kernel
theorem d_F_soften_163 : decode prog_6_method_6_code 163 = .ok (.iadd, 1) := by decide +kernel
theorem d_F_soften_164 : decode prog_6_method_6_code 164 = .ok (.iaload, 1) := by decide +kernel
theorem d_F_soften_165 : decode prog_6_method_6_code 165 = .ok (.iload 7, 2) := by decide +kernel
theorem d_F_soften_167 : decode prog_6_method_6_code 167 = .ok (.isub, 1) := by decide +kernel
theorem d_F_soften_168 : decode prog_6_method_6_code 168 = .ok (.iload_n 2, 1) := by decide +kernel
theorem d_F_soften_169 : decode prog_6_method_6_code 169 = .ok (.invokestatic 84, 3) := by decide +kernel
theorem d_F_soften_172 : decode prog_6_method_6_code 172 = .ok (.goto 4, 3) := by decide +kernel
theorem d_F_soften_175 : decode prog_6_method_6_code 175 = .ok (.iconst 0, 1) := by decide +kernel
theorem d_F_soften_176 : decode prog_6_method_6_code 176 = .ok (.iadd, 1) := by decide +kernel
theorem d_F_soften_177 : decode prog_6_method_6_code 177 = .ok (.istore 8, 2) := by decide +kernel
theorem d_F_soften_179 : decode prog_6_method_6_code 179 = .ok (.aload_n 0, 1) := by decide +kernel
theorem d_F_soften_180 : decode prog_6_method_6_code 180 = .ok (.getfield 9, 3) := by decide +kernel
theorem d_F_soften_183 : decode prog_6_method_6_code 183 = .ok (.iload 4, 2) := by decide +kernel
theorem d_F_soften_185 : decode prog_6_method_6_code 185 = .ok (.bipush 16, 2) := by decide +kernel
theorem d_F_soften_187 : decode prog_6_method_6_code 187 = .ok (.imul, 1) := by decide +kernel
theorem d_F_soften_188 : decode prog_6_method_6_code 188 = .ok (.iload 5, 2) := by decide +kernel
theorem d_F_soften_190 : decode prog_6_method_6_code 190 = .ok (.iadd, 1) := by decide +kernel
theorem d_F_soften_191 : decode prog_6_method_6_code 191 = .ok (.iload 7, 2) := by decide +kernel
theorem d_F_soften_193 : decode prog_6_method_6_code 193 = .ok (.iload 8, 2) := by decide +kernel
theorem d_F_soften_195 : decode prog_6_method_6_code 195 = .ok (.iconst 2, 1) := by decide +kernel
theorem d_F_soften_196 : decode prog_6_method_6_code 196 = .ok (.iadd, 1) := by decide +kernel
theorem d_F_soften_197 : decode prog_6_method_6_code 197 = .ok (.iconst 2, 1) := by decide +kernel
theorem d_F_soften_198 : decode prog_6_method_6_code 198 = .ok (.ishr, 1) := by decide +kernel
theorem d_F_soften_199 : decode prog_6_method_6_code 199 = .ok (.iadd, 1) := by decide +kernel
theorem d_F_soften_200 : decode prog_6_method_6_code 200 = .ok (.iastore, 1) := by decide +kernel
theorem d_F_soften_201 : decode prog_6_method_6_code 201 = .ok (.iinc 5 1, 3) := by decide +kernel
theorem d_F_soften_204 : decode prog_6_method_6_code 204 = .ok (.goto (-178), 3) := by decide +kernel
theorem d_F_soften_207 : decode prog_6_method_6_code 207 = .ok (.iinc 4 1, 3) := by decide +kernel
theorem d_F_soften_210 : decode prog_6_method_6_code 210 = .ok (.goto (-199), 3) := by decide +kernel
theorem d_F_soften_213 : decode prog_6_method_6_code 213 = .ok (.iconst 0, 1) := by decide +kernel
theorem d_F_soften_214 : decode prog_6_method_6_code 214 = .ok (.istore 4, 2) := by decide +kernel
theorem d_F_soften_216 : decode prog_6_method_6_code 216 = .ok (.iload 4, 2) := by decide +kernel
theorem d_F_soften_218 : decode prog_6_method_6_code 218 = .ok (.aload_n 0, 1) := by decide +kernel
theorem d_F_soften_219 : decode prog_6_method_6_code 219 = .ok (.getfield 15, 3) := by decide +kernel
theorem d_F_soften_222 : decode prog_6_method_6_code 222 = .ok (.getfield 51, 3) := by decide +kernel
theorem d_F_soften_225 : decode prog_6_method_6_code 225 = .ok (.if_icmp .ge 36, 3) := by decide +kernel
theorem d_F_soften_228 : decode prog_6_method_6_code 228 = .ok (.aload_n 0, 1) := by decide +kernel
theorem d_F_soften_229 : decode prog_6_method_6_code 229 = .ok (.getfield 9, 3) := by decide +kernel
theorem d_F_soften_232 : decode prog_6_method_6_code 232 = .ok (.iload 4, 2) := by decide +kernel
theorem d_F_soften_234 : decode prog_6_method_6_code 234 = .ok (.bipush 16, 2) := by decide +kernel
theorem d_F_soften_236 : decode prog_6_method_6_code 236 = .ok (.imul, 1) := by decide +kernel
theorem d_F_soften_237 : decode prog_6_method_6_code 237 = .ok (.aload_n 3, 1) := by decide +kernel
theorem d_F_soften_238 : decode prog_6_method_6_code 238 = .ok (.iload_n 1, 1) := by decide +kernel
theorem d_F_soften_239 : decode prog_6_method_6_code 239 = .ok (.iconst 0, 1) := by decide +kernel
theorem d_F_soften_240 : decode prog_6_method_6_code 240 = .ok (.iload 4, 2) := by decide +kernel
theorem d_F_soften_242 : decode prog_6_method_6_code 242 = .ok (.invokestatic 58, 3) := by decide +kernel
theorem d_F_soften_245 : decode prog_6_method_6_code 245 = .ok (.aload_n 0, 1) := by decide +kernel
theorem d_F_soften_246 : decode prog_6_method_6_code 246 = .ok (.getfield 15, 3) := by decide +kernel
theorem d_F_soften_249 : decode prog_6_method_6_code 249 = .ok (.getfield 48, 3) := by decide +kernel
theorem d_F_soften_252 : decode prog_6_method_6_code 252 = .ok (.invokestatic 87, 3) := by decide +kernel
theorem d_F_soften_255 : decode prog_6_method_6_code 255 = .ok (.iinc 4 1, 3) := by decide +kernel
theorem d_F_soften_258 : decode prog_6_method_6_code 258 = .ok (.goto (-42), 3) := by decide +kernel
theorem d_F_soften_261 : decode prog_6_method_6_code 261 = .ok (.return_, 1) := by decide +kernel
theorem d_P_ownerAt_0 : decode prog_9_method_6_code 0 = .ok (.aload_n 0, 1) := by decide +kernel
theorem d_P_ownerAt_1 : decode prog_9_method_6_code 1 = .ok (.getfield 13, 3) := by decide +kernel
theorem d_P_ownerAt_4 : decode prog_9_method_6_code 4 = .ok (.iload_n 2, 1) := by decide +kernel
theorem d_P_ownerAt_5 : decode prog_9_method_6_code 5 = .ok (.iconst 2, 1) := by decide +kernel
theorem d_P_ownerAt_6 : decode prog_9_method_6_code 6 = .ok (.ishr, 1) := by decide +kernel
theorem d_P_ownerAt_7 : decode prog_9_method_6_code 7 = .ok (.iconst 4, 1) := by decide +kernel
theorem d_P_ownerAt_8 : decode prog_9_method_6_code 8 = .ok (.imul, 1) := by decide +kernel
theorem d_P_ownerAt_9 : decode prog_9_method_6_code 9 = .ok (.iload_n 1, 1) := by decide +kernel
theorem d_P_ownerAt_10 : decode prog_9_method_6_code 10 = .ok (.iconst 2, 1) := by decide +kernel
theorem d_P_ownerAt_11 : decode prog_9_method_6_code 11 = .ok (.ishr, 1) := by decide +kernel
theorem d_P_ownerAt_12 : decode prog_9_method_6_code 12 = .ok (.iadd, 1) := by decide +kernel
theorem d_P_ownerAt_13 : decode prog_9_method_6_code 13 = .ok (.iaload, 1) := by decide +kernel
theorem d_P_ownerAt_14 : decode prog_9_method_6_code 14 = .ok (.ireturn, 1) := by decide +kernel
theorem d_P_limited_0 : decode prog_9_method_4_code 0 = .ok (.iconst 0, 1) := by decide +kernel
theorem d_P_limited_1 : decode prog_9_method_4_code 1 = .ok (.aload_n 0, 1) := by decide +kernel
theorem d_P_limited_2 : decode prog_9_method_4_code 2 = .ok (.getfield 23, 3) := by decide +kernel
theorem d_P_limited_5 : decode prog_9_method_4_code 5 = .ok (.iload_n 1, 1) := by decide +kernel
theorem d_P_limited_6 : decode prog_9_method_4_code 6 = .ok (.invokestatic 26, 3) := by decide +kernel
theorem d_P_limited_9 : decode prog_9_method_4_code 9 = .ok (.invokestatic 32, 3) := by decide +kernel
theorem d_P_limited_12 : decode prog_9_method_4_code 12 = .ok (.ireturn, 1) := by decide +kernel
theorem d_F_smooth_0 : decode prog_6_method_5_code 0 = .ok (.aload_n 0, 1) := by decide +kernel
theorem d_F_smooth_1 : decode prog_6_method_5_code 1 = .ok (.getfield 19, 3) := by decide +kernel
theorem d_F_smooth_4 : decode prog_6_method_5_code 4 = .ok (.getfield 66, 3) := by decide +kernel
theorem d_F_smooth_7 : decode prog_6_method_5_code 7 = .ok (.astore 4, 2) := by decide +kernel
theorem d_F_smooth_9 : decode prog_6_method_5_code 9 = .ok (.aload 4, 2) := by decide +kernel
theorem d_F_smooth_11 : decode prog_6_method_5_code 11 = .ok (.iload_n 1, 1) := by decide +kernel
theorem d_F_smooth_12 : decode prog_6_method_5_code 12 = .ok (.iconst 2, 1) := by decide +kernel
theorem d_F_smooth_13 : decode prog_6_method_5_code 13 = .ok (.iload_n 2, 1) := by decide +kernel
theorem d_F_smooth_14 : decode prog_6_method_5_code 14 = .ok (.imul, 1) := by decide +kernel
theorem d_F_smooth_15 : decode prog_6_method_5_code 15 = .ok (.isub, 1) := by decide +kernel
theorem d_F_smooth_16 : decode prog_6_method_5_code 16 = .ok (.iaload, 1) := by decide +kernel
theorem d_F_smooth_17 : decode prog_6_method_5_code 17 = .ok (.istore 5, 2) := by decide +kernel
theorem d_F_smooth_19 : decode prog_6_method_5_code 19 = .ok (.aload 4, 2) := by decide +kernel
theorem d_F_smooth_21 : decode prog_6_method_5_code 21 = .ok (.iload_n 1, 1) := by decide +kernel
theorem d_F_smooth_22 : decode prog_6_method_5_code 22 = .ok (.iload_n 2, 1) := by decide +kernel
theorem d_F_smooth_23 : decode prog_6_method_5_code 23 = .ok (.isub, 1) := by decide +kernel
theorem d_F_smooth_24 : decode prog_6_method_5_code 24 = .ok (.iaload, 1) := by decide +kernel
theorem d_F_smooth_25 : decode prog_6_method_5_code 25 = .ok (.istore 6, 2) := by decide +kernel
theorem d_F_smooth_27 : decode prog_6_method_5_code 27 = .ok (.aload 4, 2) := by decide +kernel
theorem d_F_smooth_29 : decode prog_6_method_5_code 29 = .ok (.iload_n 1, 1) := by decide +kernel
theorem d_F_smooth_30 : decode prog_6_method_5_code 30 = .ok (.iaload, 1) := by decide +kernel
theorem d_F_smooth_31 : decode prog_6_method_5_code 31 = .ok (.istore 7, 2) := by decide +kernel
theorem d_F_smooth_33 : decode prog_6_method_5_code 33 = .ok (.aload 4, 2) := by decide +kernel
theorem d_F_smooth_35 : decode prog_6_method_5_code 35 = .ok (.iload_n 1, 1) := by decide +kernel
theorem d_F_smooth_36 : decode prog_6_method_5_code 36 = .ok (.iload_n 2, 1) := by decide +kernel
theorem d_F_smooth_37 : decode prog_6_method_5_code 37 = .ok (.iadd, 1) := by decide +kernel
theorem d_F_smooth_38 : decode prog_6_method_5_code 38 = .ok (.iaload, 1) := by decide +kernel
theorem d_F_smooth_39 : decode prog_6_method_5_code 39 = .ok (.istore 8, 2) := by decide +kernel
theorem d_F_smooth_41 : decode prog_6_method_5_code 41 = .ok (.iload 7, 2) := by decide +kernel
theorem d_F_smooth_43 : decode prog_6_method_5_code 43 = .ok (.iload 6, 2) := by decide +kernel
theorem d_F_smooth_45 : decode prog_6_method_5_code 45 = .ok (.isub, 1) := by decide +kernel
theorem d_F_smooth_46 : decode prog_6_method_5_code 46 = .ok (.invokestatic 69, 3) := by decide +kernel
theorem d_F_smooth_49 : decode prog_6_method_5_code 49 = .ok (.iconst 4, 1) := by decide +kernel
theorem d_F_smooth_50 : decode prog_6_method_5_code 50 = .ok (.iload_n 3, 1) := by decide +kernel
theorem d_F_smooth_51 : decode prog_6_method_5_code 51 = .ok (.imul, 1) := by decide +kernel
theorem d_F_smooth_52 : decode prog_6_method_5_code 52 = .ok (.if_icmp .le 4, 3) := by decide +kernel
theorem d_F_smooth_55 : decode prog_6_method_5_code 55 = .ok (.return_, 1) := by decide +kernel
theorem d_F_smooth_56 : decode prog_6_method_5_code 56 = .ok (.iconst 3, 1) := by decide +kernel
theorem d_F_smooth_57 : decode prog_6_method_5_code 57 = .ok (.iload 7, 2) := by decide +kernel
theorem d_F_smooth_59 : decode prog_6_method_5_code 59 = .ok (.iload 6, 2) := by decide +kernel
theorem d_F_smooth_61 : decode prog_6_method_5_code 61 = .ok (.isub, 1) := by decide +kernel
theorem d_F_smooth_62 : decode prog_6_method_5_code 62 = .ok (.imul, 1) := by decide +kernel
theorem d_F_smooth_63 : decode prog_6_method_5_code 63 = .ok (.iload 5, 2) := by decide +kernel
theorem d_F_smooth_65 : decode prog_6_method_5_code 65 = .ok (.iadd, 1) := by decide +kernel
theorem d_F_smooth_66 : decode prog_6_method_5_code 66 = .ok (.iload 8, 2) := by decide +kernel
theorem d_F_smooth_68 : decode prog_6_method_5_code 68 = .ok (.isub, 1) := by decide +kernel
theorem d_F_smooth_69 : decode prog_6_method_5_code 69 = .ok (.iconst 4, 1) := by decide +kernel
theorem d_F_smooth_70 : decode prog_6_method_5_code 70 = .ok (.iadd, 1) := by decide +kernel
theorem d_F_smooth_71 : decode prog_6_method_5_code 71 = .ok (.iconst 3, 1) := by decide +kernel
theorem d_F_smooth_72 : decode prog_6_method_5_code 72 = .ok (.ishr, 1) := by decide +kernel
theorem d_F_smooth_73 : decode prog_6_method_5_code 73 = .ok (.istore 9, 2) := by decide +kernel
theorem d_F_smooth_75 : decode prog_6_method_5_code 75 = .ok (.iload_n 3, 1) := by decide +kernel
theorem d_F_smooth_76 : decode prog_6_method_5_code 76 = .ok (.ineg, 1) := by decide +kernel
theorem d_F_smooth_77 : decode prog_6_method_5_code 77 = .ok (.iload_n 3, 1) := by decide +kernel
theorem d_F_smooth_78 : decode prog_6_method_5_code 78 = .ok (.iload 9, 2) := by decide +kernel
theorem d_F_smooth_80 : decode prog_6_method_5_code 80 = .ok (.invokestatic 75, 3) := by decide +kernel
theorem d_F_smooth_83 : decode prog_6_method_5_code 83 = .ok (.invokestatic 78, 3) := by decide +kernel
theorem d_F_smooth_86 : decode prog_6_method_5_code 86 = .ok (.istore 9, 2) := by decide +kernel
theorem d_F_smooth_88 : decode prog_6_method_5_code 88 = .ok (.aload 4, 2) := by decide +kernel
theorem d_F_smooth_90 : decode prog_6_method_5_code 90 = .ok (.iload_n 1, 1) := by decide +kernel
theorem d_F_smooth_91 : decode prog_6_method_5_code 91 = .ok (.iload_n 2, 1) := by decide +kernel
theorem d_F_smooth_92 : decode prog_6_method_5_code 92 = .ok (.isub, 1) := by decide +kernel
theorem d_F_smooth_93 : decode prog_6_method_5_code 93 = .ok (.aload_n 0, 1) := by decide +kernel
theorem d_F_smooth_94 : decode prog_6_method_5_code 94 = .ok (.getfield 19, 3) := by decide +kernel
theorem d_F_smooth_97 : decode prog_6_method_5_code 97 = .ok (.iload 6, 2) := by decide +kernel
theorem d_F_smooth_99 : decode prog_6_method_5_code 99 = .ok (.iload 9, 2) := by decide +kernel
theorem d_F_smooth_101 : decode prog_6_method_5_code 101 = .ok (.iadd, 1) := by decide +kernel
theorem d_F_smooth_102 : decode prog_6_method_5_code 102 = .ok (.invokevirtual 81, 3) := by decide +kernel
theorem d_F_smooth_105 : decode prog_6_method_5_code 105 = .ok (.iastore, 1) := by decide +kernel
theorem d_F_smooth_106 : decode prog_6_method_5_code 106 = .ok (.aload 4, 2) := by decide +kernel
theorem d_F_smooth_108 : decode prog_6_method_5_code 108 = .ok (.iload_n 1, 1) := by decide +kernel
theorem d_F_smooth_109 : decode prog_6_method_5_code 109 = .ok (.aload_n 0, 1) := by decide +kernel
theorem d_F_smooth_110 : decode prog_6_method_5_code 110 = .ok (.getfield 19, 3) := by decide +kernel
theorem d_F_smooth_113 : decode prog_6_method_5_code 113 = .ok (.iload 7, 2) := by decide +kernel
theorem d_F_smooth_115 : decode prog_6_method_5_code 115 = .ok (.iload 9, 2) := by decide +kernel
theorem d_F_smooth_117 : decode prog_6_method_5_code 117 = .ok (.isub, 1) := by decide +kernel
theorem d_F_smooth_118 : decode prog_6_method_5_code 118 = .ok (.invokevirtual 81, 3) := by decide +kernel
theorem d_F_smooth_121 : decode prog_6_method_5_code 121 = .ok (.iastore, 1) := by decide +kernel
theorem d_F_smooth_122 : decode prog_6_method_5_code 122 = .ok (.return_, 1) := by decide +kernel
theorem d_F_smoothColumns_0 : decode prog_6_method_3_code 0 = .ok (.iconst 4, 1) := by decide +kernel
theorem d_F_smoothColumns_1 : decode prog_6_method_3_code 1 = .ok (.istore_n 3, 1) := by decide +kernel
theorem d_F_smoothColumns_2 : decode prog_6_method_3_code 2 = .ok (.iload_n 3, 1) := by decide +kernel
theorem d_F_smoothColumns_3 : decode prog_6_method_3_code 3 = .ok (.aload_n 0, 1) := by decide +kernel
theorem d_F_smoothColumns_4 : decode prog_6_method_3_code 4 = .ok (.getfield 15, 3) := by decide +kernel
theorem d_F_smoothColumns_7 : decode prog_6_method_3_code 7 = .ok (.getfield 48, 3) := by decide +kernel
theorem d_F_smoothColumns_10 : decode prog_6_method_3_code 10 = .ok (.if_icmp .ge 68, 3) := by decide +kernel
theorem d_F_smoothColumns_13 : decode prog_6_method_3_code 13 = .ok (.iconst 0, 1) := by decide +kernel
theorem d_F_smoothColumns_14 : decode prog_6_method_3_code 14 = .ok (.istore 4, 2) := by decide +kernel
theorem d_F_smoothColumns_16 : decode prog_6_method_3_code 16 = .ok (.iload 4, 2) := by decide +kernel
theorem d_F_smoothColumns_18 : decode prog_6_method_3_code 18 = .ok (.aload_n 0, 1) := by decide +kernel
theorem d_F_smoothColumns_19 : decode prog_6_method_3_code 19 = .ok (.getfield 15, 3) := by decide +kernel
theorem d_F_smoothColumns_22 : decode prog_6_method_3_code 22 = .ok (.getfield 51, 3) := by decide +kernel
theorem d_F_smoothColumns_25 : decode prog_6_method_3_code 25 = .ok (.if_icmp .ge 47, 3) := by decide +kernel
theorem d_F_smoothColumns_28 : decode prog_6_method_3_code 28 = .ok (.aload_n 0, 1) := by decide +kernel
theorem d_F_smoothColumns_29 : decode prog_6_method_3_code 29 = .ok (.getfield 19, 3) := by decide +kernel
theorem d_F_smoothColumns_32 : decode prog_6_method_3_code 32 = .ok (.iload_n 3, 1) := by decide +kernel
theorem d_F_smoothColumns_33 : decode prog_6_method_3_code 33 = .ok (.iconst 1, 1) := by decide +kernel
theorem d_F_smoothColumns_34 : decode prog_6_method_3_code 34 = .ok (.isub, 1) := by decide +kernel
theorem d_F_smoothColumns_35 : decode prog_6_method_3_code 35 = .ok (.iload 4, 2) := by decide +kernel
theorem d_F_smoothColumns_37 : decode prog_6_method_3_code 37 = .ok (.invokevirtual 54, 3) := by decide +kernel
theorem d_F_smoothColumns_40 : decode prog_6_method_3_code 40 = .ok (.aload_n 0, 1) := by decide +kernel
theorem d_F_smoothColumns_41 : decode prog_6_method_3_code 41 = .ok (.getfield 19, 3) := by decide +kernel
theorem d_F_smoothColumns_44 : decode prog_6_method_3_code 44 = .ok (.iload_n 3, 1) := by decide +kernel
theorem d_F_smoothColumns_45 : decode prog_6_method_3_code 45 = .ok (.iload 4, 2) := by decide +kernel
theorem d_F_smoothColumns_47 : decode prog_6_method_3_code 47 = .ok (.invokevirtual 54, 3) := by decide +kernel
theorem d_F_smoothColumns_50 : decode prog_6_method_3_code 50 = .ok (.if_icmp .eq 16, 3) := by decide +kernel
theorem d_F_smoothColumns_53 : decode prog_6_method_3_code 53 = .ok (.aload_n 0, 1) := by decide +kernel
theorem d_F_smoothColumns_54 : decode prog_6_method_3_code 54 = .ok (.iload_n 1, 1) := by decide +kernel
theorem d_F_smoothColumns_55 : decode prog_6_method_3_code 55 = .ok (.iload_n 3, 1) := by decide +kernel
theorem d_F_smoothColumns_56 : decode prog_6_method_3_code 56 = .ok (.iload 4, 2) := by decide +kernel
theorem d_F_smoothColumns_58 : decode prog_6_method_3_code 58 = .ok (.invokestatic 58, 3) := by decide +kernel
theorem d_F_smoothColumns_61 : decode prog_6_method_3_code 61 = .ok (.iconst 1, 1) := by decide +kernel
theorem d_F_smoothColumns_62 : decode prog_6_method_3_code 62 = .ok (.iload_n 2, 1) := by decide +kernel
theorem d_F_smoothColumns_63 : decode prog_6_method_3_code 63 = .ok (.invokevirtual 62, 3) := by decide +kernel
theorem d_F_smoothColumns_66 : decode prog_6_method_3_code 66 = .ok (.iinc 4 1, 3) := by decide +kernel
theorem d_F_smoothColumns_69 : decode prog_6_method_3_code 69 = .ok (.goto (-53), 3) := by decide +kernel
theorem d_F_smoothColumns_72 : decode prog_6_method_3_code 72 = .ok (.iinc 3 4, 3) := by decide +kernel
theorem d_F_smoothColumns_75 : decode prog_6_method_3_code 75 = .ok (.goto (-73), 3) := by decide +kernel
theorem d_F_smoothColumns_78 : decode prog_6_method_3_code 78 = .ok (.return_, 1) := by decide +kernel
theorem d_F_smoothRows_0 : decode prog_6_method_4_code 0 = .ok (.iconst 4, 1) := by decide +kernel
theorem d_F_smoothRows_1 : decode prog_6_method_4_code 1 = .ok (.istore_n 3, 1) := by decide +kernel
theorem d_F_smoothRows_2 : decode prog_6_method_4_code 2 = .ok (.iload_n 3, 1) := by decide +kernel
theorem d_F_smoothRows_3 : decode prog_6_method_4_code 3 = .ok (.aload_n 0, 1) := by decide +kernel
theorem d_F_smoothRows_4 : decode prog_6_method_4_code 4 = .ok (.getfield 15, 3) := by decide +kernel
theorem d_F_smoothRows_7 : decode prog_6_method_4_code 7 = .ok (.getfield 51, 3) := by decide +kernel
theorem d_F_smoothRows_10 : decode prog_6_method_4_code 10 = .ok (.if_icmp .ge 69, 3) := by decide +kernel
theorem d_F_smoothRows_13 : decode prog_6_method_4_code 13 = .ok (.iconst 0, 1) := by decide +kernel
theorem d_F_smoothRows_14 : decode prog_6_method_4_code 14 = .ok (.istore 4, 2) := by decide +kernel
theorem d_F_smoothRows_16 : decode prog_6_method_4_code 16 = .ok (.iload 4, 2) := by decide +kernel
theorem d_F_smoothRows_18 : decode prog_6_method_4_code 18 = .ok (.aload_n 0, 1) := by decide +kernel
theorem d_F_smoothRows_19 : decode prog_6_method_4_code 19 = .ok (.getfield 15, 3) := by decide +kernel
theorem d_F_smoothRows_22 : decode prog_6_method_4_code 22 = .ok (.getfield 48, 3) := by decide +kernel
theorem d_F_smoothRows_25 : decode prog_6_method_4_code 25 = .ok (.if_icmp .ge 48, 3) := by decide +kernel
theorem d_F_smoothRows_28 : decode prog_6_method_4_code 28 = .ok (.aload_n 0, 1) := by decide +kernel
theorem d_F_smoothRows_29 : decode prog_6_method_4_code 29 = .ok (.getfield 19, 3) := by decide +kernel
theorem d_F_smoothRows_32 : decode prog_6_method_4_code 32 = .ok (.iload 4, 2) := by decide +kernel
theorem d_F_smoothRows_34 : decode prog_6_method_4_code 34 = .ok (.iload_n 3, 1) := by decide +kernel
theorem d_F_smoothRows_35 : decode prog_6_method_4_code 35 = .ok (.iconst 1, 1) := by decide +kernel
theorem d_F_smoothRows_36 : decode prog_6_method_4_code 36 = .ok (.isub, 1) := by decide +kernel
theorem d_F_smoothRows_37 : decode prog_6_method_4_code 37 = .ok (.invokevirtual 54, 3) := by decide +kernel
theorem d_F_smoothRows_40 : decode prog_6_method_4_code 40 = .ok (.aload_n 0, 1) := by decide +kernel
theorem d_F_smoothRows_41 : decode prog_6_method_4_code 41 = .ok (.getfield 19, 3) := by decide +kernel
theorem d_F_smoothRows_44 : decode prog_6_method_4_code 44 = .ok (.iload 4, 2) := by decide +kernel
theorem d_F_smoothRows_46 : decode prog_6_method_4_code 46 = .ok (.iload_n 3, 1) := by decide +kernel
theorem d_F_smoothRows_47 : decode prog_6_method_4_code 47 = .ok (.invokevirtual 54, 3) := by decide +kernel
theorem d_F_smoothRows_50 : decode prog_6_method_4_code 50 = .ok (.if_icmp .eq 17, 3) := by decide +kernel
theorem d_F_smoothRows_53 : decode prog_6_method_4_code 53 = .ok (.aload_n 0, 1) := by decide +kernel
theorem d_F_smoothRows_54 : decode prog_6_method_4_code 54 = .ok (.iload_n 1, 1) := by decide +kernel
theorem d_F_smoothRows_55 : decode prog_6_method_4_code 55 = .ok (.iload 4, 2) := by decide +kernel
theorem d_F_smoothRows_57 : decode prog_6_method_4_code 57 = .ok (.iload_n 3, 1) := by decide +kernel
theorem d_F_smoothRows_58 : decode prog_6_method_4_code 58 = .ok (.invokestatic 58, 3) := by decide +kernel
theorem d_F_smoothRows_61 : decode prog_6_method_4_code 61 = .ok (.bipush 16, 2) := by decide +kernel
theorem d_F_smoothRows_63 : decode prog_6_method_4_code 63 = .ok (.iload_n 2, 1) := by decide +kernel
theorem d_F_smoothRows_64 : decode prog_6_method_4_code 64 = .ok (.invokevirtual 62, 3) := by decide +kernel
theorem d_F_smoothRows_67 : decode prog_6_method_4_code 67 = .ok (.iinc 4 1, 3) := by decide +kernel
theorem d_F_smoothRows_70 : decode prog_6_method_4_code 70 = .ok (.goto (-54), 3) := by decide +kernel
theorem d_F_smoothRows_73 : decode prog_6_method_4_code 73 = .ok (.iinc 3 4, 3) := by decide +kernel
theorem d_F_smoothRows_76 : decode prog_6_method_4_code 76 = .ok (.goto (-74), 3) := by decide +kernel
theorem d_F_smoothRows_79 : decode prog_6_method_4_code 79 = .ok (.return_, 1) := by decide +kernel
theorem d_F_run_0 : decode prog_6_method_2_code 0 = .ok (.iconst 1, 1) := by decide +kernel
theorem d_F_run_1 : decode prog_6_method_2_code 1 = .ok (.aload_n 0, 1) := by decide +kernel
theorem d_F_run_2 : decode prog_6_method_2_code 2 = .ok (.getfield 15, 3) := by decide +kernel
theorem d_F_run_5 : decode prog_6_method_2_code 5 = .ok (.getfield 23, 3) := by decide +kernel
theorem d_F_run_8 : decode prog_6_method_2_code 8 = .ok (.bipush 8, 2) := by decide +kernel
theorem d_F_run_10 : decode prog_6_method_2_code 10 = .ok (.isub, 1) := by decide +kernel
theorem d_F_run_11 : decode prog_6_method_2_code 11 = .ok (.ishl, 1) := by decide +kernel
theorem d_F_run_12 : decode prog_6_method_2_code 12 = .ok (.istore_n 1, 1) := by decide +kernel
theorem d_F_run_13 : decode prog_6_method_2_code 13 = .ok (.iconst 0, 1) := by decide +kernel
theorem d_F_run_14 : decode prog_6_method_2_code 14 = .ok (.istore_n 2, 1) := by decide +kernel
theorem d_F_run_15 : decode prog_6_method_2_code 15 = .ok (.iload_n 2, 1) := by decide +kernel
theorem d_F_run_16 : decode prog_6_method_2_code 16 = .ok (.aload_n 0, 1) := by decide +kernel
theorem d_F_run_17 : decode prog_6_method_2_code 17 = .ok (.getfield 15, 3) := by decide +kernel
theorem d_F_run_20 : decode prog_6_method_2_code 20 = .ok (.getfield 29, 3) := by decide +kernel
theorem d_F_run_23 : decode prog_6_method_2_code 23 = .ok (.if_icmp .ge 71, 3) := by decide +kernel
theorem d_F_run_26 : decode prog_6_method_2_code 26 = .ok (.aload_n 0, 1) := by decide +kernel
theorem d_F_run_27 : decode prog_6_method_2_code 27 = .ok (.getfield 15, 3) := by decide +kernel
theorem d_F_run_30 : decode prog_6_method_2_code 30 = .ok (.getfield 32, 3) := by decide +kernel
theorem d_F_run_33 : decode prog_6_method_2_code 33 = .ok (.ifCond .eq 31, 3) := by decide +kernel
theorem d_F_run_36 : decode prog_6_method_2_code 36 = .ok (.aload_n 0, 1) := by decide +kernel
theorem d_F_run_37 : decode prog_6_method_2_code 37 = .ok (.iload_n 2, 1) := by decide +kernel
theorem d_F_run_38 : decode prog_6_method_2_code 38 = .ok (.aload_n 0, 1) := by decide +kernel
theorem d_F_run_39 : decode prog_6_method_2_code 39 = .ok (.getfield 15, 3) := by decide +kernel
theorem d_F_run_42 : decode prog_6_method_2_code 42 = .ok (.getfield 32, 3) := by decide +kernel
theorem d_F_run_45 : decode prog_6_method_2_code 45 = .ok (.iload_n 1, 1) := by decide +kernel
theorem d_F_run_46 : decode prog_6_method_2_code 46 = .ok (.imul, 1) := by decide +kernel
theorem d_F_run_47 : decode prog_6_method_2_code 47 = .ok (.invokevirtual 35, 3) := by decide +kernel
theorem d_F_run_50 : decode prog_6_method_2_code 50 = .ok (.aload_n 0, 1) := by decide +kernel
theorem d_F_run_51 : decode prog_6_method_2_code 51 = .ok (.iload_n 2, 1) := by decide +kernel
theorem d_F_run_52 : decode prog_6_method_2_code 52 = .ok (.aload_n 0, 1) := by decide +kernel
theorem d_F_run_53 : decode prog_6_method_2_code 53 = .ok (.getfield 15, 3) := by decide +kernel
theorem d_F_run_56 : decode prog_6_method_2_code 56 = .ok (.getfield 32, 3) := by decide +kernel
theorem d_F_run_59 : decode prog_6_method_2_code 59 = .ok (.iload_n 1, 1) := by decide +kernel
theorem d_F_run_60 : decode prog_6_method_2_code 60 = .ok (.imul, 1) := by decide +kernel
theorem d_F_run_61 : decode prog_6_method_2_code 61 = .ok (.invokevirtual 39, 3) := by decide +kernel
theorem d_F_run_64 : decode prog_6_method_2_code 64 = .ok (.aload_n 0, 1) := by decide +kernel
theorem d_F_run_65 : decode prog_6_method_2_code 65 = .ok (.getfield 15, 3) := by decide +kernel
theorem d_F_run_68 : decode prog_6_method_2_code 68 = .ok (.getfield 42, 3) := by decide +kernel
theorem d_F_run_71 : decode prog_6_method_2_code 71 = .ok (.ifCond .eq 17, 3) := by decide +kernel
theorem d_F_run_74 : decode prog_6_method_2_code 74 = .ok (.aload_n 0, 1) := by decide +kernel
theorem d_F_run_75 : decode prog_6_method_2_code 75 = .ok (.iload_n 2, 1) := by decide +kernel
theorem d_F_run_76 : decode prog_6_method_2_code 76 = .ok (.aload_n 0, 1) := by decide +kernel
theorem d_F_run_77 : decode prog_6_method_2_code 77 = .ok (.getfield 15, 3) := by decide +kernel
theorem d_F_run_80 : decode prog_6_method_2_code 80 = .ok (.getfield 42, 3) := by decide +kernel
theorem d_F_run_83 : decode prog_6_method_2_code 83 = .ok (.iload_n 1, 1) := by decide +kernel
theorem d_F_run_84 : decode prog_6_method_2_code 84 = .ok (.imul, 1) := by decide +kernel
theorem d_F_run_85 : decode prog_6_method_2_code 85 = .ok (.invokevirtual 45, 3) := by decide +kernel
theorem d_F_run_88 : decode prog_6_method_2_code 88 = .ok (.iinc 2 1, 3) := by decide +kernel
theorem d_F_run_91 : decode prog_6_method_2_code 91 = .ok (.goto (-76), 3) := by decide +kernel
theorem d_F_run_94 : decode prog_6_method_2_code 94 = .ok (.return_, 1) := by decide +kernel
theorem d_C_takeBit_0 : decode prog_3_method_3_code 0 = .ok (.aload_n 0, 1) := by decide +kernel
theorem d_C_takeBit_1 : decode prog_3_method_3_code 1 = .ok (.getfield 25, 3) := by decide +kernel
theorem d_C_takeBit_4 : decode prog_3_method_3_code 4 = .ok (.aload_n 0, 1) := by decide +kernel
theorem d_C_takeBit_5 : decode prog_3_method_3_code 5 = .ok (.getfield 58, 3) := by decide +kernel
theorem d_C_takeBit_8 : decode prog_3_method_3_code 8 = .ok (.iconst 3, 1) := by decide +kernel
theorem d_C_takeBit_9 : decode prog_3_method_3_code 9 = .ok (.ishr, 1) := by decide +kernel
theorem d_C_takeBit_10 : decode prog_3_method_3_code 10 = .ok (.iadd, 1) := by decide +kernel
theorem d_C_takeBit_11 : decode prog_3_method_3_code 11 = .ok (.istore_n 1, 1) := by decide +kernel
theorem d_C_takeBit_12 : decode prog_3_method_3_code 12 = .ok (.iload_n 1, 1) := by decide +kernel
theorem d_C_takeBit_13 : decode prog_3_method_3_code 13 = .ok (.aload_n 0, 1) := by decide +kernel
theorem d_C_takeBit_14 : decode prog_3_method_3_code 14 = .ok (.getfield 32, 3) := by decide +kernel
theorem d_C_takeBit_17 : decode prog_3_method_3_code 17 = .ok (.if_icmp .ge 25, 3) := by decide +kernel
theorem d_C_takeBit_20 : decode prog_3_method_3_code 20 = .ok (.aload_n 0, 1) := by decide +kernel
theorem d_C_takeBit_21 : decode prog_3_method_3_code 21 = .ok (.getfield 16, 3) := by decide +kernel
theorem d_C_takeBit_24 : decode prog_3_method_3_code 24 = .ok (.iload_n 1, 1) := by decide +kernel
theorem d_C_takeBit_25 : decode prog_3_method_3_code 25 = .ok (.iaload, 1) := by decide +kernel
theorem d_C_takeBit_26 : decode prog_3_method_3_code 26 = .ok (.bipush 7, 2) := by decide +kernel
theorem d_C_takeBit_28 : decode prog_3_method_3_code 28 = .ok (.aload_n 0, 1) := by decide +kernel
theorem d_C_takeBit_29 : decode prog_3_method_3_code 29 = .ok (.getfield 58, 3) := by decide +kernel
theorem d_C_takeBit_32 : decode prog_3_method_3_code 32 = .ok (.bipush 7, 2) := by decide +kernel
theorem d_C_takeBit_34 : decode prog_3_method_3_code 34 = .ok (.iand, 1) := by decide +kernel
theorem d_C_takeBit_35 : decode prog_3_method_3_code 35 = .ok (.isub, 1) := by decide +kernel
theorem d_C_takeBit_36 : decode prog_3_method_3_code 36 = .ok (.ishr, 1) := by decide +kernel
theorem d_C_takeBit_37 : decode prog_3_method_3_code 37 = .ok (.iconst 1, 1) := by decide +kernel
theorem d_C_takeBit_38 : decode prog_3_method_3_code 38 = .ok (.iand, 1) := by decide +kernel
theorem d_C_takeBit_39 : decode prog_3_method_3_code 39 = .ok (.goto 4, 3) := by decide +kernel
theorem d_C_takeBit_42 : decode prog_3_method_3_code 42 = .ok (.iconst 0, 1) := by decide +kernel
theorem d_C_takeBit_43 : decode prog_3_method_3_code 43 = .ok (.istore_n 2, 1) := by decide +kernel
theorem d_C_takeBit_44 : decode prog_3_method_3_code 44 = .ok (.aload_n 0, 1) := by decide +kernel
theorem d_C_takeBit_45 : decode prog_3_method_3_code 45 = .ok (.iconst 2, 1) := by decide +kernel
theorem d_C_takeBit_46 : decode prog_3_method_3_code 46 = .ok (.aload_n 0, 1) := by decide +kernel
theorem d_C_takeBit_47 : decode prog_3_method_3_code 47 = .ok (.getfield 55, 3) := by decide +kernel
theorem d_C_takeBit_50 : decode prog_3_method_3_code 50 = .ok (.imul, 1) := by decide +kernel
theorem d_C_takeBit_51 : decode prog_3_method_3_code 51 = .ok (.iload_n 2, 1) := by decide +kernel
theorem d_C_takeBit_52 : decode prog_3_method_3_code 52 = .ok (.iadd, 1) := by decide +kernel
theorem d_C_takeBit_53 : decode prog_3_method_3_code 53 = .ok (.putfield 55, 3) := by decide +kernel
theorem d_C_takeBit_56 : decode prog_3_method_3_code 56 = .ok (.aload_n 0, 1) := by decide +kernel
theorem d_C_takeBit_57 : decode prog_3_method_3_code 57 = .ok (.dup, 1) := by decide +kernel
theorem d_C_takeBit_58 : decode prog_3_method_3_code 58 = .ok (.getfield 58, 3) := by decide +kernel
theorem d_C_takeBit_61 : decode prog_3_method_3_code 61 = .ok (.iconst 1, 1) := by decide +kernel
theorem d_C_takeBit_62 : decode prog_3_method_3_code 62 = .ok (.iadd, 1) := by decide +kernel
theorem d_C_takeBit_63 : decode prog_3_method_3_code 63 = .ok (.putfield 58, 3) := by decide +kernel
theorem d_C_takeBit_66 : decode prog_3_method_3_code 66 = .ok (.return_, 1) := by decide +kernel
theorem d_C_narrow_0 : decode prog_3_method_6_code 0 = .ok (.aload_n 0, 1) := by decide +kernel
theorem d_C_narrow_1 : decode prog_3_method_6_code 1 = .ok (.dup, 1) := by decide +kernel
theorem d_C_narrow_2 : decode prog_3_method_6_code 2 = .ok (.getfield 39, 3) := by decide +kernel
theorem d_C_narrow_5 : decode prog_3_method_6_code 5 = .ok (.iconst 1, 1) := by decide +kernel
theorem d_C_narrow_6 : decode prog_3_method_6_code 6 = .ok (.iadd, 1) := by decide +kernel
theorem d_C_narrow_7 : decode prog_3_method_6_code 7 = .ok (.putfield 39, 3) := by decide +kernel
theorem d_C_narrow_10 : decode prog_3_method_6_code 10 = .ok (.aload_n 0, 1) := by decide +kernel
theorem d_C_narrow_11 : decode prog_3_method_6_code 11 = .ok (.dup, 1) := by decide +kernel
theorem d_C_narrow_12 : decode prog_3_method_6_code 12 = .ok (.getfield 55, 3) := by decide +kernel
theorem d_C_narrow_15 : decode prog_3_method_6_code 15 = .ok (.iload_n 1, 1) := by decide +kernel
theorem d_C_narrow_16 : decode prog_3_method_6_code 16 = .ok (.isub, 1) := by decide +kernel
theorem d_C_narrow_17 : decode prog_3_method_6_code 17 = .ok (.putfield 55, 3) := by decide +kernel
theorem d_C_narrow_20 : decode prog_3_method_6_code 20 = .ok (.aload_n 0, 1) := by decide +kernel
theorem d_C_narrow_21 : decode prog_3_method_6_code 21 = .ok (.iload_n 2, 1) := by decide +kernel
theorem d_C_narrow_22 : decode prog_3_method_6_code 22 = .ok (.iload_n 1, 1) := by decide +kernel
theorem d_C_narrow_23 : decode prog_3_method_6_code 23 = .ok (.isub, 1) := by decide +kernel
theorem d_C_narrow_24 : decode prog_3_method_6_code 24 = .ok (.putfield 52, 3) := by decide +kernel
theorem d_C_narrow_27 : decode prog_3_method_6_code 27 = .ok (.iconst 0, 1) := by decide +kernel
theorem d_C_narrow_28 : decode prog_3_method_6_code 28 = .ok (.istore_n 3, 1) := by decide +kernel
theorem d_C_narrow_29 : decode prog_3_method_6_code 29 = .ok (.iload_n 3, 1) := by decide +kernel
theorem d_C_narrow_30 : decode prog_3_method_6_code 30 = .ok (.bipush 14, 2) := by decide +kernel
theorem d_C_narrow_32 : decode prog_3_method_6_code 32 = .ok (.if_icmp .ge 33, 3) := by decide +kernel
theorem d_C_narrow_35 : decode prog_3_method_6_code 35 = .ok (.aload_n 0, 1) := by decide +kernel
theorem d_C_narrow_36 : decode prog_3_method_6_code 36 = .ok (.getfield 52, 3) := by decide +kernel
theorem d_C_narrow_39 : decode prog_3_method_6_code 39 = .ok (.sipush 16384, 3) := by decide +kernel
theorem d_C_narrow_42 : decode prog_3_method_6_code 42 = .ok (.if_icmp .ge 23, 3) := by decide +kernel
theorem d_C_narrow_45 : decode prog_3_method_6_code 45 = .ok (.aload_n 0, 1) := by decide +kernel
theorem d_C_narrow_46 : decode prog_3_method_6_code 46 = .ok (.iconst 2, 1) := by decide +kernel
theorem d_C_narrow_47 : decode prog_3_method_6_code 47 = .ok (.aload_n 0, 1) := by decide +kernel
theorem d_C_narrow_48 : decode prog_3_method_6_code 48 = .ok (.getfield 52, 3) := by decide +kernel
theorem d_C_narrow_51 : decode prog_3_method_6_code 51 = .ok (.imul, 1) := by decide +kernel
theorem d_C_narrow_52 : decode prog_3_method_6_code 52 = .ok (.putfield 52, 3) := by decide +kernel
theorem d_C_narrow_55 : decode prog_3_method_6_code 55 = .ok (.aload_n 0, 1) := by decide +kernel
theorem d_C_narrow_56 : decode prog_3_method_6_code 56 = .ok (.invokevirtual 61, 3) := by decide +kernel
theorem d_C_narrow_59 : decode prog_3_method_6_code 59 = .ok (.iinc 3 1, 3) := by decide +kernel
theorem d_C_narrow_62 : decode prog_3_method_6_code 62 = .ok (.goto (-33), 3) := by decide +kernel
theorem d_C_narrow_65 : decode prog_3_method_6_code 65 = .ok (.return_, 1) := by decide +kernel
theorem d_C_readBit_0 : decode prog_3_method_5_code 0 = .ok (.aload_n 0, 1) := by decide +kernel
theorem d_C_readBit_1 : decode prog_3_method_5_code 1 = .ok (.getfield 52, 3) := by decide +kernel
theorem d_C_readBit_4 : decode prog_3_method_5_code 4 = .ok (.iconst 1, 1) := by decide +kernel
theorem d_C_readBit_5 : decode prog_3_method_5_code 5 = .ok (.ishr, 1) := by decide +kernel
theorem d_C_readBit_6 : decode prog_3_method_5_code 6 = .ok (.istore_n 1, 1) := by decide +kernel
theorem d_C_readBit_7 : decode prog_3_method_5_code 7 = .ok (.aload_n 0, 1) := by decide +kernel
theorem d_C_readBit_8 : decode prog_3_method_5_code 8 = .ok (.getfield 55, 3) := by decide +kernel
theorem d_C_readBit_11 : decode prog_3_method_5_code 11 = .ok (.iload_n 1, 1) := by decide +kernel
theorem d_C_readBit_12 : decode prog_3_method_5_code 12 = .ok (.if_icmp .ge 11, 3) := by decide +kernel
theorem d_C_readBit_15 : decode prog_3_method_5_code 15 = .ok (.aload_n 0, 1) := by decide +kernel
theorem d_C_readBit_16 : decode prog_3_method_5_code 16 = .ok (.iconst 0, 1) := by decide +kernel
theorem d_C_readBit_17 : decode prog_3_method_5_code 17 = .ok (.iload_n 1, 1) := by decide +kernel
theorem d_C_readBit_18 : decode prog_3_method_5_code 18 = .ok (.invokevirtual 64, 3) := by decide +kernel
theorem d_C_readBit_21 : decode prog_3_method_5_code 21 = .ok (.iconst 0, 1) := by decide +kernel
theorem d_C_readBit_22 : decode prog_3_method_5_code 22 = .ok (.ireturn, 1) := by decide +kernel
theorem d_C_readBit_23 : decode prog_3_method_5_code 23 = .ok (.aload_n 0, 1) := by decide +kernel
theorem d_C_readBit_24 : decode prog_3_method_5_code 24 = .ok (.iload_n 1, 1) := by decide +kernel
theorem d_C_readBit_25 : decode prog_3_method_5_code 25 = .ok (.aload_n 0, 1) := by decide +kernel
theorem d_C_readBit_26 : decode prog_3_method_5_code 26 = .ok (.getfield 52, 3) := by decide +kernel
theorem d_C_readBit_29 : decode prog_3_method_5_code 29 = .ok (.invokevirtual 64, 3) := by decide +kernel
theorem d_C_readBit_32 : decode prog_3_method_5_code 32 = .ok (.iconst 1, 1) := by decide +kernel
theorem d_C_readBit_33 : decode prog_3_method_5_code 33 = .ok (.ireturn, 1) := by decide +kernel
theorem d_C_readExcess_0 : decode prog_3_method_8_code 0 = .ok (.iconst 0, 1) := by decide +kernel
theorem d_C_readExcess_1 : decode prog_3_method_8_code 1 = .ok (.istore_n 1, 1) := by decide +kernel
theorem d_C_readExcess_2 : decode prog_3_method_8_code 2 = .ok (.iload_n 1, 1) := by decide +kernel
theorem d_C_readExcess_3 : decode prog_3_method_8_code 3 = .ok (.bipush 12, 2) := by decide +kernel
theorem d_C_readExcess_5 : decode prog_3_method_8_code 5 = .ok (.if_icmp .gt 16, 3) := by decide +kernel
theorem d_C_readExcess_8 : decode prog_3_method_8_code 8 = .ok (.aload_n 0, 1) := by decide +kernel
theorem d_C_readExcess_9 : decode prog_3_method_8_code 9 = .ok (.invokevirtual 71, 3) := by decide +kernel
theorem d_C_readExcess_12 : decode prog_3_method_8_code 12 = .ok (.ifCond .ne 9, 3) := by decide +kernel
theorem d_C_readExcess_15 : decode prog_3_method_8_code 15 = .ok (.iinc 1 1, 3) := by decide +kernel
theorem d_C_readExcess_18 : decode prog_3_method_8_code 18 = .ok (.goto (-16), 3) := by decide +kernel
theorem d_C_readExcess_21 : decode prog_3_method_8_code 21 = .ok (.iload_n 1, 1) := by decide +kernel
theorem d_C_readExcess_22 : decode prog_3_method_8_code 22 = .ok (.bipush 12, 2) := by decide +kernel
theorem d_C_readExcess_24 : decode prog_3_method_8_code 24 = .ok (.if_icmp .le 5, 3) := by decide +kernel
theorem d_C_readExcess_27 : decode prog_3_method_8_code 27 = .ok (.iconst (-1), 1) := by decide +kernel
theorem d_C_readExcess_28 : decode prog_3_method_8_code 28 = .ok (.ireturn, 1) := by decide +kernel
theorem d_C_readExcess_29 : decode prog_3_method_8_code 29 = .ok (.iconst 0, 1) := by decide +kernel
theorem d_C_readExcess_30 : decode prog_3_method_8_code 30 = .ok (.istore_n 2, 1) := by decide +kernel
theorem d_C_readExcess_31 : decode prog_3_method_8_code 31 = .ok (.iconst 0, 1) := by decide +kernel
theorem d_C_readExcess_32 : decode prog_3_method_8_code 32 = .ok (.istore_n 3, 1) := by decide +kernel
theorem d_C_readExcess_33 : decode prog_3_method_8_code 33 = .ok (.iload_n 3, 1) := by decide +kernel
theorem d_C_readExcess_34 : decode prog_3_method_8_code 34 = .ok (.iload_n 1, 1) := by decide +kernel
theorem d_C_readExcess_35 : decode prog_3_method_8_code 35 = .ok (.if_icmp .ge 18, 3) := by decide +kernel
theorem d_C_readExcess_38 : decode prog_3_method_8_code 38 = .ok (.iconst 2, 1) := by decide +kernel
theorem d_C_readExcess_39 : decode prog_3_method_8_code 39 = .ok (.iload_n 2, 1) := by decide +kernel
theorem d_C_readExcess_40 : decode prog_3_method_8_code 40 = .ok (.imul, 1) := by decide +kernel
theorem d_C_readExcess_41 : decode prog_3_method_8_code 41 = .ok (.aload_n 0, 1) := by decide +kernel
theorem d_C_readExcess_42 : decode prog_3_method_8_code 42 = .ok (.invokevirtual 71, 3) := by decide +kernel
theorem d_C_readExcess_45 : decode prog_3_method_8_code 45 = .ok (.iadd, 1) := by decide +kernel
theorem d_C_readExcess_46 : decode prog_3_method_8_code 46 = .ok (.istore_n 2, 1) := by decide +kernel
theorem d_C_readExcess_47 : decode prog_3_method_8_code 47 = .ok (.iinc 3 1, 3) := by decide +kernel
theorem d_C_readExcess_50 : decode prog_3_method_8_code 50 = .ok (.goto (-17), 3) := by decide +kernel
theorem d_C_readExcess_53 : decode prog_3_method_8_code 53 = .ok (.iconst 1, 1) := by decide +kernel
theorem d_C_readExcess_54 : decode prog_3_method_8_code 54 = .ok (.iload_n 1, 1) := by decide +kernel
theorem d_C_readExcess_55 : decode prog_3_method_8_code 55 = .ok (.ishl, 1) := by decide +kernel
theorem d_C_readExcess_56 : decode prog_3_method_8_code 56 = .ok (.iconst 1, 1) := by decide +kernel
theorem d_C_readExcess_57 : decode prog_3_method_8_code 57 = .ok (.isub, 1) := by decide +kernel
theorem d_C_readExcess_58 : decode prog_3_method_8_code 58 = .ok (.iload_n 2, 1) := by decide +kernel
theorem d_C_readExcess_59 : decode prog_3_method_8_code 59 = .ok (.iadd, 1) := by decide +kernel
theorem d_C_readExcess_60 : decode prog_3_method_8_code 60 = .ok (.ireturn, 1) := by decide +kernel
theorem d_C_adapt_0 : decode prog_3_method_7_code 0 = .ok (.iload_n 1, 1) := by decide +kernel
theorem d_C_adapt_1 : decode prog_3_method_7_code 1 = .ok (.bipush 16, 2) := by decide +kernel
theorem d_C_adapt_3 : decode prog_3_method_7_code 3 = .ok (.imul, 1) := by decide +kernel
theorem d_C_adapt_4 : decode prog_3_method_7_code 4 = .ok (.istore_n 3, 1) := by decide +kernel
theorem d_C_adapt_5 : decode prog_3_method_7_code 5 = .ok (.getstatic 48, 3) := by decide +kernel
theorem d_C_adapt_8 : decode prog_3_method_7_code 8 = .ok (.iload_n 1, 1) := by decide +kernel
theorem d_C_adapt_9 : decode prog_3_method_7_code 9 = .ok (.iaload, 1) := by decide +kernel
theorem d_C_adapt_10 : decode prog_3_method_7_code 10 = .ok (.iconst 1, 1) := by decide +kernel
theorem d_C_adapt_11 : decode prog_3_method_7_code 11 = .ok (.isub, 1) := by decide +kernel
theorem d_C_adapt_12 : decode prog_3_method_7_code 12 = .ok (.istore 4, 2) := by decide +kernel
theorem d_C_adapt_14 : decode prog_3_method_7_code 14 = .ok (.iconst 4, 1) := by decide +kernel
theorem d_C_adapt_15 : decode prog_3_method_7_code 15 = .ok (.aload_n 0, 1) := by decide +kernel
theorem d_C_adapt_16 : decode prog_3_method_7_code 16 = .ok (.getfield 13, 3) := by decide +kernel
theorem d_C_adapt_19 : decode prog_3_method_7_code 19 = .ok (.iload_n 1, 1) := by decide +kernel
theorem d_C_adapt_20 : decode prog_3_method_7_code 20 = .ok (.iaload, 1) := by decide +kernel
theorem d_C_adapt_21 : decode prog_3_method_7_code 21 = .ok (.bipush 15, 2) := by decide +kernel
theorem d_C_adapt_23 : decode prog_3_method_7_code 23 = .ok (.if_icmp .le 7, 3) := by decide +kernel
theorem d_C_adapt_26 : decode prog_3_method_7_code 26 = .ok (.iconst 1, 1) := by decide +kernel
theorem d_C_adapt_27 : decode prog_3_method_7_code 27 = .ok (.goto 4, 3) := by decide +kernel
theorem d_C_adapt_30 : decode prog_3_method_7_code 30 = .ok (.iconst 0, 1) := by decide +kernel
theorem d_C_adapt_31 : decode prog_3_method_7_code 31 = .ok (.iadd, 1) := by decide +kernel
theorem d_C_adapt_32 : decode prog_3_method_7_code 32 = .ok (.getstatic 48, 3) := by decide +kernel
theorem d_C_adapt_35 : decode prog_3_method_7_code 35 = .ok (.iload_n 1, 1) := by decide +kernel
theorem d_C_adapt_36 : decode prog_3_method_7_code 36 = .ok (.iaload, 1) := by decide +kernel
theorem d_C_adapt_37 : decode prog_3_method_7_code 37 = .ok (.iconst 4, 1) := by decide +kernel
theorem d_C_adapt_38 : decode prog_3_method_7_code 38 = .ok (.if_icmp .le 7, 3) := by decide +kernel
theorem d_C_adapt_41 : decode prog_3_method_7_code 41 = .ok (.iconst 1, 1) := by decide +kernel
theorem d_C_adapt_42 : decode prog_3_method_7_code 42 = .ok (.goto 4, 3) := by decide +kernel
theorem d_C_adapt_45 : decode prog_3_method_7_code 45 = .ok (.iconst 0, 1) := by decide +kernel
theorem d_C_adapt_46 : decode prog_3_method_7_code 46 = .ok (.iadd, 1) := by decide +kernel
theorem d_C_adapt_47 : decode prog_3_method_7_code 47 = .ok (.istore 5, 2) := by decide +kernel
theorem d_C_adapt_49 : decode prog_3_method_7_code 49 = .ok (.iconst 0, 1) := by decide +kernel
theorem d_C_adapt_50 : decode prog_3_method_7_code 50 = .ok (.istore 6, 2) := by decide +kernel
theorem d_C_adapt_52 : decode prog_3_method_7_code 52 = .ok (.iload 6, 2) := by decide +kernel
theorem d_C_adapt_54 : decode prog_3_method_7_code 54 = .ok (.iload 4, 2) := by decide +kernel
theorem d_C_adapt_56 : decode prog_3_method_7_code 56 = .ok (.if_icmp .ge 57, 3) := by decide +kernel
theorem d_C_adapt_59 : decode prog_3_method_7_code 59 = .ok (.aload_n 0, 1) := by decide +kernel
theorem d_C_adapt_60 : decode prog_3_method_7_code 60 = .ok (.getfield 9, 3) := by decide +kernel
theorem d_C_adapt_63 : decode prog_3_method_7_code 63 = .ok (.iload_n 3, 1) := by decide +kernel
theorem d_C_adapt_64 : decode prog_3_method_7_code 64 = .ok (.iload 6, 2) := by decide +kernel
theorem d_C_adapt_66 : decode prog_3_method_7_code 66 = .ok (.iadd, 1) := by decide +kernel
theorem d_C_adapt_67 : decode prog_3_method_7_code 67 = .ok (.iaload, 1) := by decide +kernel
theorem d_C_adapt_68 : decode prog_3_method_7_code 68 = .ok (.istore 7, 2) := by decide +kernel
theorem d_C_adapt_70 : decode prog_3_method_7_code 70 = .ok (.aload_n 0, 1) := by decide +kernel
theorem d_C_adapt_71 : decode prog_3_method_7_code 71 = .ok (.getfield 9, 3) := by decide +kernel
theorem d_C_adapt_74 : decode prog_3_method_7_code 74 = .ok (.iload_n 3, 1) := by decide +kernel
theorem d_C_adapt_75 : decode prog_3_method_7_code 75 = .ok (.iload 6, 2) := by decide +kernel
theorem d_C_adapt_77 : decode prog_3_method_7_code 77 = .ok (.iadd, 1) := by decide +kernel
theorem d_C_adapt_78 : decode prog_3_method_7_code 78 = .ok (.iload 6, 2) := by decide +kernel
theorem d_C_adapt_80 : decode prog_3_method_7_code 80 = .ok (.iload_n 2, 1) := by decide +kernel
theorem d_C_adapt_81 : decode prog_3_method_7_code 81 = .ok (.if_icmp .lt 17, 3) := by decide +kernel
theorem d_C_adapt_84 : decode prog_3_method_7_code 84 = .ok (.iload 7, 2) := by decide +kernel
theorem d_C_adapt_86 : decode prog_3_method_7_code 86 = .ok (.ldc 51, 2) := by decide +kernel
theorem d_C_adapt_88 : decode prog_3_method_7_code 88 = .ok (.iload 7, 2) := by decide +kernel
theorem d_C_adapt_90 : decode prog_3_method_7_code 90 = .ok (.isub, 1) := by decide +kernel
theorem d_C_adapt_91 : decode prog_3_method_7_code 91 = .ok (.iload 5, 2) := by decide +kernel
theorem d_C_adapt_93 : decode prog_3_method_7_code 93 = .ok (.ishr, 1) := by decide +kernel
theorem d_C_adapt_94 : decode prog_3_method_7_code 94 = .ok (.iadd, 1) := by decide +kernel
theorem d_C_adapt_95 : decode prog_3_method_7_code 95 = .ok (.goto 11, 3) := by decide +kernel
theorem d_C_adapt_98 : decode prog_3_method_7_code 98 = .ok (.iload 7, 2) := by decide +kernel
theorem d_C_adapt_100 : decode prog_3_method_7_code 100 = .ok (.iload 7, 2) := by decide +kernel
theorem d_C_adapt_102 : decode prog_3_method_7_code 102 = .ok (.iload 5, 2) := by decide +kernel
theorem d_C_adapt_104 : decode prog_3_method_7_code 104 = .ok (.ishr, 1) := by decide +kernel
theorem d_C_adapt_105 : decode prog_3_method_7_code 105 = .ok (.isub, 1) := by decide +kernel
theorem d_C_adapt_106 : decode prog_3_method_7_code 106 = .ok (.iastore, 1) := by decide +kernel
theorem d_C_adapt_107 : decode prog_3_method_7_code 107 = .ok (.iinc 6 1, 3) := by decide +kernel
theorem d_C_adapt_110 : decode prog_3_method_7_code 110 = .ok (.goto (-58), 3) := by decide +kernel
theorem d_C_adapt_113 : decode prog_3_method_7_code 113 = .ok (.aload_n 0, 1) := by decide +kernel
theorem d_C_adapt_114 : decode prog_3_method_7_code 114 = .ok (.getfield 13, 3) := by decide +kernel
theorem d_C_adapt_117 : decode prog_3_method_7_code 117 = .ok (.iload_n 1, 1) := by decide +kernel
theorem d_C_adapt_118 : decode prog_3_method_7_code 118 = .ok (.dup2, 1) := by decide +kernel
theorem d_C_adapt_119 : decode prog_3_method_7_code 119 = .ok (.iaload, 1) := by decide +kernel
theorem d_C_adapt_120 : decode prog_3_method_7_code 120 = .ok (.iconst 1, 1) := by decide +kernel
theorem d_C_adapt_121 : decode prog_3_method_7_code 121 = .ok (.iadd, 1) := by decide +kernel
theorem d_C_adapt_122 : decode prog_3_method_7_code 122 = .ok (.iastore, 1) := by decide +kernel
theorem d_C_adapt_123 : decode prog_3_method_7_code 123 = .ok (.return_, 1) := by decide +kernel
theorem d_C_readSymbol_0 : decode prog_3_method_4_code 0 = .ok (.iload_n 1, 1) := by decide +kernel
theorem d_C_readSymbol_1 : decode prog_3_method_4_code 1 = .ok (.bipush 16, 2) := by decide +kernel
theorem d_C_readSymbol_3 : decode prog_3_method_4_code 3 = .ok (.imul, 1) := by decide +kernel
theorem d_C_readSymbol_4 : decode prog_3_method_4_code 4 = .ok (.istore_n 2, 1) := by decide +kernel
theorem d_C_readSymbol_5 : decode prog_3_method_4_code 5 = .ok (.getstatic 48, 3) := by decide +kernel
theorem d_C_readSymbol_8 : decode prog_3_method_4_code 8 = .ok (.iload_n 1, 1) := by decide +kernel
theorem d_C_readSymbol_9 : decode prog_3_method_4_code 9 = .ok (.iaload, 1) := by decide +kernel
theorem d_C_readSymbol_10 : decode prog_3_method_4_code 10 = .ok (.iconst 1, 1) := by decide +kernel
theorem d_C_readSymbol_11 : decode prog_3_method_4_code 11 = .ok (.isub, 1) := by decide +kernel
theorem d_C_readSymbol_12 : decode prog_3_method_4_code 12 = .ok (.istore_n 3, 1) := by decide +kernel
theorem d_C_readSymbol_13 : decode prog_3_method_4_code 13 = .ok (.iconst 0, 1) := by decide +kernel
theorem d_C_readSymbol_14 : decode prog_3_method_4_code 14 = .ok (.istore 4, 2) := by decide +kernel
theorem d_C_readSymbol_16 : decode prog_3_method_4_code 16 = .ok (.iconst 0, 1) := by decide +kernel
theorem d_C_readSymbol_17 : decode prog_3_method_4_code 17 = .ok (.istore 5, 2) := by decide +kernel
theorem d_C_readSymbol_19 : decode prog_3_method_4_code 19 = .ok (.aload_n 0, 1) := by decide +kernel
theorem d_C_readSymbol_20 : decode prog_3_method_4_code 20 = .ok (.getfield 52, 3) := by decide +kernel
theorem d_C_readSymbol_23 : decode prog_3_method_4_code 23 = .ok (.aload_n 0, 1) := by decide +kernel
theorem d_C_readSymbol_24 : decode prog_3_method_4_code 24 = .ok (.getfield 9, 3) := by decide +kernel
theorem d_C_readSymbol_27 : decode prog_3_method_4_code 27 = .ok (.iload_n 2, 1) := by decide +kernel
theorem d_C_readSymbol_28 : decode prog_3_method_4_code 28 = .ok (.iaload, 1) := by decide +kernel
theorem d_C_readSymbol_29 : decode prog_3_method_4_code 29 = .ok (.imul, 1) := by decide +kernel
theorem d_C_readSymbol_30 : decode prog_3_method_4_code 30 = .ok (.bipush 15, 2) := by decide +kernel
theorem d_C_readSymbol_32 : decode prog_3_method_4_code 32 = .ok (.ishr, 1) := by decide +kernel
theorem d_C_readSymbol_33 : decode prog_3_method_4_code 33 = .ok (.istore 6, 2) := by decide +kernel
theorem d_C_readSymbol_35 : decode prog_3_method_4_code 35 = .ok (.iload 4, 2) := by decide +kernel
theorem d_C_readSymbol_37 : decode prog_3_method_4_code 37 = .ok (.iload_n 3, 1) := by decide +kernel
theorem d_C_readSymbol_38 : decode prog_3_method_4_code 38 = .ok (.if_icmp .ge 41, 3) := by decide +kernel
theorem d_C_readSymbol_41 : decode prog_3_method_4_code 41 = .ok (.aload_n 0, 1) := by decide +kernel
theorem d_C_readSymbol_42 : decode prog_3_method_4_code 42 = .ok (.getfield 55, 3) := by decide +kernel
theorem d_C_readSymbol_45 : decode prog_3_method_4_code 45 = .ok (.iload 6, 2) := by decide +kernel
theorem d_C_readSymbol_47 : decode prog_3_method_4_code 47 = .ok (.if_icmp .lt 32, 3) := by decide +kernel
theorem d_C_readSymbol_50 : decode prog_3_method_4_code 50 = .ok (.iinc 4 1, 3) := by decide +kernel
theorem d_C_readSymbol_53 : decode prog_3_method_4_code 53 = .ok (.iload 6, 2) := by decide +kernel
theorem d_C_readSymbol_55 : decode prog_3_method_4_code 55 = .ok (.istore 5, 2) := by decide +kernel
theorem d_C_readSymbol_57 : decode prog_3_method_4_code 57 = .ok (.aload_n 0, 1) := by decide +kernel
theorem d_C_readSymbol_58 : decode prog_3_method_4_code 58 = .ok (.getfield 52, 3) := by decide +kernel
theorem d_C_readSymbol_61 : decode prog_3_method_4_code 61 = .ok (.aload_n 0, 1) := by decide +kernel
theorem d_C_readSymbol_62 : decode prog_3_method_4_code 62 = .ok (.getfield 9, 3) := by decide +kernel
theorem d_C_readSymbol_65 : decode prog_3_method_4_code 65 = .ok (.iload_n 2, 1) := by decide +kernel
theorem d_C_readSymbol_66 : decode prog_3_method_4_code 66 = .ok (.iload 4, 2) := by decide +kernel
theorem d_C_readSymbol_68 : decode prog_3_method_4_code 68 = .ok (.iadd, 1) := by decide +kernel
theorem d_C_readSymbol_69 : decode prog_3_method_4_code 69 = .ok (.iaload, 1) := by decide +kernel
theorem d_C_readSymbol_70 : decode prog_3_method_4_code 70 = .ok (.imul, 1) := by decide +kernel
theorem d_C_readSymbol_71 : decode prog_3_method_4_code 71 = .ok (.bipush 15, 2) := by decide +kernel
theorem d_C_readSymbol_73 : decode prog_3_method_4_code 73 = .ok (.ishr, 1) := by decide +kernel
theorem d_C_readSymbol_74 : decode prog_3_method_4_code 74 = .ok (.istore 6, 2) := by decide +kernel
theorem d_C_readSymbol_76 : decode prog_3_method_4_code 76 = .ok (.goto (-41), 3) := by decide +kernel
theorem d_C_readSymbol_79 : decode prog_3_method_4_code 79 = .ok (.aload_n 0, 1) := by decide +kernel
theorem d_C_readSymbol_80 : decode prog_3_method_4_code 80 = .ok (.iload 5, 2) := by decide +kernel
theorem d_C_readSymbol_82 : decode prog_3_method_4_code 82 = .ok (.iload 6, 2) := by decide +kernel
theorem d_C_readSymbol_84 : decode prog_3_method_4_code 84 = .ok (.invokevirtual 64, 3) := by decide +kernel
theorem d_C_readSymbol_87 : decode prog_3_method_4_code 87 = .ok (.aload_n 0, 1) := by decide +kernel
theorem d_C_readSymbol_88 : decode prog_3_method_4_code 88 = .ok (.getfield 35, 3) := by decide +kernel
theorem d_C_readSymbol_91 : decode prog_3_method_4_code 91 = .ok (.ifCond .ne 10, 3) := by decide +kernel
theorem d_C_readSymbol_94 : decode prog_3_method_4_code 94 = .ok (.aload_n 0, 1) := by decide +kernel
theorem d_C_readSymbol_95 : decode prog_3_method_4_code 95 = .ok (.iload_n 1, 1) := by decide +kernel
theorem d_C_readSymbol_96 : decode prog_3_method_4_code 96 = .ok (.iload 4, 2) := by decide +kernel
theorem d_C_readSymbol_98 : decode prog_3_method_4_code 98 = .ok (.invokevirtual 68, 3) := by decide +kernel
theorem d_C_readSymbol_101 : decode prog_3_method_4_code 101 = .ok (.iload 4, 2) := by decide +kernel
theorem d_C_readSymbol_103 : decode prog_3_method_4_code 103 = .ok (.ireturn, 1) := by decide +kernel
theorem d_D_transformLine_0 : decode prog_5_method_7_code 0 = .ok (.iconst 0, 1) := by decide +kernel
theorem d_D_transformLine_1 : decode prog_5_method_7_code 1 = .ok (.istore 4, 2) := by decide +kernel
theorem d_D_transformLine_3 : decode prog_5_method_7_code 3 = .ok (.iload 4, 2) := by decide +kernel
theorem d_D_transformLine_5 : decode prog_5_method_7_code 5 = .ok (.iconst 4, 1) := by decide +kernel
theorem d_D_transformLine_6 : decode prog_5_method_7_code 6 = .ok (.if_icmp .ge 27, 3) := by decide +kernel
theorem d_D_transformLine_9 : decode prog_5_method_7_code 9 = .ok (.aload_n 0, 1) := by decide +kernel
theorem d_D_transformLine_10 : decode prog_5_method_7_code 10 = .ok (.getfield 13, 3) := by decide +kernel
theorem d_D_transformLine_13 : decode prog_5_method_7_code 13 = .ok (.iload 4, 2) := by decide +kernel
theorem d_D_transformLine_15 : decode prog_5_method_7_code 15 = .ok (.aload_n 0, 1) := by decide +kernel
theorem d_D_transformLine_16 : decode prog_5_method_7_code 16 = .ok (.getfield 7, 3) := by decide +kernel
theorem d_D_transformLine_19 : decode prog_5_method_7_code 19 = .ok (.iload_n 1, 1) := by decide +kernel
theorem d_D_transformLine_20 : decode prog_5_method_7_code 20 = .ok (.iload 4, 2) := by decide +kernel
theorem d_D_transformLine_22 : decode prog_5_method_7_code 22 = .ok (.iload_n 2, 1) := by decide +kernel
theorem d_D_transformLine_23 : decode prog_5_method_7_code 23 = .ok (.imul, 1) := by decide +kernel
theorem d_D_transformLine_24 : decode prog_5_method_7_code 24 = .ok (.iadd, 1) := by decide +kernel
theorem d_D_transformLine_25 : decode prog_5_method_7_code 25 = .ok (.iaload, 1) := by decide +kernel
theorem d_D_transformLine_26 : decode prog_5_method_7_code 26 = .ok (.iastore, 1) := by decide +kernel
theorem d_D_transformLine_27 : decode prog_5_method_7_code 27 = .ok (.iinc 4 1, 3) := by decide +kernel
theorem d_D_transformLine_30 : decode prog_5_method_7_code 30 = .ok (.goto (-27), 3) := by decide +kernel
theorem d_D_transformLine_33 : decode prog_5_method_7_code 33 = .ok (.iconst 0, 1) := by decide +kernel
theorem d_D_transformLine_34 : decode prog_5_method_7_code 34 = .ok (.istore 4, 2) := by decide +kernel
theorem d_D_transformLine_36 : decode prog_5_method_7_code 36 = .ok (.iload 4, 2) := by decide +kernel
theorem d_D_transformLine_38 : decode prog_5_method_7_code 38 = .ok (.iconst 4, 1) := by decide +kernel
theorem d_D_transformLine_39 : decode prog_5_method_7_code 39 = .ok (.if_icmp .ge 92, 3) := by decide +kernel
theorem d_D_transformLine_42 : decode prog_5_method_7_code 42 = .ok (.sipush 2048, 3) := by decide +kernel
theorem d_D_transformLine_45 : decode prog_5_method_7_code 45 = .ok (.istore 5, 2) := by decide +kernel
theorem d_D_transformLine_47 : decode prog_5_method_7_code 47 = .ok (.iload_n 3, 1) := by decide +kernel
theorem d_D_transformLine_48 : decode prog_5_method_7_code 48 = .ok (.ifCond .eq 22, 3) := by decide +kernel
theorem d_D_transformLine_51 : decode prog_5_method_7_code 51 = .ok (.iload 5, 2) := by decide +kernel
theorem d_D_transformLine_53 : decode prog_5_method_7_code 53 = .ok (.sipush 5793, 3) := by decide +kernel
theorem d_D_transformLine_56 : decode prog_5_method_7_code 56 = .ok (.aload_n 0, 1) := by decide +kernel
theorem d_D_transformLine_57 : decode prog_5_method_7_code 57 = .ok (.getfield 13, 3) := by decide +kernel
theorem d_D_transformLine_60 : decode prog_5_method_7_code 60 = .ok (.iload 4, 2) := by decide +kernel
theorem d_D_transformLine_62 : decode prog_5_method_7_code 62 = .ok (.iaload, 1) := by decide +kernel
theorem d_D_transformLine_63 : decode prog_5_method_7_code 63 = .ok (.imul, 1) := by decide +kernel
theorem d_D_transformLine_64 : decode prog_5_method_7_code 64 = .ok (.iadd, 1) := by decide +kernel
theorem d_D_transformLine_65 : decode prog_5_method_7_code 65 = .ok (.istore 5, 2) := by decide +kernel
theorem d_D_transformLine_67 : decode prog_5_method_7_code 67 = .ok (.goto 42, 3) := by decide +kernel
theorem d_D_transformLine_70 : decode prog_5_method_7_code 70 = .ok (.iconst 0, 1) := by decide +kernel
theorem d_D_transformLine_71 : decode prog_5_method_7_code 71 = .ok (.istore 6, 2) := by decide +kernel
theorem d_D_transformLine_73 : decode prog_5_method_7_code 73 = .ok (.iload 6, 2) := by decide +kernel
theorem d_D_transformLine_75 : decode prog_5_method_7_code 75 = .ok (.iconst 4, 1) := by decide +kernel
theorem d_D_transformLine_76 : decode prog_5_method_7_code 76 = .ok (.if_icmp .ge 33, 3) := by decide +kernel
theorem d_D_transformLine_79 : decode prog_5_method_7_code 79 = .ok (.iload 5, 2) := by decide +kernel
theorem d_D_transformLine_81 : decode prog_5_method_7_code 81 = .ok (.getstatic 68, 3) := by decide +kernel
theorem d_D_transformLine_84 : decode prog_5_method_7_code 84 = .ok (.iconst 4, 1) := by decide +kernel
theorem d_D_transformLine_85 : decode prog_5_method_7_code 85 = .ok (.iload 4, 2) := by decide +kernel
theorem d_D_transformLine_87 : decode prog_5_method_7_code 87 = .ok (.imul, 1) := by decide +kernel
theorem d_D_transformLine_88 : decode prog_5_method_7_code 88 = .ok (.iload 6, 2) := by decide +kernel
theorem d_D_transformLine_90 : decode prog_5_method_7_code 90 = .ok (.iadd, 1) := by decide +kernel
theorem d_D_transformLine_91 : decode prog_5_method_7_code 91 = .ok (.iaload, 1) := by decide +kernel
theorem d_D_transformLine_92 : decode prog_5_method_7_code 92 = .ok (.aload_n 0, 1) := by decide +kernel
theorem d_D_transformLine_93 : decode prog_5_method_7_code 93 = .ok (.getfield 13, 3) := by decide +kernel
theorem d_D_transformLine_96 : decode prog_5_method_7_code 96 = .ok (.iload 6, 2) := by decide +kernel
theorem d_D_transformLine_98 : decode prog_5_method_7_code 98 = .ok (.iaload, 1) := by decide +kernel
theorem d_D_transformLine_99 : decode prog_5_method_7_code 99 = .ok (.imul, 1) := by decide +kernel
theorem d_D_transformLine_100 : decode prog_5_method_7_code 100 = .ok (.iadd, 1) := by decide +kernel
theorem d_D_transformLine_101 : decode prog_5_method_7_code 101 = .ok (.istore 5, 2) := by decide +kernel
theorem d_D_transformLine_103 : decode prog_5_method_7_code 103 = .ok (.iinc 6 1, 3) := by decide +kernel
theorem d_D_transformLine_106 : decode prog_5_method_7_code 106 = .ok (.goto (-33), 3) := by decide +kernel
theorem d_D_transformLine_109 : decode prog_5_method_7_code 109 = .ok (.aload_n 0, 1) := by decide +kernel
theorem d_D_transformLine_110 : decode prog_5_method_7_code 110 = .ok (.getfield 7, 3) := by decide +kernel
theorem d_D_transformLine_113 : decode prog_5_method_7_code 113 = .ok (.iload_n 1, 1) := by decide +kernel
theorem d_D_transformLine_114 : decode prog_5_method_7_code 114 = .ok (.iload 4, 2) := by decide +kernel
theorem d_D_transformLine_116 : decode prog_5_method_7_code 116 = .ok (.iload_n 2, 1) := by decide +kernel
theorem d_D_transformLine_117 : decode prog_5_method_7_code 117 = .ok (.imul, 1) := by decide +kernel
theorem d_D_transformLine_118 : decode prog_5_method_7_code 118 = .ok (.iadd, 1) := by decide +kernel
theorem d_D_transformLine_119 : decode prog_5_method_7_code 119 = .ok (.iload 5, 2) := by decide +kernel
theorem d_D_transformLine_121 : decode prog_5_method_7_code 121 = .ok (.bipush 12, 2) := by decide +kernel
theorem d_D_transformLine_123 : decode prog_5_method_7_code 123 = .ok (.ishr, 1) := by decide +kernel
theorem d_D_transformLine_124 : decode prog_5_method_7_code 124 = .ok (.iastore, 1) := by decide +kernel
theorem d_D_transformLine_125 : decode prog_5_method_7_code 125 = .ok (.iinc 4 1, 3) := by decide +kernel
theorem d_D_transformLine_128 : decode prog_5_method_7_code 128 = .ok (.goto (-92), 3) := by decide +kernel
theorem d_D_transformLine_131 : decode prog_5_method_7_code 131 = .ok (.return_, 1) := by decide +kernel
theorem d_D_limitAll_0 : decode prog_5_method_6_code 0 = .ok (.iconst 0, 1) := by decide +kernel
theorem d_D_limitAll_1 : decode prog_5_method_6_code 1 = .ok (.istore_n 1, 1) := by decide +kernel
theorem d_D_limitAll_2 : decode prog_5_method_6_code 2 = .ok (.iload_n 1, 1) := by decide +kernel
theorem d_D_limitAll_3 : decode prog_5_method_6_code 3 = .ok (.bipush 16, 2) := by decide +kernel
theorem d_D_limitAll_5 : decode prog_5_method_6_code 5 = .ok (.if_icmp .ge 33, 3) := by decide +kernel
theorem d_D_limitAll_8 : decode prog_5_method_6_code 8 = .ok (.aload_n 0, 1) := by decide +kernel
theorem d_D_limitAll_9 : decode prog_5_method_6_code 9 = .ok (.getfield 7, 3) := by decide +kernel
theorem d_D_limitAll_12 : decode prog_5_method_6_code 12 = .ok (.iload_n 1, 1) := by decide +kernel
theorem d_D_limitAll_13 : decode prog_5_method_6_code 13 = .ok (.sipush (-32767), 3) := by decide +kernel
theorem d_D_limitAll_16 : decode prog_5_method_6_code 16 = .ok (.sipush 32767, 3) := by decide +kernel
theorem d_D_limitAll_19 : decode prog_5_method_6_code 19 = .ok (.aload_n 0, 1) := by decide +kernel
theorem d_D_limitAll_20 : decode prog_5_method_6_code 20 = .ok (.getfield 7, 3) := by decide +kernel
theorem d_D_limitAll_23 : decode prog_5_method_6_code 23 = .ok (.iload_n 1, 1) := by decide +kernel
theorem d_D_limitAll_24 : decode prog_5_method_6_code 24 = .ok (.iaload, 1) := by decide +kernel
theorem d_D_limitAll_25 : decode prog_5_method_6_code 25 = .ok (.invokestatic 59, 3) := by decide +kernel
theorem d_D_limitAll_28 : decode prog_5_method_6_code 28 = .ok (.invokestatic 65, 3) := by decide +kernel
theorem d_D_limitAll_31 : decode prog_5_method_6_code 31 = .ok (.iastore, 1) := by decide +kernel
theorem d_D_limitAll_32 : decode prog_5_method_6_code 32 = .ok (.iinc 1 1, 3) := by decide +kernel
theorem d_D_limitAll_35 : decode prog_5_method_6_code 35 = .ok (.goto (-33), 3) := by decide +kernel
theorem d_D_limitAll_38 : decode prog_5_method_6_code 38 = .ok (.return_, 1) := by decide +kernel
theorem d_D_transform_0 : decode prog_5_method_5_code 0 = .ok (.iconst 0, 1) := by decide +kernel
theorem d_D_transform_1 : decode prog_5_method_5_code 1 = .ok (.istore_n 3, 1) := by decide +kernel
theorem d_D_transform_2 : decode prog_5_method_5_code 2 = .ok (.iload_n 3, 1) := by decide +kernel
theorem d_D_transform_3 : decode prog_5_method_5_code 3 = .ok (.bipush 16, 2) := by decide +kernel
theorem d_D_transform_5 : decode prog_5_method_5_code 5 = .ok (.if_icmp .ge 35, 3) := by decide +kernel
theorem d_D_transform_8 : decode prog_5_method_5_code 8 = .ok (.aload_n 0, 1) := by decide +kernel
theorem d_D_transform_9 : decode prog_5_method_5_code 9 = .ok (.getfield 7, 3) := by decide +kernel
theorem d_D_transform_12 : decode prog_5_method_5_code 12 = .ok (.iload_n 3, 1) := by decide +kernel
theorem d_D_transform_13 : decode prog_5_method_5_code 13 = .ok (.dup2, 1) := by decide +kernel
theorem d_D_transform_14 : decode prog_5_method_5_code 14 = .ok (.iaload, 1) := by decide +kernel
theorem d_D_transform_15 : decode prog_5_method_5_code 15 = .ok (.iload_n 3, 1) := by decide +kernel
theorem d_D_transform_16 : decode prog_5_method_5_code 16 = .ok (.ifCond .ne 11, 3) := by decide +kernel
theorem d_D_transform_19 : decode prog_5_method_5_code 19 = .ok (.iconst 4, 1) := by decide +kernel
theorem d_D_transform_20 : decode prog_5_method_5_code 20 = .ok (.iconst 2, 1) := by decide +kernel
theorem d_D_transform_21 : decode prog_5_method_5_code 21 = .ok (.iload_n 1, 1) := by decide +kernel
theorem d_D_transform_22 : decode prog_5_method_5_code 22 = .ok (.imul, 1) := by decide +kernel
theorem d_D_transform_23 : decode prog_5_method_5_code 23 = .ok (.iadd, 1) := by decide +kernel
theorem d_D_transform_24 : decode prog_5_method_5_code 24 = .ok (.goto 8, 3) := by decide +kernel
theorem d_D_transform_27 : decode prog_5_method_5_code 27 = .ok (.iconst 4, 1) := by decide +kernel
theorem d_D_transform_28 : decode prog_5_method_5_code 28 = .ok (.iconst 3, 1) := by decide +kernel
theorem d_D_transform_29 : decode prog_5_method_5_code 29 = .ok (.iload_n 1, 1) := by decide +kernel
theorem d_D_transform_30 : decode prog_5_method_5_code 30 = .ok (.imul, 1) := by decide +kernel
theorem d_D_transform_31 : decode prog_5_method_5_code 31 = .ok (.iadd, 1) := by decide +kernel
theorem d_D_transform_32 : decode prog_5_method_5_code 32 = .ok (.imul, 1) := by decide +kernel
theorem d_D_transform_33 : decode prog_5_method_5_code 33 = .ok (.iastore, 1) := by decide +kernel
theorem d_D_transform_34 : decode prog_5_method_5_code 34 = .ok (.iinc 3 1, 3) := by decide +kernel
theorem d_D_transform_37 : decode prog_5_method_5_code 37 = .ok (.goto (-35), 3) := by decide +kernel
theorem d_D_transform_40 : decode prog_5_method_5_code 40 = .ok (.aload_n 0, 1) := by decide +kernel
theorem d_D_transform_41 : decode prog_5_method_5_code 41 = .ok (.invokevirtual 52, 3) := by decide +kernel
theorem d_D_transform_44 : decode prog_5_method_5_code 44 = .ok (.iconst 0, 1) := by decide +kernel
theorem d_D_transform_45 : decode prog_5_method_5_code 45 = .ok (.istore_n 3, 1) := by decide +kernel
theorem d_D_transform_46 : decode prog_5_method_5_code 46 = .ok (.iload_n 3, 1) := by decide +kernel
theorem d_D_transform_47 : decode prog_5_method_5_code 47 = .ok (.iconst 4, 1) := by decide +kernel
theorem d_D_transform_48 : decode prog_5_method_5_code 48 = .ok (.if_icmp .ge 28, 3) := by decide +kernel
theorem d_D_transform_51 : decode prog_5_method_5_code 51 = .ok (.aload_n 0, 1) := by decide +kernel
theorem d_D_transform_52 : decode prog_5_method_5_code 52 = .ok (.iconst 4, 1) := by decide +kernel
theorem d_D_transform_53 : decode prog_5_method_5_code 53 = .ok (.iload_n 3, 1) := by decide +kernel
theorem d_D_transform_54 : decode prog_5_method_5_code 54 = .ok (.imul, 1) := by decide +kernel
theorem d_D_transform_55 : decode prog_5_method_5_code 55 = .ok (.iconst 1, 1) := by decide +kernel
theorem d_D_transform_56 : decode prog_5_method_5_code 56 = .ok (.iload_n 2, 1) := by decide +kernel
theorem d_D_transform_57 : decode prog_5_method_5_code 57 = .ok (.iconst 1, 1) := by decide +kernel
theorem d_D_transform_58 : decode prog_5_method_5_code 58 = .ok (.iand, 1) := by decide +kernel
theorem d_D_transform_59 : decode prog_5_method_5_code 59 = .ok (.ifCond .eq 7, 3) := by decide +kernel
theorem d_D_transform_62 : decode prog_5_method_5_code 62 = .ok (.iconst 1, 1) := by decide +kernel
theorem d_D_transform_63 : decode prog_5_method_5_code 63 = .ok (.goto 4, 3) := by decide +kernel
theorem d_D_transform_66 : decode prog_5_method_5_code 66 = .ok (.iconst 0, 1) := by decide +kernel
theorem d_D_transform_67 : decode prog_5_method_5_code 67 = .ok (.invokevirtual 55, 3) := by decide +kernel
theorem d_D_transform_70 : decode prog_5_method_5_code 70 = .ok (.iinc 3 1, 3) := by decide +kernel
theorem d_D_transform_73 : decode prog_5_method_5_code 73 = .ok (.goto (-27), 3) := by decide +kernel
theorem d_D_transform_76 : decode prog_5_method_5_code 76 = .ok (.aload_n 0, 1) := by decide +kernel
theorem d_D_transform_77 : decode prog_5_method_5_code 77 = .ok (.invokevirtual 52, 3) := by decide +kernel
theorem d_D_transform_80 : decode prog_5_method_5_code 80 = .ok (.iconst 0, 1) := by decide +kernel
theorem d_D_transform_81 : decode prog_5_method_5_code 81 = .ok (.istore_n 3, 1) := by decide +kernel
theorem d_D_transform_82 : decode prog_5_method_5_code 82 = .ok (.iload_n 3, 1) := by decide +kernel
theorem d_D_transform_83 : decode prog_5_method_5_code 83 = .ok (.iconst 4, 1) := by decide +kernel
theorem d_D_transform_84 : decode prog_5_method_5_code 84 = .ok (.if_icmp .ge 26, 3) := by decide +kernel
theorem d_D_transform_87 : decode prog_5_method_5_code 87 = .ok (.aload_n 0, 1) := by decide +kernel
theorem d_D_transform_88 : decode prog_5_method_5_code 88 = .ok (.iload_n 3, 1) := by decide +kernel
theorem d_D_transform_89 : decode prog_5_method_5_code 89 = .ok (.iconst 4, 1) := by decide +kernel
theorem d_D_transform_90 : decode prog_5_method_5_code 90 = .ok (.iload_n 2, 1) := by decide +kernel
theorem d_D_transform_91 : decode prog_5_method_5_code 91 = .ok (.iconst 2, 1) := by decide +kernel
theorem d_D_transform_92 : decode prog_5_method_5_code 92 = .ok (.iand, 1) := by decide +kernel
theorem d_D_transform_93 : decode prog_5_method_5_code 93 = .ok (.ifCond .eq 7, 3) := by decide +kernel
theorem d_D_transform_96 : decode prog_5_method_5_code 96 = .ok (.iconst 1, 1) := by decide +kernel
theorem d_D_transform_97 : decode prog_5_method_5_code 97 = .ok (.goto 4, 3) := by decide +kernel
theorem d_D_transform_100 : decode prog_5_method_5_code 100 = .ok (.iconst 0, 1) := by decide +kernel
theorem d_D_transform_101 : decode prog_5_method_5_code 101 = .ok (.invokevirtual 55, 3) := by decide +kernel
theorem d_D_transform_104 : decode prog_5_method_5_code 104 = .ok (.iinc 3 1, 3) := by decide +kernel
theorem d_D_transform_107 : decode prog_5_method_5_code 107 = .ok (.goto (-25), 3) := by decide +kernel
theorem d_D_transform_110 : decode prog_5_method_5_code 110 = .ok (.iconst 0, 1) := by decide +kernel
theorem d_D_transform_111 : decode prog_5_method_5_code 111 = .ok (.istore_n 3, 1) := by decide +kernel
theorem d_D_transform_112 : decode prog_5_method_5_code 112 = .ok (.iload_n 3, 1) := by decide +kernel
theorem d_D_transform_113 : decode prog_5_method_5_code 113 = .ok (.bipush 16, 2) := by decide +kernel
theorem d_D_transform_115 : decode prog_5_method_5_code 115 = .ok (.if_icmp .ge 26, 3) := by decide +kernel
theorem d_D_transform_118 : decode prog_5_method_5_code 118 = .ok (.aload_n 0, 1) := by decide +kernel
theorem d_D_transform_119 : decode prog_5_method_5_code 119 = .ok (.getfield 7, 3) := by decide +kernel
theorem d_D_transform_122 : decode prog_5_method_5_code 122 = .ok (.iload_n 3, 1) := by decide +kernel
theorem d_D_transform_123 : decode prog_5_method_5_code 123 = .ok (.aload_n 0, 1) := by decide +kernel
theorem d_D_transform_124 : decode prog_5_method_5_code 124 = .ok (.getfield 7, 3) := by decide +kernel
theorem d_D_transform_127 : decode prog_5_method_5_code 127 = .ok (.iload_n 3, 1) := by decide +kernel
theorem d_D_transform_128 : decode prog_5_method_5_code 128 = .ok (.iaload, 1) := by decide +kernel
theorem d_D_transform_129 : decode prog_5_method_5_code 129 = .ok (.bipush 8, 2) := by decide +kernel
theorem d_D_transform_131 : decode prog_5_method_5_code 131 = .ok (.iadd, 1) := by decide +kernel
theorem d_D_transform_132 : decode prog_5_method_5_code 132 = .ok (.iconst 4, 1) := by decide +kernel
theorem d_D_transform_133 : decode prog_5_method_5_code 133 = .ok (.ishr, 1) := by decide +kernel
theorem d_D_transform_134 : decode prog_5_method_5_code 134 = .ok (.iastore, 1) := by decide +kernel
theorem d_D_transform_135 : decode prog_5_method_5_code 135 = .ok (.iinc 3 1, 3) := by decide +kernel
theorem d_D_transform_138 : decode prog_5_method_5_code 138 = .ok (.goto (-26), 3) := by decide +kernel
theorem d_D_transform_141 : decode prog_5_method_5_code 141 = .ok (.return_, 1) := by decide +kernel
theorem d_D_mixLine_0 : decode prog_5_method_4_code 0 = .ok (.aload_n 0, 1) := by decide +kernel
theorem d_D_mixLine_1 : decode prog_5_method_4_code 1 = .ok (.getfield 7, 3) := by decide +kernel
theorem d_D_mixLine_4 : decode prog_5_method_4_code 4 = .ok (.iload_n 1, 1) := by decide +kernel
theorem d_D_mixLine_5 : decode prog_5_method_4_code 5 = .ok (.iaload, 1) := by decide +kernel
theorem d_D_mixLine_6 : decode prog_5_method_4_code 6 = .ok (.istore_n 3, 1) := by decide +kernel
theorem d_D_mixLine_7 : decode prog_5_method_4_code 7 = .ok (.aload_n 0, 1) := by decide +kernel
theorem d_D_mixLine_8 : decode prog_5_method_4_code 8 = .ok (.getfield 7, 3) := by decide +kernel
theorem d_D_mixLine_11 : decode prog_5_method_4_code 11 = .ok (.iload_n 1, 1) := by decide +kernel
theorem d_D_mixLine_12 : decode prog_5_method_4_code 12 = .ok (.iload_n 2, 1) := by decide +kernel
theorem d_D_mixLine_13 : decode prog_5_method_4_code 13 = .ok (.iadd, 1) := by decide +kernel
theorem d_D_mixLine_14 : decode prog_5_method_4_code 14 = .ok (.iaload, 1) := by decide +kernel
theorem d_D_mixLine_15 : decode prog_5_method_4_code 15 = .ok (.istore 4, 2) := by decide +kernel
theorem d_D_mixLine_17 : decode prog_5_method_4_code 17 = .ok (.aload_n 0, 1) := by decide +kernel
theorem d_D_mixLine_18 : decode prog_5_method_4_code 18 = .ok (.getfield 7, 3) := by decide +kernel
theorem d_D_mixLine_21 : decode prog_5_method_4_code 21 = .ok (.iload_n 1, 1) := by decide +kernel
theorem d_D_mixLine_22 : decode prog_5_method_4_code 22 = .ok (.iconst 2, 1) := by decide +kernel
theorem d_D_mixLine_23 : decode prog_5_method_4_code 23 = .ok (.iload_n 2, 1) := by decide +kernel
theorem d_D_mixLine_24 : decode prog_5_method_4_code 24 = .ok (.imul, 1) := by decide +kernel
theorem d_D_mixLine_25 : decode prog_5_method_4_code 25 = .ok (.iadd, 1) := by decide +kernel
theorem d_D_mixLine_26 : decode prog_5_method_4_code 26 = .ok (.iaload, 1) := by decide +kernel
theorem d_D_mixLine_27 : decode prog_5_method_4_code 27 = .ok (.istore 5, 2) := by decide +kernel
theorem d_D_mixLine_29 : decode prog_5_method_4_code 29 = .ok (.aload_n 0, 1) := by decide +kernel
theorem d_D_mixLine_30 : decode prog_5_method_4_code 30 = .ok (.getfield 7, 3) := by decide +kernel
theorem d_D_mixLine_33 : decode prog_5_method_4_code 33 = .ok (.iload_n 1, 1) := by decide +kernel
theorem d_D_mixLine_34 : decode prog_5_method_4_code 34 = .ok (.iconst 3, 1) := by decide +kernel
theorem d_D_mixLine_35 : decode prog_5_method_4_code 35 = .ok (.iload_n 2, 1) := by decide +kernel
theorem d_D_mixLine_36 : decode prog_5_method_4_code 36 = .ok (.imul, 1) := by decide +kernel
theorem d_D_mixLine_37 : decode prog_5_method_4_code 37 = .ok (.iadd, 1) := by decide +kernel
theorem d_D_mixLine_38 : decode prog_5_method_4_code 38 = .ok (.iaload, 1) := by decide +kernel
theorem d_D_mixLine_39 : decode prog_5_method_4_code 39 = .ok (.istore 6, 2) := by decide +kernel
theorem d_D_mixLine_41 : decode prog_5_method_4_code 41 = .ok (.aload_n 0, 1) := by decide +kernel
theorem d_D_mixLine_42 : decode prog_5_method_4_code 42 = .ok (.getfield 7, 3) := by decide +kernel
theorem d_D_mixLine_45 : decode prog_5_method_4_code 45 = .ok (.iload_n 1, 1) := by decide +kernel
theorem d_D_mixLine_46 : decode prog_5_method_4_code 46 = .ok (.iload_n 3, 1) := by decide +kernel
theorem d_D_mixLine_47 : decode prog_5_method_4_code 47 = .ok (.iload 4, 2) := by decide +kernel
theorem d_D_mixLine_49 : decode prog_5_method_4_code 49 = .ok (.iadd, 1) := by decide +kernel
theorem d_D_mixLine_50 : decode prog_5_method_4_code 50 = .ok (.iload 5, 2) := by decide +kernel
theorem d_D_mixLine_52 : decode prog_5_method_4_code 52 = .ok (.iadd, 1) := by decide +kernel
theorem d_D_mixLine_53 : decode prog_5_method_4_code 53 = .ok (.iload 6, 2) := by decide +kernel
theorem d_D_mixLine_55 : decode prog_5_method_4_code 55 = .ok (.iadd, 1) := by decide +kernel
theorem d_D_mixLine_56 : decode prog_5_method_4_code 56 = .ok (.iastore, 1) := by decide +kernel
theorem d_D_mixLine_57 : decode prog_5_method_4_code 57 = .ok (.aload_n 0, 1) := by decide +kernel
theorem d_D_mixLine_58 : decode prog_5_method_4_code 58 = .ok (.getfield 7, 3) := by decide +kernel
theorem d_D_mixLine_61 : decode prog_5_method_4_code 61 = .ok (.iload_n 1, 1) := by decide +kernel
theorem d_D_mixLine_62 : decode prog_5_method_4_code 62 = .ok (.iload_n 2, 1) := by decide +kernel
theorem d_D_mixLine_63 : decode prog_5_method_4_code 63 = .ok (.iadd, 1) := by decide +kernel
theorem d_D_mixLine_64 : decode prog_5_method_4_code 64 = .ok (.iload_n 3, 1) := by decide +kernel
theorem d_D_mixLine_65 : decode prog_5_method_4_code 65 = .ok (.iload 4, 2) := by decide +kernel
theorem d_D_mixLine_67 : decode prog_5_method_4_code 67 = .ok (.iadd, 1) := by decide +kernel
theorem d_D_mixLine_68 : decode prog_5_method_4_code 68 = .ok (.iload 5, 2) := by decide +kernel
theorem d_D_mixLine_70 : decode prog_5_method_4_code 70 = .ok (.isub, 1) := by decide +kernel
theorem d_D_mixLine_71 : decode prog_5_method_4_code 71 = .ok (.iload 6, 2) := by decide +kernel
theorem d_D_mixLine_73 : decode prog_5_method_4_code 73 = .ok (.isub, 1) := by decide +kernel
theorem d_D_mixLine_74 : decode prog_5_method_4_code 74 = .ok (.iastore, 1) := by decide +kernel
theorem d_D_mixLine_75 : decode prog_5_method_4_code 75 = .ok (.aload_n 0, 1) := by decide +kernel
theorem d_D_mixLine_76 : decode prog_5_method_4_code 76 = .ok (.getfield 7, 3) := by decide +kernel
theorem d_D_mixLine_79 : decode prog_5_method_4_code 79 = .ok (.iload_n 1, 1) := by decide +kernel
theorem d_D_mixLine_80 : decode prog_5_method_4_code 80 = .ok (.iconst 2, 1) := by decide +kernel
theorem d_D_mixLine_81 : decode prog_5_method_4_code 81 = .ok (.iload_n 2, 1) := by decide +kernel
theorem d_D_mixLine_82 : decode prog_5_method_4_code 82 = .ok (.imul, 1) := by decide +kernel
theorem d_D_mixLine_83 : decode prog_5_method_4_code 83 = .ok (.iadd, 1) := by decide +kernel
theorem d_D_mixLine_84 : decode prog_5_method_4_code 84 = .ok (.iload_n 3, 1) := by decide +kernel
theorem d_D_mixLine_85 : decode prog_5_method_4_code 85 = .ok (.iload 4, 2) := by decide +kernel
theorem d_D_mixLine_87 : decode prog_5_method_4_code 87 = .ok (.isub, 1) := by decide +kernel
theorem d_D_mixLine_88 : decode prog_5_method_4_code 88 = .ok (.iload 5, 2) := by decide +kernel
theorem d_D_mixLine_90 : decode prog_5_method_4_code 90 = .ok (.isub, 1) := by decide +kernel
theorem d_D_mixLine_91 : decode prog_5_method_4_code 91 = .ok (.iload 6, 2) := by decide +kernel
theorem d_D_mixLine_93 : decode prog_5_method_4_code 93 = .ok (.iadd, 1) := by decide +kernel
theorem d_D_mixLine_94 : decode prog_5_method_4_code 94 = .ok (.iastore, 1) := by decide +kernel
theorem d_D_mixLine_95 : decode prog_5_method_4_code 95 = .ok (.aload_n 0, 1) := by decide +kernel
theorem d_D_mixLine_96 : decode prog_5_method_4_code 96 = .ok (.getfield 7, 3) := by decide +kernel
theorem d_D_mixLine_99 : decode prog_5_method_4_code 99 = .ok (.iload_n 1, 1) := by decide +kernel
theorem d_D_mixLine_100 : decode prog_5_method_4_code 100 = .ok (.iconst 3, 1) := by decide +kernel
theorem d_D_mixLine_101 : decode prog_5_method_4_code 101 = .ok (.iload_n 2, 1) := by decide +kernel
theorem d_D_mixLine_102 : decode prog_5_method_4_code 102 = .ok (.imul, 1) := by decide +kernel
theorem d_D_mixLine_103 : decode prog_5_method_4_code 103 = .ok (.iadd, 1) := by decide +kernel
theorem d_D_mixLine_104 : decode prog_5_method_4_code 104 = .ok (.iload_n 3, 1) := by decide +kernel
theorem d_D_mixLine_105 : decode prog_5_method_4_code 105 = .ok (.iload 4, 2) := by decide +kernel
theorem d_D_mixLine_107 : decode prog_5_method_4_code 107 = .ok (.isub, 1) := by decide +kernel
theorem d_D_mixLine_108 : decode prog_5_method_4_code 108 = .ok (.iload 5, 2) := by decide +kernel
theorem d_D_mixLine_110 : decode prog_5_method_4_code 110 = .ok (.iadd, 1) := by decide +kernel
theorem d_D_mixLine_111 : decode prog_5_method_4_code 111 = .ok (.iload 6, 2) := by decide +kernel
theorem d_D_mixLine_113 : decode prog_5_method_4_code 113 = .ok (.isub, 1) := by decide +kernel
theorem d_D_mixLine_114 : decode prog_5_method_4_code 114 = .ok (.iastore, 1) := by decide +kernel
theorem d_D_mixLine_115 : decode prog_5_method_4_code 115 = .ok (.return_, 1) := by decide +kernel
theorem d_D_mix_0 : decode prog_5_method_3_code 0 = .ok (.iconst 0, 1) := by decide +kernel
theorem d_D_mix_1 : decode prog_5_method_3_code 1 = .ok (.istore_n 1, 1) := by decide +kernel
theorem d_D_mix_2 : decode prog_5_method_3_code 2 = .ok (.iload_n 1, 1) := by decide +kernel
theorem d_D_mix_3 : decode prog_5_method_3_code 3 = .ok (.iconst 4, 1) := by decide +kernel
theorem d_D_mix_4 : decode prog_5_method_3_code 4 = .ok (.if_icmp .ge 17, 3) := by decide +kernel
theorem d_D_mix_7 : decode prog_5_method_3_code 7 = .ok (.aload_n 0, 1) := by decide +kernel
theorem d_D_mix_8 : decode prog_5_method_3_code 8 = .ok (.iconst 4, 1) := by decide +kernel
theorem d_D_mix_9 : decode prog_5_method_3_code 9 = .ok (.iload_n 1, 1) := by decide +kernel
theorem d_D_mix_10 : decode prog_5_method_3_code 10 = .ok (.imul, 1) := by decide +kernel
theorem d_D_mix_11 : decode prog_5_method_3_code 11 = .ok (.iconst 1, 1) := by decide +kernel
theorem d_D_mix_12 : decode prog_5_method_3_code 12 = .ok (.invokevirtual 49, 3) := by decide +kernel
theorem d_D_mix_15 : decode prog_5_method_3_code 15 = .ok (.iinc 1 1, 3) := by decide +kernel
theorem d_D_mix_18 : decode prog_5_method_3_code 18 = .ok (.goto (-16), 3) := by decide +kernel
theorem d_D_mix_21 : decode prog_5_method_3_code 21 = .ok (.iconst 0, 1) := by decide +kernel
theorem d_D_mix_22 : decode prog_5_method_3_code 22 = .ok (.istore_n 1, 1) := by decide +kernel
theorem d_D_mix_23 : decode prog_5_method_3_code 23 = .ok (.iload_n 1, 1) := by decide +kernel
theorem d_D_mix_24 : decode prog_5_method_3_code 24 = .ok (.iconst 4, 1) := by decide +kernel
theorem d_D_mix_25 : decode prog_5_method_3_code 25 = .ok (.if_icmp .ge 15, 3) := by decide +kernel
theorem d_D_mix_28 : decode prog_5_method_3_code 28 = .ok (.aload_n 0, 1) := by decide +kernel
theorem d_D_mix_29 : decode prog_5_method_3_code 29 = .ok (.iload_n 1, 1) := by decide +kernel
theorem d_D_mix_30 : decode prog_5_method_3_code 30 = .ok (.iconst 4, 1) := by decide +kernel
theorem d_D_mix_31 : decode prog_5_method_3_code 31 = .ok (.invokevirtual 49, 3) := by decide +kernel
theorem d_D_mix_34 : decode prog_5_method_3_code 34 = .ok (.iinc 1 1, 3) := by decide +kernel
theorem d_D_mix_37 : decode prog_5_method_3_code 37 = .ok (.goto (-14), 3) := by decide +kernel
theorem d_D_mix_40 : decode prog_5_method_3_code 40 = .ok (.iconst 0, 1) := by decide +kernel
theorem d_D_mix_41 : decode prog_5_method_3_code 41 = .ok (.istore_n 1, 1) := by decide +kernel
theorem d_D_mix_42 : decode prog_5_method_3_code 42 = .ok (.iload_n 1, 1) := by decide +kernel
theorem d_D_mix_43 : decode prog_5_method_3_code 43 = .ok (.bipush 16, 2) := by decide +kernel
theorem d_D_mix_45 : decode prog_5_method_3_code 45 = .ok (.if_icmp .ge 19, 3) := by decide +kernel
theorem d_D_mix_48 : decode prog_5_method_3_code 48 = .ok (.aload_n 0, 1) := by decide +kernel
theorem d_D_mix_49 : decode prog_5_method_3_code 49 = .ok (.getfield 7, 3) := by decide +kernel
theorem d_D_mix_52 : decode prog_5_method_3_code 52 = .ok (.iload_n 1, 1) := by decide +kernel
theorem d_D_mix_53 : decode prog_5_method_3_code 53 = .ok (.dup2, 1) := by decide +kernel
theorem d_D_mix_54 : decode prog_5_method_3_code 54 = .ok (.iaload, 1) := by decide +kernel
theorem d_D_mix_55 : decode prog_5_method_3_code 55 = .ok (.iconst 2, 1) := by decide +kernel
theorem d_D_mix_56 : decode prog_5_method_3_code 56 = .ok (.ishr, 1) := by decide +kernel
theorem d_D_mix_57 : decode prog_5_method_3_code 57 = .ok (.iastore, 1) := by decide +kernel
theorem d_D_mix_58 : decode prog_5_method_3_code 58 = .ok (.iinc 1 1, 3) := by decide +kernel
theorem d_D_mix_61 : decode prog_5_method_3_code 61 = .ok (.goto (-19), 3) := by decide +kernel
theorem d_D_mix_64 : decode prog_5_method_3_code 64 = .ok (.return_, 1) := by decide +kernel
theorem d_A_fill_0 : decode prog_16_method_103_code 0 = .ok (.iconst 0, 1) := by decide +kernel
theorem d_A_fill_1 : decode prog_16_method_103_code 1 = .ok (.istore_n 2, 1) := by decide +kernel
theorem d_A_fill_2 : decode prog_16_method_103_code 2 = .ok (.aload_n 0, 1) := by decide +kernel
theorem d_A_fill_3 : decode prog_16_method_103_code 3 = .ok (.arraylength, 1) := by decide +kernel
theorem d_A_fill_4 : decode prog_16_method_103_code 4 = .ok (.istore_n 3, 1) := by decide +kernel
theorem d_A_fill_5 : decode prog_16_method_103_code 5 = .ok (.iload_n 2, 1) := by decide +kernel
theorem d_A_fill_6 : decode prog_16_method_103_code 6 = .ok (.iload_n 3, 1) := by decide +kernel
theorem d_A_fill_7 : decode prog_16_method_103_code 7 = .ok (.if_icmp .ge 13, 3) := by decide +kernel
theorem d_A_fill_10 : decode prog_16_method_103_code 10 = .ok (.aload_n 0, 1) := by decide +kernel
theorem d_A_fill_11 : decode prog_16_method_103_code 11 = .ok (.iload_n 2, 1) := by decide +kernel
theorem d_A_fill_12 : decode prog_16_method_103_code 12 = .ok (.iload_n 1, 1) := by decide +kernel
theorem d_A_fill_13 : decode prog_16_method_103_code 13 = .ok (.iastore, 1) := by decide +kernel
theorem d_A_fill_14 : decode prog_16_method_103_code 14 = .ok (.iinc 2 1, 3) := by decide +kernel
theorem d_A_fill_17 : decode prog_16_method_103_code 17 = .ok (.goto (-12), 3) := by decide +kernel
theorem d_A_fill_20 : decode prog_16_method_103_code 20 = .ok (.return_, 1) := by decide +kernel
theorem d_D_read_0 : decode prog_5_method_2_code 0 = .ok (.iload_n 1, 1) := by decide +kernel
theorem d_D_read_1 : decode prog_5_method_2_code 1 = .ok (.ifCond .ne 7, 3) := by decide +kernel
theorem d_D_read_4 : decode prog_5_method_2_code 4 = .ok (.iconst 0, 1) := by decide +kernel
theorem d_D_read_5 : decode prog_5_method_2_code 5 = .ok (.goto 4, 3) := by decide +kernel
theorem d_D_read_8 : decode prog_5_method_2_code 8 = .ok (.iconst 1, 1) := by decide +kernel
theorem d_D_read_9 : decode prog_5_method_2_code 9 = .ok (.istore 4, 2) := by decide +kernel
theorem d_D_read_11 : decode prog_5_method_2_code 11 = .ok (.aload_n 0, 1) := by decide +kernel
theorem d_D_read_12 : decode prog_5_method_2_code 12 = .ok (.getfield 7, 3) := by decide +kernel
theorem d_D_read_15 : decode prog_5_method_2_code 15 = .ok (.iconst 0, 1) := by decide +kernel
theorem d_D_read_16 : decode prog_5_method_2_code 16 = .ok (.invokestatic 20, 3) := by decide +kernel
theorem d_D_read_19 : decode prog_5_method_2_code 19 = .ok (.aload_n 0, 1) := by decide +kernel
theorem d_D_read_20 : decode prog_5_method_2_code 20 = .ok (.getfield 16, 3) := by decide +kernel
theorem d_D_read_23 : decode prog_5_method_2_code 23 = .ok (.bipush 8, 2) := by decide +kernel
theorem d_D_read_25 : decode prog_5_method_2_code 25 = .ok (.iload 4, 2) := by decide +kernel
theorem d_D_read_27 : decode prog_5_method_2_code 27 = .ok (.iadd, 1) := by decide +kernel
theorem d_D_read_28 : decode prog_5_method_2_code 28 = .ok (.invokevirtual 26, 3) := by decide +kernel
theorem d_D_read_31 : decode prog_5_method_2_code 31 = .ok (.iconst 1, 1) := by decide +kernel
theorem d_D_read_32 : decode prog_5_method_2_code 32 = .ok (.if_icmp .ne 5, 3) := by decide +kernel
theorem d_D_read_35 : decode prog_5_method_2_code 35 = .ok (.iconst 1, 1) := by decide +kernel
theorem d_D_read_36 : decode prog_5_method_2_code 36 = .ok (.ireturn, 1) := by decide +kernel
theorem d_D_read_37 : decode prog_5_method_2_code 37 = .ok (.aload_n 0, 1) := by decide +kernel
theorem d_D_read_38 : decode prog_5_method_2_code 38 = .ok (.getfield 16, 3) := by decide +kernel
theorem d_D_read_41 : decode prog_5_method_2_code 41 = .ok (.bipush 11, 2) := by decide +kernel
theorem d_D_read_43 : decode prog_5_method_2_code 43 = .ok (.iload 4, 2) := by decide +kernel
theorem d_D_read_45 : decode prog_5_method_2_code 45 = .ok (.iadd, 1) := by decide +kernel
theorem d_D_read_46 : decode prog_5_method_2_code 46 = .ok (.invokevirtual 26, 3) := by decide +kernel
theorem d_D_read_49 : decode prog_5_method_2_code 49 = .ok (.istore 5, 2) := by decide +kernel
theorem d_D_read_51 : decode prog_5_method_2_code 51 = .ok (.iload 5, 2) := by decide +kernel
theorem d_D_read_53 : decode prog_5_method_2_code 53 = .ok (.istore 6, 2) := by decide +kernel
theorem d_D_read_55 : decode prog_5_method_2_code 55 = .ok (.iload 6, 2) := by decide +kernel
theorem d_D_read_57 : decode prog_5_method_2_code 57 = .ok (.ifCond .lt 144, 3) := by decide +kernel
theorem d_D_read_60 : decode prog_5_method_2_code 60 = .ok (.iload 6, 2) := by decide +kernel
theorem d_D_read_62 : decode prog_5_method_2_code 62 = .ok (.ifCond .ne 7, 3) := by decide +kernel
theorem d_D_read_65 : decode prog_5_method_2_code 65 = .ok (.iconst 0, 1) := by decide +kernel
theorem d_D_read_66 : decode prog_5_method_2_code 66 = .ok (.goto 14, 3) := by decide +kernel
theorem d_D_read_69 : decode prog_5_method_2_code 69 = .ok (.iload 6, 2) := by decide +kernel
theorem d_D_read_71 : decode prog_5_method_2_code 71 = .ok (.iconst 5, 1) := by decide +kernel
theorem d_D_read_72 : decode prog_5_method_2_code 72 = .ok (.if_icmp .gt 7, 3) := by decide +kernel
theorem d_D_read_75 : decode prog_5_method_2_code 75 = .ok (.iconst 1, 1) := by decide +kernel
theorem d_D_read_76 : decode prog_5_method_2_code 76 = .ok (.goto 4, 3) := by decide +kernel
theorem d_D_read_79 : decode prog_5_method_2_code 79 = .ok (.iconst 2, 1) := by decide +kernel
theorem d_D_read_80 : decode prog_5_method_2_code 80 = .ok (.istore 7, 2) := by decide +kernel
theorem d_D_read_82 : decode prog_5_method_2_code 82 = .ok (.aload_n 0, 1) := by decide +kernel
theorem d_D_read_83 : decode prog_5_method_2_code 83 = .ok (.getfield 16, 3) := by decide +kernel
theorem d_D_read_86 : decode prog_5_method_2_code 86 = .ok (.bipush 13, 2) := by decide +kernel
theorem d_D_read_88 : decode prog_5_method_2_code 88 = .ok (.iconst 3, 1) := by decide +kernel
theorem d_D_read_89 : decode prog_5_method_2_code 89 = .ok (.iload 4, 2) := by decide +kernel
theorem d_D_read_91 : decode prog_5_method_2_code 91 = .ok (.imul, 1) := by decide +kernel
theorem d_D_read_92 : decode prog_5_method_2_code 92 = .ok (.iadd, 1) := by decide +kernel
theorem d_D_read_93 : decode prog_5_method_2_code 93 = .ok (.iload 7, 2) := by decide +kernel
theorem d_D_read_95 : decode prog_5_method_2_code 95 = .ok (.iadd, 1) := by decide +kernel
theorem d_D_read_96 : decode prog_5_method_2_code 96 = .ok (.invokevirtual 26, 3) := by decide +kernel
theorem d_D_read_99 : decode prog_5_method_2_code 99 = .ok (.istore 8, 2) := by decide +kernel
theorem d_D_read_101 : decode prog_5_method_2_code 101 = .ok (.iload 6, 2) := by decide +kernel
theorem d_D_read_103 : decode prog_5_method_2_code 103 = .ok (.iload 5, 2) := by decide +kernel
theorem d_D_read_105 : decode prog_5_method_2_code 105 = .ok (.if_icmp .ne 10, 3) := by decide +kernel
theorem d_D_read_108 : decode prog_5_method_2_code 108 = .ok (.iload 8, 2) := by decide +kernel
theorem d_D_read_110 : decode prog_5_method_2_code 110 = .ok (.iconst 1, 1) := by decide +kernel
theorem d_D_read_111 : decode prog_5_method_2_code 111 = .ok (.iadd, 1) := by decide +kernel
theorem d_D_read_112 : decode prog_5_method_2_code 112 = .ok (.goto 5, 3) := by decide +kernel
theorem d_D_read_115 : decode prog_5_method_2_code 115 = .ok (.iload 8, 2) := by decide +kernel
theorem d_D_read_117 : decode prog_5_method_2_code 117 = .ok (.istore 9, 2) := by decide +kernel
theorem d_D_read_119 : decode prog_5_method_2_code 119 = .ok (.iload 8, 2) := by decide +kernel
theorem d_D_read_121 : decode prog_5_method_2_code 121 = .ok (.iconst 3, 1) := by decide +kernel
theorem d_D_read_122 : decode prog_5_method_2_code 122 = .ok (.if_icmp .ne 26, 3) := by decide +kernel
theorem d_D_read_125 : decode prog_5_method_2_code 125 = .ok (.aload_n 0, 1) := by decide +kernel
theorem d_D_read_126 : decode prog_5_method_2_code 126 = .ok (.getfield 16, 3) := by decide +kernel
theorem d_D_read_129 : decode prog_5_method_2_code 129 = .ok (.invokevirtual 32, 3) := by decide +kernel
theorem d_D_read_132 : decode prog_5_method_2_code 132 = .ok (.istore 10, 2) := by decide +kernel
theorem d_D_read_134 : decode prog_5_method_2_code 134 = .ok (.iload 10, 2) := by decide +kernel
theorem d_D_read_136 : decode prog_5_method_2_code 136 = .ok (.ifCond .ge 5, 3) := by decide +kernel
theorem d_D_read_139 : decode prog_5_method_2_code 139 = .ok (.iconst 0, 1) := by decide +kernel
theorem d_D_read_140 : decode prog_5_method_2_code 140 = .ok (.ireturn, 1) := by decide +kernel
theorem d_D_read_141 : decode prog_5_method_2_code 141 = .ok (.iload 9, 2) := by decide +kernel
theorem d_D_read_143 : decode prog_5_method_2_code 143 = .ok (.iload 10, 2) := by decide +kernel
theorem d_D_read_145 : decode prog_5_method_2_code 145 = .ok (.iadd, 1) := by decide +kernel
theorem d_D_read_146 : decode prog_5_method_2_code 146 = .ok (.istore 9, 2) := by decide +kernel
theorem d_D_read_148 : decode prog_5_method_2_code 148 = .ok (.iload 9, 2) := by decide +kernel
theorem d_D_read_150 : decode prog_5_method_2_code 150 = .ok (.ifCond .eq 18, 3) := by decide +kernel
theorem d_D_read_153 : decode prog_5_method_2_code 153 = .ok (.aload_n 0, 1) := by decide +kernel
theorem d_D_read_154 : decode prog_5_method_2_code 154 = .ok (.getfield 16, 3) := by decide +kernel
theorem d_D_read_157 : decode prog_5_method_2_code 157 = .ok (.invokevirtual 36, 3) := by decide +kernel
theorem d_D_read_160 : decode prog_5_method_2_code 160 = .ok (.iconst 1, 1) := by decide +kernel
theorem d_D_read_161 : decode prog_5_method_2_code 161 = .ok (.if_icmp .ne 7, 3) := by decide +kernel
theorem d_D_read_164 : decode prog_5_method_2_code 164 = .ok (.iconst 1, 1) := by decide +kernel
theorem d_D_read_165 : decode prog_5_method_2_code 165 = .ok (.goto 4, 3) := by decide +kernel
theorem d_D_read_168 : decode prog_5_method_2_code 168 = .ok (.iconst 0, 1) := by decide +kernel
theorem d_D_read_169 : decode prog_5_method_2_code 169 = .ok (.istore 10, 2) := by decide +kernel
theorem d_D_read_171 : decode prog_5_method_2_code 171 = .ok (.aload_n 0, 1) := by decide +kernel
theorem d_D_read_172 : decode prog_5_method_2_code 172 = .ok (.getfield 7, 3) := by decide +kernel
theorem d_D_read_175 : decode prog_5_method_2_code 175 = .ok (.getstatic 39, 3) := by decide +kernel
theorem d_D_read_178 : decode prog_5_method_2_code 178 = .ok (.iload 6, 2) := by decide +kernel
theorem d_D_read_180 : decode prog_5_method_2_code 180 = .ok (.iaload, 1) := by decide +kernel
theorem d_D_read_181 : decode prog_5_method_2_code 181 = .ok (.iload 10, 2) := by decide +kernel
theorem d_D_read_183 : decode prog_5_method_2_code 183 = .ok (.ifCond .eq 9, 3) := by decide +kernel
theorem d_D_read_186 : decode prog_5_method_2_code 186 = .ok (.iload 9, 2) := by decide +kernel
theorem d_D_read_188 : decode prog_5_method_2_code 188 = .ok (.ineg, 1) := by decide +kernel
theorem d_D_read_189 : decode prog_5_method_2_code 189 = .ok (.goto 5, 3) := by decide +kernel
theorem d_D_read_192 : decode prog_5_method_2_code 192 = .ok (.iload 9, 2) := by decide +kernel
theorem d_D_read_194 : decode prog_5_method_2_code 194 = .ok (.iastore, 1) := by decide +kernel
theorem d_D_read_195 : decode prog_5_method_2_code 195 = .ok (.iinc 6 (-1), 3) := by decide +kernel
theorem d_D_read_198 : decode prog_5_method_2_code 198 = .ok (.goto (-143), 3) := by decide +kernel
theorem d_D_read_201 : decode prog_5_method_2_code 201 = .ok (.iload_n 2, 1) := by decide +kernel
theorem d_D_read_202 : decode prog_5_method_2_code 202 = .ok (.ifCond .ne 10, 3) := by decide +kernel
theorem d_D_read_205 : decode prog_5_method_2_code 205 = .ok (.aload_n 0, 1) := by decide +kernel
theorem d_D_read_206 : decode prog_5_method_2_code 206 = .ok (.invokevirtual 42, 3) := by decide +kernel
theorem d_D_read_209 : decode prog_5_method_2_code 209 = .ok (.goto 9, 3) := by decide +kernel
theorem d_D_read_212 : decode prog_5_method_2_code 212 = .ok (.aload_n 0, 1) := by decide +kernel
theorem d_D_read_213 : decode prog_5_method_2_code 213 = .ok (.iload_n 2, 1) := by decide +kernel
theorem d_D_read_214 : decode prog_5_method_2_code 214 = .ok (.iload_n 3, 1) := by decide +kernel
theorem d_D_read_215 : decode prog_5_method_2_code 215 = .ok (.invokevirtual 45, 3) := by decide +kernel
theorem d_D_read_218 : decode prog_5_method_2_code 218 = .ok (.iconst 1, 1) := by decide +kernel
theorem d_D_read_219 : decode prog_5_method_2_code 219 = .ok (.ireturn, 1) := by decide +kernel
theorem d_E_addShare_0 : decode prog_10_method_7_code 0 = .ok (.aload_n 0, 1) := by decide +kernel
theorem d_E_addShare_1 : decode prog_10_method_7_code 1 = .ok (.getfield 19, 3) := by decide +kernel
theorem d_E_addShare_4 : decode prog_10_method_7_code 4 = .ok (.getfield 44, 3) := by decide +kernel
theorem d_E_addShare_7 : decode prog_10_method_7_code 7 = .ok (.astore_n 3, 1) := by decide +kernel
theorem d_E_addShare_8 : decode prog_10_method_7_code 8 = .ok (.bipush 8, 2) := by decide +kernel
theorem d_E_addShare_10 : decode prog_10_method_7_code 10 = .ok (.istore 4, 2) := by decide +kernel
theorem d_E_addShare_12 : decode prog_10_method_7_code 12 = .ok (.iconst 0, 1) := by decide +kernel
theorem d_E_addShare_13 : decode prog_10_method_7_code 13 = .ok (.istore 5, 2) := by decide +kernel
theorem d_E_addShare_15 : decode prog_10_method_7_code 15 = .ok (.iload 5, 2) := by decide +kernel
theorem d_E_addShare_17 : decode prog_10_method_7_code 17 = .ok (.bipush 16, 2) := by decide +kernel
theorem d_E_addShare_19 : decode prog_10_method_7_code 19 = .ok (.if_icmp .ge 30, 3) := by decide +kernel
theorem d_E_addShare_22 : decode prog_10_method_7_code 22 = .ok (.iload 4, 2) := by decide +kernel
theorem d_E_addShare_24 : decode prog_10_method_7_code 24 = .ok (.aload_n 3, 1) := by decide +kernel
theorem d_E_addShare_25 : decode prog_10_method_7_code 25 = .ok (.iload_n 1, 1) := by decide +kernel
theorem d_E_addShare_26 : decode prog_10_method_7_code 26 = .ok (.iload 5, 2) := by decide +kernel
theorem d_E_addShare_28 : decode prog_10_method_7_code 28 = .ok (.iconst 2, 1) := by decide +kernel
theorem d_E_addShare_29 : decode prog_10_method_7_code 29 = .ok (.ishr, 1) := by decide +kernel
theorem d_E_addShare_30 : decode prog_10_method_7_code 30 = .ok (.bipush 16, 2) := by decide +kernel
theorem d_E_addShare_32 : decode prog_10_method_7_code 32 = .ok (.imul, 1) := by decide +kernel
theorem d_E_addShare_33 : decode prog_10_method_7_code 33 = .ok (.iadd, 1) := by decide +kernel
theorem d_E_addShare_34 : decode prog_10_method_7_code 34 = .ok (.iload 5, 2) := by decide +kernel
theorem d_E_addShare_36 : decode prog_10_method_7_code 36 = .ok (.iconst 3, 1) := by decide +kernel
theorem d_E_addShare_37 : decode prog_10_method_7_code 37 = .ok (.iand, 1) := by decide +kernel
theorem d_E_addShare_38 : decode prog_10_method_7_code 38 = .ok (.iadd, 1) := by decide +kernel
theorem d_E_addShare_39 : decode prog_10_method_7_code 39 = .ok (.iaload, 1) := by decide +kernel
theorem d_E_addShare_40 : decode prog_10_method_7_code 40 = .ok (.iadd, 1) := by decide +kernel
theorem d_E_addShare_41 : decode prog_10_method_7_code 41 = .ok (.istore 4, 2) := by decide +kernel
theorem d_E_addShare_43 : decode prog_10_method_7_code 43 = .ok (.iinc 5 1, 3) := by decide +kernel
theorem d_E_addShare_46 : decode prog_10_method_7_code 46 = .ok (.goto (-31), 3) := by decide +kernel
theorem d_E_addShare_49 : decode prog_10_method_7_code 49 = .ok (.iload 4, 2) := by decide +kernel
theorem d_E_addShare_51 : decode prog_10_method_7_code 51 = .ok (.iconst 4, 1) := by decide +kernel
theorem d_E_addShare_52 : decode prog_10_method_7_code 52 = .ok (.ishr, 1) := by decide +kernel
theorem d_E_addShare_53 : decode prog_10_method_7_code 53 = .ok (.istore 5, 2) := by decide +kernel
theorem d_E_addShare_55 : decode prog_10_method_7_code 55 = .ok (.iconst 0, 1) := by decide +kernel
theorem d_E_addShare_56 : decode prog_10_method_7_code 56 = .ok (.istore 6, 2) := by decide +kernel
theorem d_E_addShare_58 : decode prog_10_method_7_code 58 = .ok (.iload 6, 2) := by decide +kernel
theorem d_E_addShare_60 : decode prog_10_method_7_code 60 = .ok (.bipush 16, 2) := by decide +kernel
theorem d_E_addShare_62 : decode prog_10_method_7_code 62 = .ok (.if_icmp .ge 60, 3) := by decide +kernel
theorem d_E_addShare_65 : decode prog_10_method_7_code 65 = .ok (.aload_n 3, 1) := by decide +kernel
theorem d_E_addShare_66 : decode prog_10_method_7_code 66 = .ok (.iload_n 1, 1) := by decide +kernel
theorem d_E_addShare_67 : decode prog_10_method_7_code 67 = .ok (.iload 6, 2) := by decide +kernel
theorem d_E_addShare_69 : decode prog_10_method_7_code 69 = .ok (.iconst 2, 1) := by decide +kernel
theorem d_E_addShare_70 : decode prog_10_method_7_code 70 = .ok (.ishr, 1) := by decide +kernel
theorem d_E_addShare_71 : decode prog_10_method_7_code 71 = .ok (.bipush 16, 2) := by decide +kernel
theorem d_E_addShare_73 : decode prog_10_method_7_code 73 = .ok (.imul, 1) := by decide +kernel
theorem d_E_addShare_74 : decode prog_10_method_7_code 74 = .ok (.iadd, 1) := by decide +kernel
theorem d_E_addShare_75 : decode prog_10_method_7_code 75 = .ok (.iload 6, 2) := by decide +kernel
theorem d_E_addShare_77 : decode prog_10_method_7_code 77 = .ok (.iconst 3, 1) := by decide +kernel
theorem d_E_addShare_78 : decode prog_10_method_7_code 78 = .ok (.iand, 1) := by decide +kernel
theorem d_E_addShare_79 : decode prog_10_method_7_code 79 = .ok (.iadd, 1) := by decide +kernel
theorem d_E_addShare_80 : decode prog_10_method_7_code 80 = .ok (.iaload, 1) := by decide +kernel
theorem d_E_addShare_81 : decode prog_10_method_7_code 81 = .ok (.istore 7, 2) := by decide +kernel
theorem d_E_addShare_83 : decode prog_10_method_7_code 83 = .ok (.aload_n 0, 1) := by decide +kernel
theorem d_E_addShare_84 : decode prog_10_method_7_code 84 = .ok (.getfield 7, 3) := by decide +kernel
theorem d_E_addShare_87 : decode prog_10_method_7_code 87 = .ok (.iload 6, 2) := by decide +kernel
theorem d_E_addShare_89 : decode prog_10_method_7_code 89 = .ok (.aload_n 0, 1) := by decide +kernel
theorem d_E_addShare_90 : decode prog_10_method_7_code 90 = .ok (.getfield 19, 3) := by decide +kernel
theorem d_E_addShare_93 : decode prog_10_method_7_code 93 = .ok (.aload_n 0, 1) := by decide +kernel
theorem d_E_addShare_94 : decode prog_10_method_7_code 94 = .ok (.getfield 7, 3) := by decide +kernel
theorem d_E_addShare_97 : decode prog_10_method_7_code 97 = .ok (.iload 6, 2) := by decide +kernel
theorem d_E_addShare_99 : decode prog_10_method_7_code 99 = .ok (.iaload, 1) := by decide +kernel
theorem d_E_addShare_100 : decode prog_10_method_7_code 100 = .ok (.iload_n 2, 1) := by decide +kernel
theorem d_E_addShare_101 : decode prog_10_method_7_code 101 = .ok (.iload 7, 2) := by decide +kernel
theorem d_E_addShare_103 : decode prog_10_method_7_code 103 = .ok (.iload 5, 2) := by decide +kernel
theorem d_E_addShare_105 : decode prog_10_method_7_code 105 = .ok (.isub, 1) := by decide +kernel
theorem d_E_addShare_106 : decode prog_10_method_7_code 106 = .ok (.imul, 1) := by decide +kernel
theorem d_E_addShare_107 : decode prog_10_method_7_code 107 = .ok (.iconst 2, 1) := by decide +kernel
theorem d_E_addShare_108 : decode prog_10_method_7_code 108 = .ok (.iadd, 1) := by decide +kernel
theorem d_E_addShare_109 : decode prog_10_method_7_code 109 = .ok (.iconst 2, 1) := by decide +kernel
theorem d_E_addShare_110 : decode prog_10_method_7_code 110 = .ok (.ishr, 1) := by decide +kernel
theorem d_E_addShare_111 : decode prog_10_method_7_code 111 = .ok (.iadd, 1) := by decide +kernel
theorem d_E_addShare_112 : decode prog_10_method_7_code 112 = .ok (.invokevirtual 70, 3) := by decide +kernel
theorem d_E_addShare_115 : decode prog_10_method_7_code 115 = .ok (.iastore, 1) := by decide +kernel
theorem d_E_addShare_116 : decode prog_10_method_7_code 116 = .ok (.iinc 6 1, 3) := by decide +kernel
theorem d_E_addShare_119 : decode prog_10_method_7_code 119 = .ok (.goto (-61), 3) := by decide +kernel
theorem d_E_addShare_122 : decode prog_10_method_7_code 122 = .ok (.return_, 1) := by decide +kernel
theorem d_E_nearest_0 : decode prog_10_method_5_code 0 = .ok (.iload_n 2, 1) := by decide +kernel
theorem d_E_nearest_1 : decode prog_10_method_5_code 1 = .ok (.iload_n 1, 1) := by decide +kernel
theorem d_E_nearest_2 : decode prog_10_method_5_code 2 = .ok (.iadd, 1) := by decide +kernel
theorem d_E_nearest_3 : decode prog_10_method_5_code 3 = .ok (.aload_n 0, 1) := by decide +kernel
theorem d_E_nearest_4 : decode prog_10_method_5_code 4 = .ok (.getfield 51, 3) := by decide +kernel
theorem d_E_nearest_7 : decode prog_10_method_5_code 7 = .ok (.isub, 1) := by decide +kernel
theorem d_E_nearest_8 : decode prog_10_method_5_code 8 = .ok (.istore_n 3, 1) := by decide +kernel
