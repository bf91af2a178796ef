/-! decode rows, written by a program -/
theorem d_E_nearest_9 : decode prog_10_method_5_code 9 = .ok (.iload_n 1, 1) := by decide +kernel
theorem d_E_nearest_10 : decode prog_10_method_5_code 10 = .ok (.istore 4, 2) := by decide +kernel
theorem d_E_nearest_12 : decode prog_10_method_5_code 12 = .ok (.iload_n 2, 1) := by decide +kernel
theorem d_E_nearest_13 : decode prog_10_method_5_code 13 = .ok (.iload_n 3, 1) := by decide +kernel
theorem d_E_nearest_14 : decode prog_10_method_5_code 14 = .ok (.isub, 1) := by decide +kernel
theorem d_E_nearest_15 : decode prog_10_method_5_code 15 = .ok (.invokestatic 66, 3) := by decide +kernel
theorem d_E_nearest_18 : decode prog_10_method_5_code 18 = .ok (.iload 4, 2) := by decide +kernel
theorem d_E_nearest_20 : decode prog_10_method_5_code 20 = .ok (.iload_n 3, 1) := by decide +kernel
theorem d_E_nearest_21 : decode prog_10_method_5_code 21 = .ok (.isub, 1) := by decide +kernel
theorem d_E_nearest_22 : decode prog_10_method_5_code 22 = .ok (.invokestatic 66, 3) := by decide +kernel
theorem d_E_nearest_25 : decode prog_10_method_5_code 25 = .ok (.if_icmp .ge 6, 3) := by decide +kernel
theorem d_E_nearest_28 : decode prog_10_method_5_code 28 = .ok (.iload_n 2, 1) := by decide +kernel
theorem d_E_nearest_29 : decode prog_10_method_5_code 29 = .ok (.istore 4, 2) := by decide +kernel
theorem d_E_nearest_31 : decode prog_10_method_5_code 31 = .ok (.aload_n 0, 1) := by decide +kernel
theorem d_E_nearest_32 : decode prog_10_method_5_code 32 = .ok (.getfield 51, 3) := by decide +kernel
theorem d_E_nearest_35 : decode prog_10_method_5_code 35 = .ok (.iload_n 3, 1) := by decide +kernel
theorem d_E_nearest_36 : decode prog_10_method_5_code 36 = .ok (.isub, 1) := by decide +kernel
theorem d_E_nearest_37 : decode prog_10_method_5_code 37 = .ok (.invokestatic 66, 3) := by decide +kernel
theorem d_E_nearest_40 : decode prog_10_method_5_code 40 = .ok (.iload 4, 2) := by decide +kernel
theorem d_E_nearest_42 : decode prog_10_method_5_code 42 = .ok (.iload_n 3, 1) := by decide +kernel
theorem d_E_nearest_43 : decode prog_10_method_5_code 43 = .ok (.isub, 1) := by decide +kernel
theorem d_E_nearest_44 : decode prog_10_method_5_code 44 = .ok (.invokestatic 66, 3) := by decide +kernel
theorem d_E_nearest_47 : decode prog_10_method_5_code 47 = .ok (.if_icmp .ge 9, 3) := by decide +kernel
theorem d_E_nearest_50 : decode prog_10_method_5_code 50 = .ok (.aload_n 0, 1) := by decide +kernel
theorem d_E_nearest_51 : decode prog_10_method_5_code 51 = .ok (.getfield 51, 3) := by decide +kernel
theorem d_E_nearest_54 : decode prog_10_method_5_code 54 = .ok (.istore 4, 2) := by decide +kernel
theorem d_E_nearest_56 : decode prog_10_method_5_code 56 = .ok (.iload 4, 2) := by decide +kernel
theorem d_E_nearest_58 : decode prog_10_method_5_code 58 = .ok (.ireturn, 1) := by decide +kernel
theorem d_E_blended_0 : decode prog_10_method_6_code 0 = .ok (.bipush 7, 2) := by decide +kernel
theorem d_E_blended_2 : decode prog_10_method_6_code 2 = .ok (.iconst 2, 1) := by decide +kernel
theorem d_E_blended_3 : decode prog_10_method_6_code 3 = .ok (.iload_n 2, 1) := by decide +kernel
theorem d_E_blended_4 : decode prog_10_method_6_code 4 = .ok (.imul, 1) := by decide +kernel
theorem d_E_blended_5 : decode prog_10_method_6_code 5 = .ok (.isub, 1) := by decide +kernel
theorem d_E_blended_6 : decode prog_10_method_6_code 6 = .ok (.istore_n 3, 1) := by decide +kernel
theorem d_E_blended_7 : decode prog_10_method_6_code 7 = .ok (.bipush 7, 2) := by decide +kernel
theorem d_E_blended_9 : decode prog_10_method_6_code 9 = .ok (.iconst 2, 1) := by decide +kernel
theorem d_E_blended_10 : decode prog_10_method_6_code 10 = .ok (.iload_n 1, 1) := by decide +kernel
theorem d_E_blended_11 : decode prog_10_method_6_code 11 = .ok (.imul, 1) := by decide +kernel
theorem d_E_blended_12 : decode prog_10_method_6_code 12 = .ok (.isub, 1) := by decide +kernel
theorem d_E_blended_13 : decode prog_10_method_6_code 13 = .ok (.istore 4, 2) := by decide +kernel
theorem d_E_blended_15 : decode prog_10_method_6_code 15 = .ok (.iload_n 3, 1) := by decide +kernel
theorem d_E_blended_16 : decode prog_10_method_6_code 16 = .ok (.aload_n 0, 1) := by decide +kernel
theorem d_E_blended_17 : decode prog_10_method_6_code 17 = .ok (.getfield 13, 3) := by decide +kernel
theorem d_E_blended_20 : decode prog_10_method_6_code 20 = .ok (.iload_n 1, 1) := by decide +kernel
theorem d_E_blended_21 : decode prog_10_method_6_code 21 = .ok (.iaload, 1) := by decide +kernel
theorem d_E_blended_22 : decode prog_10_method_6_code 22 = .ok (.imul, 1) := by decide +kernel
theorem d_E_blended_23 : decode prog_10_method_6_code 23 = .ok (.bipush 8, 2) := by decide +kernel
theorem d_E_blended_25 : decode prog_10_method_6_code 25 = .ok (.iload_n 3, 1) := by decide +kernel
theorem d_E_blended_26 : decode prog_10_method_6_code 26 = .ok (.isub, 1) := by decide +kernel
theorem d_E_blended_27 : decode prog_10_method_6_code 27 = .ok (.aload_n 0, 1) := by decide +kernel
theorem d_E_blended_28 : decode prog_10_method_6_code 28 = .ok (.getfield 16, 3) := by decide +kernel
theorem d_E_blended_31 : decode prog_10_method_6_code 31 = .ok (.iconst 3, 1) := by decide +kernel
theorem d_E_blended_32 : decode prog_10_method_6_code 32 = .ok (.iaload, 1) := by decide +kernel
theorem d_E_blended_33 : decode prog_10_method_6_code 33 = .ok (.imul, 1) := by decide +kernel
theorem d_E_blended_34 : decode prog_10_method_6_code 34 = .ok (.iadd, 1) := by decide +kernel
theorem d_E_blended_35 : decode prog_10_method_6_code 35 = .ok (.istore 5, 2) := by decide +kernel
theorem d_E_blended_37 : decode prog_10_method_6_code 37 = .ok (.iload 4, 2) := by decide +kernel
theorem d_E_blended_39 : decode prog_10_method_6_code 39 = .ok (.aload_n 0, 1) := by decide +kernel
theorem d_E_blended_40 : decode prog_10_method_6_code 40 = .ok (.getfield 16, 3) := by decide +kernel
theorem d_E_blended_43 : decode prog_10_method_6_code 43 = .ok (.iload_n 2, 1) := by decide +kernel
theorem d_E_blended_44 : decode prog_10_method_6_code 44 = .ok (.iaload, 1) := by decide +kernel
theorem d_E_blended_45 : decode prog_10_method_6_code 45 = .ok (.imul, 1) := by decide +kernel
theorem d_E_blended_46 : decode prog_10_method_6_code 46 = .ok (.bipush 8, 2) := by decide +kernel
theorem d_E_blended_48 : decode prog_10_method_6_code 48 = .ok (.iload 4, 2) := by decide +kernel
theorem d_E_blended_50 : decode prog_10_method_6_code 50 = .ok (.isub, 1) := by decide +kernel
theorem d_E_blended_51 : decode prog_10_method_6_code 51 = .ok (.aload_n 0, 1) := by decide +kernel
theorem d_E_blended_52 : decode prog_10_method_6_code 52 = .ok (.getfield 13, 3) := by decide +kernel
theorem d_E_blended_55 : decode prog_10_method_6_code 55 = .ok (.iconst 3, 1) := by decide +kernel
theorem d_E_blended_56 : decode prog_10_method_6_code 56 = .ok (.iaload, 1) := by decide +kernel
theorem d_E_blended_57 : decode prog_10_method_6_code 57 = .ok (.imul, 1) := by decide +kernel
theorem d_E_blended_58 : decode prog_10_method_6_code 58 = .ok (.iadd, 1) := by decide +kernel
theorem d_E_blended_59 : decode prog_10_method_6_code 59 = .ok (.istore 6, 2) := by decide +kernel
theorem d_E_blended_61 : decode prog_10_method_6_code 61 = .ok (.iload 5, 2) := by decide +kernel
theorem d_E_blended_63 : decode prog_10_method_6_code 63 = .ok (.iload 6, 2) := by decide +kernel
theorem d_E_blended_65 : decode prog_10_method_6_code 65 = .ok (.iadd, 1) := by decide +kernel
theorem d_E_blended_66 : decode prog_10_method_6_code 66 = .ok (.bipush 8, 2) := by decide +kernel
theorem d_E_blended_68 : decode prog_10_method_6_code 68 = .ok (.iadd, 1) := by decide +kernel
theorem d_E_blended_69 : decode prog_10_method_6_code 69 = .ok (.iconst 4, 1) := by decide +kernel
theorem d_E_blended_70 : decode prog_10_method_6_code 70 = .ok (.ishr, 1) := by decide +kernel
theorem d_E_blended_71 : decode prog_10_method_6_code 71 = .ok (.ireturn, 1) := by decide +kernel
theorem d_E_predicted_0 : decode prog_10_method_4_code 0 = .ok (.iload_n 1, 1) := by decide +kernel
theorem d_E_predicted_1 : decode prog_10_method_4_code 1 = .ok (.tableswitch 105 1 5 #[35, 42, 49, 66, 73], 35) := by decide +kernel
theorem d_E_predicted_36 : decode prog_10_method_4_code 36 = .ok (.aload_n 0, 1) := by decide +kernel
theorem d_E_predicted_37 : decode prog_10_method_4_code 37 = .ok (.getfield 13, 3) := by decide +kernel
theorem d_E_predicted_40 : decode prog_10_method_4_code 40 = .ok (.iload_n 2, 1) := by decide +kernel
theorem d_E_predicted_41 : decode prog_10_method_4_code 41 = .ok (.iaload, 1) := by decide +kernel
theorem d_E_predicted_42 : decode prog_10_method_4_code 42 = .ok (.ireturn, 1) := by decide +kernel
theorem d_E_predicted_43 : decode prog_10_method_4_code 43 = .ok (.aload_n 0, 1) := by decide +kernel
theorem d_E_predicted_44 : decode prog_10_method_4_code 44 = .ok (.getfield 16, 3) := by decide +kernel
theorem d_E_predicted_47 : decode prog_10_method_4_code 47 = .ok (.iload_n 3, 1) := by decide +kernel
theorem d_E_predicted_48 : decode prog_10_method_4_code 48 = .ok (.iaload, 1) := by decide +kernel
theorem d_E_predicted_49 : decode prog_10_method_4_code 49 = .ok (.ireturn, 1) := by decide +kernel
theorem d_E_predicted_50 : decode prog_10_method_4_code 50 = .ok (.aload_n 0, 1) := by decide +kernel
theorem d_E_predicted_51 : decode prog_10_method_4_code 51 = .ok (.aload_n 0, 1) := by decide +kernel
theorem d_E_predicted_52 : decode prog_10_method_4_code 52 = .ok (.getfield 16, 3) := by decide +kernel
theorem d_E_predicted_55 : decode prog_10_method_4_code 55 = .ok (.iload_n 3, 1) := by decide +kernel
theorem d_E_predicted_56 : decode prog_10_method_4_code 56 = .ok (.iaload, 1) := by decide +kernel
theorem d_E_predicted_57 : decode prog_10_method_4_code 57 = .ok (.aload_n 0, 1) := by decide +kernel
theorem d_E_predicted_58 : decode prog_10_method_4_code 58 = .ok (.getfield 13, 3) := by decide +kernel
theorem d_E_predicted_61 : decode prog_10_method_4_code 61 = .ok (.iload_n 2, 1) := by decide +kernel
theorem d_E_predicted_62 : decode prog_10_method_4_code 62 = .ok (.iaload, 1) := by decide +kernel
theorem d_E_predicted_63 : decode prog_10_method_4_code 63 = .ok (.invokevirtual 54, 3) := by decide +kernel
theorem d_E_predicted_66 : decode prog_10_method_4_code 66 = .ok (.ireturn, 1) := by decide +kernel
theorem d_E_predicted_67 : decode prog_10_method_4_code 67 = .ok (.aload_n 0, 1) := by decide +kernel
theorem d_E_predicted_68 : decode prog_10_method_4_code 68 = .ok (.iload_n 2, 1) := by decide +kernel
theorem d_E_predicted_69 : decode prog_10_method_4_code 69 = .ok (.iload_n 3, 1) := by decide +kernel
theorem d_E_predicted_70 : decode prog_10_method_4_code 70 = .ok (.invokevirtual 58, 3) := by decide +kernel
theorem d_E_predicted_73 : decode prog_10_method_4_code 73 = .ok (.ireturn, 1) := by decide +kernel
theorem d_E_predicted_74 : decode prog_10_method_4_code 74 = .ok (.aload_n 0, 1) := by decide +kernel
theorem d_E_predicted_75 : decode prog_10_method_4_code 75 = .ok (.getfield 13, 3) := by decide +kernel
theorem d_E_predicted_78 : decode prog_10_method_4_code 78 = .ok (.iload_n 2, 1) := by decide +kernel
theorem d_E_predicted_79 : decode prog_10_method_4_code 79 = .ok (.iload_n 3, 1) := by decide +kernel
theorem d_E_predicted_80 : decode prog_10_method_4_code 80 = .ok (.iadd, 1) := by decide +kernel
theorem d_E_predicted_81 : decode prog_10_method_4_code 81 = .ok (.iconst 3, 1) := by decide +kernel
theorem d_E_predicted_82 : decode prog_10_method_4_code 82 = .ok (.invokestatic 61, 3) := by decide +kernel
theorem d_E_predicted_85 : decode prog_10_method_4_code 85 = .ok (.iaload, 1) := by decide +kernel
theorem d_E_predicted_86 : decode prog_10_method_4_code 86 = .ok (.aload_n 0, 1) := by decide +kernel
theorem d_E_predicted_87 : decode prog_10_method_4_code 87 = .ok (.getfield 13, 3) := by decide +kernel
theorem d_E_predicted_90 : decode prog_10_method_4_code 90 = .ok (.iload_n 2, 1) := by decide +kernel
theorem d_E_predicted_91 : decode prog_10_method_4_code 91 = .ok (.iload_n 3, 1) := by decide +kernel
theorem d_E_predicted_92 : decode prog_10_method_4_code 92 = .ok (.iadd, 1) := by decide +kernel
theorem d_E_predicted_93 : decode prog_10_method_4_code 93 = .ok (.iconst 1, 1) := by decide +kernel
theorem d_E_predicted_94 : decode prog_10_method_4_code 94 = .ok (.iadd, 1) := by decide +kernel
theorem d_E_predicted_95 : decode prog_10_method_4_code 95 = .ok (.iconst 3, 1) := by decide +kernel
theorem d_E_predicted_96 : decode prog_10_method_4_code 96 = .ok (.invokestatic 61, 3) := by decide +kernel
theorem d_E_predicted_99 : decode prog_10_method_4_code 99 = .ok (.iaload, 1) := by decide +kernel
theorem d_E_predicted_100 : decode prog_10_method_4_code 100 = .ok (.iadd, 1) := by decide +kernel
theorem d_E_predicted_101 : decode prog_10_method_4_code 101 = .ok (.iconst 1, 1) := by decide +kernel
theorem d_E_predicted_102 : decode prog_10_method_4_code 102 = .ok (.iadd, 1) := by decide +kernel
theorem d_E_predicted_103 : decode prog_10_method_4_code 103 = .ok (.iconst 1, 1) := by decide +kernel
theorem d_E_predicted_104 : decode prog_10_method_4_code 104 = .ok (.ishr, 1) := by decide +kernel
theorem d_E_predicted_105 : decode prog_10_method_4_code 105 = .ok (.ireturn, 1) := by decide +kernel
theorem d_E_predicted_106 : decode prog_10_method_4_code 106 = .ok (.aload_n 0, 1) := by decide +kernel
theorem d_E_predicted_107 : decode prog_10_method_4_code 107 = .ok (.getfield 27, 3) := by decide +kernel
theorem d_E_predicted_110 : decode prog_10_method_4_code 110 = .ok (.ireturn, 1) := by decide +kernel
theorem d_P_middle_0 : decode prog_9_method_5_code 0 = .ok (.aload_n 0, 1) := by decide +kernel
theorem d_P_middle_1 : decode prog_9_method_5_code 1 = .ok (.getfield 23, 3) := by decide +kernel
theorem d_P_middle_4 : decode prog_9_method_5_code 4 = .ok (.iconst 1, 1) := by decide +kernel
theorem d_P_middle_5 : decode prog_9_method_5_code 5 = .ok (.iadd, 1) := by decide +kernel
theorem d_P_middle_6 : decode prog_9_method_5_code 6 = .ok (.iconst 1, 1) := by decide +kernel
theorem d_P_middle_7 : decode prog_9_method_5_code 7 = .ok (.ishr, 1) := by decide +kernel
theorem d_P_middle_8 : decode prog_9_method_5_code 8 = .ok (.ireturn, 1) := by decide +kernel
theorem d_E_look_0 : decode prog_10_method_3_code 0 = .ok (.aload_n 0, 1) := by decide +kernel
theorem d_E_look_1 : decode prog_10_method_3_code 1 = .ok (.getfield 19, 3) := by decide +kernel
theorem d_E_look_4 : decode prog_10_method_3_code 4 = .ok (.getfield 44, 3) := by decide +kernel
theorem d_E_look_7 : decode prog_10_method_3_code 7 = .ok (.astore 4, 2) := by decide +kernel
theorem d_E_look_9 : decode prog_10_method_3_code 9 = .ok (.iload_n 1, 1) := by decide +kernel
theorem d_E_look_10 : decode prog_10_method_3_code 10 = .ok (.iload_n 2, 1) := by decide +kernel
theorem d_E_look_11 : decode prog_10_method_3_code 11 = .ok (.iload_n 3, 1) := by decide +kernel
theorem d_E_look_12 : decode prog_10_method_3_code 12 = .ok (.invokestatic 35, 3) := by decide +kernel
theorem d_E_look_15 : decode prog_10_method_3_code 15 = .ok (.istore 5, 2) := by decide +kernel
theorem d_E_look_17 : decode prog_10_method_3_code 17 = .ok (.iload_n 3, 1) := by decide +kernel
theorem d_E_look_18 : decode prog_10_method_3_code 18 = .ok (.ifCond .eq 14, 3) := by decide +kernel
theorem d_E_look_21 : decode prog_10_method_3_code 21 = .ok (.aload 4, 2) := by decide +kernel
theorem d_E_look_23 : decode prog_10_method_3_code 23 = .ok (.iload 5, 2) := by decide +kernel
theorem d_E_look_25 : decode prog_10_method_3_code 25 = .ok (.bipush 16, 2) := by decide +kernel
theorem d_E_look_27 : decode prog_10_method_3_code 27 = .ok (.isub, 1) := by decide +kernel
theorem d_E_look_28 : decode prog_10_method_3_code 28 = .ok (.iaload, 1) := by decide +kernel
theorem d_E_look_29 : decode prog_10_method_3_code 29 = .ok (.goto 10, 3) := by decide +kernel
theorem d_E_look_32 : decode prog_10_method_3_code 32 = .ok (.aload_n 0, 1) := by decide +kernel
theorem d_E_look_33 : decode prog_10_method_3_code 33 = .ok (.getfield 19, 3) := by decide +kernel
theorem d_E_look_36 : decode prog_10_method_3_code 36 = .ok (.invokevirtual 47, 3) := by decide +kernel
theorem d_E_look_39 : decode prog_10_method_3_code 39 = .ok (.istore 6, 2) := by decide +kernel
theorem d_E_look_41 : decode prog_10_method_3_code 41 = .ok (.iload_n 2, 1) := by decide +kernel
theorem d_E_look_42 : decode prog_10_method_3_code 42 = .ok (.ifCond .eq 13, 3) := by decide +kernel
theorem d_E_look_45 : decode prog_10_method_3_code 45 = .ok (.aload 4, 2) := by decide +kernel
theorem d_E_look_47 : decode prog_10_method_3_code 47 = .ok (.iload 5, 2) := by decide +kernel
theorem d_E_look_49 : decode prog_10_method_3_code 49 = .ok (.iconst 1, 1) := by decide +kernel
theorem d_E_look_50 : decode prog_10_method_3_code 50 = .ok (.isub, 1) := by decide +kernel
theorem d_E_look_51 : decode prog_10_method_3_code 51 = .ok (.iaload, 1) := by decide +kernel
theorem d_E_look_52 : decode prog_10_method_3_code 52 = .ok (.goto 10, 3) := by decide +kernel
theorem d_E_look_55 : decode prog_10_method_3_code 55 = .ok (.aload_n 0, 1) := by decide +kernel
theorem d_E_look_56 : decode prog_10_method_3_code 56 = .ok (.getfield 19, 3) := by decide +kernel
theorem d_E_look_59 : decode prog_10_method_3_code 59 = .ok (.invokevirtual 47, 3) := by decide +kernel
theorem d_E_look_62 : decode prog_10_method_3_code 62 = .ok (.istore 7, 2) := by decide +kernel
theorem d_E_look_64 : decode prog_10_method_3_code 64 = .ok (.iload_n 2, 1) := by decide +kernel
theorem d_E_look_65 : decode prog_10_method_3_code 65 = .ok (.ifCond .eq 8, 3) := by decide +kernel
theorem d_E_look_68 : decode prog_10_method_3_code 68 = .ok (.iload 7, 2) := by decide +kernel
theorem d_E_look_70 : decode prog_10_method_3_code 70 = .ok (.goto 10, 3) := by decide +kernel
theorem d_E_look_73 : decode prog_10_method_3_code 73 = .ok (.aload_n 0, 1) := by decide +kernel
theorem d_E_look_74 : decode prog_10_method_3_code 74 = .ok (.getfield 19, 3) := by decide +kernel
theorem d_E_look_77 : decode prog_10_method_3_code 77 = .ok (.invokevirtual 47, 3) := by decide +kernel
theorem d_E_look_80 : decode prog_10_method_3_code 80 = .ok (.istore 8, 2) := by decide +kernel
theorem d_E_look_82 : decode prog_10_method_3_code 82 = .ok (.iload_n 3, 1) := by decide +kernel
theorem d_E_look_83 : decode prog_10_method_3_code 83 = .ok (.ifCond .eq 8, 3) := by decide +kernel
theorem d_E_look_86 : decode prog_10_method_3_code 86 = .ok (.iload 6, 2) := by decide +kernel
theorem d_E_look_88 : decode prog_10_method_3_code 88 = .ok (.goto 10, 3) := by decide +kernel
theorem d_E_look_91 : decode prog_10_method_3_code 91 = .ok (.aload_n 0, 1) := by decide +kernel
theorem d_E_look_92 : decode prog_10_method_3_code 92 = .ok (.getfield 19, 3) := by decide +kernel
theorem d_E_look_95 : decode prog_10_method_3_code 95 = .ok (.invokevirtual 47, 3) := by decide +kernel
theorem d_E_look_98 : decode prog_10_method_3_code 98 = .ok (.istore 9, 2) := by decide +kernel
theorem d_E_look_100 : decode prog_10_method_3_code 100 = .ok (.iconst 0, 1) := by decide +kernel
theorem d_E_look_101 : decode prog_10_method_3_code 101 = .ok (.istore 10, 2) := by decide +kernel
theorem d_E_look_103 : decode prog_10_method_3_code 103 = .ok (.iload 10, 2) := by decide +kernel
theorem d_E_look_105 : decode prog_10_method_3_code 105 = .ok (.iconst 4, 1) := by decide +kernel
theorem d_E_look_106 : decode prog_10_method_3_code 106 = .ok (.if_icmp .ge 65, 3) := by decide +kernel
theorem d_E_look_109 : decode prog_10_method_3_code 109 = .ok (.aload_n 0, 1) := by decide +kernel
theorem d_E_look_110 : decode prog_10_method_3_code 110 = .ok (.getfield 13, 3) := by decide +kernel
theorem d_E_look_113 : decode prog_10_method_3_code 113 = .ok (.iload 10, 2) := by decide +kernel
theorem d_E_look_115 : decode prog_10_method_3_code 115 = .ok (.iload_n 3, 1) := by decide +kernel
theorem d_E_look_116 : decode prog_10_method_3_code 116 = .ok (.ifCond .eq 17, 3) := by decide +kernel
theorem d_E_look_119 : decode prog_10_method_3_code 119 = .ok (.aload 4, 2) := by decide +kernel
theorem d_E_look_121 : decode prog_10_method_3_code 121 = .ok (.iload 5, 2) := by decide +kernel
theorem d_E_look_123 : decode prog_10_method_3_code 123 = .ok (.bipush 16, 2) := by decide +kernel
theorem d_E_look_125 : decode prog_10_method_3_code 125 = .ok (.isub, 1) := by decide +kernel
theorem d_E_look_126 : decode prog_10_method_3_code 126 = .ok (.iload 10, 2) := by decide +kernel
theorem d_E_look_128 : decode prog_10_method_3_code 128 = .ok (.iadd, 1) := by decide +kernel
theorem d_E_look_129 : decode prog_10_method_3_code 129 = .ok (.iaload, 1) := by decide +kernel
theorem d_E_look_130 : decode prog_10_method_3_code 130 = .ok (.goto 5, 3) := by decide +kernel
theorem d_E_look_133 : decode prog_10_method_3_code 133 = .ok (.iload 8, 2) := by decide +kernel
theorem d_E_look_135 : decode prog_10_method_3_code 135 = .ok (.iastore, 1) := by decide +kernel
theorem d_E_look_136 : decode prog_10_method_3_code 136 = .ok (.aload_n 0, 1) := by decide +kernel
theorem d_E_look_137 : decode prog_10_method_3_code 137 = .ok (.getfield 16, 3) := by decide +kernel
theorem d_E_look_140 : decode prog_10_method_3_code 140 = .ok (.iload 10, 2) := by decide +kernel
theorem d_E_look_142 : decode prog_10_method_3_code 142 = .ok (.iload_n 2, 1) := by decide +kernel
theorem d_E_look_143 : decode prog_10_method_3_code 143 = .ok (.ifCond .eq 19, 3) := by decide +kernel
theorem d_E_look_146 : decode prog_10_method_3_code 146 = .ok (.aload 4, 2) := by decide +kernel
theorem d_E_look_148 : decode prog_10_method_3_code 148 = .ok (.iload 5, 2) := by decide +kernel
theorem d_E_look_150 : decode prog_10_method_3_code 150 = .ok (.iconst 1, 1) := by decide +kernel
theorem d_E_look_151 : decode prog_10_method_3_code 151 = .ok (.isub, 1) := by decide +kernel
theorem d_E_look_152 : decode prog_10_method_3_code 152 = .ok (.iload 10, 2) := by decide +kernel
theorem d_E_look_154 : decode prog_10_method_3_code 154 = .ok (.bipush 16, 2) := by decide +kernel
theorem d_E_look_156 : decode prog_10_method_3_code 156 = .ok (.imul, 1) := by decide +kernel
theorem d_E_look_157 : decode prog_10_method_3_code 157 = .ok (.iadd, 1) := by decide +kernel
theorem d_E_look_158 : decode prog_10_method_3_code 158 = .ok (.iaload, 1) := by decide +kernel
theorem d_E_look_159 : decode prog_10_method_3_code 159 = .ok (.goto 5, 3) := by decide +kernel
theorem d_E_look_162 : decode prog_10_method_3_code 162 = .ok (.iload 9, 2) := by decide +kernel
theorem d_E_look_164 : decode prog_10_method_3_code 164 = .ok (.iastore, 1) := by decide +kernel
theorem d_E_look_165 : decode prog_10_method_3_code 165 = .ok (.iinc 10 1, 3) := by decide +kernel
theorem d_E_look_168 : decode prog_10_method_3_code 168 = .ok (.goto (-65), 3) := by decide +kernel
theorem d_E_look_171 : decode prog_10_method_3_code 171 = .ok (.iload_n 2, 1) := by decide +kernel
theorem d_E_look_172 : decode prog_10_method_3_code 172 = .ok (.ifCond .eq 24, 3) := by decide +kernel
theorem d_E_look_175 : decode prog_10_method_3_code 175 = .ok (.iload_n 3, 1) := by decide +kernel
theorem d_E_look_176 : decode prog_10_method_3_code 176 = .ok (.ifCond .eq 20, 3) := by decide +kernel
theorem d_E_look_179 : decode prog_10_method_3_code 179 = .ok (.aload_n 0, 1) := by decide +kernel
theorem d_E_look_180 : decode prog_10_method_3_code 180 = .ok (.aload 4, 2) := by decide +kernel
theorem d_E_look_182 : decode prog_10_method_3_code 182 = .ok (.iload 5, 2) := by decide +kernel
theorem d_E_look_184 : decode prog_10_method_3_code 184 = .ok (.bipush 16, 2) := by decide +kernel
theorem d_E_look_186 : decode prog_10_method_3_code 186 = .ok (.isub, 1) := by decide +kernel
theorem d_E_look_187 : decode prog_10_method_3_code 187 = .ok (.iconst 1, 1) := by decide +kernel
theorem d_E_look_188 : decode prog_10_method_3_code 188 = .ok (.isub, 1) := by decide +kernel
theorem d_E_look_189 : decode prog_10_method_3_code 189 = .ok (.iaload, 1) := by decide +kernel
theorem d_E_look_190 : decode prog_10_method_3_code 190 = .ok (.putfield 51, 3) := by decide +kernel
theorem d_E_look_193 : decode prog_10_method_3_code 193 = .ok (.goto 18, 3) := by decide +kernel
theorem d_E_look_196 : decode prog_10_method_3_code 196 = .ok (.aload_n 0, 1) := by decide +kernel
theorem d_E_look_197 : decode prog_10_method_3_code 197 = .ok (.iload_n 3, 1) := by decide +kernel
theorem d_E_look_198 : decode prog_10_method_3_code 198 = .ok (.ifCond .eq 8, 3) := by decide +kernel
theorem d_E_look_201 : decode prog_10_method_3_code 201 = .ok (.iload 6, 2) := by decide +kernel
theorem d_E_look_203 : decode prog_10_method_3_code 203 = .ok (.goto 5, 3) := by decide +kernel
theorem d_E_look_206 : decode prog_10_method_3_code 206 = .ok (.iload 7, 2) := by decide +kernel
theorem d_E_look_208 : decode prog_10_method_3_code 208 = .ok (.putfield 51, 3) := by decide +kernel
theorem d_E_look_211 : decode prog_10_method_3_code 211 = .ok (.return_, 1) := by decide +kernel
theorem d_E_make_0 : decode prog_10_method_2_code 0 = .ok (.aload_n 0, 1) := by decide +kernel
theorem d_E_make_1 : decode prog_10_method_2_code 1 = .ok (.iload_n 1, 1) := by decide +kernel
theorem d_E_make_2 : decode prog_10_method_2_code 2 = .ok (.iload_n 2, 1) := by decide +kernel
theorem d_E_make_3 : decode prog_10_method_2_code 3 = .ok (.iload_n 3, 1) := by decide +kernel
theorem d_E_make_4 : decode prog_10_method_2_code 4 = .ok (.invokevirtual 23, 3) := by decide +kernel
theorem d_E_make_7 : decode prog_10_method_2_code 7 = .ok (.aload_n 0, 1) := by decide +kernel
theorem d_E_make_8 : decode prog_10_method_2_code 8 = .ok (.iconst 4, 1) := by decide +kernel
theorem d_E_make_9 : decode prog_10_method_2_code 9 = .ok (.putfield 27, 3) := by decide +kernel
theorem d_E_make_12 : decode prog_10_method_2_code 12 = .ok (.iconst 0, 1) := by decide +kernel
theorem d_E_make_13 : decode prog_10_method_2_code 13 = .ok (.istore 6, 2) := by decide +kernel
theorem d_E_make_15 : decode prog_10_method_2_code 15 = .ok (.iload 6, 2) := by decide +kernel
theorem d_E_make_17 : decode prog_10_method_2_code 17 = .ok (.iconst 4, 1) := by decide +kernel
theorem d_E_make_18 : decode prog_10_method_2_code 18 = .ok (.if_icmp .ge 33, 3) := by decide +kernel
theorem d_E_make_21 : decode prog_10_method_2_code 21 = .ok (.aload_n 0, 1) := by decide +kernel
theorem d_E_make_22 : decode prog_10_method_2_code 22 = .ok (.dup, 1) := by decide +kernel
theorem d_E_make_23 : decode prog_10_method_2_code 23 = .ok (.getfield 27, 3) := by decide +kernel
theorem d_E_make_26 : decode prog_10_method_2_code 26 = .ok (.aload_n 0, 1) := by decide +kernel
theorem d_E_make_27 : decode prog_10_method_2_code 27 = .ok (.getfield 13, 3) := by decide +kernel
theorem d_E_make_30 : decode prog_10_method_2_code 30 = .ok (.iload 6, 2) := by decide +kernel
theorem d_E_make_32 : decode prog_10_method_2_code 32 = .ok (.iaload, 1) := by decide +kernel
theorem d_E_make_33 : decode prog_10_method_2_code 33 = .ok (.aload_n 0, 1) := by decide +kernel
theorem d_E_make_34 : decode prog_10_method_2_code 34 = .ok (.getfield 16, 3) := by decide +kernel
theorem d_E_make_37 : decode prog_10_method_2_code 37 = .ok (.iload 6, 2) := by decide +kernel
theorem d_E_make_39 : decode prog_10_method_2_code 39 = .ok (.iaload, 1) := by decide +kernel
theorem d_E_make_40 : decode prog_10_method_2_code 40 = .ok (.iadd, 1) := by decide +kernel
theorem d_E_make_41 : decode prog_10_method_2_code 41 = .ok (.iadd, 1) := by decide +kernel
theorem d_E_make_42 : decode prog_10_method_2_code 42 = .ok (.putfield 27, 3) := by decide +kernel
theorem d_E_make_45 : decode prog_10_method_2_code 45 = .ok (.iinc 6 1, 3) := by decide +kernel
theorem d_E_make_48 : decode prog_10_method_2_code 48 = .ok (.goto (-33), 3) := by decide +kernel
theorem d_E_make_51 : decode prog_10_method_2_code 51 = .ok (.aload_n 0, 1) := by decide +kernel
theorem d_E_make_52 : decode prog_10_method_2_code 52 = .ok (.dup, 1) := by decide +kernel
theorem d_E_make_53 : decode prog_10_method_2_code 53 = .ok (.getfield 27, 3) := by decide +kernel
theorem d_E_make_56 : decode prog_10_method_2_code 56 = .ok (.iconst 3, 1) := by decide +kernel
theorem d_E_make_57 : decode prog_10_method_2_code 57 = .ok (.ishr, 1) := by decide +kernel
theorem d_E_make_58 : decode prog_10_method_2_code 58 = .ok (.putfield 27, 3) := by decide +kernel
theorem d_E_make_61 : decode prog_10_method_2_code 61 = .ok (.iconst 0, 1) := by decide +kernel
theorem d_E_make_62 : decode prog_10_method_2_code 62 = .ok (.istore 6, 2) := by decide +kernel
theorem d_E_make_64 : decode prog_10_method_2_code 64 = .ok (.iload 6, 2) := by decide +kernel
theorem d_E_make_66 : decode prog_10_method_2_code 66 = .ok (.bipush 16, 2) := by decide +kernel
theorem d_E_make_68 : decode prog_10_method_2_code 68 = .ok (.if_icmp .ge 30, 3) := by decide +kernel
theorem d_E_make_71 : decode prog_10_method_2_code 71 = .ok (.aload_n 0, 1) := by decide +kernel
theorem d_E_make_72 : decode prog_10_method_2_code 72 = .ok (.getfield 7, 3) := by decide +kernel
theorem d_E_make_75 : decode prog_10_method_2_code 75 = .ok (.iload 6, 2) := by decide +kernel
theorem d_E_make_77 : decode prog_10_method_2_code 77 = .ok (.aload_n 0, 1) := by decide +kernel
theorem d_E_make_78 : decode prog_10_method_2_code 78 = .ok (.iload 4, 2) := by decide +kernel
theorem d_E_make_80 : decode prog_10_method_2_code 80 = .ok (.iload 6, 2) := by decide +kernel
theorem d_E_make_82 : decode prog_10_method_2_code 82 = .ok (.iconst 3, 1) := by decide +kernel
theorem d_E_make_83 : decode prog_10_method_2_code 83 = .ok (.iand, 1) := by decide +kernel
theorem d_E_make_84 : decode prog_10_method_2_code 84 = .ok (.iload 6, 2) := by decide +kernel
theorem d_E_make_86 : decode prog_10_method_2_code 86 = .ok (.iconst 2, 1) := by decide +kernel
theorem d_E_make_87 : decode prog_10_method_2_code 87 = .ok (.ishr, 1) := by decide +kernel
theorem d_E_make_88 : decode prog_10_method_2_code 88 = .ok (.invokevirtual 31, 3) := by decide +kernel
theorem d_E_make_91 : decode prog_10_method_2_code 91 = .ok (.iastore, 1) := by decide +kernel
theorem d_E_make_92 : decode prog_10_method_2_code 92 = .ok (.iinc 6 1, 3) := by decide +kernel
theorem d_E_make_95 : decode prog_10_method_2_code 95 = .ok (.goto (-31), 3) := by decide +kernel
theorem d_E_make_98 : decode prog_10_method_2_code 98 = .ok (.iload 4, 2) := by decide +kernel
theorem d_E_make_100 : decode prog_10_method_2_code 100 = .ok (.bipush 6, 2) := by decide +kernel
theorem d_E_make_102 : decode prog_10_method_2_code 102 = .ok (.if_icmp .ne 15, 3) := by decide +kernel
theorem d_E_make_105 : decode prog_10_method_2_code 105 = .ok (.aload_n 0, 1) := by decide +kernel
theorem d_E_make_106 : decode prog_10_method_2_code 106 = .ok (.iconst 0, 1) := by decide +kernel
theorem d_E_make_107 : decode prog_10_method_2_code 107 = .ok (.iload_n 2, 1) := by decide +kernel
theorem d_E_make_108 : decode prog_10_method_2_code 108 = .ok (.iload_n 3, 1) := by decide +kernel
theorem d_E_make_109 : decode prog_10_method_2_code 109 = .ok (.invokestatic 35, 3) := by decide +kernel
theorem d_E_make_112 : decode prog_10_method_2_code 112 = .ok (.iload 5, 2) := by decide +kernel
theorem d_E_make_114 : decode prog_10_method_2_code 114 = .ok (.invokevirtual 40, 3) := by decide +kernel
theorem d_E_make_117 : decode prog_10_method_2_code 117 = .ok (.return_, 1) := by decide +kernel
theorem d_T_mend_0 : decode prog_11_method_6_code 0 = .ok (.iconst 0, 1) := by decide +kernel
theorem d_T_mend_1 : decode prog_11_method_6_code 1 = .ok (.istore_n 2, 1) := by decide +kernel
theorem d_T_mend_2 : decode prog_11_method_6_code 2 = .ok (.iload_n 2, 1) := by decide +kernel
theorem d_T_mend_3 : decode prog_11_method_6_code 3 = .ok (.bipush 16, 2) := by decide +kernel
theorem d_T_mend_5 : decode prog_11_method_6_code 5 = .ok (.if_icmp .ge 57, 3) := by decide +kernel
theorem d_T_mend_8 : decode prog_11_method_6_code 8 = .ok (.iload_n 1, 1) := by decide +kernel
theorem d_T_mend_9 : decode prog_11_method_6_code 9 = .ok (.iload_n 2, 1) := by decide +kernel
theorem d_T_mend_10 : decode prog_11_method_6_code 10 = .ok (.iconst 2, 1) := by decide +kernel
theorem d_T_mend_11 : decode prog_11_method_6_code 11 = .ok (.ishr, 1) := by decide +kernel
theorem d_T_mend_12 : decode prog_11_method_6_code 12 = .ok (.bipush 16, 2) := by decide +kernel
theorem d_T_mend_14 : decode prog_11_method_6_code 14 = .ok (.imul, 1) := by decide +kernel
theorem d_T_mend_15 : decode prog_11_method_6_code 15 = .ok (.iadd, 1) := by decide +kernel
theorem d_T_mend_16 : decode prog_11_method_6_code 16 = .ok (.iload_n 2, 1) := by decide +kernel
theorem d_T_mend_17 : decode prog_11_method_6_code 17 = .ok (.iconst 3, 1) := by decide +kernel
theorem d_T_mend_18 : decode prog_11_method_6_code 18 = .ok (.iand, 1) := by decide +kernel
theorem d_T_mend_19 : decode prog_11_method_6_code 19 = .ok (.iadd, 1) := by decide +kernel
theorem d_T_mend_20 : decode prog_11_method_6_code 20 = .ok (.istore_n 3, 1) := by decide +kernel
theorem d_T_mend_21 : decode prog_11_method_6_code 21 = .ok (.aload_n 0, 1) := by decide +kernel
theorem d_T_mend_22 : decode prog_11_method_6_code 22 = .ok (.getfield 23, 3) := by decide +kernel
theorem d_T_mend_25 : decode prog_11_method_6_code 25 = .ok (.getfield 127, 3) := by decide +kernel
theorem d_T_mend_28 : decode prog_11_method_6_code 28 = .ok (.iload_n 3, 1) := by decide +kernel
theorem d_T_mend_29 : decode prog_11_method_6_code 29 = .ok (.aload_n 0, 1) := by decide +kernel
theorem d_T_mend_30 : decode prog_11_method_6_code 30 = .ok (.getfield 23, 3) := by decide +kernel
theorem d_T_mend_33 : decode prog_11_method_6_code 33 = .ok (.aload_n 0, 1) := by decide +kernel
theorem d_T_mend_34 : decode prog_11_method_6_code 34 = .ok (.getfield 41, 3) := by decide +kernel
theorem d_T_mend_37 : decode prog_11_method_6_code 37 = .ok (.getfield 130, 3) := by decide +kernel
theorem d_T_mend_40 : decode prog_11_method_6_code 40 = .ok (.iload_n 2, 1) := by decide +kernel
theorem d_T_mend_41 : decode prog_11_method_6_code 41 = .ok (.iaload, 1) := by decide +kernel
theorem d_T_mend_42 : decode prog_11_method_6_code 42 = .ok (.aload_n 0, 1) := by decide +kernel
theorem d_T_mend_43 : decode prog_11_method_6_code 43 = .ok (.getfield 32, 3) := by decide +kernel
theorem d_T_mend_46 : decode prog_11_method_6_code 46 = .ok (.getfield 133, 3) := by decide +kernel
theorem d_T_mend_49 : decode prog_11_method_6_code 49 = .ok (.iload_n 2, 1) := by decide +kernel
theorem d_T_mend_50 : decode prog_11_method_6_code 50 = .ok (.iaload, 1) := by decide +kernel
theorem d_T_mend_51 : decode prog_11_method_6_code 51 = .ok (.iadd, 1) := by decide +kernel
theorem d_T_mend_52 : decode prog_11_method_6_code 52 = .ok (.invokevirtual 134, 3) := by decide +kernel
theorem d_T_mend_55 : decode prog_11_method_6_code 55 = .ok (.iastore, 1) := by decide +kernel
theorem d_T_mend_56 : decode prog_11_method_6_code 56 = .ok (.iinc 2 1, 3) := by decide +kernel
theorem d_T_mend_59 : decode prog_11_method_6_code 59 = .ok (.goto (-57), 3) := by decide +kernel
theorem d_T_mend_62 : decode prog_11_method_6_code 62 = .ok (.return_, 1) := by decide +kernel
theorem d_P_tellOf_0 : decode prog_9_method_7_code 0 = .ok (.aload_n 0, 1) := by decide +kernel
theorem d_P_tellOf_1 : decode prog_9_method_7_code 1 = .ok (.getfield 16, 3) := by decide +kernel
theorem d_P_tellOf_4 : decode prog_9_method_7_code 4 = .ok (.iload_n 1, 1) := by decide +kernel
theorem d_P_tellOf_5 : decode prog_9_method_7_code 5 = .ok (.iconst 4, 1) := by decide +kernel
theorem d_P_tellOf_6 : decode prog_9_method_7_code 6 = .ok (.imul, 1) := by decide +kernel
theorem d_P_tellOf_7 : decode prog_9_method_7_code 7 = .ok (.iload_n 2, 1) := by decide +kernel
theorem d_P_tellOf_8 : decode prog_9_method_7_code 8 = .ok (.iadd, 1) := by decide +kernel
theorem d_P_tellOf_9 : decode prog_9_method_7_code 9 = .ok (.iaload, 1) := by decide +kernel
theorem d_P_tellOf_10 : decode prog_9_method_7_code 10 = .ok (.ireturn, 1) := by decide +kernel
theorem d_T_readUnits_0 : decode prog_11_method_5_code 0 = .ok (.aload_n 0, 1) := by decide +kernel
theorem d_T_readUnits_1 : decode prog_11_method_5_code 1 = .ok (.getfield 23, 3) := by decide +kernel
theorem d_T_readUnits_4 : decode prog_11_method_5_code 4 = .ok (.iload 4, 2) := by decide +kernel
theorem d_T_readUnits_6 : decode prog_11_method_5_code 6 = .ok (.iconst 0, 1) := by decide +kernel
theorem d_T_readUnits_7 : decode prog_11_method_5_code 7 = .ok (.invokevirtual 100, 3) := by decide +kernel
theorem d_T_readUnits_10 : decode prog_11_method_5_code 10 = .ok (.istore 5, 2) := by decide +kernel
theorem d_T_readUnits_12 : decode prog_11_method_5_code 12 = .ok (.aload_n 0, 1) := by decide +kernel
theorem d_T_readUnits_13 : decode prog_11_method_5_code 13 = .ok (.getfield 23, 3) := by decide +kernel
theorem d_T_readUnits_16 : decode prog_11_method_5_code 16 = .ok (.iload 4, 2) := by decide +kernel
theorem d_T_readUnits_18 : decode prog_11_method_5_code 18 = .ok (.iload_n 1, 1) := by decide +kernel
theorem d_T_readUnits_19 : decode prog_11_method_5_code 19 = .ok (.ifCond .ne 7, 3) := by decide +kernel
theorem d_T_readUnits_22 : decode prog_11_method_5_code 22 = .ok (.iconst 1, 1) := by decide +kernel
theorem d_T_readUnits_23 : decode prog_11_method_5_code 23 = .ok (.goto 4, 3) := by decide +kernel
theorem d_T_readUnits_26 : decode prog_11_method_5_code 26 = .ok (.iconst 2, 1) := by decide +kernel
theorem d_T_readUnits_27 : decode prog_11_method_5_code 27 = .ok (.invokevirtual 100, 3) := by decide +kernel
theorem d_T_readUnits_30 : decode prog_11_method_5_code 30 = .ok (.istore 6, 2) := by decide +kernel
theorem d_T_readUnits_32 : decode prog_11_method_5_code 32 = .ok (.aload_n 0, 1) := by decide +kernel
theorem d_T_readUnits_33 : decode prog_11_method_5_code 33 = .ok (.getfield 23, 3) := by decide +kernel
theorem d_T_readUnits_36 : decode prog_11_method_5_code 36 = .ok (.iload 4, 2) := by decide +kernel
theorem d_T_readUnits_38 : decode prog_11_method_5_code 38 = .ok (.iconst 3, 1) := by decide +kernel
theorem d_T_readUnits_39 : decode prog_11_method_5_code 39 = .ok (.invokevirtual 100, 3) := by decide +kernel
theorem d_T_readUnits_42 : decode prog_11_method_5_code 42 = .ok (.istore 7, 2) := by decide +kernel
theorem d_T_readUnits_44 : decode prog_11_method_5_code 44 = .ok (.iload_n 3, 1) := by decide +kernel
theorem d_T_readUnits_45 : decode prog_11_method_5_code 45 = .ok (.istore 8, 2) := by decide +kernel
theorem d_T_readUnits_47 : decode prog_11_method_5_code 47 = .ok (.iload 8, 2) := by decide +kernel
theorem d_T_readUnits_49 : decode prog_11_method_5_code 49 = .ok (.iload_n 3, 1) := by decide +kernel
theorem d_T_readUnits_50 : decode prog_11_method_5_code 50 = .ok (.iload 5, 2) := by decide +kernel
theorem d_T_readUnits_52 : decode prog_11_method_5_code 52 = .ok (.iadd, 1) := by decide +kernel
theorem d_T_readUnits_53 : decode prog_11_method_5_code 53 = .ok (.if_icmp .ge 105, 3) := by decide +kernel
theorem d_T_readUnits_56 : decode prog_11_method_5_code 56 = .ok (.iload 8, 2) := by decide +kernel
theorem d_T_readUnits_58 : decode prog_11_method_5_code 58 = .ok (.aload_n 0, 1) := by decide +kernel
theorem d_T_readUnits_59 : decode prog_11_method_5_code 59 = .ok (.getfield 15, 3) := by decide +kernel
theorem d_T_readUnits_62 : decode prog_11_method_5_code 62 = .ok (.getfield 75, 3) := by decide +kernel
theorem d_T_readUnits_65 : decode prog_11_method_5_code 65 = .ok (.if_icmp .ge 93, 3) := by decide +kernel
theorem d_T_readUnits_68 : decode prog_11_method_5_code 68 = .ok (.iload_n 2, 1) := by decide +kernel
theorem d_T_readUnits_69 : decode prog_11_method_5_code 69 = .ok (.istore 9, 2) := by decide +kernel
theorem d_T_readUnits_71 : decode prog_11_method_5_code 71 = .ok (.iload 9, 2) := by decide +kernel
theorem d_T_readUnits_73 : decode prog_11_method_5_code 73 = .ok (.iload_n 2, 1) := by decide +kernel
theorem d_T_readUnits_74 : decode prog_11_method_5_code 74 = .ok (.iload 5, 2) := by decide +kernel
theorem d_T_readUnits_76 : decode prog_11_method_5_code 76 = .ok (.iadd, 1) := by decide +kernel
theorem d_T_readUnits_77 : decode prog_11_method_5_code 77 = .ok (.if_icmp .ge 75, 3) := by decide +kernel
theorem d_T_readUnits_80 : decode prog_11_method_5_code 80 = .ok (.iload 9, 2) := by decide +kernel
theorem d_T_readUnits_82 : decode prog_11_method_5_code 82 = .ok (.aload_n 0, 1) := by decide +kernel
theorem d_T_readUnits_83 : decode prog_11_method_5_code 83 = .ok (.getfield 15, 3) := by decide +kernel
theorem d_T_readUnits_86 : decode prog_11_method_5_code 86 = .ok (.getfield 72, 3) := by decide +kernel
theorem d_T_readUnits_89 : decode prog_11_method_5_code 89 = .ok (.if_icmp .ge 63, 3) := by decide +kernel
theorem d_T_readUnits_92 : decode prog_11_method_5_code 92 = .ok (.aload_n 0, 1) := by decide +kernel
theorem d_T_readUnits_93 : decode prog_11_method_5_code 93 = .ok (.getfield 32, 3) := by decide +kernel
theorem d_T_readUnits_96 : decode prog_11_method_5_code 96 = .ok (.iload_n 1, 1) := by decide +kernel
theorem d_T_readUnits_97 : decode prog_11_method_5_code 97 = .ok (.aload_n 0, 1) := by decide +kernel
theorem d_T_readUnits_98 : decode prog_11_method_5_code 98 = .ok (.getfield 15, 3) := by decide +kernel
theorem d_T_readUnits_101 : decode prog_11_method_5_code 101 = .ok (.getfield 110, 3) := by decide +kernel
theorem d_T_readUnits_104 : decode prog_11_method_5_code 104 = .ok (.iload 7, 2) := by decide +kernel
theorem d_T_readUnits_106 : decode prog_11_method_5_code 106 = .ok (.invokevirtual 113, 3) := by decide +kernel
theorem d_T_readUnits_109 : decode prog_11_method_5_code 109 = .ok (.ifCond .ne 5, 3) := by decide +kernel
theorem d_T_readUnits_112 : decode prog_11_method_5_code 112 = .ok (.iconst 0, 1) := by decide +kernel
theorem d_T_readUnits_113 : decode prog_11_method_5_code 113 = .ok (.ireturn, 1) := by decide +kernel
theorem d_T_readUnits_114 : decode prog_11_method_5_code 114 = .ok (.aload_n 0, 1) := by decide +kernel
theorem d_T_readUnits_115 : decode prog_11_method_5_code 115 = .ok (.getfield 41, 3) := by decide +kernel
theorem d_T_readUnits_118 : decode prog_11_method_5_code 118 = .ok (.iload_n 1, 1) := by decide +kernel
theorem d_T_readUnits_119 : decode prog_11_method_5_code 119 = .ok (.iload 9, 2) := by decide +kernel
theorem d_T_readUnits_121 : decode prog_11_method_5_code 121 = .ok (.iload 8, 2) := by decide +kernel
theorem d_T_readUnits_123 : decode prog_11_method_5_code 123 = .ok (.iload 6, 2) := by decide +kernel
theorem d_T_readUnits_125 : decode prog_11_method_5_code 125 = .ok (.aload_n 0, 1) := by decide +kernel
theorem d_T_readUnits_126 : decode prog_11_method_5_code 126 = .ok (.getfield 9, 3) := by decide +kernel
theorem d_T_readUnits_129 : decode prog_11_method_5_code 129 = .ok (.iload_n 1, 1) := by decide +kernel
theorem d_T_readUnits_130 : decode prog_11_method_5_code 130 = .ok (.iaload, 1) := by decide +kernel
theorem d_T_readUnits_131 : decode prog_11_method_5_code 131 = .ok (.invokevirtual 117, 3) := by decide +kernel
theorem d_T_readUnits_134 : decode prog_11_method_5_code 134 = .ok (.aload_n 0, 1) := by decide +kernel
theorem d_T_readUnits_135 : decode prog_11_method_5_code 135 = .ok (.iload_n 1, 1) := by decide +kernel
theorem d_T_readUnits_136 : decode prog_11_method_5_code 136 = .ok (.iload 9, 2) := by decide +kernel
theorem d_T_readUnits_138 : decode prog_11_method_5_code 138 = .ok (.iload 8, 2) := by decide +kernel
theorem d_T_readUnits_140 : decode prog_11_method_5_code 140 = .ok (.invokestatic 121, 3) := by decide +kernel
theorem d_T_readUnits_143 : decode prog_11_method_5_code 143 = .ok (.invokevirtual 124, 3) := by decide +kernel
theorem d_T_readUnits_146 : decode prog_11_method_5_code 146 = .ok (.iinc 9 4, 3) := by decide +kernel
theorem d_T_readUnits_149 : decode prog_11_method_5_code 149 = .ok (.goto (-78), 3) := by decide +kernel
theorem d_T_readUnits_152 : decode prog_11_method_5_code 152 = .ok (.iinc 8 4, 3) := by decide +kernel
theorem d_T_readUnits_155 : decode prog_11_method_5_code 155 = .ok (.goto (-108), 3) := by decide +kernel
theorem d_T_readUnits_158 : decode prog_11_method_5_code 158 = .ok (.iconst 1, 1) := by decide +kernel
theorem d_T_readUnits_159 : decode prog_11_method_5_code 159 = .ok (.ireturn, 1) := by decide +kernel
theorem d_T_readSide_0 : decode prog_11_method_3_code 0 = .ok (.iload_n 1, 1) := by decide +kernel
theorem d_T_readSide_1 : decode prog_11_method_3_code 1 = .ok (.ifCond .ne 17, 3) := by decide +kernel
theorem d_T_readSide_4 : decode prog_11_method_3_code 4 = .ok (.aload_n 0, 1) := by decide +kernel
theorem d_T_readSide_5 : decode prog_11_method_3_code 5 = .ok (.getfield 19, 3) := by decide +kernel
theorem d_T_readSide_8 : decode prog_11_method_3_code 8 = .ok (.iconst 0, 1) := by decide +kernel
theorem d_T_readSide_9 : decode prog_11_method_3_code 9 = .ok (.invokevirtual 93, 3) := by decide +kernel
theorem d_T_readSide_12 : decode prog_11_method_3_code 12 = .ok (.ifCond .ne 6, 3) := by decide +kernel
theorem d_T_readSide_15 : decode prog_11_method_3_code 15 = .ok (.bipush 16, 2) := by decide +kernel
theorem d_T_readSide_17 : decode prog_11_method_3_code 17 = .ok (.ireturn, 1) := by decide +kernel
theorem d_T_readSide_18 : decode prog_11_method_3_code 18 = .ok (.iload_n 1, 1) := by decide +kernel
theorem d_T_readSide_19 : decode prog_11_method_3_code 19 = .ok (.iconst 3, 1) := by decide +kernel
theorem d_T_readSide_20 : decode prog_11_method_3_code 20 = .ok (.iand, 1) := by decide +kernel
theorem d_T_readSide_21 : decode prog_11_method_3_code 21 = .ok (.ifCond .ne 17, 3) := by decide +kernel
theorem d_T_readSide_24 : decode prog_11_method_3_code 24 = .ok (.aload_n 0, 1) := by decide +kernel
theorem d_T_readSide_25 : decode prog_11_method_3_code 25 = .ok (.getfield 19, 3) := by decide +kernel
theorem d_T_readSide_28 : decode prog_11_method_3_code 28 = .ok (.iconst 1, 1) := by decide +kernel
theorem d_T_readSide_29 : decode prog_11_method_3_code 29 = .ok (.invokevirtual 93, 3) := by decide +kernel
theorem d_T_readSide_32 : decode prog_11_method_3_code 32 = .ok (.ifCond .ne 6, 3) := by decide +kernel
theorem d_T_readSide_35 : decode prog_11_method_3_code 35 = .ok (.bipush 8, 2) := by decide +kernel
theorem d_T_readSide_37 : decode prog_11_method_3_code 37 = .ok (.ireturn, 1) := by decide +kernel
theorem d_T_readSide_38 : decode prog_11_method_3_code 38 = .ok (.iconst 4, 1) := by decide +kernel
theorem d_T_readSide_39 : decode prog_11_method_3_code 39 = .ok (.ireturn, 1) := by decide +kernel
theorem d_P_tell_0 : decode prog_9_method_9_code 0 = .ok (.aload_n 0, 1) := by decide +kernel
theorem d_P_tell_1 : decode prog_9_method_9_code 1 = .ok (.getfield 16, 3) := by decide +kernel
theorem d_P_tell_4 : decode prog_9_method_9_code 4 = .ok (.iload_n 1, 1) := by decide +kernel
theorem d_P_tell_5 : decode prog_9_method_9_code 5 = .ok (.iconst 4, 1) := by decide +kernel
theorem d_P_tell_6 : decode prog_9_method_9_code 6 = .ok (.imul, 1) := by decide +kernel
theorem d_P_tell_7 : decode prog_9_method_9_code 7 = .ok (.iload_n 2, 1) := by decide +kernel
theorem d_P_tell_8 : decode prog_9_method_9_code 8 = .ok (.iadd, 1) := by decide +kernel
theorem d_P_tell_9 : decode prog_9_method_9_code 9 = .ok (.iload_n 3, 1) := by decide +kernel
theorem d_P_tell_10 : decode prog_9_method_9_code 10 = .ok (.iastore, 1) := by decide +kernel
theorem d_P_tell_11 : decode prog_9_method_9_code 11 = .ok (.return_, 1) := by decide +kernel
theorem d_P_addBlock_0 : decode prog_9_method_8_code 0 = .ok (.aload_n 0, 1) := by decide +kernel
theorem d_P_addBlock_1 : decode prog_9_method_8_code 1 = .ok (.getfield 19, 3) := by decide +kernel
theorem d_P_addBlock_4 : decode prog_9_method_8_code 4 = .ok (.istore 4, 2) := by decide +kernel
theorem d_P_addBlock_6 : decode prog_9_method_8_code 6 = .ok (.iload_n 2, 1) := by decide +kernel
theorem d_P_addBlock_7 : decode prog_9_method_8_code 7 = .ok (.istore 5, 2) := by decide +kernel
theorem d_P_addBlock_9 : decode prog_9_method_8_code 9 = .ok (.iload 5, 2) := by decide +kernel
theorem d_P_addBlock_11 : decode prog_9_method_8_code 11 = .ok (.iload_n 2, 1) := by decide +kernel
theorem d_P_addBlock_12 : decode prog_9_method_8_code 12 = .ok (.iload_n 3, 1) := by decide +kernel
theorem d_P_addBlock_13 : decode prog_9_method_8_code 13 = .ok (.iadd, 1) := by decide +kernel
theorem d_P_addBlock_14 : decode prog_9_method_8_code 14 = .ok (.if_icmp .ge 40, 3) := by decide +kernel
theorem d_P_addBlock_17 : decode prog_9_method_8_code 17 = .ok (.iload_n 1, 1) := by decide +kernel
theorem d_P_addBlock_18 : decode prog_9_method_8_code 18 = .ok (.istore 6, 2) := by decide +kernel
theorem d_P_addBlock_20 : decode prog_9_method_8_code 20 = .ok (.iload 6, 2) := by decide +kernel
theorem d_P_addBlock_22 : decode prog_9_method_8_code 22 = .ok (.iload_n 1, 1) := by decide +kernel
theorem d_P_addBlock_23 : decode prog_9_method_8_code 23 = .ok (.iload_n 3, 1) := by decide +kernel
theorem d_P_addBlock_24 : decode prog_9_method_8_code 24 = .ok (.iadd, 1) := by decide +kernel
theorem d_P_addBlock_25 : decode prog_9_method_8_code 25 = .ok (.if_icmp .ge 23, 3) := by decide +kernel
theorem d_P_addBlock_28 : decode prog_9_method_8_code 28 = .ok (.aload_n 0, 1) := by decide +kernel
theorem d_P_addBlock_29 : decode prog_9_method_8_code 29 = .ok (.getfield 13, 3) := by decide +kernel
theorem d_P_addBlock_32 : decode prog_9_method_8_code 32 = .ok (.iload 5, 2) := by decide +kernel
theorem d_P_addBlock_34 : decode prog_9_method_8_code 34 = .ok (.iload 6, 2) := by decide +kernel
theorem d_P_addBlock_36 : decode prog_9_method_8_code 36 = .ok (.iconst 2, 1) := by decide +kernel
theorem d_P_addBlock_37 : decode prog_9_method_8_code 37 = .ok (.ishr, 1) := by decide +kernel
theorem d_P_addBlock_38 : decode prog_9_method_8_code 38 = .ok (.iadd, 1) := by decide +kernel
theorem d_P_addBlock_39 : decode prog_9_method_8_code 39 = .ok (.iload 4, 2) := by decide +kernel
theorem d_P_addBlock_41 : decode prog_9_method_8_code 41 = .ok (.iastore, 1) := by decide +kernel
theorem d_P_addBlock_42 : decode prog_9_method_8_code 42 = .ok (.iinc 6 4, 3) := by decide +kernel
theorem d_P_addBlock_45 : decode prog_9_method_8_code 45 = .ok (.goto (-25), 3) := by decide +kernel
theorem d_P_addBlock_48 : decode prog_9_method_8_code 48 = .ok (.iinc 5 4, 3) := by decide +kernel
theorem d_P_addBlock_51 : decode prog_9_method_8_code 51 = .ok (.goto (-42), 3) := by decide +kernel
theorem d_P_addBlock_54 : decode prog_9_method_8_code 54 = .ok (.aload_n 0, 1) := by decide +kernel
theorem d_P_addBlock_55 : decode prog_9_method_8_code 55 = .ok (.dup, 1) := by decide +kernel
theorem d_P_addBlock_56 : decode prog_9_method_8_code 56 = .ok (.getfield 19, 3) := by decide +kernel
theorem d_P_addBlock_59 : decode prog_9_method_8_code 59 = .ok (.iconst 1, 1) := by decide +kernel
theorem d_P_addBlock_60 : decode prog_9_method_8_code 60 = .ok (.iadd, 1) := by decide +kernel
theorem d_P_addBlock_61 : decode prog_9_method_8_code 61 = .ok (.putfield 19, 3) := by decide +kernel
theorem d_P_addBlock_64 : decode prog_9_method_8_code 64 = .ok (.iload 4, 2) := by decide +kernel
theorem d_P_addBlock_66 : decode prog_9_method_8_code 66 = .ok (.ireturn, 1) := by decide +kernel
theorem d_T_readBlock_0 : decode prog_11_method_4_code 0 = .ok (.iload_n 2, 1) := by decide +kernel
theorem d_T_readBlock_1 : decode prog_11_method_4_code 1 = .ok (.ifCond .le 29, 3) := by decide +kernel
theorem d_T_readBlock_4 : decode prog_11_method_4_code 4 = .ok (.aload_n 0, 1) := by decide +kernel
theorem d_T_readBlock_5 : decode prog_11_method_4_code 5 = .ok (.getfield 23, 3) := by decide +kernel
theorem d_T_readBlock_8 : decode prog_11_method_4_code 8 = .ok (.aload_n 0, 1) := by decide +kernel
theorem d_T_readBlock_9 : decode prog_11_method_4_code 9 = .ok (.getfield 23, 3) := by decide +kernel
theorem d_T_readBlock_12 : decode prog_11_method_4_code 12 = .ok (.iload_n 1, 1) := by decide +kernel
theorem d_T_readBlock_13 : decode prog_11_method_4_code 13 = .ok (.iload_n 2, 1) := by decide +kernel
theorem d_T_readBlock_14 : decode prog_11_method_4_code 14 = .ok (.iconst 1, 1) := by decide +kernel
theorem d_T_readBlock_15 : decode prog_11_method_4_code 15 = .ok (.isub, 1) := by decide +kernel
theorem d_T_readBlock_16 : decode prog_11_method_4_code 16 = .ok (.invokevirtual 96, 3) := by decide +kernel
theorem d_T_readBlock_19 : decode prog_11_method_4_code 19 = .ok (.iconst 1, 1) := by decide +kernel
theorem d_T_readBlock_20 : decode prog_11_method_4_code 20 = .ok (.invokevirtual 100, 3) := by decide +kernel
theorem d_T_readBlock_23 : decode prog_11_method_4_code 23 = .ok (.ifCond .eq 7, 3) := by decide +kernel
theorem d_T_readBlock_26 : decode prog_11_method_4_code 26 = .ok (.iconst 1, 1) := by decide +kernel
theorem d_T_readBlock_27 : decode prog_11_method_4_code 27 = .ok (.goto 4, 3) := by decide +kernel
theorem d_T_readBlock_30 : decode prog_11_method_4_code 30 = .ok (.iconst 0, 1) := by decide +kernel
theorem d_T_readBlock_31 : decode prog_11_method_4_code 31 = .ok (.istore 4, 2) := by decide +kernel
theorem d_T_readBlock_33 : decode prog_11_method_4_code 33 = .ok (.iload_n 1, 1) := by decide +kernel
theorem d_T_readBlock_34 : decode prog_11_method_4_code 34 = .ok (.ifCond .le 29, 3) := by decide +kernel
theorem d_T_readBlock_37 : decode prog_11_method_4_code 37 = .ok (.aload_n 0, 1) := by decide +kernel
theorem d_T_readBlock_38 : decode prog_11_method_4_code 38 = .ok (.getfield 23, 3) := by decide +kernel
theorem d_T_readBlock_41 : decode prog_11_method_4_code 41 = .ok (.aload_n 0, 1) := by decide +kernel
theorem d_T_readBlock_42 : decode prog_11_method_4_code 42 = .ok (.getfield 23, 3) := by decide +kernel
theorem d_T_readBlock_45 : decode prog_11_method_4_code 45 = .ok (.iload_n 1, 1) := by decide +kernel
theorem d_T_readBlock_46 : decode prog_11_method_4_code 46 = .ok (.iconst 1, 1) := by decide +kernel
theorem d_T_readBlock_47 : decode prog_11_method_4_code 47 = .ok (.isub, 1) := by decide +kernel
theorem d_T_readBlock_48 : decode prog_11_method_4_code 48 = .ok (.iload_n 2, 1) := by decide +kernel
theorem d_T_readBlock_49 : decode prog_11_method_4_code 49 = .ok (.invokevirtual 96, 3) := by decide +kernel
theorem d_T_readBlock_52 : decode prog_11_method_4_code 52 = .ok (.iconst 1, 1) := by decide +kernel
theorem d_T_readBlock_53 : decode prog_11_method_4_code 53 = .ok (.invokevirtual 100, 3) := by decide +kernel
theorem d_T_readBlock_56 : decode prog_11_method_4_code 56 = .ok (.ifCond .eq 7, 3) := by decide +kernel
theorem d_T_readBlock_59 : decode prog_11_method_4_code 59 = .ok (.iconst 1, 1) := by decide +kernel
theorem d_T_readBlock_60 : decode prog_11_method_4_code 60 = .ok (.goto 4, 3) := by decide +kernel
theorem d_T_readBlock_63 : decode prog_11_method_4_code 63 = .ok (.iconst 0, 1) := by decide +kernel
theorem d_T_readBlock_64 : decode prog_11_method_4_code 64 = .ok (.istore 5, 2) := by decide +kernel
theorem d_T_readBlock_66 : decode prog_11_method_4_code 66 = .ok (.aload_n 0, 1) := by decide +kernel
theorem d_T_readBlock_67 : decode prog_11_method_4_code 67 = .ok (.getfield 23, 3) := by decide +kernel
theorem d_T_readBlock_70 : decode prog_11_method_4_code 70 = .ok (.iload_n 1, 1) := by decide +kernel
theorem d_T_readBlock_71 : decode prog_11_method_4_code 71 = .ok (.iload_n 2, 1) := by decide +kernel
theorem d_T_readBlock_72 : decode prog_11_method_4_code 72 = .ok (.iload_n 3, 1) := by decide +kernel
theorem d_T_readBlock_73 : decode prog_11_method_4_code 73 = .ok (.invokevirtual 103, 3) := by decide +kernel
theorem d_T_readBlock_76 : decode prog_11_method_4_code 76 = .ok (.istore 6, 2) := by decide +kernel
theorem d_T_readBlock_78 : decode prog_11_method_4_code 78 = .ok (.aload_n 0, 1) := by decide +kernel
theorem d_T_readBlock_79 : decode prog_11_method_4_code 79 = .ok (.getfield 23, 3) := by decide +kernel
theorem d_T_readBlock_82 : decode prog_11_method_4_code 82 = .ok (.iload 6, 2) := by decide +kernel
theorem d_T_readBlock_84 : decode prog_11_method_4_code 84 = .ok (.iconst 0, 1) := by decide +kernel
theorem d_T_readBlock_85 : decode prog_11_method_4_code 85 = .ok (.iload_n 3, 1) := by decide +kernel
theorem d_T_readBlock_86 : decode prog_11_method_4_code 86 = .ok (.invokevirtual 106, 3) := by decide +kernel
theorem d_T_readBlock_89 : decode prog_11_method_4_code 89 = .ok (.aload_n 0, 1) := by decide +kernel
theorem d_T_readBlock_90 : decode prog_11_method_4_code 90 = .ok (.getfield 23, 3) := by decide +kernel
theorem d_T_readBlock_93 : decode prog_11_method_4_code 93 = .ok (.iload 6, 2) := by decide +kernel
theorem d_T_readBlock_95 : decode prog_11_method_4_code 95 = .ok (.iconst 1, 1) := by decide +kernel
theorem d_T_readBlock_96 : decode prog_11_method_4_code 96 = .ok (.aload_n 0, 1) := by decide +kernel
theorem d_T_readBlock_97 : decode prog_11_method_4_code 97 = .ok (.getfield 19, 3) := by decide +kernel
theorem d_T_readBlock_100 : decode prog_11_method_4_code 100 = .ok (.iconst 2, 1) := by decide +kernel
theorem d_T_readBlock_101 : decode prog_11_method_4_code 101 = .ok (.iload 4, 2) := by decide +kernel
theorem d_T_readBlock_103 : decode prog_11_method_4_code 103 = .ok (.iadd, 1) := by decide +kernel
theorem d_T_readBlock_104 : decode prog_11_method_4_code 104 = .ok (.iconst 2, 1) := by decide +kernel
theorem d_T_readBlock_105 : decode prog_11_method_4_code 105 = .ok (.iload 5, 2) := by decide +kernel
theorem d_T_readBlock_107 : decode prog_11_method_4_code 107 = .ok (.imul, 1) := by decide +kernel
theorem d_T_readBlock_108 : decode prog_11_method_4_code 108 = .ok (.iadd, 1) := by decide +kernel
theorem d_T_readBlock_109 : decode prog_11_method_4_code 109 = .ok (.invokevirtual 93, 3) := by decide +kernel
theorem d_T_readBlock_112 : decode prog_11_method_4_code 112 = .ok (.invokevirtual 106, 3) := by decide +kernel
theorem d_T_readBlock_115 : decode prog_11_method_4_code 115 = .ok (.aload_n 0, 1) := by decide +kernel
theorem d_T_readBlock_116 : decode prog_11_method_4_code 116 = .ok (.getfield 15, 3) := by decide +kernel
theorem d_T_readBlock_119 : decode prog_11_method_4_code 119 = .ok (.getfield 86, 3) := by decide +kernel
theorem d_T_readBlock_122 : decode prog_11_method_4_code 122 = .ok (.iconst 3, 1) := by decide +kernel
theorem d_T_readBlock_123 : decode prog_11_method_4_code 123 = .ok (.if_icmp .ne 15, 3) := by decide +kernel
theorem d_T_readBlock_126 : decode prog_11_method_4_code 126 = .ok (.aload_n 0, 1) := by decide +kernel
theorem d_T_readBlock_127 : decode prog_11_method_4_code 127 = .ok (.getfield 19, 3) := by decide +kernel
theorem d_T_readBlock_130 : decode prog_11_method_4_code 130 = .ok (.bipush 6, 2) := by decide +kernel
theorem d_T_readBlock_132 : decode prog_11_method_4_code 132 = .ok (.invokevirtual 93, 3) := by decide +kernel
theorem d_T_readBlock_135 : decode prog_11_method_4_code 135 = .ok (.goto 4, 3) := by decide +kernel
theorem d_T_readBlock_138 : decode prog_11_method_4_code 138 = .ok (.iconst 0, 1) := by decide +kernel
theorem d_T_readBlock_139 : decode prog_11_method_4_code 139 = .ok (.istore 7, 2) := by decide +kernel
theorem d_T_readBlock_141 : decode prog_11_method_4_code 141 = .ok (.aload_n 0, 1) := by decide +kernel
theorem d_T_readBlock_142 : decode prog_11_method_4_code 142 = .ok (.getfield 23, 3) := by decide +kernel
theorem d_T_readBlock_145 : decode prog_11_method_4_code 145 = .ok (.iload 6, 2) := by decide +kernel
theorem d_T_readBlock_147 : decode prog_11_method_4_code 147 = .ok (.iconst 2, 1) := by decide +kernel
theorem d_T_readBlock_148 : decode prog_11_method_4_code 148 = .ok (.iload 7, 2) := by decide +kernel
theorem d_T_readBlock_150 : decode prog_11_method_4_code 150 = .ok (.invokevirtual 106, 3) := by decide +kernel
theorem d_T_readBlock_153 : decode prog_11_method_4_code 153 = .ok (.iconst 1, 1) := by decide +kernel
theorem d_T_readBlock_154 : decode prog_11_method_4_code 154 = .ok (.istore 8, 2) := by decide +kernel
theorem d_T_readBlock_156 : decode prog_11_method_4_code 156 = .ok (.iload 8, 2) := by decide +kernel
theorem d_T_readBlock_158 : decode prog_11_method_4_code 158 = .ok (.iconst 3, 1) := by decide +kernel
theorem d_T_readBlock_159 : decode prog_11_method_4_code 159 = .ok (.if_icmp .ge 38, 3) := by decide +kernel
theorem d_T_readBlock_162 : decode prog_11_method_4_code 162 = .ok (.aload_n 0, 1) := by decide +kernel
theorem d_T_readBlock_163 : decode prog_11_method_4_code 163 = .ok (.getfield 9, 3) := by decide +kernel
theorem d_T_readBlock_166 : decode prog_11_method_4_code 166 = .ok (.iload 8, 2) := by decide +kernel
theorem d_T_readBlock_168 : decode prog_11_method_4_code 168 = .ok (.iload 7, 2) := by decide +kernel
theorem d_T_readBlock_170 : decode prog_11_method_4_code 170 = .ok (.bipush 6, 2) := by decide +kernel
theorem d_T_readBlock_172 : decode prog_11_method_4_code 172 = .ok (.if_icmp .ne 17, 3) := by decide +kernel
theorem d_T_readBlock_175 : decode prog_11_method_4_code 175 = .ok (.aload_n 0, 1) := by decide +kernel
theorem d_T_readBlock_176 : decode prog_11_method_4_code 176 = .ok (.getfield 19, 3) := by decide +kernel
theorem d_T_readBlock_179 : decode prog_11_method_4_code 179 = .ok (.bipush 7, 2) := by decide +kernel
theorem d_T_readBlock_181 : decode prog_11_method_4_code 181 = .ok (.invokevirtual 93, 3) := by decide +kernel
theorem d_T_readBlock_184 : decode prog_11_method_4_code 184 = .ok (.iconst 3, 1) := by decide +kernel
theorem d_T_readBlock_185 : decode prog_11_method_4_code 185 = .ok (.isub, 1) := by decide +kernel
theorem d_T_readBlock_186 : decode prog_11_method_4_code 186 = .ok (.goto 4, 3) := by decide +kernel
theorem d_T_readBlock_189 : decode prog_11_method_4_code 189 = .ok (.iconst 0, 1) := by decide +kernel
theorem d_T_readBlock_190 : decode prog_11_method_4_code 190 = .ok (.iastore, 1) := by decide +kernel
theorem d_T_readBlock_191 : decode prog_11_method_4_code 191 = .ok (.iinc 8 1, 3) := by decide +kernel
theorem d_T_readBlock_194 : decode prog_11_method_4_code 194 = .ok (.goto (-38), 3) := by decide +kernel
theorem d_T_readBlock_197 : decode prog_11_method_4_code 197 = .ok (.aload_n 0, 1) := by decide +kernel
theorem d_T_readBlock_198 : decode prog_11_method_4_code 198 = .ok (.getfield 23, 3) := by decide +kernel
theorem d_T_readBlock_201 : decode prog_11_method_4_code 201 = .ok (.iload 6, 2) := by decide +kernel
theorem d_T_readBlock_203 : decode prog_11_method_4_code 203 = .ok (.iconst 3, 1) := by decide +kernel
theorem d_T_readBlock_204 : decode prog_11_method_4_code 204 = .ok (.aload_n 0, 1) := by decide +kernel
theorem d_T_readBlock_205 : decode prog_11_method_4_code 205 = .ok (.getfield 15, 3) := by decide +kernel
theorem d_T_readBlock_208 : decode prog_11_method_4_code 208 = .ok (.getfield 110, 3) := by decide +kernel
theorem d_T_readBlock_211 : decode prog_11_method_4_code 211 = .ok (.ifCond .eq 15, 3) := by decide +kernel
theorem d_T_readBlock_214 : decode prog_11_method_4_code 214 = .ok (.aload_n 0, 1) := by decide +kernel
theorem d_T_readBlock_215 : decode prog_11_method_4_code 215 = .ok (.getfield 19, 3) := by decide +kernel
theorem d_T_readBlock_218 : decode prog_11_method_4_code 218 = .ok (.bipush 10, 2) := by decide +kernel
theorem d_T_readBlock_220 : decode prog_11_method_4_code 220 = .ok (.invokevirtual 93, 3) := by decide +kernel
theorem d_T_readBlock_223 : decode prog_11_method_4_code 223 = .ok (.goto 4, 3) := by decide +kernel
theorem d_T_readBlock_226 : decode prog_11_method_4_code 226 = .ok (.iconst 0, 1) := by decide +kernel
theorem d_T_readBlock_227 : decode prog_11_method_4_code 227 = .ok (.invokevirtual 106, 3) := by decide +kernel
theorem d_T_readBlock_230 : decode prog_11_method_4_code 230 = .ok (.iload 6, 2) := by decide +kernel
theorem d_T_readBlock_232 : decode prog_11_method_4_code 232 = .ok (.ireturn, 1) := by decide +kernel
theorem d_C_start_0 : decode prog_3_method_2_code 0 = .ok (.aload_n 0, 1) := by decide +kernel
theorem d_C_start_1 : decode prog_3_method_2_code 1 = .ok (.iload_n 1, 1) := by decide +kernel
theorem d_C_start_2 : decode prog_3_method_2_code 2 = .ok (.iconst 0, 1) := by decide +kernel
theorem d_C_start_3 : decode prog_3_method_2_code 3 = .ok (.invokestatic 19, 3) := by decide +kernel
theorem d_C_start_6 : decode prog_3_method_2_code 6 = .ok (.putfield 25, 3) := by decide +kernel
theorem d_C_start_9 : decode prog_3_method_2_code 9 = .ok (.aload_n 0, 1) := by decide +kernel
theorem d_C_start_10 : decode prog_3_method_2_code 10 = .ok (.iload_n 2, 1) := by decide +kernel
theorem d_C_start_11 : decode prog_3_method_2_code 11 = .ok (.aload_n 0, 1) := by decide +kernel
theorem d_C_start_12 : decode prog_3_method_2_code 12 = .ok (.getfield 16, 3) := by decide +kernel
theorem d_C_start_15 : decode prog_3_method_2_code 15 = .ok (.arraylength, 1) := by decide +kernel
theorem d_C_start_16 : decode prog_3_method_2_code 16 = .ok (.invokestatic 29, 3) := by decide +kernel
theorem d_C_start_19 : decode prog_3_method_2_code 19 = .ok (.putfield 32, 3) := by decide +kernel
theorem d_C_start_22 : decode prog_3_method_2_code 22 = .ok (.aload_n 0, 1) := by decide +kernel
theorem d_C_start_23 : decode prog_3_method_2_code 23 = .ok (.iload_n 3, 1) := by decide +kernel
theorem d_C_start_24 : decode prog_3_method_2_code 24 = .ok (.putfield 35, 3) := by decide +kernel
theorem d_C_start_27 : decode prog_3_method_2_code 27 = .ok (.aload_n 0, 1) := by decide +kernel
theorem d_C_start_28 : decode prog_3_method_2_code 28 = .ok (.iconst 0, 1) := by decide +kernel
theorem d_C_start_29 : decode prog_3_method_2_code 29 = .ok (.putfield 39, 3) := by decide +kernel
theorem d_C_start_32 : decode prog_3_method_2_code 32 = .ok (.aload_n 0, 1) := by decide +kernel
theorem d_C_start_33 : decode prog_3_method_2_code 33 = .ok (.getfield 13, 3) := by decide +kernel
theorem d_C_start_36 : decode prog_3_method_2_code 36 = .ok (.iconst 0, 1) := by decide +kernel
theorem d_C_start_37 : decode prog_3_method_2_code 37 = .ok (.invokestatic 42, 3) := by decide +kernel
theorem d_C_start_40 : decode prog_3_method_2_code 40 = .ok (.iconst 0, 1) := by decide +kernel
theorem d_C_start_41 : decode prog_3_method_2_code 41 = .ok (.istore 4, 2) := by decide +kernel
theorem d_C_start_43 : decode prog_3_method_2_code 43 = .ok (.iload 4, 2) := by decide +kernel
theorem d_C_start_45 : decode prog_3_method_2_code 45 = .ok (.bipush 19, 2) := by decide +kernel
theorem d_C_start_47 : decode prog_3_method_2_code 47 = .ok (.if_icmp .ge 56, 3) := by decide +kernel
theorem d_C_start_50 : decode prog_3_method_2_code 50 = .ok (.iconst 0, 1) := by decide +kernel
theorem d_C_start_51 : decode prog_3_method_2_code 51 = .ok (.istore 5, 2) := by decide +kernel
theorem d_C_start_53 : decode prog_3_method_2_code 53 = .ok (.iload 5, 2) := by decide +kernel
theorem d_C_start_55 : decode prog_3_method_2_code 55 = .ok (.getstatic 48, 3) := by decide +kernel
theorem d_C_start_58 : decode prog_3_method_2_code 58 = .ok (.iload 4, 2) := by decide +kernel
theorem d_C_start_60 : decode prog_3_method_2_code 60 = .ok (.iaload, 1) := by decide +kernel
theorem d_C_start_61 : decode prog_3_method_2_code 61 = .ok (.if_icmp .ge 36, 3) := by decide +kernel
theorem d_C_start_64 : decode prog_3_method_2_code 64 = .ok (.aload_n 0, 1) := by decide +kernel
theorem d_C_start_65 : decode prog_3_method_2_code 65 = .ok (.getfield 9, 3) := by decide +kernel
theorem d_C_start_68 : decode prog_3_method_2_code 68 = .ok (.iload 4, 2) := by decide +kernel
theorem d_C_start_70 : decode prog_3_method_2_code 70 = .ok (.bipush 16, 2) := by decide +kernel
theorem d_C_start_72 : decode prog_3_method_2_code 72 = .ok (.imul, 1) := by decide +kernel
theorem d_C_start_73 : decode prog_3_method_2_code 73 = .ok (.iload 5, 2) := by decide +kernel
theorem d_C_start_75 : decode prog_3_method_2_code 75 = .ok (.iadd, 1) := by decide +kernel
theorem d_C_start_76 : decode prog_3_method_2_code 76 = .ok (.ldc 51, 2) := by decide +kernel
theorem d_C_start_78 : decode prog_3_method_2_code 78 = .ok (.iload 5, 2) := by decide +kernel
theorem d_C_start_80 : decode prog_3_method_2_code 80 = .ok (.iconst 1, 1) := by decide +kernel
theorem d_C_start_81 : decode prog_3_method_2_code 81 = .ok (.iadd, 1) := by decide +kernel
theorem d_C_start_82 : decode prog_3_method_2_code 82 = .ok (.imul, 1) := by decide +kernel
theorem d_C_start_83 : decode prog_3_method_2_code 83 = .ok (.getstatic 48, 3) := by decide +kernel
theorem d_C_start_86 : decode prog_3_method_2_code 86 = .ok (.iload 4, 2) := by decide +kernel
theorem d_C_start_88 : decode prog_3_method_2_code 88 = .ok (.iaload, 1) := by decide +kernel
theorem d_C_start_89 : decode prog_3_method_2_code 89 = .ok (.idiv, 1) := by decide +kernel
theorem d_C_start_90 : decode prog_3_method_2_code 90 = .ok (.iastore, 1) := by decide +kernel
theorem d_C_start_91 : decode prog_3_method_2_code 91 = .ok (.iinc 5 1, 3) := by decide +kernel
theorem d_C_start_94 : decode prog_3_method_2_code 94 = .ok (.goto (-41), 3) := by decide +kernel
theorem d_C_start_97 : decode prog_3_method_2_code 97 = .ok (.iinc 4 1, 3) := by decide +kernel
theorem d_C_start_100 : decode prog_3_method_2_code 100 = .ok (.goto (-57), 3) := by decide +kernel
theorem d_C_start_103 : decode prog_3_method_2_code 103 = .ok (.aload_n 0, 1) := by decide +kernel
theorem d_C_start_104 : decode prog_3_method_2_code 104 = .ok (.ldc 51, 2) := by decide +kernel
theorem d_C_start_106 : decode prog_3_method_2_code 106 = .ok (.putfield 52, 3) := by decide +kernel
theorem d_C_start_109 : decode prog_3_method_2_code 109 = .ok (.aload_n 0, 1) := by decide +kernel
theorem d_C_start_110 : decode prog_3_method_2_code 110 = .ok (.iconst 0, 1) := by decide +kernel
theorem d_C_start_111 : decode prog_3_method_2_code 111 = .ok (.putfield 55, 3) := by decide +kernel
theorem d_C_start_114 : decode prog_3_method_2_code 114 = .ok (.aload_n 0, 1) := by decide +kernel
theorem d_C_start_115 : decode prog_3_method_2_code 115 = .ok (.iconst 0, 1) := by decide +kernel
theorem d_C_start_116 : decode prog_3_method_2_code 116 = .ok (.putfield 58, 3) := by decide +kernel
theorem d_C_start_119 : decode prog_3_method_2_code 119 = .ok (.iconst 0, 1) := by decide +kernel
theorem d_C_start_120 : decode prog_3_method_2_code 120 = .ok (.istore 4, 2) := by decide +kernel
theorem d_C_start_122 : decode prog_3_method_2_code 122 = .ok (.iload 4, 2) := by decide +kernel
theorem d_C_start_124 : decode prog_3_method_2_code 124 = .ok (.bipush 15, 2) := by decide +kernel
theorem d_C_start_126 : decode prog_3_method_2_code 126 = .ok (.if_icmp .ge 13, 3) := by decide +kernel
theorem d_C_start_129 : decode prog_3_method_2_code 129 = .ok (.aload_n 0, 1) := by decide +kernel
theorem d_C_start_130 : decode prog_3_method_2_code 130 = .ok (.invokevirtual 61, 3) := by decide +kernel
theorem d_C_start_133 : decode prog_3_method_2_code 133 = .ok (.iinc 4 1, 3) := by decide +kernel
theorem d_C_start_136 : decode prog_3_method_2_code 136 = .ok (.goto (-14), 3) := by decide +kernel
theorem d_C_start_139 : decode prog_3_method_2_code 139 = .ok (.return_, 1) := by decide +kernel
theorem d_P_start_0 : decode prog_9_method_3_code 0 = .ok (.aload_n 0, 1) := by decide +kernel
theorem d_P_start_1 : decode prog_9_method_3_code 1 = .ok (.iconst 0, 1) := by decide +kernel
theorem d_P_start_2 : decode prog_9_method_3_code 2 = .ok (.putfield 19, 3) := by decide +kernel
theorem d_P_start_5 : decode prog_9_method_3_code 5 = .ok (.aload_n 0, 1) := by decide +kernel
theorem d_P_start_6 : decode prog_9_method_3_code 6 = .ok (.iconst 1, 1) := by decide +kernel
theorem d_P_start_7 : decode prog_9_method_3_code 7 = .ok (.iload_n 1, 1) := by decide +kernel
theorem d_P_start_8 : decode prog_9_method_3_code 8 = .ok (.ishl, 1) := by decide +kernel
theorem d_P_start_9 : decode prog_9_method_3_code 9 = .ok (.iconst 1, 1) := by decide +kernel
theorem d_P_start_10 : decode prog_9_method_3_code 10 = .ok (.isub, 1) := by decide +kernel
theorem d_P_start_11 : decode prog_9_method_3_code 11 = .ok (.putfield 23, 3) := by decide +kernel
theorem d_P_start_14 : decode prog_9_method_3_code 14 = .ok (.return_, 1) := by decide +kernel
theorem d_T_read_0 : decode prog_11_method_2_code 0 = .ok (.aload_n 0, 1) := by decide +kernel
theorem d_T_read_1 : decode prog_11_method_2_code 1 = .ok (.getfield 19, 3) := by decide +kernel
theorem d_T_read_4 : decode prog_11_method_2_code 4 = .ok (.aload_n 0, 1) := by decide +kernel
theorem d_T_read_5 : decode prog_11_method_2_code 5 = .ok (.getfield 15, 3) := by decide +kernel
theorem d_T_read_8 : decode prog_11_method_2_code 8 = .ok (.getfield 45, 3) := by decide +kernel
theorem d_T_read_11 : decode prog_11_method_2_code 11 = .ok (.aload_n 0, 1) := by decide +kernel
theorem d_T_read_12 : decode prog_11_method_2_code 12 = .ok (.getfield 15, 3) := by decide +kernel
theorem d_T_read_15 : decode prog_11_method_2_code 15 = .ok (.getfield 51, 3) := by decide +kernel
theorem d_T_read_18 : decode prog_11_method_2_code 18 = .ok (.aload_n 0, 1) := by decide +kernel
theorem d_T_read_19 : decode prog_11_method_2_code 19 = .ok (.getfield 15, 3) := by decide +kernel
theorem d_T_read_22 : decode prog_11_method_2_code 22 = .ok (.getfield 54, 3) := by decide +kernel
theorem d_T_read_25 : decode prog_11_method_2_code 25 = .ok (.invokevirtual 58, 3) := by decide +kernel
theorem d_T_read_28 : decode prog_11_method_2_code 28 = .ok (.aload_n 0, 1) := by decide +kernel
theorem d_T_read_29 : decode prog_11_method_2_code 29 = .ok (.getfield 23, 3) := by decide +kernel
theorem d_T_read_32 : decode prog_11_method_2_code 32 = .ok (.aload_n 0, 1) := by decide +kernel
theorem d_T_read_33 : decode prog_11_method_2_code 33 = .ok (.getfield 15, 3) := by decide +kernel
theorem d_T_read_36 : decode prog_11_method_2_code 36 = .ok (.getfield 64, 3) := by decide +kernel
theorem d_T_read_39 : decode prog_11_method_2_code 39 = .ok (.invokevirtual 67, 3) := by decide +kernel
theorem d_T_read_42 : decode prog_11_method_2_code 42 = .ok (.iconst 0, 1) := by decide +kernel
theorem d_T_read_43 : decode prog_11_method_2_code 43 = .ok (.istore_n 1, 1) := by decide +kernel
theorem d_T_read_44 : decode prog_11_method_2_code 44 = .ok (.iconst 0, 1) := by decide +kernel
theorem d_T_read_45 : decode prog_11_method_2_code 45 = .ok (.istore_n 2, 1) := by decide +kernel
theorem d_T_read_46 : decode prog_11_method_2_code 46 = .ok (.iload_n 2, 1) := by decide +kernel
theorem d_T_read_47 : decode prog_11_method_2_code 47 = .ok (.bipush 16, 2) := by decide +kernel
theorem d_T_read_49 : decode prog_11_method_2_code 49 = .ok (.if_icmp .ge 128, 3) := by decide +kernel
theorem d_T_read_52 : decode prog_11_method_2_code 52 = .ok (.iconst 4, 1) := by decide +kernel
theorem d_T_read_53 : decode prog_11_method_2_code 53 = .ok (.iload_n 2, 1) := by decide +kernel
theorem d_T_read_54 : decode prog_11_method_2_code 54 = .ok (.iconst 1, 1) := by decide +kernel
theorem d_T_read_55 : decode prog_11_method_2_code 55 = .ok (.iand, 1) := by decide +kernel
theorem d_T_read_56 : decode prog_11_method_2_code 56 = .ok (.imul, 1) := by decide +kernel
theorem d_T_read_57 : decode prog_11_method_2_code 57 = .ok (.iconst 2, 1) := by decide +kernel
theorem d_T_read_58 : decode prog_11_method_2_code 58 = .ok (.iload_n 2, 1) := by decide +kernel
theorem d_T_read_59 : decode prog_11_method_2_code 59 = .ok (.iconst 4, 1) := by decide +kernel
theorem d_T_read_60 : decode prog_11_method_2_code 60 = .ok (.iand, 1) := by decide +kernel
theorem d_T_read_61 : decode prog_11_method_2_code 61 = .ok (.imul, 1) := by decide +kernel
theorem d_T_read_62 : decode prog_11_method_2_code 62 = .ok (.iadd, 1) := by decide +kernel
theorem d_T_read_63 : decode prog_11_method_2_code 63 = .ok (.istore_n 3, 1) := by decide +kernel
theorem d_T_read_64 : decode prog_11_method_2_code 64 = .ok (.iconst 2, 1) := by decide +kernel
theorem d_T_read_65 : decode prog_11_method_2_code 65 = .ok (.iload_n 2, 1) := by decide +kernel
theorem d_T_read_66 : decode prog_11_method_2_code 66 = .ok (.iconst 2, 1) := by decide +kernel
theorem d_T_read_67 : decode prog_11_method_2_code 67 = .ok (.iand, 1) := by decide +kernel
theorem d_T_read_68 : decode prog_11_method_2_code 68 = .ok (.imul, 1) := by decide +kernel
theorem d_T_read_69 : decode prog_11_method_2_code 69 = .ok (.iload_n 2, 1) := by decide +kernel
theorem d_T_read_70 : decode prog_11_method_2_code 70 = .ok (.bipush 8, 2) := by decide +kernel
theorem d_T_read_72 : decode prog_11_method_2_code 72 = .ok (.iand, 1) := by decide +kernel
theorem d_T_read_73 : decode prog_11_method_2_code 73 = .ok (.iadd, 1) := by decide +kernel
theorem d_T_read_74 : decode prog_11_method_2_code 74 = .ok (.istore 4, 2) := by decide +kernel
theorem d_T_read_76 : decode prog_11_method_2_code 76 = .ok (.iload_n 2, 1) := by decide +kernel
theorem d_T_read_77 : decode prog_11_method_2_code 77 = .ok (.iload_n 1, 1) := by decide +kernel
theorem d_T_read_78 : decode prog_11_method_2_code 78 = .ok (.if_icmp .lt 93, 3) := by decide +kernel
theorem d_T_read_81 : decode prog_11_method_2_code 81 = .ok (.iload_n 3, 1) := by decide +kernel
theorem d_T_read_82 : decode prog_11_method_2_code 82 = .ok (.aload_n 0, 1) := by decide +kernel
theorem d_T_read_83 : decode prog_11_method_2_code 83 = .ok (.getfield 15, 3) := by decide +kernel
theorem d_T_read_86 : decode prog_11_method_2_code 86 = .ok (.getfield 72, 3) := by decide +kernel
theorem d_T_read_89 : decode prog_11_method_2_code 89 = .ok (.if_icmp .ge 82, 3) := by decide +kernel
theorem d_T_read_92 : decode prog_11_method_2_code 92 = .ok (.iload 4, 2) := by decide +kernel
theorem d_T_read_94 : decode prog_11_method_2_code 94 = .ok (.aload_n 0, 1) := by decide +kernel
theorem d_T_read_95 : decode prog_11_method_2_code 95 = .ok (.getfield 15, 3) := by decide +kernel
theorem d_T_read_98 : decode prog_11_method_2_code 98 = .ok (.getfield 75, 3) := by decide +kernel
theorem d_T_read_101 : decode prog_11_method_2_code 101 = .ok (.if_icmp .ge 70, 3) := by decide +kernel
theorem d_T_read_104 : decode prog_11_method_2_code 104 = .ok (.aload_n 0, 1) := by decide +kernel
theorem d_T_read_105 : decode prog_11_method_2_code 105 = .ok (.iload_n 2, 1) := by decide +kernel
theorem d_T_read_106 : decode prog_11_method_2_code 106 = .ok (.invokevirtual 78, 3) := by decide +kernel
theorem d_T_read_109 : decode prog_11_method_2_code 109 = .ok (.istore 5, 2) := by decide +kernel
theorem d_T_read_111 : decode prog_11_method_2_code 111 = .ok (.iload_n 2, 1) := by decide +kernel
theorem d_T_read_112 : decode prog_11_method_2_code 112 = .ok (.iload 5, 2) := by decide +kernel
theorem d_T_read_114 : decode prog_11_method_2_code 114 = .ok (.iload 5, 2) := by decide +kernel
theorem d_T_read_116 : decode prog_11_method_2_code 116 = .ok (.imul, 1) := by decide +kernel
theorem d_T_read_117 : decode prog_11_method_2_code 117 = .ok (.bipush 16, 2) := by decide +kernel
theorem d_T_read_119 : decode prog_11_method_2_code 119 = .ok (.idiv, 1) := by decide +kernel
theorem d_T_read_120 : decode prog_11_method_2_code 120 = .ok (.iadd, 1) := by decide +kernel
theorem d_T_read_121 : decode prog_11_method_2_code 121 = .ok (.istore_n 1, 1) := by decide +kernel
theorem d_T_read_122 : decode prog_11_method_2_code 122 = .ok (.aload_n 0, 1) := by decide +kernel
theorem d_T_read_123 : decode prog_11_method_2_code 123 = .ok (.iload_n 3, 1) := by decide +kernel
theorem d_T_read_124 : decode prog_11_method_2_code 124 = .ok (.iload 4, 2) := by decide +kernel
theorem d_T_read_126 : decode prog_11_method_2_code 126 = .ok (.iload 5, 2) := by decide +kernel
theorem d_T_read_128 : decode prog_11_method_2_code 128 = .ok (.invokevirtual 82, 3) := by decide +kernel
theorem d_T_read_131 : decode prog_11_method_2_code 131 = .ok (.istore 6, 2) := by decide +kernel
theorem d_T_read_133 : decode prog_11_method_2_code 133 = .ok (.iconst 0, 1) := by decide +kernel
theorem d_T_read_134 : decode prog_11_method_2_code 134 = .ok (.istore 7, 2) := by decide +kernel
theorem d_T_read_136 : decode prog_11_method_2_code 136 = .ok (.iload 7, 2) := by decide +kernel
theorem d_T_read_138 : decode prog_11_method_2_code 138 = .ok (.aload_n 0, 1) := by decide +kernel
theorem d_T_read_139 : decode prog_11_method_2_code 139 = .ok (.getfield 15, 3) := by decide +kernel
theorem d_T_read_142 : decode prog_11_method_2_code 142 = .ok (.getfield 86, 3) := by decide +kernel
theorem d_T_read_145 : decode prog_11_method_2_code 145 = .ok (.if_icmp .ge 26, 3) := by decide +kernel
theorem d_T_read_148 : decode prog_11_method_2_code 148 = .ok (.aload_n 0, 1) := by decide +kernel
theorem d_T_read_149 : decode prog_11_method_2_code 149 = .ok (.iload 7, 2) := by decide +kernel
theorem d_T_read_151 : decode prog_11_method_2_code 151 = .ok (.iload_n 3, 1) := by decide +kernel
theorem d_T_read_152 : decode prog_11_method_2_code 152 = .ok (.iload 4, 2) := by decide +kernel
theorem d_T_read_154 : decode prog_11_method_2_code 154 = .ok (.iload 6, 2) := by decide +kernel
theorem d_T_read_156 : decode prog_11_method_2_code 156 = .ok (.invokevirtual 89, 3) := by decide +kernel
theorem d_T_read_159 : decode prog_11_method_2_code 159 = .ok (.ifCond .ne 6, 3) := by decide +kernel
theorem d_T_read_162 : decode prog_11_method_2_code 162 = .ok (.bipush 8, 2) := by decide +kernel
theorem d_T_read_164 : decode prog_11_method_2_code 164 = .ok (.ireturn, 1) := by decide +kernel
theorem d_T_read_165 : decode prog_11_method_2_code 165 = .ok (.iinc 7 1, 3) := by decide +kernel
theorem d_T_read_168 : decode prog_11_method_2_code 168 = .ok (.goto (-32), 3) := by decide +kernel
theorem d_T_read_171 : decode prog_11_method_2_code 171 = .ok (.iinc 2 1, 3) := by decide +kernel
theorem d_T_read_174 : decode prog_11_method_2_code 174 = .ok (.goto (-128), 3) := by decide +kernel
theorem d_T_read_177 : decode prog_11_method_2_code 177 = .ok (.iconst 0, 1) := by decide +kernel
theorem d_T_read_178 : decode prog_11_method_2_code 178 = .ok (.ireturn, 1) := by decide +kernel
theorem d_U_skip_0 : decode prog_4_method_5_code 0 = .ok (.iload_n 1, 1) := by decide +kernel
theorem d_U_skip_1 : decode prog_4_method_5_code 1 = .ok (.ifCond .lt 16, 3) := by decide +kernel
theorem d_U_skip_4 : decode prog_4_method_5_code 4 = .ok (.iload_n 1, 1) := by decide +kernel
theorem d_U_skip_5 : decode prog_4_method_5_code 5 = .ok (.aload_n 0, 1) := by decide +kernel
theorem d_U_skip_6 : decode prog_4_method_5_code 6 = .ok (.getfield 26, 3) := by decide +kernel
theorem d_U_skip_9 : decode prog_4_method_5_code 9 = .ok (.aload_n 0, 1) := by decide +kernel
theorem d_U_skip_10 : decode prog_4_method_5_code 10 = .ok (.getfield 19, 3) := by decide +kernel
theorem d_U_skip_13 : decode prog_4_method_5_code 13 = .ok (.isub, 1) := by decide +kernel
theorem d_U_skip_14 : decode prog_4_method_5_code 14 = .ok (.if_icmp .le 5, 3) := by decide +kernel
theorem d_U_skip_17 : decode prog_4_method_5_code 17 = .ok (.iconst 0, 1) := by decide +kernel
theorem d_U_skip_18 : decode prog_4_method_5_code 18 = .ok (.ireturn, 1) := by decide +kernel
theorem d_U_skip_19 : decode prog_4_method_5_code 19 = .ok (.aload_n 0, 1) := by decide +kernel
theorem d_U_skip_20 : decode prog_4_method_5_code 20 = .ok (.dup, 1) := by decide +kernel
theorem d_U_skip_21 : decode prog_4_method_5_code 21 = .ok (.getfield 19, 3) := by decide +kernel
theorem d_U_skip_24 : decode prog_4_method_5_code 24 = .ok (.iload_n 1, 1) := by decide +kernel
theorem d_U_skip_25 : decode prog_4_method_5_code 25 = .ok (.iadd, 1) := by decide +kernel
theorem d_U_skip_26 : decode prog_4_method_5_code 26 = .ok (.putfield 19, 3) := by decide +kernel
theorem d_U_skip_29 : decode prog_4_method_5_code 29 = .ok (.iconst 1, 1) := by decide +kernel
theorem d_U_skip_30 : decode prog_4_method_5_code 30 = .ok (.ireturn, 1) := by decide +kernel
theorem d_U_open_0 : decode prog_4_method_2_code 0 = .ok (.aload_n 0, 1) := by decide +kernel
theorem d_U_open_1 : decode prog_4_method_2_code 1 = .ok (.iload_n 1, 1) := by decide +kernel
theorem d_U_open_2 : decode prog_4_method_2_code 2 = .ok (.iconst 0, 1) := by decide +kernel
theorem d_U_open_3 : decode prog_4_method_2_code 3 = .ok (.invokestatic 13, 3) := by decide +kernel
theorem d_U_open_6 : decode prog_4_method_2_code 6 = .ok (.putfield 19, 3) := by decide +kernel
theorem d_U_open_9 : decode prog_4_method_2_code 9 = .ok (.aload_n 0, 1) := by decide +kernel
theorem d_U_open_10 : decode prog_4_method_2_code 10 = .ok (.iload_n 2, 1) := by decide +kernel
theorem d_U_open_11 : decode prog_4_method_2_code 11 = .ok (.aload_n 0, 1) := by decide +kernel
theorem d_U_open_12 : decode prog_4_method_2_code 12 = .ok (.getfield 7, 3) := by decide +kernel
theorem d_U_open_15 : decode prog_4_method_2_code 15 = .ok (.arraylength, 1) := by decide +kernel
theorem d_U_open_16 : decode prog_4_method_2_code 16 = .ok (.invokestatic 23, 3) := by decide +kernel
theorem d_U_open_19 : decode prog_4_method_2_code 19 = .ok (.putfield 26, 3) := by decide +kernel
theorem d_U_open_22 : decode prog_4_method_2_code 22 = .ok (.aload_n 0, 1) := by decide +kernel
theorem d_U_open_23 : decode prog_4_method_2_code 23 = .ok (.iconst 0, 1) := by decide +kernel
theorem d_U_open_24 : decode prog_4_method_2_code 24 = .ok (.putfield 29, 3) := by decide +kernel
theorem d_U_open_27 : decode prog_4_method_2_code 27 = .ok (.return_, 1) := by decide +kernel
theorem d_U_skipRestOfByte_0 : decode prog_4_method_7_code 0 = .ok (.aload_n 0, 1) := by decide +kernel
theorem d_U_skipRestOfByte_1 : decode prog_4_method_7_code 1 = .ok (.getfield 29, 3) := by decide +kernel
theorem d_U_skipRestOfByte_4 : decode prog_4_method_7_code 4 = .ok (.ifCond .eq 18, 3) := by decide +kernel
theorem d_U_skipRestOfByte_7 : decode prog_4_method_7_code 7 = .ok (.aload_n 0, 1) := by decide +kernel
theorem d_U_skipRestOfByte_8 : decode prog_4_method_7_code 8 = .ok (.iconst 0, 1) := by decide +kernel
theorem d_U_skipRestOfByte_9 : decode prog_4_method_7_code 9 = .ok (.putfield 29, 3) := by decide +kernel
theorem d_U_skipRestOfByte_12 : decode prog_4_method_7_code 12 = .ok (.aload_n 0, 1) := by decide +kernel
theorem d_U_skipRestOfByte_13 : decode prog_4_method_7_code 13 = .ok (.dup, 1) := by decide +kernel
theorem d_U_skipRestOfByte_14 : decode prog_4_method_7_code 14 = .ok (.getfield 19, 3) := by decide +kernel
theorem d_U_skipRestOfByte_17 : decode prog_4_method_7_code 17 = .ok (.iconst 1, 1) := by decide +kernel
theorem d_U_skipRestOfByte_18 : decode prog_4_method_7_code 18 = .ok (.iadd, 1) := by decide +kernel
theorem d_U_skipRestOfByte_19 : decode prog_4_method_7_code 19 = .ok (.putfield 19, 3) := by decide +kernel
theorem d_U_skipRestOfByte_22 : decode prog_4_method_7_code 22 = .ok (.return_, 1) := by decide +kernel
theorem d_U_nextBits_0 : decode prog_4_method_6_code 0 = .ok (.iconst 0, 1) := by decide +kernel
theorem d_U_nextBits_1 : decode prog_4_method_6_code 1 = .ok (.istore_n 2, 1) := by decide +kernel
theorem d_U_nextBits_2 : decode prog_4_method_6_code 2 = .ok (.iconst 0, 1) := by decide +kernel
theorem d_U_nextBits_3 : decode prog_4_method_6_code 3 = .ok (.istore_n 3, 1) := by decide +kernel
theorem d_U_nextBits_4 : decode prog_4_method_6_code 4 = .ok (.iload_n 3, 1) := by decide +kernel
theorem d_U_nextBits_5 : decode prog_4_method_6_code 5 = .ok (.iload_n 1, 1) := by decide +kernel
theorem d_U_nextBits_6 : decode prog_4_method_6_code 6 = .ok (.if_icmp .ge 80, 3) := by decide +kernel
theorem d_U_nextBits_9 : decode prog_4_method_6_code 9 = .ok (.aload_n 0, 1) := by decide +kernel
theorem d_U_nextBits_10 : decode prog_4_method_6_code 10 = .ok (.getfield 19, 3) := by decide +kernel
theorem d_U_nextBits_13 : decode prog_4_method_6_code 13 = .ok (.aload_n 0, 1) := by decide +kernel
theorem d_U_nextBits_14 : decode prog_4_method_6_code 14 = .ok (.getfield 26, 3) := by decide +kernel
theorem d_U_nextBits_17 : decode prog_4_method_6_code 17 = .ok (.if_icmp .lt 5, 3) := by decide +kernel
theorem d_U_nextBits_20 : decode prog_4_method_6_code 20 = .ok (.iconst (-1), 1) := by decide +kernel
theorem d_U_nextBits_21 : decode prog_4_method_6_code 21 = .ok (.ireturn, 1) := by decide +kernel
theorem d_U_nextBits_22 : decode prog_4_method_6_code 22 = .ok (.iconst 2, 1) := by decide +kernel
theorem d_U_nextBits_23 : decode prog_4_method_6_code 23 = .ok (.iload_n 2, 1) := by decide +kernel
theorem d_U_nextBits_24 : decode prog_4_method_6_code 24 = .ok (.imul, 1) := by decide +kernel
theorem d_U_nextBits_25 : decode prog_4_method_6_code 25 = .ok (.aload_n 0, 1) := by decide +kernel
theorem d_U_nextBits_26 : decode prog_4_method_6_code 26 = .ok (.getfield 7, 3) := by decide +kernel
theorem d_U_nextBits_29 : decode prog_4_method_6_code 29 = .ok (.aload_n 0, 1) := by decide +kernel
theorem d_U_nextBits_30 : decode prog_4_method_6_code 30 = .ok (.getfield 19, 3) := by decide +kernel
theorem d_U_nextBits_33 : decode prog_4_method_6_code 33 = .ok (.iaload, 1) := by decide +kernel
theorem d_U_nextBits_34 : decode prog_4_method_6_code 34 = .ok (.bipush 7, 2) := by decide +kernel
theorem d_U_nextBits_36 : decode prog_4_method_6_code 36 = .ok (.aload_n 0, 1) := by decide +kernel
theorem d_U_nextBits_37 : decode prog_4_method_6_code 37 = .ok (.getfield 29, 3) := by decide +kernel
theorem d_U_nextBits_40 : decode prog_4_method_6_code 40 = .ok (.isub, 1) := by decide +kernel
theorem d_U_nextBits_41 : decode prog_4_method_6_code 41 = .ok (.ishr, 1) := by decide +kernel
theorem d_U_nextBits_42 : decode prog_4_method_6_code 42 = .ok (.iconst 1, 1) := by decide +kernel
theorem d_U_nextBits_43 : decode prog_4_method_6_code 43 = .ok (.iand, 1) := by decide +kernel
theorem d_U_nextBits_44 : decode prog_4_method_6_code 44 = .ok (.iadd, 1) := by decide +kernel
theorem d_U_nextBits_45 : decode prog_4_method_6_code 45 = .ok (.istore_n 2, 1) := by decide +kernel
theorem d_U_nextBits_46 : decode prog_4_method_6_code 46 = .ok (.aload_n 0, 1) := by decide +kernel
theorem d_U_nextBits_47 : decode prog_4_method_6_code 47 = .ok (.dup, 1) := by decide +kernel
theorem d_U_nextBits_48 : decode prog_4_method_6_code 48 = .ok (.getfield 29, 3) := by decide +kernel
theorem d_U_nextBits_51 : decode prog_4_method_6_code 51 = .ok (.iconst 1, 1) := by decide +kernel
theorem d_U_nextBits_52 : decode prog_4_method_6_code 52 = .ok (.iadd, 1) := by decide +kernel
theorem d_U_nextBits_53 : decode prog_4_method_6_code 53 = .ok (.putfield 29, 3) := by decide +kernel
theorem d_U_nextBits_56 : decode prog_4_method_6_code 56 = .ok (.aload_n 0, 1) := by decide +kernel
theorem d_U_nextBits_57 : decode prog_4_method_6_code 57 = .ok (.getfield 29, 3) := by decide +kernel
theorem d_U_nextBits_60 : decode prog_4_method_6_code 60 = .ok (.bipush 8, 2) := by decide +kernel
theorem d_U_nextBits_62 : decode prog_4_method_6_code 62 = .ok (.if_icmp .ne 18, 3) := by decide +kernel
theorem d_U_nextBits_65 : decode prog_4_method_6_code 65 = .ok (.aload_n 0, 1) := by decide +kernel
theorem d_U_nextBits_66 : decode prog_4_method_6_code 66 = .ok (.iconst 0, 1) := by decide +kernel
theorem d_U_nextBits_67 : decode prog_4_method_6_code 67 = .ok (.putfield 29, 3) := by decide +kernel
theorem d_U_nextBits_70 : decode prog_4_method_6_code 70 = .ok (.aload_n 0, 1) := by decide +kernel
theorem d_U_nextBits_71 : decode prog_4_method_6_code 71 = .ok (.dup, 1) := by decide +kernel
theorem d_U_nextBits_72 : decode prog_4_method_6_code 72 = .ok (.getfield 19, 3) := by decide +kernel
theorem d_U_nextBits_75 : decode prog_4_method_6_code 75 = .ok (.iconst 1, 1) := by decide +kernel
theorem d_U_nextBits_76 : decode prog_4_method_6_code 76 = .ok (.iadd, 1) := by decide +kernel
theorem d_U_nextBits_77 : decode prog_4_method_6_code 77 = .ok (.putfield 19, 3) := by decide +kernel
theorem d_U_nextBits_80 : decode prog_4_method_6_code 80 = .ok (.iinc 3 1, 3) := by decide +kernel
theorem d_U_nextBits_83 : decode prog_4_method_6_code 83 = .ok (.goto (-79), 3) := by decide +kernel
theorem d_U_nextBits_86 : decode prog_4_method_6_code 86 = .ok (.iload_n 2, 1) := by decide +kernel
theorem d_U_nextBits_87 : decode prog_4_method_6_code 87 = .ok (.ireturn, 1) := by decide +kernel
theorem d_H_readFrame_0 : decode prog_7_method_6_code 0 = .ok (.aload_n 0, 1) := by decide +kernel
theorem d_H_readFrame_1 : decode prog_7_method_6_code 1 = .ok (.getfield 30, 3) := by decide +kernel
theorem d_H_readFrame_4 : decode prog_7_method_6_code 4 = .ok (.iconst 2, 1) := by decide +kernel
theorem d_H_readFrame_5 : decode prog_7_method_6_code 5 = .ok (.invokevirtual 74, 3) := by decide +kernel
theorem d_H_readFrame_8 : decode prog_7_method_6_code 8 = .ok (.istore_n 1, 1) := by decide +kernel
theorem d_H_readFrame_9 : decode prog_7_method_6_code 9 = .ok (.iload_n 1, 1) := by decide +kernel
theorem d_H_readFrame_10 : decode prog_7_method_6_code 10 = .ok (.ifCond .eq 14, 3) := by decide +kernel
theorem d_H_readFrame_13 : decode prog_7_method_6_code 13 = .ok (.iload_n 1, 1) := by decide +kernel
theorem d_H_readFrame_14 : decode prog_7_method_6_code 14 = .ok (.ifCond .ge 8, 3) := by decide +kernel
theorem d_H_readFrame_17 : decode prog_7_method_6_code 17 = .ok (.bipush 7, 2) := by decide +kernel
theorem d_H_readFrame_19 : decode prog_7_method_6_code 19 = .ok (.goto 4, 3) := by decide +kernel
theorem d_H_readFrame_22 : decode prog_7_method_6_code 22 = .ok (.iconst 5, 1) := by decide +kernel
theorem d_H_readFrame_23 : decode prog_7_method_6_code 23 = .ok (.ireturn, 1) := by decide +kernel
theorem d_H_readFrame_24 : decode prog_7_method_6_code 24 = .ok (.aload_n 0, 1) := by decide +kernel
theorem d_H_readFrame_25 : decode prog_7_method_6_code 25 = .ok (.getfield 30, 3) := by decide +kernel
theorem d_H_readFrame_28 : decode prog_7_method_6_code 28 = .ok (.iconst 1, 1) := by decide +kernel
theorem d_H_readFrame_29 : decode prog_7_method_6_code 29 = .ok (.invokevirtual 74, 3) := by decide +kernel
theorem d_H_readFrame_32 : decode prog_7_method_6_code 32 = .ok (.istore_n 2, 1) := by decide +kernel
theorem d_H_readFrame_33 : decode prog_7_method_6_code 33 = .ok (.iload_n 2, 1) := by decide +kernel
theorem d_H_readFrame_34 : decode prog_7_method_6_code 34 = .ok (.ifCond .eq 14, 3) := by decide +kernel
theorem d_H_readFrame_37 : decode prog_7_method_6_code 37 = .ok (.iload_n 2, 1) := by decide +kernel
theorem d_H_readFrame_38 : decode prog_7_method_6_code 38 = .ok (.ifCond .ge 8, 3) := by decide +kernel
theorem d_H_readFrame_41 : decode prog_7_method_6_code 41 = .ok (.bipush 7, 2) := by decide +kernel
theorem d_H_readFrame_43 : decode prog_7_method_6_code 43 = .ok (.goto 4, 3) := by decide +kernel
theorem d_H_readFrame_46 : decode prog_7_method_6_code 46 = .ok (.iconst 5, 1) := by decide +kernel
theorem d_H_readFrame_47 : decode prog_7_method_6_code 47 = .ok (.ireturn, 1) := by decide +kernel
theorem d_H_readFrame_48 : decode prog_7_method_6_code 48 = .ok (.aload_n 0, 1) := by decide +kernel
theorem d_H_readFrame_49 : decode prog_7_method_6_code 49 = .ok (.aload_n 0, 1) := by decide +kernel
theorem d_H_readFrame_50 : decode prog_7_method_6_code 50 = .ok (.getfield 30, 3) := by decide +kernel
theorem d_H_readFrame_53 : decode prog_7_method_6_code 53 = .ok (.bipush 6, 2) := by decide +kernel
theorem d_H_readFrame_55 : decode prog_7_method_6_code 55 = .ok (.invokevirtual 74, 3) := by decide +kernel
theorem d_H_readFrame_58 : decode prog_7_method_6_code 58 = .ok (.putfield 97, 3) := by decide +kernel
theorem d_H_readFrame_61 : decode prog_7_method_6_code 61 = .ok (.aload_n 0, 1) := by decide +kernel
theorem d_H_readFrame_62 : decode prog_7_method_6_code 62 = .ok (.aload_n 0, 1) := by decide +kernel
theorem d_H_readFrame_63 : decode prog_7_method_6_code 63 = .ok (.getfield 30, 3) := by decide +kernel
theorem d_H_readFrame_66 : decode prog_7_method_6_code 66 = .ok (.iconst 1, 1) := by decide +kernel
theorem d_H_readFrame_67 : decode prog_7_method_6_code 67 = .ok (.invokevirtual 74, 3) := by decide +kernel
theorem d_H_readFrame_70 : decode prog_7_method_6_code 70 = .ok (.iconst 1, 1) := by decide +kernel
theorem d_H_readFrame_71 : decode prog_7_method_6_code 71 = .ok (.if_icmp .ne 7, 3) := by decide +kernel
theorem d_H_readFrame_74 : decode prog_7_method_6_code 74 = .ok (.iconst 1, 1) := by decide +kernel
theorem d_H_readFrame_75 : decode prog_7_method_6_code 75 = .ok (.goto 4, 3) := by decide +kernel
theorem d_H_readFrame_78 : decode prog_7_method_6_code 78 = .ok (.iconst 0, 1) := by decide +kernel
theorem d_H_readFrame_79 : decode prog_7_method_6_code 79 = .ok (.putfield 100, 3) := by decide +kernel
theorem d_H_readFrame_82 : decode prog_7_method_6_code 82 = .ok (.aload_n 0, 1) := by decide +kernel
theorem d_H_readFrame_83 : decode prog_7_method_6_code 83 = .ok (.aload_n 0, 1) := by decide +kernel
theorem d_H_readFrame_84 : decode prog_7_method_6_code 84 = .ok (.getfield 30, 3) := by decide +kernel
theorem d_H_readFrame_87 : decode prog_7_method_6_code 87 = .ok (.iconst 3, 1) := by decide +kernel
theorem d_H_readFrame_88 : decode prog_7_method_6_code 88 = .ok (.invokevirtual 74, 3) := by decide +kernel
theorem d_H_readFrame_91 : decode prog_7_method_6_code 91 = .ok (.putfield 103, 3) := by decide +kernel
theorem d_H_readFrame_94 : decode prog_7_method_6_code 94 = .ok (.aload_n 0, 1) := by decide +kernel
theorem d_H_readFrame_95 : decode prog_7_method_6_code 95 = .ok (.aload_n 0, 1) := by decide +kernel
theorem d_H_readFrame_96 : decode prog_7_method_6_code 96 = .ok (.getfield 84, 3) := by decide +kernel
theorem d_H_readFrame_99 : decode prog_7_method_6_code 99 = .ok (.ifCond .eq 14, 3) := by decide +kernel
theorem d_H_readFrame_102 : decode prog_7_method_6_code 102 = .ok (.aload_n 0, 1) := by decide +kernel
theorem d_H_readFrame_103 : decode prog_7_method_6_code 103 = .ok (.getfield 30, 3) := by decide +kernel
theorem d_H_readFrame_106 : decode prog_7_method_6_code 106 = .ok (.iconst 2, 1) := by decide +kernel
theorem d_H_readFrame_107 : decode prog_7_method_6_code 107 = .ok (.invokevirtual 74, 3) := by decide +kernel
theorem d_H_readFrame_110 : decode prog_7_method_6_code 110 = .ok (.goto 4, 3) := by decide +kernel
theorem d_H_readFrame_113 : decode prog_7_method_6_code 113 = .ok (.iconst 0, 1) := by decide +kernel
theorem d_H_readFrame_114 : decode prog_7_method_6_code 114 = .ok (.putfield 106, 3) := by decide +kernel
theorem d_H_readFrame_117 : decode prog_7_method_6_code 117 = .ok (.aload_n 0, 1) := by decide +kernel
theorem d_H_readFrame_118 : decode prog_7_method_6_code 118 = .ok (.getfield 97, 3) := by decide +kernel
theorem d_H_readFrame_121 : decode prog_7_method_6_code 121 = .ok (.ifCond .lt 17, 3) := by decide +kernel
theorem d_H_readFrame_124 : decode prog_7_method_6_code 124 = .ok (.aload_n 0, 1) := by decide +kernel
theorem d_H_readFrame_125 : decode prog_7_method_6_code 125 = .ok (.getfield 103, 3) := by decide +kernel
theorem d_H_readFrame_128 : decode prog_7_method_6_code 128 = .ok (.ifCond .lt 10, 3) := by decide +kernel
theorem d_H_readFrame_131 : decode prog_7_method_6_code 131 = .ok (.aload_n 0, 1) := by decide +kernel
theorem d_H_readFrame_132 : decode prog_7_method_6_code 132 = .ok (.getfield 106, 3) := by decide +kernel
theorem d_H_readFrame_135 : decode prog_7_method_6_code 135 = .ok (.ifCond .ge 6, 3) := by decide +kernel
theorem d_H_readFrame_138 : decode prog_7_method_6_code 138 = .ok (.bipush 7, 2) := by decide +kernel
theorem d_H_readFrame_140 : decode prog_7_method_6_code 140 = .ok (.ireturn, 1) := by decide +kernel
theorem d_H_readFrame_141 : decode prog_7_method_6_code 141 = .ok (.aload_n 0, 1) := by decide +kernel
theorem d_H_readFrame_142 : decode prog_7_method_6_code 142 = .ok (.getfield 30, 3) := by decide +kernel
theorem d_H_readFrame_145 : decode prog_7_method_6_code 145 = .ok (.invokevirtual 109, 3) := by decide +kernel
theorem d_H_readFrame_148 : decode prog_7_method_6_code 148 = .ok (.aload_n 0, 1) := by decide +kernel
theorem d_H_readFrame_149 : decode prog_7_method_6_code 149 = .ok (.aload_n 0, 1) := by decide +kernel
theorem d_H_readFrame_150 : decode prog_7_method_6_code 150 = .ok (.getfield 30, 3) := by decide +kernel
theorem d_H_readFrame_153 : decode prog_7_method_6_code 153 = .ok (.getfield 61, 3) := by decide +kernel
theorem d_H_readFrame_156 : decode prog_7_method_6_code 156 = .ok (.putfield 112, 3) := by decide +kernel
theorem d_H_readFrame_159 : decode prog_7_method_6_code 159 = .ok (.aload_n 0, 1) := by decide +kernel
theorem d_H_readFrame_160 : decode prog_7_method_6_code 160 = .ok (.aload_n 0, 1) := by decide +kernel
theorem d_H_readFrame_161 : decode prog_7_method_6_code 161 = .ok (.getfield 30, 3) := by decide +kernel
theorem d_H_readFrame_164 : decode prog_7_method_6_code 164 = .ok (.getfield 115, 3) := by decide +kernel
theorem d_H_readFrame_167 : decode prog_7_method_6_code 167 = .ok (.putfield 118, 3) := by decide +kernel
theorem d_H_readFrame_170 : decode prog_7_method_6_code 170 = .ok (.aload_n 0, 1) := by decide +kernel
theorem d_H_readFrame_171 : decode prog_7_method_6_code 171 = .ok (.iconst 1, 1) := by decide +kernel
theorem d_H_readFrame_172 : decode prog_7_method_6_code 172 = .ok (.putfield 37, 3) := by decide +kernel
theorem d_H_readFrame_175 : decode prog_7_method_6_code 175 = .ok (.iconst 0, 1) := by decide +kernel
theorem d_H_readFrame_176 : decode prog_7_method_6_code 176 = .ok (.ireturn, 1) := by decide +kernel
theorem d_I_agrees_0 : decode prog_8_method_9_code 0 = .ok (.aload_n 0, 1) := by decide +kernel
theorem d_I_agrees_1 : decode prog_8_method_9_code 1 = .ok (.getfield 18, 3) := by decide +kernel
theorem d_I_agrees_4 : decode prog_8_method_9_code 4 = .ok (.getfield 52, 3) := by decide +kernel
theorem d_I_agrees_7 : decode prog_8_method_9_code 7 = .ok (.aload_n 0, 1) := by decide +kernel
theorem d_I_agrees_8 : decode prog_8_method_9_code 8 = .ok (.getfield 91, 3) := by decide +kernel
theorem d_I_agrees_11 : decode prog_8_method_9_code 11 = .ok (.iaload, 1) := by decide +kernel
theorem d_I_agrees_12 : decode prog_8_method_9_code 12 = .ok (.istore 6, 2) := by decide +kernel
theorem d_I_agrees_14 : decode prog_8_method_9_code 14 = .ok (.aload_n 0, 1) := by decide +kernel
theorem d_I_agrees_15 : decode prog_8_method_9_code 15 = .ok (.getfield 15, 3) := by decide +kernel
theorem d_I_agrees_18 : decode prog_8_method_9_code 18 = .ok (.iload 6, 2) := by decide +kernel
theorem d_I_agrees_20 : decode prog_8_method_9_code 20 = .ok (.iaload, 1) := by decide +kernel
theorem d_I_agrees_21 : decode prog_8_method_9_code 21 = .ok (.iload_n 1, 1) := by decide +kernel
theorem d_I_agrees_22 : decode prog_8_method_9_code 22 = .ok (.if_icmp .ne 16, 3) := by decide +kernel
theorem d_I_agrees_25 : decode prog_8_method_9_code 25 = .ok (.aload_n 0, 1) := by decide +kernel
theorem d_I_agrees_26 : decode prog_8_method_9_code 26 = .ok (.getfield 15, 3) := by decide +kernel
theorem d_I_agrees_29 : decode prog_8_method_9_code 29 = .ok (.iload 6, 2) := by decide +kernel
theorem d_I_agrees_31 : decode prog_8_method_9_code 31 = .ok (.iconst 1, 1) := by decide +kernel
theorem d_I_agrees_32 : decode prog_8_method_9_code 32 = .ok (.iadd, 1) := by decide +kernel
theorem d_I_agrees_33 : decode prog_8_method_9_code 33 = .ok (.iaload, 1) := by decide +kernel
theorem d_I_agrees_34 : decode prog_8_method_9_code 34 = .ok (.iload_n 2, 1) := by decide +kernel
theorem d_I_agrees_35 : decode prog_8_method_9_code 35 = .ok (.if_icmp .eq 5, 3) := by decide +kernel
theorem d_I_agrees_38 : decode prog_8_method_9_code 38 = .ok (.iconst 0, 1) := by decide +kernel
theorem d_I_agrees_39 : decode prog_8_method_9_code 39 = .ok (.ireturn, 1) := by decide +kernel
theorem d_I_agrees_40 : decode prog_8_method_9_code 40 = .ok (.aload_n 0, 1) := by decide +kernel
theorem d_I_agrees_41 : decode prog_8_method_9_code 41 = .ok (.getfield 15, 3) := by decide +kernel
theorem d_I_agrees_44 : decode prog_8_method_9_code 44 = .ok (.aload_n 0, 1) := by decide +kernel
theorem d_I_agrees_45 : decode prog_8_method_9_code 45 = .ok (.getfield 18, 3) := by decide +kernel
theorem d_I_agrees_48 : decode prog_8_method_9_code 48 = .ok (.getfield 52, 3) := by decide +kernel
theorem d_I_agrees_51 : decode prog_8_method_9_code 51 = .ok (.aload_n 0, 1) := by decide +kernel
theorem d_I_agrees_52 : decode prog_8_method_9_code 52 = .ok (.getfield 94, 3) := by decide +kernel
theorem d_I_agrees_55 : decode prog_8_method_9_code 55 = .ok (.iaload, 1) := by decide +kernel
theorem d_I_agrees_56 : decode prog_8_method_9_code 56 = .ok (.iaload, 1) := by decide +kernel
theorem d_I_agrees_57 : decode prog_8_method_9_code 57 = .ok (.iload_n 3, 1) := by decide +kernel
theorem d_I_agrees_58 : decode prog_8_method_9_code 58 = .ok (.if_icmp .eq 5, 3) := by decide +kernel
theorem d_I_agrees_61 : decode prog_8_method_9_code 61 = .ok (.iconst 0, 1) := by decide +kernel
theorem d_I_agrees_62 : decode prog_8_method_9_code 62 = .ok (.ireturn, 1) := by decide +kernel
theorem d_I_agrees_63 : decode prog_8_method_9_code 63 = .ok (.aload_n 0, 1) := by decide +kernel
theorem d_I_agrees_64 : decode prog_8_method_9_code 64 = .ok (.getfield 97, 3) := by decide +kernel
theorem d_I_agrees_67 : decode prog_8_method_9_code 67 = .ok (.iconst (-1), 1) := by decide +kernel
theorem d_I_agrees_68 : decode prog_8_method_9_code 68 = .ok (.if_icmp .ne 5, 3) := by decide +kernel
theorem d_I_agrees_71 : decode prog_8_method_9_code 71 = .ok (.iconst 1, 1) := by decide +kernel
theorem d_I_agrees_72 : decode prog_8_method_9_code 72 = .ok (.ireturn, 1) := by decide +kernel
theorem d_I_agrees_73 : decode prog_8_method_9_code 73 = .ok (.aload_n 0, 1) := by decide +kernel
theorem d_I_agrees_74 : decode prog_8_method_9_code 74 = .ok (.getfield 18, 3) := by decide +kernel
theorem d_I_agrees_77 : decode prog_8_method_9_code 77 = .ok (.getfield 52, 3) := by decide +kernel
theorem d_I_agrees_80 : decode prog_8_method_9_code 80 = .ok (.aload_n 0, 1) := by decide +kernel
theorem d_I_agrees_81 : decode prog_8_method_9_code 81 = .ok (.getfield 97, 3) := by decide +kernel
theorem d_I_agrees_84 : decode prog_8_method_9_code 84 = .ok (.iaload, 1) := by decide +kernel
theorem d_I_agrees_85 : decode prog_8_method_9_code 85 = .ok (.istore 7, 2) := by decide +kernel
theorem d_I_agrees_87 : decode prog_8_method_9_code 87 = .ok (.aload_n 0, 1) := by decide +kernel
theorem d_I_agrees_88 : decode prog_8_method_9_code 88 = .ok (.getfield 15, 3) := by decide +kernel
theorem d_I_agrees_91 : decode prog_8_method_9_code 91 = .ok (.iload 7, 2) := by decide +kernel
theorem d_I_agrees_93 : decode prog_8_method_9_code 93 = .ok (.iaload, 1) := by decide +kernel
theorem d_I_agrees_94 : decode prog_8_method_9_code 94 = .ok (.iload 4, 2) := by decide +kernel
theorem d_I_agrees_96 : decode prog_8_method_9_code 96 = .ok (.if_icmp .eq 5, 3) := by decide +kernel
theorem d_I_agrees_99 : decode prog_8_method_9_code 99 = .ok (.iconst 0, 1) := by decide +kernel
theorem d_I_agrees_100 : decode prog_8_method_9_code 100 = .ok (.ireturn, 1) := by decide +kernel
theorem d_I_agrees_101 : decode prog_8_method_9_code 101 = .ok (.iconst 1, 1) := by decide +kernel
theorem d_I_agrees_102 : decode prog_8_method_9_code 102 = .ok (.istore 8, 2) := by decide +kernel
theorem d_I_agrees_104 : decode prog_8_method_9_code 104 = .ok (.iload 8, 2) := by decide +kernel
theorem d_I_agrees_106 : decode prog_8_method_9_code 106 = .ok (.iload 4, 2) := by decide +kernel
theorem d_I_agrees_108 : decode prog_8_method_9_code 108 = .ok (.if_icmp .gt 26, 3) := by decide +kernel
theorem d_I_agrees_111 : decode prog_8_method_9_code 111 = .ok (.aload_n 0, 1) := by decide +kernel
theorem d_I_agrees_112 : decode prog_8_method_9_code 112 = .ok (.getfield 15, 3) := by decide +kernel
theorem d_I_agrees_115 : decode prog_8_method_9_code 115 = .ok (.iload 7, 2) := by decide +kernel
theorem d_I_agrees_117 : decode prog_8_method_9_code 117 = .ok (.iload 8, 2) := by decide +kernel
theorem d_I_agrees_119 : decode prog_8_method_9_code 119 = .ok (.iadd, 1) := by decide +kernel
theorem d_I_agrees_120 : decode prog_8_method_9_code 120 = .ok (.iaload, 1) := by decide +kernel
theorem d_I_agrees_121 : decode prog_8_method_9_code 121 = .ok (.iload 5, 2) := by decide +kernel
theorem d_I_agrees_123 : decode prog_8_method_9_code 123 = .ok (.if_icmp .eq 5, 3) := by decide +kernel
theorem d_I_agrees_126 : decode prog_8_method_9_code 126 = .ok (.iconst 0, 1) := by decide +kernel
theorem d_I_agrees_127 : decode prog_8_method_9_code 127 = .ok (.ireturn, 1) := by decide +kernel
theorem d_I_agrees_128 : decode prog_8_method_9_code 128 = .ok (.iinc 8 1, 3) := by decide +kernel
theorem d_I_agrees_131 : decode prog_8_method_9_code 131 = .ok (.goto (-27), 3) := by decide +kernel
theorem d_I_agrees_134 : decode prog_8_method_9_code 134 = .ok (.iconst 1, 1) := by decide +kernel
theorem d_I_agrees_135 : decode prog_8_method_9_code 135 = .ok (.ireturn, 1) := by decide +kernel
theorem d_H_readSequence_0 : decode prog_7_method_5_code 0 = .ok (.aload_n 0, 1) := by decide +kernel
theorem d_H_readSequence_1 : decode prog_7_method_5_code 1 = .ok (.getfield 30, 3) := by decide +kernel
theorem d_H_readSequence_4 : decode prog_7_method_5_code 4 = .ok (.iconst 2, 1) := by decide +kernel
theorem d_H_readSequence_5 : decode prog_7_method_5_code 5 = .ok (.invokevirtual 74, 3) := by decide +kernel
theorem d_H_readSequence_8 : decode prog_7_method_5_code 8 = .ok (.istore_n 1, 1) := by decide +kernel
theorem d_H_readSequence_9 : decode prog_7_method_5_code 9 = .ok (.iload_n 1, 1) := by decide +kernel
theorem d_H_readSequence_10 : decode prog_7_method_5_code 10 = .ok (.ifCond .ge 6, 3) := by decide +kernel
theorem d_H_readSequence_13 : decode prog_7_method_5_code 13 = .ok (.bipush 7, 2) := by decide +kernel
theorem d_H_readSequence_15 : decode prog_7_method_5_code 15 = .ok (.ireturn, 1) := by decide +kernel
theorem d_H_readSequence_16 : decode prog_7_method_5_code 16 = .ok (.iload_n 1, 1) := by decide +kernel
theorem d_H_readSequence_17 : decode prog_7_method_5_code 17 = .ok (.iconst 1, 1) := by decide +kernel
theorem d_H_readSequence_18 : decode prog_7_method_5_code 18 = .ok (.if_icmp .le 5, 3) := by decide +kernel
theorem d_H_readSequence_21 : decode prog_7_method_5_code 21 = .ok (.iconst 5, 1) := by decide +kernel
theorem d_H_readSequence_22 : decode prog_7_method_5_code 22 = .ok (.ireturn, 1) := by decide +kernel
theorem d_H_readSequence_23 : decode prog_7_method_5_code 23 = .ok (.aload_n 0, 1) := by decide +kernel
theorem d_H_readSequence_24 : decode prog_7_method_5_code 24 = .ok (.getfield 30, 3) := by decide +kernel
theorem d_H_readSequence_27 : decode prog_7_method_5_code 27 = .ok (.iconst 1, 1) := by decide +kernel
theorem d_H_readSequence_28 : decode prog_7_method_5_code 28 = .ok (.invokevirtual 74, 3) := by decide +kernel
theorem d_H_readSequence_31 : decode prog_7_method_5_code 31 = .ok (.istore_n 2, 1) := by decide +kernel
theorem d_H_readSequence_32 : decode prog_7_method_5_code 32 = .ok (.aload_n 0, 1) := by decide +kernel
theorem d_H_readSequence_33 : decode prog_7_method_5_code 33 = .ok (.aload_n 0, 1) := by decide +kernel
theorem d_H_readSequence_34 : decode prog_7_method_5_code 34 = .ok (.getfield 30, 3) := by decide +kernel
theorem d_H_readSequence_37 : decode prog_7_method_5_code 37 = .ok (.iconst 4, 1) := by decide +kernel
theorem d_H_readSequence_38 : decode prog_7_method_5_code 38 = .ok (.invokevirtual 74, 3) := by decide +kernel
theorem d_H_readSequence_41 : decode prog_7_method_5_code 41 = .ok (.iconst 1, 1) := by decide +kernel
theorem d_H_readSequence_42 : decode prog_7_method_5_code 42 = .ok (.iadd, 1) := by decide +kernel
theorem d_H_readSequence_43 : decode prog_7_method_5_code 43 = .ok (.putfield 78, 3) := by decide +kernel
theorem d_H_readSequence_46 : decode prog_7_method_5_code 46 = .ok (.aload_n 0, 1) := by decide +kernel
theorem d_H_readSequence_47 : decode prog_7_method_5_code 47 = .ok (.aload_n 0, 1) := by decide +kernel
theorem d_H_readSequence_48 : decode prog_7_method_5_code 48 = .ok (.getfield 30, 3) := by decide +kernel
theorem d_H_readSequence_51 : decode prog_7_method_5_code 51 = .ok (.iconst 4, 1) := by decide +kernel
theorem d_H_readSequence_52 : decode prog_7_method_5_code 52 = .ok (.invokevirtual 74, 3) := by decide +kernel
theorem d_H_readSequence_55 : decode prog_7_method_5_code 55 = .ok (.iconst 1, 1) := by decide +kernel
theorem d_H_readSequence_56 : decode prog_7_method_5_code 56 = .ok (.iadd, 1) := by decide +kernel
theorem d_H_readSequence_57 : decode prog_7_method_5_code 57 = .ok (.putfield 81, 3) := by decide +kernel
theorem d_H_readSequence_60 : decode prog_7_method_5_code 60 = .ok (.iconst 0, 1) := by decide +kernel
theorem d_H_readSequence_61 : decode prog_7_method_5_code 61 = .ok (.istore_n 3, 1) := by decide +kernel
theorem d_H_readSequence_62 : decode prog_7_method_5_code 62 = .ok (.iload_n 3, 1) := by decide +kernel
theorem d_H_readSequence_63 : decode prog_7_method_5_code 63 = .ok (.iconst 2, 1) := by decide +kernel
theorem d_H_readSequence_64 : decode prog_7_method_5_code 64 = .ok (.if_icmp .ge 36, 3) := by decide +kernel
theorem d_H_readSequence_67 : decode prog_7_method_5_code 67 = .ok (.aload_n 0, 1) := by decide +kernel
theorem d_H_readSequence_68 : decode prog_7_method_5_code 68 = .ok (.getfield 30, 3) := by decide +kernel
theorem d_H_readSequence_71 : decode prog_7_method_5_code 71 = .ok (.iconst 1, 1) := by decide +kernel
theorem d_H_readSequence_72 : decode prog_7_method_5_code 72 = .ok (.invokevirtual 74, 3) := by decide +kernel
theorem d_H_readSequence_75 : decode prog_7_method_5_code 75 = .ok (.istore 4, 2) := by decide +kernel
theorem d_H_readSequence_77 : decode prog_7_method_5_code 77 = .ok (.iload 4, 2) := by decide +kernel
theorem d_H_readSequence_79 : decode prog_7_method_5_code 79 = .ok (.ifCond .eq 15, 3) := by decide +kernel
theorem d_H_readSequence_82 : decode prog_7_method_5_code 82 = .ok (.iload 4, 2) := by decide +kernel
theorem d_H_readSequence_84 : decode prog_7_method_5_code 84 = .ok (.ifCond .ge 8, 3) := by decide +kernel
theorem d_H_readSequence_87 : decode prog_7_method_5_code 87 = .ok (.bipush 7, 2) := by decide +kernel
theorem d_H_readSequence_89 : decode prog_7_method_5_code 89 = .ok (.goto 4, 3) := by decide +kernel
theorem d_H_readSequence_92 : decode prog_7_method_5_code 92 = .ok (.iconst 5, 1) := by decide +kernel
theorem d_H_readSequence_93 : decode prog_7_method_5_code 93 = .ok (.ireturn, 1) := by decide +kernel
theorem d_H_readSequence_94 : decode prog_7_method_5_code 94 = .ok (.iinc 3 1, 3) := by decide +kernel
theorem d_H_readSequence_97 : decode prog_7_method_5_code 97 = .ok (.goto (-35), 3) := by decide +kernel
theorem d_H_readSequence_100 : decode prog_7_method_5_code 100 = .ok (.aload_n 0, 1) := by decide +kernel
theorem d_H_readSequence_101 : decode prog_7_method_5_code 101 = .ok (.getfield 30, 3) := by decide +kernel
theorem d_H_readSequence_104 : decode prog_7_method_5_code 104 = .ok (.iconst 1, 1) := by decide +kernel
theorem d_H_readSequence_105 : decode prog_7_method_5_code 105 = .ok (.invokevirtual 74, 3) := by decide +kernel
theorem d_H_readSequence_108 : decode prog_7_method_5_code 108 = .ok (.istore_n 3, 1) := by decide +kernel
theorem d_H_readSequence_109 : decode prog_7_method_5_code 109 = .ok (.iload_n 3, 1) := by decide +kernel
theorem d_H_readSequence_110 : decode prog_7_method_5_code 110 = .ok (.ifCond .ge 6, 3) := by decide +kernel
theorem d_H_readSequence_113 : decode prog_7_method_5_code 113 = .ok (.bipush 7, 2) := by decide +kernel
theorem d_H_readSequence_115 : decode prog_7_method_5_code 115 = .ok (.ireturn, 1) := by decide +kernel
theorem d_H_readSequence_116 : decode prog_7_method_5_code 116 = .ok (.aload_n 0, 1) := by decide +kernel
theorem d_H_readSequence_117 : decode prog_7_method_5_code 117 = .ok (.iload_n 3, 1) := by decide +kernel
theorem d_H_readSequence_118 : decode prog_7_method_5_code 118 = .ok (.iconst 1, 1) := by decide +kernel
theorem d_H_readSequence_119 : decode prog_7_method_5_code 119 = .ok (.if_icmp .ne 7, 3) := by decide +kernel
theorem d_H_readSequence_122 : decode prog_7_method_5_code 122 = .ok (.iconst 1, 1) := by decide +kernel
theorem d_H_readSequence_123 : decode prog_7_method_5_code 123 = .ok (.goto 4, 3) := by decide +kernel
theorem d_H_readSequence_126 : decode prog_7_method_5_code 126 = .ok (.iconst 0, 1) := by decide +kernel
theorem d_H_readSequence_127 : decode prog_7_method_5_code 127 = .ok (.putfield 84, 3) := by decide +kernel
theorem d_H_readSequence_130 : decode prog_7_method_5_code 130 = .ok (.aload_n 0, 1) := by decide +kernel
theorem d_H_readSequence_131 : decode prog_7_method_5_code 131 = .ok (.iload_n 1, 1) := by decide +kernel
theorem d_H_readSequence_132 : decode prog_7_method_5_code 132 = .ok (.ifCond .ne 7, 3) := by decide +kernel
theorem d_H_readSequence_135 : decode prog_7_method_5_code 135 = .ok (.iconst 1, 1) := by decide +kernel
theorem d_H_readSequence_136 : decode prog_7_method_5_code 136 = .ok (.goto 4, 3) := by decide +kernel
theorem d_H_readSequence_139 : decode prog_7_method_5_code 139 = .ok (.iconst 3, 1) := by decide +kernel
theorem d_H_readSequence_140 : decode prog_7_method_5_code 140 = .ok (.putfield 87, 3) := by decide +kernel
theorem d_H_readSequence_143 : decode prog_7_method_5_code 143 = .ok (.aload_n 0, 1) := by decide +kernel
theorem d_H_readSequence_144 : decode prog_7_method_5_code 144 = .ok (.iload_n 2, 1) := by decide +kernel
theorem d_H_readSequence_145 : decode prog_7_method_5_code 145 = .ok (.iconst 1, 1) := by decide +kernel
theorem d_H_readSequence_146 : decode prog_7_method_5_code 146 = .ok (.if_icmp .ne 8, 3) := by decide +kernel
theorem d_H_readSequence_149 : decode prog_7_method_5_code 149 = .ok (.bipush 10, 2) := by decide +kernel
theorem d_H_readSequence_151 : decode prog_7_method_5_code 151 = .ok (.goto 5, 3) := by decide +kernel
theorem d_H_readSequence_154 : decode prog_7_method_5_code 154 = .ok (.bipush 8, 2) := by decide +kernel
theorem d_H_readSequence_156 : decode prog_7_method_5_code 156 = .ok (.putfield 90, 3) := by decide +kernel
theorem d_H_readSequence_159 : decode prog_7_method_5_code 159 = .ok (.aload_n 0, 1) := by decide +kernel
theorem d_H_readSequence_160 : decode prog_7_method_5_code 160 = .ok (.iconst 1, 1) := by decide +kernel
theorem d_H_readSequence_161 : decode prog_7_method_5_code 161 = .ok (.putfield 33, 3) := by decide +kernel
theorem d_H_readSequence_164 : decode prog_7_method_5_code 164 = .ok (.aload_n 0, 1) := by decide +kernel
theorem d_H_readSequence_165 : decode prog_7_method_5_code 165 = .ok (.getfield 9, 3) := by decide +kernel
theorem d_H_readSequence_168 : decode prog_7_method_5_code 168 = .ok (.aload_n 0, 1) := by decide +kernel
theorem d_H_readSequence_169 : decode prog_7_method_5_code 169 = .ok (.getfield 78, 3) := by decide +kernel
theorem d_H_readSequence_172 : decode prog_7_method_5_code 172 = .ok (.aload_n 0, 1) := by decide +kernel
theorem d_H_readSequence_173 : decode prog_7_method_5_code 173 = .ok (.getfield 81, 3) := by decide +kernel
theorem d_H_readSequence_176 : decode prog_7_method_5_code 176 = .ok (.iload_n 1, 1) := by decide +kernel
theorem d_H_readSequence_177 : decode prog_7_method_5_code 177 = .ok (.iconst 4, 1) := by decide +kernel
theorem d_H_readSequence_178 : decode prog_7_method_5_code 178 = .ok (.iload_n 2, 1) := by decide +kernel
theorem d_H_readSequence_179 : decode prog_7_method_5_code 179 = .ok (.imul, 1) := by decide +kernel
theorem d_H_readSequence_180 : decode prog_7_method_5_code 180 = .ok (.iadd, 1) := by decide +kernel
theorem d_H_readSequence_181 : decode prog_7_method_5_code 181 = .ok (.aload_n 0, 1) := by decide +kernel
theorem d_H_readSequence_182 : decode prog_7_method_5_code 182 = .ok (.getfield 87, 3) := by decide +kernel
theorem d_H_readSequence_185 : decode prog_7_method_5_code 185 = .ok (.aload_n 0, 1) := by decide +kernel
theorem d_H_readSequence_186 : decode prog_7_method_5_code 186 = .ok (.getfield 90, 3) := by decide +kernel
theorem d_H_readSequence_189 : decode prog_7_method_5_code 189 = .ok (.invokevirtual 93, 3) := by decide +kernel
theorem d_H_readSequence_192 : decode prog_7_method_5_code 192 = .ok (.ifCond .eq 7, 3) := by decide +kernel
theorem d_H_readSequence_195 : decode prog_7_method_5_code 195 = .ok (.iconst 0, 1) := by decide +kernel
theorem d_H_readSequence_196 : decode prog_7_method_5_code 196 = .ok (.goto 5, 3) := by decide +kernel
theorem d_H_readSequence_199 : decode prog_7_method_5_code 199 = .ok (.bipush 6, 2) := by decide +kernel
theorem d_H_readSequence_201 : decode prog_7_method_5_code 201 = .ok (.ireturn, 1) := by decide +kernel
theorem d_U_nextByte_0 : decode prog_4_method_4_code 0 = .ok (.aload_n 0, 1) := by decide +kernel
theorem d_U_nextByte_1 : decode prog_4_method_4_code 1 = .ok (.getfield 19, 3) := by decide +kernel
theorem d_U_nextByte_4 : decode prog_4_method_4_code 4 = .ok (.aload_n 0, 1) := by decide +kernel
theorem d_U_nextByte_5 : decode prog_4_method_4_code 5 = .ok (.getfield 26, 3) := by decide +kernel
theorem d_U_nextByte_8 : decode prog_4_method_4_code 8 = .ok (.if_icmp .lt 5, 3) := by decide +kernel
theorem d_U_nextByte_11 : decode prog_4_method_4_code 11 = .ok (.iconst (-1), 1) := by decide +kernel
theorem d_U_nextByte_12 : decode prog_4_method_4_code 12 = .ok (.ireturn, 1) := by decide +kernel
theorem d_U_nextByte_13 : decode prog_4_method_4_code 13 = .ok (.aload_n 0, 1) := by decide +kernel
theorem d_U_nextByte_14 : decode prog_4_method_4_code 14 = .ok (.getfield 7, 3) := by decide +kernel
theorem d_U_nextByte_17 : decode prog_4_method_4_code 17 = .ok (.aload_n 0, 1) := by decide +kernel
theorem d_U_nextByte_18 : decode prog_4_method_4_code 18 = .ok (.getfield 19, 3) := by decide +kernel
theorem d_U_nextByte_21 : decode prog_4_method_4_code 21 = .ok (.iaload, 1) := by decide +kernel
theorem d_U_nextByte_22 : decode prog_4_method_4_code 22 = .ok (.istore_n 1, 1) := by decide +kernel
theorem d_U_nextByte_23 : decode prog_4_method_4_code 23 = .ok (.aload_n 0, 1) := by decide +kernel
theorem d_U_nextByte_24 : decode prog_4_method_4_code 24 = .ok (.dup, 1) := by decide +kernel
theorem d_U_nextByte_25 : decode prog_4_method_4_code 25 = .ok (.getfield 19, 3) := by decide +kernel
theorem d_U_nextByte_28 : decode prog_4_method_4_code 28 = .ok (.iconst 1, 1) := by decide +kernel
theorem d_U_nextByte_29 : decode prog_4_method_4_code 29 = .ok (.iadd, 1) := by decide +kernel
theorem d_U_nextByte_30 : decode prog_4_method_4_code 30 = .ok (.putfield 19, 3) := by decide +kernel
theorem d_U_nextByte_33 : decode prog_4_method_4_code 33 = .ok (.iload_n 1, 1) := by decide +kernel
theorem d_U_nextByte_34 : decode prog_4_method_4_code 34 = .ok (.ireturn, 1) := by decide +kernel
theorem d_U_left_0 : decode prog_4_method_3_code 0 = .ok (.aload_n 0, 1) := by decide +kernel
theorem d_U_left_1 : decode prog_4_method_3_code 1 = .ok (.getfield 26, 3) := by decide +kernel
theorem d_U_left_4 : decode prog_4_method_3_code 4 = .ok (.aload_n 0, 1) := by decide +kernel
theorem d_U_left_5 : decode prog_4_method_3_code 5 = .ok (.getfield 19, 3) := by decide +kernel
theorem d_U_left_8 : decode prog_4_method_3_code 8 = .ok (.isub, 1) := by decide +kernel
theorem d_U_left_9 : decode prog_4_method_3_code 9 = .ok (.ireturn, 1) := by decide +kernel
theorem d_H_readCount_0 : decode prog_7_method_4_code 0 = .ok (.iconst 0, 1) := by decide +kernel
theorem d_H_readCount_1 : decode prog_7_method_4_code 1 = .ok (.istore_n 1, 1) := by decide +kernel
theorem d_H_readCount_2 : decode prog_7_method_4_code 2 = .ok (.iconst 0, 1) := by decide +kernel
theorem d_H_readCount_3 : decode prog_7_method_4_code 3 = .ok (.istore_n 2, 1) := by decide +kernel
theorem d_H_readCount_4 : decode prog_7_method_4_code 4 = .ok (.iload_n 2, 1) := by decide +kernel
theorem d_H_readCount_5 : decode prog_7_method_4_code 5 = .ok (.bipush 21, 2) := by decide +kernel
theorem d_H_readCount_7 : decode prog_7_method_4_code 7 = .ok (.if_icmp .ge 41, 3) := by decide +kernel
theorem d_H_readCount_10 : decode prog_7_method_4_code 10 = .ok (.aload_n 0, 1) := by decide +kernel
theorem d_H_readCount_11 : decode prog_7_method_4_code 11 = .ok (.getfield 26, 3) := by decide +kernel
theorem d_H_readCount_14 : decode prog_7_method_4_code 14 = .ok (.invokevirtual 52, 3) := by decide +kernel
theorem d_H_readCount_17 : decode prog_7_method_4_code 17 = .ok (.istore_n 3, 1) := by decide +kernel
theorem d_H_readCount_18 : decode prog_7_method_4_code 18 = .ok (.iload_n 3, 1) := by decide +kernel
theorem d_H_readCount_19 : decode prog_7_method_4_code 19 = .ok (.ifCond .ge 5, 3) := by decide +kernel
theorem d_H_readCount_22 : decode prog_7_method_4_code 22 = .ok (.iconst (-1), 1) := by decide +kernel
theorem d_H_readCount_23 : decode prog_7_method_4_code 23 = .ok (.ireturn, 1) := by decide +kernel
theorem d_H_readCount_24 : decode prog_7_method_4_code 24 = .ok (.iload_n 1, 1) := by decide +kernel
theorem d_H_readCount_25 : decode prog_7_method_4_code 25 = .ok (.iload_n 3, 1) := by decide +kernel
theorem d_H_readCount_26 : decode prog_7_method_4_code 26 = .ok (.bipush 127, 2) := by decide +kernel
theorem d_H_readCount_28 : decode prog_7_method_4_code 28 = .ok (.iand, 1) := by decide +kernel
theorem d_H_readCount_29 : decode prog_7_method_4_code 29 = .ok (.iload_n 2, 1) := by decide +kernel
theorem d_H_readCount_30 : decode prog_7_method_4_code 30 = .ok (.ishl, 1) := by decide +kernel
theorem d_H_readCount_31 : decode prog_7_method_4_code 31 = .ok (.iadd, 1) := by decide +kernel
theorem d_H_readCount_32 : decode prog_7_method_4_code 32 = .ok (.istore_n 1, 1) := by decide +kernel
theorem d_H_readCount_33 : decode prog_7_method_4_code 33 = .ok (.iload_n 3, 1) := by decide +kernel
theorem d_H_readCount_34 : decode prog_7_method_4_code 34 = .ok (.sipush 128, 3) := by decide +kernel
theorem d_H_readCount_37 : decode prog_7_method_4_code 37 = .ok (.if_icmp .ge 5, 3) := by decide +kernel
theorem d_H_readCount_40 : decode prog_7_method_4_code 40 = .ok (.iload_n 1, 1) := by decide +kernel
theorem d_H_readCount_41 : decode prog_7_method_4_code 41 = .ok (.ireturn, 1) := by decide +kernel
theorem d_H_readCount_42 : decode prog_7_method_4_code 42 = .ok (.iinc 2 7, 3) := by decide +kernel
theorem d_H_readCount_45 : decode prog_7_method_4_code 45 = .ok (.goto (-41), 3) := by decide +kernel
theorem d_H_readCount_48 : decode prog_7_method_4_code 48 = .ok (.iconst (-1), 1) := by decide +kernel
theorem d_H_readCount_49 : decode prog_7_method_4_code 49 = .ok (.ireturn, 1) := by decide +kernel
theorem d_H_readUnit_0 : decode prog_7_method_3_code 0 = .ok (.aload_n 0, 1) := by decide +kernel
theorem d_H_readUnit_1 : decode prog_7_method_3_code 1 = .ok (.getfield 26, 3) := by decide +kernel
theorem d_H_readUnit_4 : decode prog_7_method_3_code 4 = .ok (.invokevirtual 52, 3) := by decide +kernel
theorem d_H_readUnit_7 : decode prog_7_method_3_code 7 = .ok (.istore_n 1, 1) := by decide +kernel
theorem d_H_readUnit_8 : decode prog_7_method_3_code 8 = .ok (.iload_n 1, 1) := by decide +kernel
theorem d_H_readUnit_9 : decode prog_7_method_3_code 9 = .ok (.ifCond .lt 10, 3) := by decide +kernel
theorem d_H_readUnit_12 : decode prog_7_method_3_code 12 = .ok (.iload_n 1, 1) := by decide +kernel
theorem d_H_readUnit_13 : decode prog_7_method_3_code 13 = .ok (.sipush 128, 3) := by decide +kernel
theorem d_H_readUnit_16 : decode prog_7_method_3_code 16 = .ok (.if_icmp .lt 6, 3) := by decide +kernel
theorem d_H_readUnit_19 : decode prog_7_method_3_code 19 = .ok (.bipush 7, 2) := by decide +kernel
theorem d_H_readUnit_21 : decode prog_7_method_3_code 21 = .ok (.ireturn, 1) := by decide +kernel
theorem d_H_readUnit_22 : decode prog_7_method_3_code 22 = .ok (.iload_n 1, 1) := by decide +kernel
theorem d_H_readUnit_23 : decode prog_7_method_3_code 23 = .ok (.iconst 4, 1) := by decide +kernel
theorem d_H_readUnit_24 : decode prog_7_method_3_code 24 = .ok (.iand, 1) := by decide +kernel
theorem d_H_readUnit_25 : decode prog_7_method_3_code 25 = .ok (.ifCond .eq 5, 3) := by decide +kernel
theorem d_H_readUnit_28 : decode prog_7_method_3_code 28 = .ok (.iconst 5, 1) := by decide +kernel
theorem d_H_readUnit_29 : decode prog_7_method_3_code 29 = .ok (.ireturn, 1) := by decide +kernel
theorem d_H_readUnit_30 : decode prog_7_method_3_code 30 = .ok (.iload_n 1, 1) := by decide +kernel
theorem d_H_readUnit_31 : decode prog_7_method_3_code 31 = .ok (.iconst 2, 1) := by decide +kernel
theorem d_H_readUnit_32 : decode prog_7_method_3_code 32 = .ok (.iand, 1) := by decide +kernel
theorem d_H_readUnit_33 : decode prog_7_method_3_code 33 = .ok (.ifCond .eq 10, 3) := by decide +kernel
theorem d_H_readUnit_36 : decode prog_7_method_3_code 36 = .ok (.aload_n 0, 1) := by decide +kernel
theorem d_H_readUnit_37 : decode prog_7_method_3_code 37 = .ok (.invokevirtual 55, 3) := by decide +kernel
theorem d_H_readUnit_40 : decode prog_7_method_3_code 40 = .ok (.goto 10, 3) := by decide +kernel
theorem d_H_readUnit_43 : decode prog_7_method_3_code 43 = .ok (.aload_n 0, 1) := by decide +kernel
theorem d_H_readUnit_44 : decode prog_7_method_3_code 44 = .ok (.getfield 26, 3) := by decide +kernel
theorem d_H_readUnit_47 : decode prog_7_method_3_code 47 = .ok (.invokevirtual 58, 3) := by decide +kernel
theorem d_H_readUnit_50 : decode prog_7_method_3_code 50 = .ok (.istore_n 2, 1) := by decide +kernel
theorem d_H_readUnit_51 : decode prog_7_method_3_code 51 = .ok (.aload_n 0, 1) := by decide +kernel
theorem d_H_readUnit_52 : decode prog_7_method_3_code 52 = .ok (.getfield 26, 3) := by decide +kernel
theorem d_H_readUnit_55 : decode prog_7_method_3_code 55 = .ok (.getfield 61, 3) := by decide +kernel
theorem d_H_readUnit_58 : decode prog_7_method_3_code 58 = .ok (.istore_n 3, 1) := by decide +kernel
theorem d_H_readUnit_59 : decode prog_7_method_3_code 59 = .ok (.aload_n 0, 1) := by decide +kernel
theorem d_H_readUnit_60 : decode prog_7_method_3_code 60 = .ok (.getfield 26, 3) := by decide +kernel
theorem d_H_readUnit_63 : decode prog_7_method_3_code 63 = .ok (.iload_n 2, 1) := by decide +kernel
theorem d_H_readUnit_64 : decode prog_7_method_3_code 64 = .ok (.invokevirtual 64, 3) := by decide +kernel
theorem d_H_readUnit_67 : decode prog_7_method_3_code 67 = .ok (.ifCond .ne 6, 3) := by decide +kernel
theorem d_H_readUnit_70 : decode prog_7_method_3_code 70 = .ok (.bipush 7, 2) := by decide +kernel
theorem d_H_readUnit_72 : decode prog_7_method_3_code 72 = .ok (.ireturn, 1) := by decide +kernel
theorem d_H_readUnit_73 : decode prog_7_method_3_code 73 = .ok (.aload_n 0, 1) := by decide +kernel
theorem d_H_readUnit_74 : decode prog_7_method_3_code 74 = .ok (.getfield 30, 3) := by decide +kernel
