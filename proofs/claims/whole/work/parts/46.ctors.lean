/-! constructors, written by a program -/
abbrev y_B_init : MethodName := ⟨"StillPicture$Boxes", "<init>", "([I)V"⟩
abbrev M_B_init : zx_M := ("StillPicture$Boxes", prog_2_method_1_code, 2, none, 1, 14)
abbrev y_U_init : MethodName := ⟨"StillPicture$Cursor", "<init>", "([I)V"⟩
abbrev M_U_init : zx_M := ("StillPicture$Cursor", prog_4_method_1_code, 2, none, 1, 14)
abbrev y_I_init : MethodName := ⟨"StillPicture$Item", "<init>", "([ILStillPicture$Boxes;)V"⟩
abbrev M_I_init : zx_M := ("StillPicture$Item", prog_8_method_1_code, 3, none, 2, 35)
abbrev y_H_init : MethodName := ⟨"StillPicture$Header", "<init>", "(LStillPicture$Item;)V"⟩
abbrev M_H_init : zx_M := ("StillPicture$Header", prog_7_method_1_code, 2, none, 2, 35)
abbrev y_C_init : MethodName := ⟨"StillPicture$Coder", "<init>", "([I)V"⟩
abbrev M_C_init : zx_M := ("StillPicture$Coder", prog_3_method_1_code, 2, none, 1, 14)
abbrev y_P_init : MethodName := ⟨"StillPicture$Picture", "<init>", "()V"⟩
abbrev M_P_init : zx_M := ("StillPicture$Picture", prog_9_method_1_code, 1, none, 1, 14)
abbrev y_D_init : MethodName := ⟨"StillPicture$Differences", "<init>", "(LStillPicture$Coder;)V"⟩
abbrev M_D_init : zx_M := ("StillPicture$Differences", prog_5_method_1_code, 2, none, 1, 14)
abbrev y_E_init : MethodName := ⟨"StillPicture$Prediction", "<init>", "(LStillPicture$Picture;)V"⟩
abbrev M_E_init : zx_M := ("StillPicture$Prediction", prog_10_method_1_code, 2, none, 1, 14)
abbrev y_T_init : MethodName := ⟨"StillPicture$Tile", "<init>", "(LStillPicture$Header;LStillPicture$Coder;LStillPicture$Picture;)V"⟩
abbrev M_T_init : zx_M := ("StillPicture$Tile", prog_11_method_1_code, 4, none, 2, 35)
abbrev y_F_init : MethodName := ⟨"StillPicture$Filter", "<init>", "(LStillPicture$Header;LStillPicture$Picture;)V"⟩
abbrev M_F_init : zx_M := ("StillPicture$Filter", prog_6_method_1_code, 3, none, 1, 14)
abbrev y_S_init : MethodName := ⟨"StillPicture", "<init>", "()V"⟩
abbrev M_S_init : zx_M := ("StillPicture", prog_1_method_1_code, 1, none, 3, 58)
abbrev y_M_init : MethodName := ⟨"StillPictureModel", "<init>", "()V"⟩
abbrev M_M_init : zx_M := ("StillPictureModel", prog_13_method_1_code, 1, none, 1, 14)
theorem d_B_init_0 : decode prog_2_method_1_code 0 = .ok (.aload_n 0, 1) := by decide +kernel
theorem d_B_init_1 : decode prog_2_method_1_code 1 = .ok (.invokespecial 3, 3) := by decide +kernel
theorem d_B_init_4 : decode prog_2_method_1_code 4 = .ok (.aload_n 0, 1) := by decide +kernel
theorem d_B_init_5 : decode prog_2_method_1_code 5 = .ok (.bipush 16, 2) := by decide +kernel
theorem d_B_init_7 : decode prog_2_method_1_code 7 = .ok (.newarray .int, 2) := by decide +kernel
theorem d_B_init_9 : decode prog_2_method_1_code 9 = .ok (.putfield 11, 3) := by decide +kernel
theorem d_B_init_12 : decode prog_2_method_1_code 12 = .ok (.aload_n 0, 1) := by decide +kernel
theorem d_B_init_13 : decode prog_2_method_1_code 13 = .ok (.bipush 16, 2) := by decide +kernel
theorem d_B_init_15 : decode prog_2_method_1_code 15 = .ok (.newarray .int, 2) := by decide +kernel
theorem d_B_init_17 : decode prog_2_method_1_code 17 = .ok (.putfield 15, 3) := by decide +kernel
theorem d_B_init_20 : decode prog_2_method_1_code 20 = .ok (.aload_n 0, 1) := by decide +kernel
theorem d_B_init_21 : decode prog_2_method_1_code 21 = .ok (.bipush 16, 2) := by decide +kernel
theorem d_B_init_23 : decode prog_2_method_1_code 23 = .ok (.newarray .int, 2) := by decide +kernel
theorem d_B_init_25 : decode prog_2_method_1_code 25 = .ok (.putfield 18, 3) := by decide +kernel
theorem d_B_init_28 : decode prog_2_method_1_code 28 = .ok (.aload_n 0, 1) := by decide +kernel
theorem d_B_init_29 : decode prog_2_method_1_code 29 = .ok (.bipush 16, 2) := by decide +kernel
theorem d_B_init_31 : decode prog_2_method_1_code 31 = .ok (.newarray .int, 2) := by decide +kernel
theorem d_B_init_33 : decode prog_2_method_1_code 33 = .ok (.putfield 21, 3) := by decide +kernel
theorem d_B_init_36 : decode prog_2_method_1_code 36 = .ok (.aload_n 0, 1) := by decide +kernel
theorem d_B_init_37 : decode prog_2_method_1_code 37 = .ok (.bipush 16, 2) := by decide +kernel
theorem d_B_init_39 : decode prog_2_method_1_code 39 = .ok (.newarray .int, 2) := by decide +kernel
theorem d_B_init_41 : decode prog_2_method_1_code 41 = .ok (.putfield 24, 3) := by decide +kernel
theorem d_B_init_44 : decode prog_2_method_1_code 44 = .ok (.aload_n 0, 1) := by decide +kernel
theorem d_B_init_45 : decode prog_2_method_1_code 45 = .ok (.aload_n 1, 1) := by decide +kernel
theorem d_B_init_46 : decode prog_2_method_1_code 46 = .ok (.putfield 27, 3) := by decide +kernel
theorem d_B_init_49 : decode prog_2_method_1_code 49 = .ok (.return_, 1) := by decide +kernel
theorem d_U_init_0 : decode prog_4_method_1_code 0 = .ok (.aload_n 0, 1) := by decide +kernel
theorem d_U_init_1 : decode prog_4_method_1_code 1 = .ok (.invokespecial 1, 3) := by decide +kernel
theorem d_U_init_4 : decode prog_4_method_1_code 4 = .ok (.aload_n 0, 1) := by decide +kernel
theorem d_U_init_5 : decode prog_4_method_1_code 5 = .ok (.aload_n 1, 1) := by decide +kernel
theorem d_U_init_6 : decode prog_4_method_1_code 6 = .ok (.putfield 7, 3) := by decide +kernel
theorem d_U_init_9 : decode prog_4_method_1_code 9 = .ok (.return_, 1) := by decide +kernel
theorem d_I_init_0 : decode prog_8_method_1_code 0 = .ok (.aload_n 0, 1) := by decide +kernel
theorem d_I_init_1 : decode prog_8_method_1_code 1 = .ok (.invokespecial 3, 3) := by decide +kernel
theorem d_I_init_4 : decode prog_8_method_1_code 4 = .ok (.aload_n 0, 1) := by decide +kernel
theorem d_I_init_5 : decode prog_8_method_1_code 5 = .ok (.sipush 200, 3) := by decide +kernel
theorem d_I_init_8 : decode prog_8_method_1_code 8 = .ok (.newarray .int, 2) := by decide +kernel
theorem d_I_init_10 : decode prog_8_method_1_code 10 = .ok (.putfield 11, 3) := by decide +kernel
theorem d_I_init_13 : decode prog_8_method_1_code 13 = .ok (.aload_n 0, 1) := by decide +kernel
theorem d_I_init_14 : decode prog_8_method_1_code 14 = .ok (.aload_n 1, 1) := by decide +kernel
theorem d_I_init_15 : decode prog_8_method_1_code 15 = .ok (.putfield 15, 3) := by decide +kernel
theorem d_I_init_18 : decode prog_8_method_1_code 18 = .ok (.aload_n 0, 1) := by decide +kernel
theorem d_I_init_19 : decode prog_8_method_1_code 19 = .ok (.aload_n 2, 1) := by decide +kernel
theorem d_I_init_20 : decode prog_8_method_1_code 20 = .ok (.putfield 18, 3) := by decide +kernel
theorem d_I_init_23 : decode prog_8_method_1_code 23 = .ok (.aload_n 0, 1) := by decide +kernel
theorem d_I_init_24 : decode prog_8_method_1_code 24 = .ok (.new 22, 3) := by decide +kernel
theorem d_I_init_27 : decode prog_8_method_1_code 27 = .ok (.dup, 1) := by decide +kernel
theorem d_I_init_28 : decode prog_8_method_1_code 28 = .ok (.aload_n 1, 1) := by decide +kernel
theorem d_I_init_29 : decode prog_8_method_1_code 29 = .ok (.invokespecial 24, 3) := by decide +kernel
theorem d_I_init_32 : decode prog_8_method_1_code 32 = .ok (.putfield 27, 3) := by decide +kernel
theorem d_I_init_35 : decode prog_8_method_1_code 35 = .ok (.return_, 1) := by decide +kernel
theorem d_H_init_0 : decode prog_7_method_1_code 0 = .ok (.aload_n 0, 1) := by decide +kernel
theorem d_H_init_1 : decode prog_7_method_1_code 1 = .ok (.invokespecial 3, 3) := by decide +kernel
theorem d_H_init_4 : decode prog_7_method_1_code 4 = .ok (.aload_n 0, 1) := by decide +kernel
theorem d_H_init_5 : decode prog_7_method_1_code 5 = .ok (.aload_n 1, 1) := by decide +kernel
theorem d_H_init_6 : decode prog_7_method_1_code 6 = .ok (.putfield 9, 3) := by decide +kernel
theorem d_H_init_9 : decode prog_7_method_1_code 9 = .ok (.aload_n 0, 1) := by decide +kernel
theorem d_H_init_10 : decode prog_7_method_1_code 10 = .ok (.new 15, 3) := by decide +kernel
theorem d_H_init_13 : decode prog_7_method_1_code 13 = .ok (.dup, 1) := by decide +kernel
theorem d_H_init_14 : decode prog_7_method_1_code 14 = .ok (.aload_n 1, 1) := by decide +kernel
theorem d_H_init_15 : decode prog_7_method_1_code 15 = .ok (.getfield 17, 3) := by decide +kernel
theorem d_H_init_18 : decode prog_7_method_1_code 18 = .ok (.invokespecial 23, 3) := by decide +kernel
theorem d_H_init_21 : decode prog_7_method_1_code 21 = .ok (.putfield 26, 3) := by decide +kernel
theorem d_H_init_24 : decode prog_7_method_1_code 24 = .ok (.aload_n 0, 1) := by decide +kernel
theorem d_H_init_25 : decode prog_7_method_1_code 25 = .ok (.new 15, 3) := by decide +kernel
theorem d_H_init_28 : decode prog_7_method_1_code 28 = .ok (.dup, 1) := by decide +kernel
theorem d_H_init_29 : decode prog_7_method_1_code 29 = .ok (.aload_n 1, 1) := by decide +kernel
theorem d_H_init_30 : decode prog_7_method_1_code 30 = .ok (.getfield 17, 3) := by decide +kernel
theorem d_H_init_33 : decode prog_7_method_1_code 33 = .ok (.invokespecial 23, 3) := by decide +kernel
theorem d_H_init_36 : decode prog_7_method_1_code 36 = .ok (.putfield 30, 3) := by decide +kernel
theorem d_H_init_39 : decode prog_7_method_1_code 39 = .ok (.return_, 1) := by decide +kernel
theorem d_C_init_0 : decode prog_3_method_1_code 0 = .ok (.aload_n 0, 1) := by decide +kernel
theorem d_C_init_1 : decode prog_3_method_1_code 1 = .ok (.invokespecial 1, 3) := by decide +kernel
theorem d_C_init_4 : decode prog_3_method_1_code 4 = .ok (.aload_n 0, 1) := by decide +kernel
theorem d_C_init_5 : decode prog_3_method_1_code 5 = .ok (.sipush 304, 3) := by decide +kernel
theorem d_C_init_8 : decode prog_3_method_1_code 8 = .ok (.newarray .int, 2) := by decide +kernel
theorem d_C_init_10 : decode prog_3_method_1_code 10 = .ok (.putfield 9, 3) := by decide +kernel
theorem d_C_init_13 : decode prog_3_method_1_code 13 = .ok (.aload_n 0, 1) := by decide +kernel
theorem d_C_init_14 : decode prog_3_method_1_code 14 = .ok (.bipush 19, 2) := by decide +kernel
theorem d_C_init_16 : decode prog_3_method_1_code 16 = .ok (.newarray .int, 2) := by decide +kernel
theorem d_C_init_18 : decode prog_3_method_1_code 18 = .ok (.putfield 13, 3) := by decide +kernel
theorem d_C_init_21 : decode prog_3_method_1_code 21 = .ok (.aload_n 0, 1) := by decide +kernel
theorem d_C_init_22 : decode prog_3_method_1_code 22 = .ok (.aload_n 1, 1) := by decide +kernel
theorem d_C_init_23 : decode prog_3_method_1_code 23 = .ok (.putfield 16, 3) := by decide +kernel
theorem d_C_init_26 : decode prog_3_method_1_code 26 = .ok (.return_, 1) := by decide +kernel
theorem d_P_init_0 : decode prog_9_method_1_code 0 = .ok (.aload_n 0, 1) := by decide +kernel
theorem d_P_init_1 : decode prog_9_method_1_code 1 = .ok (.invokespecial 1, 3) := by decide +kernel
theorem d_P_init_4 : decode prog_9_method_1_code 4 = .ok (.aload_n 0, 1) := by decide +kernel
theorem d_P_init_5 : decode prog_9_method_1_code 5 = .ok (.sipush 768, 3) := by decide +kernel
theorem d_P_init_8 : decode prog_9_method_1_code 8 = .ok (.newarray .int, 2) := by decide +kernel
theorem d_P_init_10 : decode prog_9_method_1_code 10 = .ok (.putfield 9, 3) := by decide +kernel
theorem d_P_init_13 : decode prog_9_method_1_code 13 = .ok (.aload_n 0, 1) := by decide +kernel
theorem d_P_init_14 : decode prog_9_method_1_code 14 = .ok (.bipush 16, 2) := by decide +kernel
theorem d_P_init_16 : decode prog_9_method_1_code 16 = .ok (.newarray .int, 2) := by decide +kernel
theorem d_P_init_18 : decode prog_9_method_1_code 18 = .ok (.putfield 13, 3) := by decide +kernel
theorem d_P_init_21 : decode prog_9_method_1_code 21 = .ok (.aload_n 0, 1) := by decide +kernel
theorem d_P_init_22 : decode prog_9_method_1_code 22 = .ok (.bipush 64, 2) := by decide +kernel
theorem d_P_init_24 : decode prog_9_method_1_code 24 = .ok (.newarray .int, 2) := by decide +kernel
theorem d_P_init_26 : decode prog_9_method_1_code 26 = .ok (.putfield 16, 3) := by decide +kernel
theorem d_P_init_29 : decode prog_9_method_1_code 29 = .ok (.return_, 1) := by decide +kernel
theorem d_D_init_0 : decode prog_5_method_1_code 0 = .ok (.aload_n 0, 1) := by decide +kernel
theorem d_D_init_1 : decode prog_5_method_1_code 1 = .ok (.invokespecial 1, 3) := by decide +kernel
theorem d_D_init_4 : decode prog_5_method_1_code 4 = .ok (.aload_n 0, 1) := by decide +kernel
theorem d_D_init_5 : decode prog_5_method_1_code 5 = .ok (.bipush 16, 2) := by decide +kernel
theorem d_D_init_7 : decode prog_5_method_1_code 7 = .ok (.newarray .int, 2) := by decide +kernel
theorem d_D_init_9 : decode prog_5_method_1_code 9 = .ok (.putfield 7, 3) := by decide +kernel
theorem d_D_init_12 : decode prog_5_method_1_code 12 = .ok (.aload_n 0, 1) := by decide +kernel
theorem d_D_init_13 : decode prog_5_method_1_code 13 = .ok (.iconst 4, 1) := by decide +kernel
theorem d_D_init_14 : decode prog_5_method_1_code 14 = .ok (.newarray .int, 2) := by decide +kernel
theorem d_D_init_16 : decode prog_5_method_1_code 16 = .ok (.putfield 13, 3) := by decide +kernel
theorem d_D_init_19 : decode prog_5_method_1_code 19 = .ok (.aload_n 0, 1) := by decide +kernel
theorem d_D_init_20 : decode prog_5_method_1_code 20 = .ok (.aload_n 1, 1) := by decide +kernel
theorem d_D_init_21 : decode prog_5_method_1_code 21 = .ok (.putfield 16, 3) := by decide +kernel
theorem d_D_init_24 : decode prog_5_method_1_code 24 = .ok (.return_, 1) := by decide +kernel
theorem d_E_init_0 : decode prog_10_method_1_code 0 = .ok (.aload_n 0, 1) := by decide +kernel
theorem d_E_init_1 : decode prog_10_method_1_code 1 = .ok (.invokespecial 1, 3) := by decide +kernel
theorem d_E_init_4 : decode prog_10_method_1_code 4 = .ok (.aload_n 0, 1) := by decide +kernel
theorem d_E_init_5 : decode prog_10_method_1_code 5 = .ok (.bipush 16, 2) := by decide +kernel
theorem d_E_init_7 : decode prog_10_method_1_code 7 = .ok (.newarray .int, 2) := by decide +kernel
theorem d_E_init_9 : decode prog_10_method_1_code 9 = .ok (.putfield 7, 3) := by decide +kernel
theorem d_E_init_12 : decode prog_10_method_1_code 12 = .ok (.aload_n 0, 1) := by decide +kernel
theorem d_E_init_13 : decode prog_10_method_1_code 13 = .ok (.iconst 4, 1) := by decide +kernel
theorem d_E_init_14 : decode prog_10_method_1_code 14 = .ok (.newarray .int, 2) := by decide +kernel
theorem d_E_init_16 : decode prog_10_method_1_code 16 = .ok (.putfield 13, 3) := by decide +kernel
theorem d_E_init_19 : decode prog_10_method_1_code 19 = .ok (.aload_n 0, 1) := by decide +kernel
theorem d_E_init_20 : decode prog_10_method_1_code 20 = .ok (.iconst 4, 1) := by decide +kernel
theorem d_E_init_21 : decode prog_10_method_1_code 21 = .ok (.newarray .int, 2) := by decide +kernel
theorem d_E_init_23 : decode prog_10_method_1_code 23 = .ok (.putfield 16, 3) := by decide +kernel
theorem d_E_init_26 : decode prog_10_method_1_code 26 = .ok (.aload_n 0, 1) := by decide +kernel
theorem d_E_init_27 : decode prog_10_method_1_code 27 = .ok (.aload_n 1, 1) := by decide +kernel
theorem d_E_init_28 : decode prog_10_method_1_code 28 = .ok (.putfield 19, 3) := by decide +kernel
theorem d_E_init_31 : decode prog_10_method_1_code 31 = .ok (.return_, 1) := by decide +kernel
theorem d_T_init_0 : decode prog_11_method_1_code 0 = .ok (.aload_n 0, 1) := by decide +kernel
theorem d_T_init_1 : decode prog_11_method_1_code 1 = .ok (.invokespecial 3, 3) := by decide +kernel
theorem d_T_init_4 : decode prog_11_method_1_code 4 = .ok (.aload_n 0, 1) := by decide +kernel
theorem d_T_init_5 : decode prog_11_method_1_code 5 = .ok (.iconst 3, 1) := by decide +kernel
theorem d_T_init_6 : decode prog_11_method_1_code 6 = .ok (.newarray .int, 2) := by decide +kernel
theorem d_T_init_8 : decode prog_11_method_1_code 8 = .ok (.putfield 9, 3) := by decide +kernel
theorem d_T_init_11 : decode prog_11_method_1_code 11 = .ok (.aload_n 0, 1) := by decide +kernel
theorem d_T_init_12 : decode prog_11_method_1_code 12 = .ok (.aload_n 1, 1) := by decide +kernel
theorem d_T_init_13 : decode prog_11_method_1_code 13 = .ok (.putfield 15, 3) := by decide +kernel
theorem d_T_init_16 : decode prog_11_method_1_code 16 = .ok (.aload_n 0, 1) := by decide +kernel
theorem d_T_init_17 : decode prog_11_method_1_code 17 = .ok (.aload_n 2, 1) := by decide +kernel
theorem d_T_init_18 : decode prog_11_method_1_code 18 = .ok (.putfield 19, 3) := by decide +kernel
theorem d_T_init_21 : decode prog_11_method_1_code 21 = .ok (.aload_n 0, 1) := by decide +kernel
theorem d_T_init_22 : decode prog_11_method_1_code 22 = .ok (.aload_n 3, 1) := by decide +kernel
theorem d_T_init_23 : decode prog_11_method_1_code 23 = .ok (.putfield 23, 3) := by decide +kernel
theorem d_T_init_26 : decode prog_11_method_1_code 26 = .ok (.aload_n 0, 1) := by decide +kernel
theorem d_T_init_27 : decode prog_11_method_1_code 27 = .ok (.new 27, 3) := by decide +kernel
theorem d_T_init_30 : decode prog_11_method_1_code 30 = .ok (.dup, 1) := by decide +kernel
theorem d_T_init_31 : decode prog_11_method_1_code 31 = .ok (.aload_n 2, 1) := by decide +kernel
theorem d_T_init_32 : decode prog_11_method_1_code 32 = .ok (.invokespecial 29, 3) := by decide +kernel
theorem d_T_init_35 : decode prog_11_method_1_code 35 = .ok (.putfield 32, 3) := by decide +kernel
theorem d_T_init_38 : decode prog_11_method_1_code 38 = .ok (.aload_n 0, 1) := by decide +kernel
theorem d_T_init_39 : decode prog_11_method_1_code 39 = .ok (.new 36, 3) := by decide +kernel
theorem d_T_init_42 : decode prog_11_method_1_code 42 = .ok (.dup, 1) := by decide +kernel
theorem d_T_init_43 : decode prog_11_method_1_code 43 = .ok (.aload_n 3, 1) := by decide +kernel
theorem d_T_init_44 : decode prog_11_method_1_code 44 = .ok (.invokespecial 38, 3) := by decide +kernel
theorem d_T_init_47 : decode prog_11_method_1_code 47 = .ok (.putfield 41, 3) := by decide +kernel
theorem d_T_init_50 : decode prog_11_method_1_code 50 = .ok (.return_, 1) := by decide +kernel
theorem d_F_init_0 : decode prog_6_method_1_code 0 = .ok (.aload_n 0, 1) := by decide +kernel
theorem d_F_init_1 : decode prog_6_method_1_code 1 = .ok (.invokespecial 1, 3) := by decide +kernel
theorem d_F_init_4 : decode prog_6_method_1_code 4 = .ok (.aload_n 0, 1) := by decide +kernel
theorem d_F_init_5 : decode prog_6_method_1_code 5 = .ok (.sipush 256, 3) := by decide +kernel
theorem d_F_init_8 : decode prog_6_method_1_code 8 = .ok (.newarray .int, 2) := by decide +kernel
theorem d_F_init_10 : decode prog_6_method_1_code 10 = .ok (.putfield 9, 3) := by decide +kernel
theorem d_F_init_13 : decode prog_6_method_1_code 13 = .ok (.aload_n 0, 1) := by decide +kernel
theorem d_F_init_14 : decode prog_6_method_1_code 14 = .ok (.aload_n 1, 1) := by decide +kernel
theorem d_F_init_15 : decode prog_6_method_1_code 15 = .ok (.putfield 15, 3) := by decide +kernel
theorem d_F_init_18 : decode prog_6_method_1_code 18 = .ok (.aload_n 0, 1) := by decide +kernel
theorem d_F_init_19 : decode prog_6_method_1_code 19 = .ok (.aload_n 2, 1) := by decide +kernel
theorem d_F_init_20 : decode prog_6_method_1_code 20 = .ok (.putfield 19, 3) := by decide +kernel
theorem d_F_init_23 : decode prog_6_method_1_code 23 = .ok (.return_, 1) := by decide +kernel
theorem d_S_init_0 : decode prog_1_method_1_code 0 = .ok (.aload_n 0, 1) := by decide +kernel
theorem d_S_init_1 : decode prog_1_method_1_code 1 = .ok (.invokespecial 1, 3) := by decide +kernel
theorem d_S_init_4 : decode prog_1_method_1_code 4 = .ok (.aload_n 0, 1) := by decide +kernel
theorem d_S_init_5 : decode prog_1_method_1_code 5 = .ok (.sipush 240, 3) := by decide +kernel
theorem d_S_init_8 : decode prog_1_method_1_code 8 = .ok (.newarray .int, 2) := by decide +kernel
theorem d_S_init_10 : decode prog_1_method_1_code 10 = .ok (.putfield 9, 3) := by decide +kernel
theorem d_S_init_13 : decode prog_1_method_1_code 13 = .ok (.aload_n 0, 1) := by decide +kernel
theorem d_S_init_14 : decode prog_1_method_1_code 14 = .ok (.new 13, 3) := by decide +kernel
theorem d_S_init_17 : decode prog_1_method_1_code 17 = .ok (.dup, 1) := by decide +kernel
theorem d_S_init_18 : decode prog_1_method_1_code 18 = .ok (.aload_n 0, 1) := by decide +kernel
theorem d_S_init_19 : decode prog_1_method_1_code 19 = .ok (.getfield 9, 3) := by decide +kernel
theorem d_S_init_22 : decode prog_1_method_1_code 22 = .ok (.invokespecial 15, 3) := by decide +kernel
theorem d_S_init_25 : decode prog_1_method_1_code 25 = .ok (.putfield 18, 3) := by decide +kernel
theorem d_S_init_28 : decode prog_1_method_1_code 28 = .ok (.aload_n 0, 1) := by decide +kernel
theorem d_S_init_29 : decode prog_1_method_1_code 29 = .ok (.new 22, 3) := by decide +kernel
theorem d_S_init_32 : decode prog_1_method_1_code 32 = .ok (.dup, 1) := by decide +kernel
theorem d_S_init_33 : decode prog_1_method_1_code 33 = .ok (.aload_n 0, 1) := by decide +kernel
theorem d_S_init_34 : decode prog_1_method_1_code 34 = .ok (.getfield 9, 3) := by decide +kernel
theorem d_S_init_37 : decode prog_1_method_1_code 37 = .ok (.aload_n 0, 1) := by decide +kernel
theorem d_S_init_38 : decode prog_1_method_1_code 38 = .ok (.getfield 18, 3) := by decide +kernel
theorem d_S_init_41 : decode prog_1_method_1_code 41 = .ok (.invokespecial 24, 3) := by decide +kernel
theorem d_S_init_44 : decode prog_1_method_1_code 44 = .ok (.putfield 27, 3) := by decide +kernel
theorem d_S_init_47 : decode prog_1_method_1_code 47 = .ok (.aload_n 0, 1) := by decide +kernel
theorem d_S_init_48 : decode prog_1_method_1_code 48 = .ok (.new 31, 3) := by decide +kernel
theorem d_S_init_51 : decode prog_1_method_1_code 51 = .ok (.dup, 1) := by decide +kernel
theorem d_S_init_52 : decode prog_1_method_1_code 52 = .ok (.aload_n 0, 1) := by decide +kernel
theorem d_S_init_53 : decode prog_1_method_1_code 53 = .ok (.getfield 27, 3) := by decide +kernel
theorem d_S_init_56 : decode prog_1_method_1_code 56 = .ok (.invokespecial 33, 3) := by decide +kernel
theorem d_S_init_59 : decode prog_1_method_1_code 59 = .ok (.putfield 36, 3) := by decide +kernel
theorem d_S_init_62 : decode prog_1_method_1_code 62 = .ok (.aload_n 0, 1) := by decide +kernel
theorem d_S_init_63 : decode prog_1_method_1_code 63 = .ok (.new 40, 3) := by decide +kernel
theorem d_S_init_66 : decode prog_1_method_1_code 66 = .ok (.dup, 1) := by decide +kernel
theorem d_S_init_67 : decode prog_1_method_1_code 67 = .ok (.aload_n 0, 1) := by decide +kernel
theorem d_S_init_68 : decode prog_1_method_1_code 68 = .ok (.getfield 27, 3) := by decide +kernel
theorem d_S_init_71 : decode prog_1_method_1_code 71 = .ok (.getfield 42, 3) := by decide +kernel
theorem d_S_init_74 : decode prog_1_method_1_code 74 = .ok (.invokespecial 45, 3) := by decide +kernel
theorem d_S_init_77 : decode prog_1_method_1_code 77 = .ok (.putfield 46, 3) := by decide +kernel
theorem d_S_init_80 : decode prog_1_method_1_code 80 = .ok (.aload_n 0, 1) := by decide +kernel
theorem d_S_init_81 : decode prog_1_method_1_code 81 = .ok (.new 50, 3) := by decide +kernel
theorem d_S_init_84 : decode prog_1_method_1_code 84 = .ok (.dup, 1) := by decide +kernel
theorem d_S_init_85 : decode prog_1_method_1_code 85 = .ok (.invokespecial 52, 3) := by decide +kernel
theorem d_S_init_88 : decode prog_1_method_1_code 88 = .ok (.putfield 53, 3) := by decide +kernel
theorem d_S_init_91 : decode prog_1_method_1_code 91 = .ok (.aload_n 0, 1) := by decide +kernel
theorem d_S_init_92 : decode prog_1_method_1_code 92 = .ok (.new 57, 3) := by decide +kernel
theorem d_S_init_95 : decode prog_1_method_1_code 95 = .ok (.dup, 1) := by decide +kernel
theorem d_S_init_96 : decode prog_1_method_1_code 96 = .ok (.aload_n 0, 1) := by decide +kernel
theorem d_S_init_97 : decode prog_1_method_1_code 97 = .ok (.getfield 36, 3) := by decide +kernel
theorem d_S_init_100 : decode prog_1_method_1_code 100 = .ok (.aload_n 0, 1) := by decide +kernel
theorem d_S_init_101 : decode prog_1_method_1_code 101 = .ok (.getfield 46, 3) := by decide +kernel
theorem d_S_init_104 : decode prog_1_method_1_code 104 = .ok (.aload_n 0, 1) := by decide +kernel
theorem d_S_init_105 : decode prog_1_method_1_code 105 = .ok (.getfield 53, 3) := by decide +kernel
theorem d_S_init_108 : decode prog_1_method_1_code 108 = .ok (.invokespecial 59, 3) := by decide +kernel
theorem d_S_init_111 : decode prog_1_method_1_code 111 = .ok (.putfield 62, 3) := by decide +kernel
theorem d_S_init_114 : decode prog_1_method_1_code 114 = .ok (.aload_n 0, 1) := by decide +kernel
theorem d_S_init_115 : decode prog_1_method_1_code 115 = .ok (.new 66, 3) := by decide +kernel
theorem d_S_init_118 : decode prog_1_method_1_code 118 = .ok (.dup, 1) := by decide +kernel
theorem d_S_init_119 : decode prog_1_method_1_code 119 = .ok (.aload_n 0, 1) := by decide +kernel
theorem d_S_init_120 : decode prog_1_method_1_code 120 = .ok (.getfield 36, 3) := by decide +kernel
theorem d_S_init_123 : decode prog_1_method_1_code 123 = .ok (.aload_n 0, 1) := by decide +kernel
theorem d_S_init_124 : decode prog_1_method_1_code 124 = .ok (.getfield 53, 3) := by decide +kernel
theorem d_S_init_127 : decode prog_1_method_1_code 127 = .ok (.invokespecial 68, 3) := by decide +kernel
theorem d_S_init_130 : decode prog_1_method_1_code 130 = .ok (.putfield 71, 3) := by decide +kernel
theorem d_S_init_133 : decode prog_1_method_1_code 133 = .ok (.aload_n 0, 1) := by decide +kernel
theorem d_S_init_134 : decode prog_1_method_1_code 134 = .ok (.iconst 0, 1) := by decide +kernel
theorem d_S_init_135 : decode prog_1_method_1_code 135 = .ok (.putfield 75, 3) := by decide +kernel
theorem d_S_init_138 : decode prog_1_method_1_code 138 = .ok (.aload_n 0, 1) := by decide +kernel
theorem d_S_init_139 : decode prog_1_method_1_code 139 = .ok (.iconst 0, 1) := by decide +kernel
theorem d_S_init_140 : decode prog_1_method_1_code 140 = .ok (.putfield 79, 3) := by decide +kernel
theorem d_S_init_143 : decode prog_1_method_1_code 143 = .ok (.return_, 1) := by decide +kernel
theorem d_M_init_0 : decode prog_13_method_1_code 0 = .ok (.aload_n 0, 1) := by decide +kernel
theorem d_M_init_1 : decode prog_13_method_1_code 1 = .ok (.invokespecial 1, 3) := by decide +kernel
theorem d_M_init_4 : decode prog_13_method_1_code 4 = .ok (.aload_n 0, 1) := by decide +kernel
theorem d_M_init_5 : decode prog_13_method_1_code 5 = .ok (.sipush 240, 3) := by decide +kernel
theorem d_M_init_8 : decode prog_13_method_1_code 8 = .ok (.newarray .int, 2) := by decide +kernel
theorem d_M_init_10 : decode prog_13_method_1_code 10 = .ok (.putfield 7, 3) := by decide +kernel
theorem d_M_init_13 : decode prog_13_method_1_code 13 = .ok (.aload_n 0, 1) := by decide +kernel
theorem d_M_init_14 : decode prog_13_method_1_code 14 = .ok (.bipush 16, 2) := by decide +kernel
theorem d_M_init_16 : decode prog_13_method_1_code 16 = .ok (.newarray .int, 2) := by decide +kernel
theorem d_M_init_18 : decode prog_13_method_1_code 18 = .ok (.putfield 13, 3) := by decide +kernel
theorem d_M_init_21 : decode prog_13_method_1_code 21 = .ok (.aload_n 0, 1) := by decide +kernel
theorem d_M_init_22 : decode prog_13_method_1_code 22 = .ok (.bipush 16, 2) := by decide +kernel
theorem d_M_init_24 : decode prog_13_method_1_code 24 = .ok (.newarray .int, 2) := by decide +kernel
theorem d_M_init_26 : decode prog_13_method_1_code 26 = .ok (.putfield 16, 3) := by decide +kernel
theorem d_M_init_29 : decode prog_13_method_1_code 29 = .ok (.aload_n 0, 1) := by decide +kernel
theorem d_M_init_30 : decode prog_13_method_1_code 30 = .ok (.bipush 16, 2) := by decide +kernel
theorem d_M_init_32 : decode prog_13_method_1_code 32 = .ok (.newarray .int, 2) := by decide +kernel
theorem d_M_init_34 : decode prog_13_method_1_code 34 = .ok (.putfield 19, 3) := by decide +kernel
theorem d_M_init_37 : decode prog_13_method_1_code 37 = .ok (.aload_n 0, 1) := by decide +kernel
theorem d_M_init_38 : decode prog_13_method_1_code 38 = .ok (.bipush 16, 2) := by decide +kernel
theorem d_M_init_40 : decode prog_13_method_1_code 40 = .ok (.newarray .int, 2) := by decide +kernel
theorem d_M_init_42 : decode prog_13_method_1_code 42 = .ok (.putfield 22, 3) := by decide +kernel
theorem d_M_init_45 : decode prog_13_method_1_code 45 = .ok (.aload_n 0, 1) := by decide +kernel
theorem d_M_init_46 : decode prog_13_method_1_code 46 = .ok (.bipush 16, 2) := by decide +kernel
theorem d_M_init_48 : decode prog_13_method_1_code 48 = .ok (.newarray .int, 2) := by decide +kernel
theorem d_M_init_50 : decode prog_13_method_1_code 50 = .ok (.putfield 25, 3) := by decide +kernel
theorem d_M_init_53 : decode prog_13_method_1_code 53 = .ok (.aload_n 0, 1) := by decide +kernel
theorem d_M_init_54 : decode prog_13_method_1_code 54 = .ok (.sipush 200, 3) := by decide +kernel
theorem d_M_init_57 : decode prog_13_method_1_code 57 = .ok (.newarray .int, 2) := by decide +kernel
theorem d_M_init_59 : decode prog_13_method_1_code 59 = .ok (.putfield 28, 3) := by decide +kernel
theorem d_M_init_62 : decode prog_13_method_1_code 62 = .ok (.aload_n 0, 1) := by decide +kernel
theorem d_M_init_63 : decode prog_13_method_1_code 63 = .ok (.sipush 304, 3) := by decide +kernel
theorem d_M_init_66 : decode prog_13_method_1_code 66 = .ok (.newarray .int, 2) := by decide +kernel
theorem d_M_init_68 : decode prog_13_method_1_code 68 = .ok (.putfield 31, 3) := by decide +kernel
theorem d_M_init_71 : decode prog_13_method_1_code 71 = .ok (.aload_n 0, 1) := by decide +kernel
theorem d_M_init_72 : decode prog_13_method_1_code 72 = .ok (.bipush 19, 2) := by decide +kernel
theorem d_M_init_74 : decode prog_13_method_1_code 74 = .ok (.newarray .int, 2) := by decide +kernel
theorem d_M_init_76 : decode prog_13_method_1_code 76 = .ok (.putfield 34, 3) := by decide +kernel
theorem d_M_init_79 : decode prog_13_method_1_code 79 = .ok (.aload_n 0, 1) := by decide +kernel
theorem d_M_init_80 : decode prog_13_method_1_code 80 = .ok (.sipush 768, 3) := by decide +kernel
theorem d_M_init_83 : decode prog_13_method_1_code 83 = .ok (.newarray .int, 2) := by decide +kernel
theorem d_M_init_85 : decode prog_13_method_1_code 85 = .ok (.putfield 37, 3) := by decide +kernel
theorem d_M_init_88 : decode prog_13_method_1_code 88 = .ok (.aload_n 0, 1) := by decide +kernel
theorem d_M_init_89 : decode prog_13_method_1_code 89 = .ok (.sipush 256, 3) := by decide +kernel
theorem d_M_init_92 : decode prog_13_method_1_code 92 = .ok (.newarray .int, 2) := by decide +kernel
theorem d_M_init_94 : decode prog_13_method_1_code 94 = .ok (.putfield 40, 3) := by decide +kernel
theorem d_M_init_97 : decode prog_13_method_1_code 97 = .ok (.aload_n 0, 1) := by decide +kernel
theorem d_M_init_98 : decode prog_13_method_1_code 98 = .ok (.bipush 16, 2) := by decide +kernel
theorem d_M_init_100 : decode prog_13_method_1_code 100 = .ok (.newarray .int, 2) := by decide +kernel
theorem d_M_init_102 : decode prog_13_method_1_code 102 = .ok (.putfield 43, 3) := by decide +kernel
theorem d_M_init_105 : decode prog_13_method_1_code 105 = .ok (.aload_n 0, 1) := by decide +kernel
theorem d_M_init_106 : decode prog_13_method_1_code 106 = .ok (.bipush 68, 2) := by decide +kernel
theorem d_M_init_108 : decode prog_13_method_1_code 108 = .ok (.newarray .int, 2) := by decide +kernel
theorem d_M_init_110 : decode prog_13_method_1_code 110 = .ok (.putfield 46, 3) := by decide +kernel
theorem d_M_init_113 : decode prog_13_method_1_code 113 = .ok (.aload_n 0, 1) := by decide +kernel
theorem d_M_init_114 : decode prog_13_method_1_code 114 = .ok (.iconst 2, 1) := by decide +kernel
theorem d_M_init_115 : decode prog_13_method_1_code 115 = .ok (.newarray .int, 2) := by decide +kernel
theorem d_M_init_117 : decode prog_13_method_1_code 117 = .ok (.putfield 49, 3) := by decide +kernel
theorem d_M_init_120 : decode prog_13_method_1_code 120 = .ok (.aload_n 0, 1) := by decide +kernel
theorem d_M_init_121 : decode prog_13_method_1_code 121 = .ok (.bipush 16, 2) := by decide +kernel
theorem d_M_init_123 : decode prog_13_method_1_code 123 = .ok (.newarray .int, 2) := by decide +kernel
theorem d_M_init_125 : decode prog_13_method_1_code 125 = .ok (.putfield 52, 3) := by decide +kernel
theorem d_M_init_128 : decode prog_13_method_1_code 128 = .ok (.aload_n 0, 1) := by decide +kernel
theorem d_M_init_129 : decode prog_13_method_1_code 129 = .ok (.iconst 4, 1) := by decide +kernel
theorem d_M_init_130 : decode prog_13_method_1_code 130 = .ok (.newarray .int, 2) := by decide +kernel
theorem d_M_init_132 : decode prog_13_method_1_code 132 = .ok (.putfield 55, 3) := by decide +kernel
theorem d_M_init_135 : decode prog_13_method_1_code 135 = .ok (.aload_n 0, 1) := by decide +kernel
theorem d_M_init_136 : decode prog_13_method_1_code 136 = .ok (.iconst 4, 1) := by decide +kernel
theorem d_M_init_137 : decode prog_13_method_1_code 137 = .ok (.newarray .int, 2) := by decide +kernel
theorem d_M_init_139 : decode prog_13_method_1_code 139 = .ok (.putfield 58, 3) := by decide +kernel
theorem d_M_init_142 : decode prog_13_method_1_code 142 = .ok (.aload_n 0, 1) := by decide +kernel
theorem d_M_init_143 : decode prog_13_method_1_code 143 = .ok (.iconst 4, 1) := by decide +kernel
theorem d_M_init_144 : decode prog_13_method_1_code 144 = .ok (.newarray .int, 2) := by decide +kernel
theorem d_M_init_146 : decode prog_13_method_1_code 146 = .ok (.putfield 61, 3) := by decide +kernel
theorem d_M_init_149 : decode prog_13_method_1_code 149 = .ok (.aload_n 0, 1) := by decide +kernel
theorem d_M_init_150 : decode prog_13_method_1_code 150 = .ok (.bipush 16, 2) := by decide +kernel
theorem d_M_init_152 : decode prog_13_method_1_code 152 = .ok (.newarray .int, 2) := by decide +kernel
theorem d_M_init_154 : decode prog_13_method_1_code 154 = .ok (.dup, 1) := by decide +kernel
theorem d_M_init_155 : decode prog_13_method_1_code 155 = .ok (.iconst 0, 1) := by decide +kernel
theorem d_M_init_156 : decode prog_13_method_1_code 156 = .ok (.iconst 0, 1) := by decide +kernel
theorem d_M_init_157 : decode prog_13_method_1_code 157 = .ok (.iastore, 1) := by decide +kernel
theorem d_M_init_158 : decode prog_13_method_1_code 158 = .ok (.dup, 1) := by decide +kernel
theorem d_M_init_159 : decode prog_13_method_1_code 159 = .ok (.iconst 1, 1) := by decide +kernel
theorem d_M_init_160 : decode prog_13_method_1_code 160 = .ok (.iconst 1, 1) := by decide +kernel
theorem d_M_init_161 : decode prog_13_method_1_code 161 = .ok (.iastore, 1) := by decide +kernel
theorem d_M_init_162 : decode prog_13_method_1_code 162 = .ok (.dup, 1) := by decide +kernel
theorem d_M_init_163 : decode prog_13_method_1_code 163 = .ok (.iconst 2, 1) := by decide +kernel
theorem d_M_init_164 : decode prog_13_method_1_code 164 = .ok (.iconst 4, 1) := by decide +kernel
theorem d_M_init_165 : decode prog_13_method_1_code 165 = .ok (.iastore, 1) := by decide +kernel
theorem d_M_init_166 : decode prog_13_method_1_code 166 = .ok (.dup, 1) := by decide +kernel
theorem d_M_init_167 : decode prog_13_method_1_code 167 = .ok (.iconst 3, 1) := by decide +kernel
theorem d_M_init_168 : decode prog_13_method_1_code 168 = .ok (.bipush 8, 2) := by decide +kernel
theorem d_M_init_170 : decode prog_13_method_1_code 170 = .ok (.iastore, 1) := by decide +kernel
theorem d_M_init_171 : decode prog_13_method_1_code 171 = .ok (.dup, 1) := by decide +kernel
theorem d_M_init_172 : decode prog_13_method_1_code 172 = .ok (.iconst 4, 1) := by decide +kernel
theorem d_M_init_173 : decode prog_13_method_1_code 173 = .ok (.iconst 5, 1) := by decide +kernel
theorem d_M_init_174 : decode prog_13_method_1_code 174 = .ok (.iastore, 1) := by decide +kernel
theorem d_M_init_175 : decode prog_13_method_1_code 175 = .ok (.dup, 1) := by decide +kernel
theorem d_M_init_176 : decode prog_13_method_1_code 176 = .ok (.iconst 5, 1) := by decide +kernel
theorem d_M_init_177 : decode prog_13_method_1_code 177 = .ok (.iconst 2, 1) := by decide +kernel
theorem d_M_init_178 : decode prog_13_method_1_code 178 = .ok (.iastore, 1) := by decide +kernel
theorem d_M_init_179 : decode prog_13_method_1_code 179 = .ok (.dup, 1) := by decide +kernel
theorem d_M_init_180 : decode prog_13_method_1_code 180 = .ok (.bipush 6, 2) := by decide +kernel
theorem d_M_init_182 : decode prog_13_method_1_code 182 = .ok (.iconst 3, 1) := by decide +kernel
theorem d_M_init_183 : decode prog_13_method_1_code 183 = .ok (.iastore, 1) := by decide +kernel
theorem d_M_init_184 : decode prog_13_method_1_code 184 = .ok (.dup, 1) := by decide +kernel
theorem d_M_init_185 : decode prog_13_method_1_code 185 = .ok (.bipush 7, 2) := by decide +kernel
theorem d_M_init_187 : decode prog_13_method_1_code 187 = .ok (.bipush 6, 2) := by decide +kernel
theorem d_M_init_189 : decode prog_13_method_1_code 189 = .ok (.iastore, 1) := by decide +kernel
theorem d_M_init_190 : decode prog_13_method_1_code 190 = .ok (.dup, 1) := by decide +kernel
theorem d_M_init_191 : decode prog_13_method_1_code 191 = .ok (.bipush 8, 2) := by decide +kernel
theorem d_M_init_193 : decode prog_13_method_1_code 193 = .ok (.bipush 9, 2) := by decide +kernel
theorem d_M_init_195 : decode prog_13_method_1_code 195 = .ok (.iastore, 1) := by decide +kernel
theorem d_M_init_196 : decode prog_13_method_1_code 196 = .ok (.dup, 1) := by decide +kernel
theorem d_M_init_197 : decode prog_13_method_1_code 197 = .ok (.bipush 9, 2) := by decide +kernel
theorem d_M_init_199 : decode prog_13_method_1_code 199 = .ok (.bipush 12, 2) := by decide +kernel
theorem d_M_init_201 : decode prog_13_method_1_code 201 = .ok (.iastore, 1) := by decide +kernel
theorem d_M_init_202 : decode prog_13_method_1_code 202 = .ok (.dup, 1) := by decide +kernel
theorem d_M_init_203 : decode prog_13_method_1_code 203 = .ok (.bipush 10, 2) := by decide +kernel
theorem d_M_init_205 : decode prog_13_method_1_code 205 = .ok (.bipush 13, 2) := by decide +kernel
theorem d_M_init_207 : decode prog_13_method_1_code 207 = .ok (.iastore, 1) := by decide +kernel
theorem d_M_init_208 : decode prog_13_method_1_code 208 = .ok (.dup, 1) := by decide +kernel
theorem d_M_init_209 : decode prog_13_method_1_code 209 = .ok (.bipush 11, 2) := by decide +kernel
theorem d_M_init_211 : decode prog_13_method_1_code 211 = .ok (.bipush 10, 2) := by decide +kernel
theorem d_M_init_213 : decode prog_13_method_1_code 213 = .ok (.iastore, 1) := by decide +kernel
theorem d_M_init_214 : decode prog_13_method_1_code 214 = .ok (.dup, 1) := by decide +kernel
theorem d_M_init_215 : decode prog_13_method_1_code 215 = .ok (.bipush 12, 2) := by decide +kernel
theorem d_M_init_217 : decode prog_13_method_1_code 217 = .ok (.bipush 7, 2) := by decide +kernel
theorem d_M_init_219 : decode prog_13_method_1_code 219 = .ok (.iastore, 1) := by decide +kernel
theorem d_M_init_220 : decode prog_13_method_1_code 220 = .ok (.dup, 1) := by decide +kernel
theorem d_M_init_221 : decode prog_13_method_1_code 221 = .ok (.bipush 13, 2) := by decide +kernel
theorem d_M_init_223 : decode prog_13_method_1_code 223 = .ok (.bipush 11, 2) := by decide +kernel
theorem d_M_init_225 : decode prog_13_method_1_code 225 = .ok (.iastore, 1) := by decide +kernel
theorem d_M_init_226 : decode prog_13_method_1_code 226 = .ok (.dup, 1) := by decide +kernel
theorem d_M_init_227 : decode prog_13_method_1_code 227 = .ok (.bipush 14, 2) := by decide +kernel
theorem d_M_init_229 : decode prog_13_method_1_code 229 = .ok (.bipush 14, 2) := by decide +kernel
theorem d_M_init_231 : decode prog_13_method_1_code 231 = .ok (.iastore, 1) := by decide +kernel
theorem d_M_init_232 : decode prog_13_method_1_code 232 = .ok (.dup, 1) := by decide +kernel
theorem d_M_init_233 : decode prog_13_method_1_code 233 = .ok (.bipush 15, 2) := by decide +kernel
theorem d_M_init_235 : decode prog_13_method_1_code 235 = .ok (.bipush 15, 2) := by decide +kernel
theorem d_M_init_237 : decode prog_13_method_1_code 237 = .ok (.iastore, 1) := by decide +kernel
theorem d_M_init_238 : decode prog_13_method_1_code 238 = .ok (.putfield 64, 3) := by decide +kernel
theorem d_M_init_241 : decode prog_13_method_1_code 241 = .ok (.aload_n 0, 1) := by decide +kernel
theorem d_M_init_242 : decode prog_13_method_1_code 242 = .ok (.bipush 16, 2) := by decide +kernel
theorem d_M_init_244 : decode prog_13_method_1_code 244 = .ok (.newarray .int, 2) := by decide +kernel
theorem d_M_init_246 : decode prog_13_method_1_code 246 = .ok (.dup, 1) := by decide +kernel
theorem d_M_init_247 : decode prog_13_method_1_code 247 = .ok (.iconst 0, 1) := by decide +kernel
theorem d_M_init_248 : decode prog_13_method_1_code 248 = .ok (.sipush 2896, 3) := by decide +kernel
theorem d_M_init_251 : decode prog_13_method_1_code 251 = .ok (.iastore, 1) := by decide +kernel
theorem d_M_init_252 : decode prog_13_method_1_code 252 = .ok (.dup, 1) := by decide +kernel
theorem d_M_init_253 : decode prog_13_method_1_code 253 = .ok (.iconst 1, 1) := by decide +kernel
theorem d_M_init_254 : decode prog_13_method_1_code 254 = .ok (.sipush 3784, 3) := by decide +kernel
theorem d_M_init_257 : decode prog_13_method_1_code 257 = .ok (.iastore, 1) := by decide +kernel
theorem d_M_init_258 : decode prog_13_method_1_code 258 = .ok (.dup, 1) := by decide +kernel
theorem d_M_init_259 : decode prog_13_method_1_code 259 = .ok (.iconst 2, 1) := by decide +kernel
theorem d_M_init_260 : decode prog_13_method_1_code 260 = .ok (.sipush 2896, 3) := by decide +kernel
theorem d_M_init_263 : decode prog_13_method_1_code 263 = .ok (.iastore, 1) := by decide +kernel
theorem d_M_init_264 : decode prog_13_method_1_code 264 = .ok (.dup, 1) := by decide +kernel
theorem d_M_init_265 : decode prog_13_method_1_code 265 = .ok (.iconst 3, 1) := by decide +kernel
theorem d_M_init_266 : decode prog_13_method_1_code 266 = .ok (.sipush 1567, 3) := by decide +kernel
theorem d_M_init_269 : decode prog_13_method_1_code 269 = .ok (.iastore, 1) := by decide +kernel
theorem d_M_init_270 : decode prog_13_method_1_code 270 = .ok (.dup, 1) := by decide +kernel
theorem d_M_init_271 : decode prog_13_method_1_code 271 = .ok (.iconst 4, 1) := by decide +kernel
theorem d_M_init_272 : decode prog_13_method_1_code 272 = .ok (.sipush 2896, 3) := by decide +kernel
theorem d_M_init_275 : decode prog_13_method_1_code 275 = .ok (.iastore, 1) := by decide +kernel
theorem d_M_init_276 : decode prog_13_method_1_code 276 = .ok (.dup, 1) := by decide +kernel
theorem d_M_init_277 : decode prog_13_method_1_code 277 = .ok (.iconst 5, 1) := by decide +kernel
theorem d_M_init_278 : decode prog_13_method_1_code 278 = .ok (.sipush 1567, 3) := by decide +kernel
theorem d_M_init_281 : decode prog_13_method_1_code 281 = .ok (.iastore, 1) := by decide +kernel
theorem d_M_init_282 : decode prog_13_method_1_code 282 = .ok (.dup, 1) := by decide +kernel
theorem d_M_init_283 : decode prog_13_method_1_code 283 = .ok (.bipush 6, 2) := by decide +kernel
theorem d_M_init_285 : decode prog_13_method_1_code 285 = .ok (.sipush (-2896), 3) := by decide +kernel
theorem d_M_init_288 : decode prog_13_method_1_code 288 = .ok (.iastore, 1) := by decide +kernel
theorem d_M_init_289 : decode prog_13_method_1_code 289 = .ok (.dup, 1) := by decide +kernel
theorem d_M_init_290 : decode prog_13_method_1_code 290 = .ok (.bipush 7, 2) := by decide +kernel
theorem d_M_init_292 : decode prog_13_method_1_code 292 = .ok (.sipush (-3784), 3) := by decide +kernel
theorem d_M_init_295 : decode prog_13_method_1_code 295 = .ok (.iastore, 1) := by decide +kernel
theorem d_M_init_296 : decode prog_13_method_1_code 296 = .ok (.dup, 1) := by decide +kernel
theorem d_M_init_297 : decode prog_13_method_1_code 297 = .ok (.bipush 8, 2) := by decide +kernel
theorem d_M_init_299 : decode prog_13_method_1_code 299 = .ok (.sipush 2896, 3) := by decide +kernel
theorem d_M_init_302 : decode prog_13_method_1_code 302 = .ok (.iastore, 1) := by decide +kernel
theorem d_M_init_303 : decode prog_13_method_1_code 303 = .ok (.dup, 1) := by decide +kernel
theorem d_M_init_304 : decode prog_13_method_1_code 304 = .ok (.bipush 9, 2) := by decide +kernel
theorem d_M_init_306 : decode prog_13_method_1_code 306 = .ok (.sipush (-1567), 3) := by decide +kernel
theorem d_M_init_309 : decode prog_13_method_1_code 309 = .ok (.iastore, 1) := by decide +kernel
theorem d_M_init_310 : decode prog_13_method_1_code 310 = .ok (.dup, 1) := by decide +kernel
theorem d_M_init_311 : decode prog_13_method_1_code 311 = .ok (.bipush 10, 2) := by decide +kernel
theorem d_M_init_313 : decode prog_13_method_1_code 313 = .ok (.sipush (-2896), 3) := by decide +kernel
theorem d_M_init_316 : decode prog_13_method_1_code 316 = .ok (.iastore, 1) := by decide +kernel
theorem d_M_init_317 : decode prog_13_method_1_code 317 = .ok (.dup, 1) := by decide +kernel
theorem d_M_init_318 : decode prog_13_method_1_code 318 = .ok (.bipush 11, 2) := by decide +kernel
theorem d_M_init_320 : decode prog_13_method_1_code 320 = .ok (.sipush 3784, 3) := by decide +kernel
theorem d_M_init_323 : decode prog_13_method_1_code 323 = .ok (.iastore, 1) := by decide +kernel
theorem d_M_init_324 : decode prog_13_method_1_code 324 = .ok (.dup, 1) := by decide +kernel
theorem d_M_init_325 : decode prog_13_method_1_code 325 = .ok (.bipush 12, 2) := by decide +kernel
theorem d_M_init_327 : decode prog_13_method_1_code 327 = .ok (.sipush 2896, 3) := by decide +kernel
theorem d_M_init_330 : decode prog_13_method_1_code 330 = .ok (.iastore, 1) := by decide +kernel
theorem d_M_init_331 : decode prog_13_method_1_code 331 = .ok (.dup, 1) := by decide +kernel
theorem d_M_init_332 : decode prog_13_method_1_code 332 = .ok (.bipush 13, 2) := by decide +kernel
theorem d_M_init_334 : decode prog_13_method_1_code 334 = .ok (.sipush (-3784), 3) := by decide +kernel
theorem d_M_init_337 : decode prog_13_method_1_code 337 = .ok (.iastore, 1) := by decide +kernel
theorem d_M_init_338 : decode prog_13_method_1_code 338 = .ok (.dup, 1) := by decide +kernel
theorem d_M_init_339 : decode prog_13_method_1_code 339 = .ok (.bipush 14, 2) := by decide +kernel
theorem d_M_init_341 : decode prog_13_method_1_code 341 = .ok (.sipush 2896, 3) := by decide +kernel
theorem d_M_init_344 : decode prog_13_method_1_code 344 = .ok (.iastore, 1) := by decide +kernel
theorem d_M_init_345 : decode prog_13_method_1_code 345 = .ok (.dup, 1) := by decide +kernel
theorem d_M_init_346 : decode prog_13_method_1_code 346 = .ok (.bipush 15, 2) := by decide +kernel
theorem d_M_init_348 : decode prog_13_method_1_code 348 = .ok (.sipush (-1567), 3) := by decide +kernel
theorem d_M_init_351 : decode prog_13_method_1_code 351 = .ok (.iastore, 1) := by decide +kernel
theorem d_M_init_352 : decode prog_13_method_1_code 352 = .ok (.putfield 67, 3) := by decide +kernel
theorem d_M_init_355 : decode prog_13_method_1_code 355 = .ok (.return_, 1) := by decide +kernel
set_option maxRecDepth 100000 in
theorem kc_arr : Cond.arrayClass .int ∈ zx_ws := zx_mem 122 (by decide +kernel) rfl
set_option maxRecDepth 100000 in
theorem ko_B_3 : Cond.methodLink "StillPicture$Boxes" 3 Lib.objectInit ∈ zx_ws ∧ Cond.instanceMethod Lib.objectInit ∈ zx_ws ∧ Cond.code Lib.objectInit ⟨#[0xb1]⟩ 1 none ∈ zx_ws := ⟨zx_mem 96 (by decide +kernel) rfl, zx_mem 89 (by decide +kernel) rfl, zx_mem 90 rfl rfl⟩
set_option maxRecDepth 100000 in
theorem kp_B_11 : ∃ (C : String) (T : u_T) (N : Nat), vwCl[1]? = some (C, T, N) ∧ 1 < N ∧ (∀ w ∈ u_ws C T N, w ∈ zx_ws) ∧ Cond.fieldLink "StillPicture$Boxes" 11 (T 1).1 (T 1).2.1 (T 1).2.2.1 ∈ zx_ws := ⟨"StillPicture$Boxes", zt_B, 7, rfl, by decide, uw_B, zx_mem 98 (by decide +kernel) rfl⟩
set_option maxRecDepth 100000 in
theorem kq_B_1 : zc_pl "StillPicture$Boxes" 1 1 (.array .int) := ⟨"StillPicture$Boxes", zt_B, 7, zy_B, rfl, zy_B_ok, zn_B, rfl, by decide +kernel⟩
set_option maxRecDepth 100000 in
theorem kp_B_15 : ∃ (C : String) (T : u_T) (N : Nat), vwCl[1]? = some (C, T, N) ∧ 2 < N ∧ (∀ w ∈ u_ws C T N, w ∈ zx_ws) ∧ Cond.fieldLink "StillPicture$Boxes" 15 (T 2).1 (T 2).2.1 (T 2).2.2.1 ∈ zx_ws := ⟨"StillPicture$Boxes", zt_B, 7, rfl, by decide, uw_B, zx_mem 100 (by decide +kernel) rfl⟩
set_option maxRecDepth 100000 in
theorem kq_B_2 : zc_pl "StillPicture$Boxes" 1 2 (.array .int) := ⟨"StillPicture$Boxes", zt_B, 7, zy_B, rfl, zy_B_ok, zn_B, rfl, by decide +kernel⟩
set_option maxRecDepth 100000 in
theorem kp_B_18 : ∃ (C : String) (T : u_T) (N : Nat), vwCl[1]? = some (C, T, N) ∧ 3 < N ∧ (∀ w ∈ u_ws C T N, w ∈ zx_ws) ∧ Cond.fieldLink "StillPicture$Boxes" 18 (T 3).1 (T 3).2.1 (T 3).2.2.1 ∈ zx_ws := ⟨"StillPicture$Boxes", zt_B, 7, rfl, by decide, uw_B, zx_mem 102 (by decide +kernel) rfl⟩
set_option maxRecDepth 100000 in
theorem kq_B_3 : zc_pl "StillPicture$Boxes" 1 3 (.array .int) := ⟨"StillPicture$Boxes", zt_B, 7, zy_B, rfl, zy_B_ok, zn_B, rfl, by decide +kernel⟩
set_option maxRecDepth 100000 in
theorem kp_B_21 : ∃ (C : String) (T : u_T) (N : Nat), vwCl[1]? = some (C, T, N) ∧ 4 < N ∧ (∀ w ∈ u_ws C T N, w ∈ zx_ws) ∧ Cond.fieldLink "StillPicture$Boxes" 21 (T 4).1 (T 4).2.1 (T 4).2.2.1 ∈ zx_ws := ⟨"StillPicture$Boxes", zt_B, 7, rfl, by decide, uw_B, zx_mem 104 (by decide +kernel) rfl⟩
set_option maxRecDepth 100000 in
theorem kq_B_4 : zc_pl "StillPicture$Boxes" 1 4 (.array .int) := ⟨"StillPicture$Boxes", zt_B, 7, zy_B, rfl, zy_B_ok, zn_B, rfl, by decide +kernel⟩
set_option maxRecDepth 100000 in
theorem kp_B_24 : ∃ (C : String) (T : u_T) (N : Nat), vwCl[1]? = some (C, T, N) ∧ 5 < N ∧ (∀ w ∈ u_ws C T N, w ∈ zx_ws) ∧ Cond.fieldLink "StillPicture$Boxes" 24 (T 5).1 (T 5).2.1 (T 5).2.2.1 ∈ zx_ws := ⟨"StillPicture$Boxes", zt_B, 7, rfl, by decide, uw_B, zx_mem 105 (by decide +kernel) rfl⟩
set_option maxRecDepth 100000 in
theorem kq_B_5 : zc_pl "StillPicture$Boxes" 1 5 (.array .int) := ⟨"StillPicture$Boxes", zt_B, 7, zy_B, rfl, zy_B_ok, zn_B, rfl, by decide +kernel⟩
set_option maxRecDepth 100000 in
theorem kp_B_27 : ∃ (C : String) (T : u_T) (N : Nat), vwCl[1]? = some (C, T, N) ∧ 0 < N ∧ (∀ w ∈ u_ws C T N, w ∈ zx_ws) ∧ Cond.fieldLink "StillPicture$Boxes" 27 (T 0).1 (T 0).2.1 (T 0).2.2.1 ∈ zx_ws := ⟨"StillPicture$Boxes", zt_B, 7, rfl, by decide, uw_B, zx_mem 97 (by decide +kernel) rfl⟩
set_option maxRecDepth 100000 in
theorem kq_B_0 : zc_pl "StillPicture$Boxes" 1 0 (.array .int) := ⟨"StillPicture$Boxes", zt_B, 7, zy_B, rfl, zy_B_ok, zn_B, rfl, by decide +kernel⟩
set_option maxRecDepth 100000 in
theorem ko_U_1 : Cond.methodLink "StillPicture$Cursor" 1 Lib.objectInit ∈ zx_ws ∧ Cond.instanceMethod Lib.objectInit ∈ zx_ws ∧ Cond.code Lib.objectInit ⟨#[0xb1]⟩ 1 none ∈ zx_ws := ⟨zx_mem 134 (by decide +kernel) rfl, zx_mem 89 (by decide +kernel) rfl, zx_mem 90 rfl rfl⟩
set_option maxRecDepth 100000 in
theorem kp_U_7 : ∃ (C : String) (T : u_T) (N : Nat), vwCl[3]? = some (C, T, N) ∧ 0 < N ∧ (∀ w ∈ u_ws C T N, w ∈ zx_ws) ∧ Cond.fieldLink "StillPicture$Cursor" 7 (T 0).1 (T 0).2.1 (T 0).2.2.1 ∈ zx_ws := ⟨"StillPicture$Cursor", zt_U, 4, rfl, by decide, uw_U, zx_mem 135 (by decide +kernel) rfl⟩
set_option maxRecDepth 100000 in
theorem kq_U_0 : zc_pl "StillPicture$Cursor" 3 0 (.array .int) := ⟨"StillPicture$Cursor", zt_U, 4, zy_U, rfl, zy_U_ok, zn_U, rfl, by decide +kernel⟩
set_option maxRecDepth 100000 in
theorem ko_I_3 : Cond.methodLink "StillPicture$Item" 3 Lib.objectInit ∈ zx_ws ∧ Cond.instanceMethod Lib.objectInit ∈ zx_ws ∧ Cond.code Lib.objectInit ⟨#[0xb1]⟩ 1 none ∈ zx_ws := ⟨zx_mem 128 (by decide +kernel) rfl, zx_mem 89 (by decide +kernel) rfl, zx_mem 90 rfl rfl⟩
set_option maxRecDepth 100000 in
theorem kp_I_11 : ∃ (C : String) (T : u_T) (N : Nat), vwCl[2]? = some (C, T, N) ∧ 3 < N ∧ (∀ w ∈ u_ws C T N, w ∈ zx_ws) ∧ Cond.fieldLink "StillPicture$Item" 11 (T 3).1 (T 3).2.1 (T 3).2.2.1 ∈ zx_ws := ⟨"StillPicture$Item", zt_I, 11, rfl, by decide, uw_I, zx_mem 153 (by decide +kernel) rfl⟩
set_option maxRecDepth 100000 in
theorem kq_I_3 : zc_pl "StillPicture$Item" 2 3 (.array .int) := ⟨"StillPicture$Item", zt_I, 11, zy_I, rfl, zy_I_ok, zn_I, rfl, by decide +kernel⟩
set_option maxRecDepth 100000 in
theorem kp_I_15 : ∃ (C : String) (T : u_T) (N : Nat), vwCl[2]? = some (C, T, N) ∧ 0 < N ∧ (∀ w ∈ u_ws C T N, w ∈ zx_ws) ∧ Cond.fieldLink "StillPicture$Item" 15 (T 0).1 (T 0).2.1 (T 0).2.2.1 ∈ zx_ws := ⟨"StillPicture$Item", zt_I, 11, rfl, by decide, uw_I, zx_mem 150 (by decide +kernel) rfl⟩
set_option maxRecDepth 100000 in
theorem kq_I_0 : zc_pl "StillPicture$Item" 2 0 (.array .int) := ⟨"StillPicture$Item", zt_I, 11, zy_I, rfl, zy_I_ok, zn_I, rfl, by decide +kernel⟩
set_option maxRecDepth 100000 in
theorem kp_I_18 : ∃ (C : String) (T : u_T) (N : Nat), vwCl[2]? = some (C, T, N) ∧ 1 < N ∧ (∀ w ∈ u_ws C T N, w ∈ zx_ws) ∧ Cond.fieldLink "StillPicture$Item" 18 (T 1).1 (T 1).2.1 (T 1).2.2.1 ∈ zx_ws := ⟨"StillPicture$Item", zt_I, 11, rfl, by decide, uw_I, zx_mem 151 (by decide +kernel) rfl⟩
set_option maxRecDepth 100000 in
theorem kq_I_1 : zc_pl "StillPicture$Item" 2 1 (.object "StillPicture$Boxes") := ⟨"StillPicture$Item", zt_I, 11, zy_I, rfl, zy_I_ok, zn_I, rfl, by decide +kernel⟩
set_option maxRecDepth 100000 in
theorem kn_I_22 : Cond.classLink "StillPicture$Item" 22 "StillPicture$Cursor" ∈ zx_ws ∧ Cond.instantiable "StillPicture$Cursor" 4 ∈ zx_ws ∧ Cond.initialized "StillPicture$Cursor" ∈ zx_ws := ⟨zx_mem 129 (by decide +kernel) rfl, zx_mem 130 (by decide +kernel) rfl, zx_mem 71 (by decide +kernel) rfl⟩
set_option maxRecDepth 100000 in
theorem kf_U : ∀ j, j < 4 → defaultValue (zy_U j) = vp_V [.null, .int 0, .int 0, .int 0] j := by decide +kernel
set_option maxRecDepth 100000 in
theorem kl_I_24 : zx_cb "StillPicture$Item" 24 y_U_init M_U_init 1 ∧ Cond.instanceMethod y_U_init ∈ zx_ws := ⟨⟨zx_mem 133 rfl rfl, zx_mem 71 (by decide +kernel) rfl, ⟨by decide, by decide, by decide +kernel⟩, Or.inl (zx_mem 131 (by decide +kernel) rfl)⟩, zx_mem 132 (by decide +kernel) rfl⟩
set_option maxRecDepth 100000 in
theorem kp_I_27 : ∃ (C : String) (T : u_T) (N : Nat), vwCl[2]? = some (C, T, N) ∧ 2 < N ∧ (∀ w ∈ u_ws C T N, w ∈ zx_ws) ∧ Cond.fieldLink "StillPicture$Item" 27 (T 2).1 (T 2).2.1 (T 2).2.2.1 ∈ zx_ws := ⟨"StillPicture$Item", zt_I, 11, rfl, by decide, uw_I, zx_mem 152 (by decide +kernel) rfl⟩
set_option maxRecDepth 100000 in
theorem kq_I_2 : zc_pl "StillPicture$Item" 2 2 (.object "StillPicture$Cursor") := ⟨"StillPicture$Item", zt_I, 11, zy_I, rfl, zy_I_ok, zn_I, rfl, by decide +kernel⟩
set_option maxRecDepth 100000 in
theorem ko_H_3 : Cond.methodLink "StillPicture$Header" 3 Lib.objectInit ∈ zx_ws ∧ Cond.instanceMethod Lib.objectInit ∈ zx_ws ∧ Cond.code Lib.objectInit ⟨#[0xb1]⟩ 1 none ∈ zx_ws := ⟨zx_mem 192 (by decide +kernel) rfl, zx_mem 89 (by decide +kernel) rfl, zx_mem 90 rfl rfl⟩
set_option maxRecDepth 100000 in
theorem kp_H_9 : ∃ (C : String) (T : u_T) (N : Nat), vwCl[4]? = some (C, T, N) ∧ 0 < N ∧ (∀ w ∈ u_ws C T N, w ∈ zx_ws) ∧ Cond.fieldLink "StillPicture$Header" 9 (T 0).1 (T 0).2.1 (T 0).2.2.1 ∈ zx_ws := ⟨"StillPicture$Header", zt_H, 16, rfl, by decide, uw_H, zx_mem 195 (by decide +kernel) rfl⟩
set_option maxRecDepth 100000 in
theorem kq_H_0 : zc_pl "StillPicture$Header" 4 0 (.object "StillPicture$Item") := ⟨"StillPicture$Header", zt_H, 16, zy_H, rfl, zy_H_ok, zn_H, rfl, by decide +kernel⟩
set_option maxRecDepth 100000 in
theorem kn_H_15 : Cond.classLink "StillPicture$Header" 15 "StillPicture$Cursor" ∈ zx_ws ∧ Cond.instantiable "StillPicture$Cursor" 4 ∈ zx_ws ∧ Cond.initialized "StillPicture$Cursor" ∈ zx_ws := ⟨zx_mem 193 (by decide +kernel) rfl, zx_mem 130 (by decide +kernel) rfl, zx_mem 71 (by decide +kernel) rfl⟩
set_option maxRecDepth 100000 in
theorem kg_H_17 : zx_fl "StillPicture$Header" 17 2 3 := ⟨"StillPicture$Item", zt_I, 11, rfl, by decide, uw_I, Or.inr ⟨_, "StillPicture", rfl, zx_memN 154 (by decide +kernel) rfl⟩⟩
set_option maxRecDepth 100000 in
theorem kl_H_23 : zx_cb "StillPicture$Header" 23 y_U_init M_U_init 1 ∧ Cond.instanceMethod y_U_init ∈ zx_ws := ⟨⟨zx_mem 133 rfl rfl, zx_mem 71 (by decide +kernel) rfl, ⟨by decide, by decide, by decide +kernel⟩, Or.inl (zx_mem 194 (by decide +kernel) rfl)⟩, zx_mem 132 (by decide +kernel) rfl⟩
set_option maxRecDepth 100000 in
theorem kp_H_26 : ∃ (C : String) (T : u_T) (N : Nat), vwCl[4]? = some (C, T, N) ∧ 1 < N ∧ (∀ w ∈ u_ws C T N, w ∈ zx_ws) ∧ Cond.fieldLink "StillPicture$Header" 26 (T 1).1 (T 1).2.1 (T 1).2.2.1 ∈ zx_ws := ⟨"StillPicture$Header", zt_H, 16, rfl, by decide, uw_H, zx_mem 196 (by decide +kernel) rfl⟩
set_option maxRecDepth 100000 in
theorem kq_H_1 : zc_pl "StillPicture$Header" 4 1 (.object "StillPicture$Cursor") := ⟨"StillPicture$Header", zt_H, 16, zy_H, rfl, zy_H_ok, zn_H, rfl, by decide +kernel⟩
set_option maxRecDepth 100000 in
theorem kp_H_30 : ∃ (C : String) (T : u_T) (N : Nat), vwCl[4]? = some (C, T, N) ∧ 2 < N ∧ (∀ w ∈ u_ws C T N, w ∈ zx_ws) ∧ Cond.fieldLink "StillPicture$Header" 30 (T 2).1 (T 2).2.1 (T 2).2.2.1 ∈ zx_ws := ⟨"StillPicture$Header", zt_H, 16, rfl, by decide, uw_H, zx_mem 197 (by decide +kernel) rfl⟩
set_option maxRecDepth 100000 in
theorem kq_H_2 : zc_pl "StillPicture$Header" 4 2 (.object "StillPicture$Cursor") := ⟨"StillPicture$Header", zt_H, 16, zy_H, rfl, zy_H_ok, zn_H, rfl, by decide +kernel⟩
set_option maxRecDepth 100000 in
theorem ko_C_1 : Cond.methodLink "StillPicture$Coder" 1 Lib.objectInit ∈ zx_ws ∧ Cond.instanceMethod Lib.objectInit ∈ zx_ws ∧ Cond.code Lib.objectInit ⟨#[0xb1]⟩ 1 none ∈ zx_ws := ⟨zx_mem 267 (by decide +kernel) rfl, zx_mem 89 (by decide +kernel) rfl, zx_mem 90 rfl rfl⟩
set_option maxRecDepth 100000 in
theorem kp_C_9 : ∃ (C : String) (T : u_T) (N : Nat), vwCl[5]? = some (C, T, N) ∧ 1 < N ∧ (∀ w ∈ u_ws C T N, w ∈ zx_ws) ∧ Cond.fieldLink "StillPicture$Coder" 9 (T 1).1 (T 1).2.1 (T 1).2.2.1 ∈ zx_ws := ⟨"StillPicture$Coder", zt_C, 10, rfl, by decide, uw_C, zx_mem 269 (by decide +kernel) rfl⟩
set_option maxRecDepth 100000 in
theorem kq_C_1 : zc_pl "StillPicture$Coder" 5 1 (.array .int) := ⟨"StillPicture$Coder", zt_C, 10, zy_C, rfl, zy_C_ok, zn_C, rfl, by decide +kernel⟩
set_option maxRecDepth 100000 in
theorem kp_C_13 : ∃ (C : String) (T : u_T) (N : Nat), vwCl[5]? = some (C, T, N) ∧ 2 < N ∧ (∀ w ∈ u_ws C T N, w ∈ zx_ws) ∧ Cond.fieldLink "StillPicture$Coder" 13 (T 2).1 (T 2).2.1 (T 2).2.2.1 ∈ zx_ws := ⟨"StillPicture$Coder", zt_C, 10, rfl, by decide, uw_C, zx_mem 270 (by decide +kernel) rfl⟩
set_option maxRecDepth 100000 in
theorem kq_C_2 : zc_pl "StillPicture$Coder" 5 2 (.array .int) := ⟨"StillPicture$Coder", zt_C, 10, zy_C, rfl, zy_C_ok, zn_C, rfl, by decide +kernel⟩
set_option maxRecDepth 100000 in
theorem kp_C_16 : ∃ (C : String) (T : u_T) (N : Nat), vwCl[5]? = some (C, T, N) ∧ 0 < N ∧ (∀ w ∈ u_ws C T N, w ∈ zx_ws) ∧ Cond.fieldLink "StillPicture$Coder" 16 (T 0).1 (T 0).2.1 (T 0).2.2.1 ∈ zx_ws := ⟨"StillPicture$Coder", zt_C, 10, rfl, by decide, uw_C, zx_mem 268 (by decide +kernel) rfl⟩
set_option maxRecDepth 100000 in
theorem kq_C_0 : zc_pl "StillPicture$Coder" 5 0 (.array .int) := ⟨"StillPicture$Coder", zt_C, 10, zy_C, rfl, zy_C_ok, zn_C, rfl, by decide +kernel⟩
set_option maxRecDepth 100000 in
theorem ko_P_1 : Cond.methodLink "StillPicture$Picture" 1 Lib.objectInit ∈ zx_ws ∧ Cond.instanceMethod Lib.objectInit ∈ zx_ws ∧ Cond.code Lib.objectInit ⟨#[0xb1]⟩ 1 none ∈ zx_ws := ⟨zx_mem 306 (by decide +kernel) rfl, zx_mem 89 (by decide +kernel) rfl, zx_mem 90 rfl rfl⟩
set_option maxRecDepth 100000 in
theorem kp_P_9 : ∃ (C : String) (T : u_T) (N : Nat), vwCl[6]? = some (C, T, N) ∧ 0 < N ∧ (∀ w ∈ u_ws C T N, w ∈ zx_ws) ∧ Cond.fieldLink "StillPicture$Picture" 9 (T 0).1 (T 0).2.1 (T 0).2.2.1 ∈ zx_ws := ⟨"StillPicture$Picture", zt_P, 5, rfl, by decide, uw_P, zx_mem 307 (by decide +kernel) rfl⟩
set_option maxRecDepth 100000 in
theorem kq_P_0 : zc_pl "StillPicture$Picture" 6 0 (.array .int) := ⟨"StillPicture$Picture", zt_P, 5, zy_P, rfl, zy_P_ok, zn_P, rfl, by decide +kernel⟩
set_option maxRecDepth 100000 in
theorem kp_P_13 : ∃ (C : String) (T : u_T) (N : Nat), vwCl[6]? = some (C, T, N) ∧ 1 < N ∧ (∀ w ∈ u_ws C T N, w ∈ zx_ws) ∧ Cond.fieldLink "StillPicture$Picture" 13 (T 1).1 (T 1).2.1 (T 1).2.2.1 ∈ zx_ws := ⟨"StillPicture$Picture", zt_P, 5, rfl, by decide, uw_P, zx_mem 312 (by decide +kernel) rfl⟩
set_option maxRecDepth 100000 in
theorem kq_P_1 : zc_pl "StillPicture$Picture" 6 1 (.array .int) := ⟨"StillPicture$Picture", zt_P, 5, zy_P, rfl, zy_P_ok, zn_P, rfl, by decide +kernel⟩
set_option maxRecDepth 100000 in
theorem kp_P_16 : ∃ (C : String) (T : u_T) (N : Nat), vwCl[6]? = some (C, T, N) ∧ 2 < N ∧ (∀ w ∈ u_ws C T N, w ∈ zx_ws) ∧ Cond.fieldLink "StillPicture$Picture" 16 (T 2).1 (T 2).2.1 (T 2).2.2.1 ∈ zx_ws := ⟨"StillPicture$Picture", zt_P, 5, rfl, by decide, uw_P, zx_mem 313 (by decide +kernel) rfl⟩
set_option maxRecDepth 100000 in
theorem kq_P_2 : zc_pl "StillPicture$Picture" 6 2 (.array .int) := ⟨"StillPicture$Picture", zt_P, 5, zy_P, rfl, zy_P_ok, zn_P, rfl, by decide +kernel⟩
set_option maxRecDepth 100000 in
theorem ko_D_1 : Cond.methodLink "StillPicture$Differences" 1 Lib.objectInit ∈ zx_ws ∧ Cond.instanceMethod Lib.objectInit ∈ zx_ws ∧ Cond.code Lib.objectInit ⟨#[0xb1]⟩ 1 none ∈ zx_ws := ⟨zx_mem 339 (by decide +kernel) rfl, zx_mem 89 (by decide +kernel) rfl, zx_mem 90 rfl rfl⟩
set_option maxRecDepth 100000 in
theorem kp_D_7 : ∃ (C : String) (T : u_T) (N : Nat), vwCl[8]? = some (C, T, N) ∧ 1 < N ∧ (∀ w ∈ u_ws C T N, w ∈ zx_ws) ∧ Cond.fieldLink "StillPicture$Differences" 7 (T 1).1 (T 1).2.1 (T 1).2.2.1 ∈ zx_ws := ⟨"StillPicture$Differences", zt_D, 3, rfl, by decide, uw_D, zx_mem 341 (by decide +kernel) rfl⟩
set_option maxRecDepth 100000 in
theorem kq_D_1 : zc_pl "StillPicture$Differences" 8 1 (.array .int) := ⟨"StillPicture$Differences", zt_D, 3, zy_D, rfl, zy_D_ok, zn_D, rfl, by decide +kernel⟩
set_option maxRecDepth 100000 in
theorem kp_D_13 : ∃ (C : String) (T : u_T) (N : Nat), vwCl[8]? = some (C, T, N) ∧ 2 < N ∧ (∀ w ∈ u_ws C T N, w ∈ zx_ws) ∧ Cond.fieldLink "StillPicture$Differences" 13 (T 2).1 (T 2).2.1 (T 2).2.2.1 ∈ zx_ws := ⟨"StillPicture$Differences", zt_D, 3, rfl, by decide, uw_D, zx_mem 343 (by decide +kernel) rfl⟩
set_option maxRecDepth 100000 in
theorem kq_D_2 : zc_pl "StillPicture$Differences" 8 2 (.array .int) := ⟨"StillPicture$Differences", zt_D, 3, zy_D, rfl, zy_D_ok, zn_D, rfl, by decide +kernel⟩
set_option maxRecDepth 100000 in
theorem kp_D_16 : ∃ (C : String) (T : u_T) (N : Nat), vwCl[8]? = some (C, T, N) ∧ 0 < N ∧ (∀ w ∈ u_ws C T N, w ∈ zx_ws) ∧ Cond.fieldLink "StillPicture$Differences" 16 (T 0).1 (T 0).2.1 (T 0).2.2.1 ∈ zx_ws := ⟨"StillPicture$Differences", zt_D, 3, rfl, by decide, uw_D, zx_mem 340 (by decide +kernel) rfl⟩
set_option maxRecDepth 100000 in
theorem kq_D_0 : zc_pl "StillPicture$Differences" 8 0 (.object "StillPicture$Coder") := ⟨"StillPicture$Differences", zt_D, 3, zy_D, rfl, zy_D_ok, zn_D, rfl, by decide +kernel⟩
set_option maxRecDepth 100000 in
theorem ko_E_1 : Cond.methodLink "StillPicture$Prediction" 1 Lib.objectInit ∈ zx_ws ∧ Cond.instanceMethod Lib.objectInit ∈ zx_ws ∧ Cond.code Lib.objectInit ⟨#[0xb1]⟩ 1 none ∈ zx_ws := ⟨zx_mem 356 (by decide +kernel) rfl, zx_mem 89 (by decide +kernel) rfl, zx_mem 90 rfl rfl⟩
set_option maxRecDepth 100000 in
theorem kp_E_7 : ∃ (C : String) (T : u_T) (N : Nat), vwCl[9]? = some (C, T, N) ∧ 1 < N ∧ (∀ w ∈ u_ws C T N, w ∈ zx_ws) ∧ Cond.fieldLink "StillPicture$Prediction" 7 (T 1).1 (T 1).2.1 (T 1).2.2.1 ∈ zx_ws := ⟨"StillPicture$Prediction", zt_E, 6, rfl, by decide, uw_E, zx_mem 358 (by decide +kernel) rfl⟩
set_option maxRecDepth 100000 in
theorem kq_E_1 : zc_pl "StillPicture$Prediction" 9 1 (.array .int) := ⟨"StillPicture$Prediction", zt_E, 6, zy_E, rfl, zy_E_ok, zn_E, rfl, by decide +kernel⟩
set_option maxRecDepth 100000 in
theorem kp_E_13 : ∃ (C : String) (T : u_T) (N : Nat), vwCl[9]? = some (C, T, N) ∧ 2 < N ∧ (∀ w ∈ u_ws C T N, w ∈ zx_ws) ∧ Cond.fieldLink "StillPicture$Prediction" 13 (T 2).1 (T 2).2.1 (T 2).2.2.1 ∈ zx_ws := ⟨"StillPicture$Prediction", zt_E, 6, rfl, by decide, uw_E, zx_mem 360 (by decide +kernel) rfl⟩
set_option maxRecDepth 100000 in
theorem kq_E_2 : zc_pl "StillPicture$Prediction" 9 2 (.array .int) := ⟨"StillPicture$Prediction", zt_E, 6, zy_E, rfl, zy_E_ok, zn_E, rfl, by decide +kernel⟩
set_option maxRecDepth 100000 in
theorem kp_E_16 : ∃ (C : String) (T : u_T) (N : Nat), vwCl[9]? = some (C, T, N) ∧ 3 < N ∧ (∀ w ∈ u_ws C T N, w ∈ zx_ws) ∧ Cond.fieldLink "StillPicture$Prediction" 16 (T 3).1 (T 3).2.1 (T 3).2.2.1 ∈ zx_ws := ⟨"StillPicture$Prediction", zt_E, 6, rfl, by decide, uw_E, zx_mem 361 (by decide +kernel) rfl⟩
set_option maxRecDepth 100000 in
theorem kq_E_3 : zc_pl "StillPicture$Prediction" 9 3 (.array .int) := ⟨"StillPicture$Prediction", zt_E, 6, zy_E, rfl, zy_E_ok, zn_E, rfl, by decide +kernel⟩
set_option maxRecDepth 100000 in
theorem kp_E_19 : ∃ (C : String) (T : u_T) (N : Nat), vwCl[9]? = some (C, T, N) ∧ 0 < N ∧ (∀ w ∈ u_ws C T N, w ∈ zx_ws) ∧ Cond.fieldLink "StillPicture$Prediction" 19 (T 0).1 (T 0).2.1 (T 0).2.2.1 ∈ zx_ws := ⟨"StillPicture$Prediction", zt_E, 6, rfl, by decide, uw_E, zx_mem 357 (by decide +kernel) rfl⟩
set_option maxRecDepth 100000 in
theorem kq_E_0 : zc_pl "StillPicture$Prediction" 9 0 (.object "StillPicture$Picture") := ⟨"StillPicture$Prediction", zt_E, 6, zy_E, rfl, zy_E_ok, zn_E, rfl, by decide +kernel⟩
set_option maxRecDepth 100000 in
theorem ko_T_3 : Cond.methodLink "StillPicture$Tile" 3 Lib.objectInit ∈ zx_ws ∧ Cond.instanceMethod Lib.objectInit ∈ zx_ws ∧ Cond.code Lib.objectInit ⟨#[0xb1]⟩ 1 none ∈ zx_ws := ⟨zx_mem 333 (by decide +kernel) rfl, zx_mem 89 (by decide +kernel) rfl, zx_mem 90 rfl rfl⟩
set_option maxRecDepth 100000 in
theorem kp_T_9 : ∃ (C : String) (T : u_T) (N : Nat), vwCl[7]? = some (C, T, N) ∧ 5 < N ∧ (∀ w ∈ u_ws C T N, w ∈ zx_ws) ∧ Cond.fieldLink "StillPicture$Tile" 9 (T 5).1 (T 5).2.1 (T 5).2.2.1 ∈ zx_ws := ⟨"StillPicture$Tile", zt_T, 6, rfl, by decide, uw_T, zx_mem 382 (by decide +kernel) rfl⟩
set_option maxRecDepth 100000 in
theorem kq_T_5 : zc_pl "StillPicture$Tile" 7 5 (.array .int) := ⟨"StillPicture$Tile", zt_T, 6, zy_T, rfl, zy_T_ok, zn_T, rfl, by decide +kernel⟩
set_option maxRecDepth 100000 in
theorem kp_T_15 : ∃ (C : String) (T : u_T) (N : Nat), vwCl[7]? = some (C, T, N) ∧ 0 < N ∧ (∀ w ∈ u_ws C T N, w ∈ zx_ws) ∧ Cond.fieldLink "StillPicture$Tile" 15 (T 0).1 (T 0).2.1 (T 0).2.2.1 ∈ zx_ws := ⟨"StillPicture$Tile", zt_T, 6, rfl, by decide, uw_T, zx_mem 377 (by decide +kernel) rfl⟩
set_option maxRecDepth 100000 in
theorem kq_T_0 : zc_pl "StillPicture$Tile" 7 0 (.object "StillPicture$Header") := ⟨"StillPicture$Tile", zt_T, 6, zy_T, rfl, zy_T_ok, zn_T, rfl, by decide +kernel⟩
set_option maxRecDepth 100000 in
theorem kp_T_19 : ∃ (C : String) (T : u_T) (N : Nat), vwCl[7]? = some (C, T, N) ∧ 1 < N ∧ (∀ w ∈ u_ws C T N, w ∈ zx_ws) ∧ Cond.fieldLink "StillPicture$Tile" 19 (T 1).1 (T 1).2.1 (T 1).2.2.1 ∈ zx_ws := ⟨"StillPicture$Tile", zt_T, 6, rfl, by decide, uw_T, zx_mem 378 (by decide +kernel) rfl⟩
set_option maxRecDepth 100000 in
theorem kq_T_1 : zc_pl "StillPicture$Tile" 7 1 (.object "StillPicture$Coder") := ⟨"StillPicture$Tile", zt_T, 6, zy_T, rfl, zy_T_ok, zn_T, rfl, by decide +kernel⟩
set_option maxRecDepth 100000 in
theorem kp_T_23 : ∃ (C : String) (T : u_T) (N : Nat), vwCl[7]? = some (C, T, N) ∧ 2 < N ∧ (∀ w ∈ u_ws C T N, w ∈ zx_ws) ∧ Cond.fieldLink "StillPicture$Tile" 23 (T 2).1 (T 2).2.1 (T 2).2.2.1 ∈ zx_ws := ⟨"StillPicture$Tile", zt_T, 6, rfl, by decide, uw_T, zx_mem 379 (by decide +kernel) rfl⟩
set_option maxRecDepth 100000 in
theorem kq_T_2 : zc_pl "StillPicture$Tile" 7 2 (.object "StillPicture$Picture") := ⟨"StillPicture$Tile", zt_T, 6, zy_T, rfl, zy_T_ok, zn_T, rfl, by decide +kernel⟩
set_option maxRecDepth 100000 in
theorem kn_T_27 : Cond.classLink "StillPicture$Tile" 27 "StillPicture$Differences" ∈ zx_ws ∧ Cond.instantiable "StillPicture$Differences" 3 ∈ zx_ws ∧ Cond.initialized "StillPicture$Differences" ∈ zx_ws := ⟨zx_mem 334 (by decide +kernel) rfl, zx_mem 335 (by decide +kernel) rfl, zx_mem 76 (by decide +kernel) rfl⟩
set_option maxRecDepth 100000 in
theorem kf_D : ∀ j, j < 3 → defaultValue (zy_D j) = vp_V [.null, .null, .null] j := by decide +kernel
set_option maxRecDepth 100000 in
theorem kl_T_29 : zx_cb "StillPicture$Tile" 29 y_D_init M_D_init 1 ∧ Cond.instanceMethod y_D_init ∈ zx_ws := ⟨⟨zx_mem 338 rfl rfl, zx_mem 76 (by decide +kernel) rfl, ⟨by decide, by decide, by decide +kernel⟩, Or.inl (zx_mem 336 (by decide +kernel) rfl)⟩, zx_mem 337 (by decide +kernel) rfl⟩
set_option maxRecDepth 100000 in
theorem kp_T_32 : ∃ (C : String) (T : u_T) (N : Nat), vwCl[7]? = some (C, T, N) ∧ 3 < N ∧ (∀ w ∈ u_ws C T N, w ∈ zx_ws) ∧ Cond.fieldLink "StillPicture$Tile" 32 (T 3).1 (T 3).2.1 (T 3).2.2.1 ∈ zx_ws := ⟨"StillPicture$Tile", zt_T, 6, rfl, by decide, uw_T, zx_mem 380 (by decide +kernel) rfl⟩
set_option maxRecDepth 100000 in
theorem kq_T_3 : zc_pl "StillPicture$Tile" 7 3 (.object "StillPicture$Differences") := ⟨"StillPicture$Tile", zt_T, 6, zy_T, rfl, zy_T_ok, zn_T, rfl, by decide +kernel⟩
set_option maxRecDepth 100000 in
theorem kn_T_36 : Cond.classLink "StillPicture$Tile" 36 "StillPicture$Prediction" ∈ zx_ws ∧ Cond.instantiable "StillPicture$Prediction" 6 ∈ zx_ws ∧ Cond.initialized "StillPicture$Prediction" ∈ zx_ws := ⟨zx_mem 351 (by decide +kernel) rfl, zx_mem 352 (by decide +kernel) rfl, zx_mem 77 (by decide +kernel) rfl⟩
set_option maxRecDepth 100000 in
theorem kf_E : ∀ j, j < 6 → defaultValue (zy_E j) = vp_V [.null, .null, .null, .null, .int 0, .int 0] j := by decide +kernel
set_option maxRecDepth 100000 in
theorem kl_T_38 : zx_cb "StillPicture$Tile" 38 y_E_init M_E_init 1 ∧ Cond.instanceMethod y_E_init ∈ zx_ws := ⟨⟨zx_mem 355 rfl rfl, zx_mem 77 (by decide +kernel) rfl, ⟨by decide, by decide, by decide +kernel⟩, Or.inl (zx_mem 353 (by decide +kernel) rfl)⟩, zx_mem 354 (by decide +kernel) rfl⟩
set_option maxRecDepth 100000 in
theorem kp_T_41 : ∃ (C : String) (T : u_T) (N : Nat), vwCl[7]? = some (C, T, N) ∧ 4 < N ∧ (∀ w ∈ u_ws C T N, w ∈ zx_ws) ∧ Cond.fieldLink "StillPicture$Tile" 41 (T 4).1 (T 4).2.1 (T 4).2.2.1 ∈ zx_ws := ⟨"StillPicture$Tile", zt_T, 6, rfl, by decide, uw_T, zx_mem 381 (by decide +kernel) rfl⟩
set_option maxRecDepth 100000 in
theorem kq_T_4 : zc_pl "StillPicture$Tile" 7 4 (.object "StillPicture$Prediction") := ⟨"StillPicture$Tile", zt_T, 6, zy_T, rfl, zy_T_ok, zn_T, rfl, by decide +kernel⟩
set_option maxRecDepth 100000 in
theorem ko_F_1 : Cond.methodLink "StillPicture$Filter" 1 Lib.objectInit ∈ zx_ws ∧ Cond.instanceMethod Lib.objectInit ∈ zx_ws ∧ Cond.code Lib.objectInit ⟨#[0xb1]⟩ 1 none ∈ zx_ws := ⟨zx_mem 401 (by decide +kernel) rfl, zx_mem 89 (by decide +kernel) rfl, zx_mem 90 rfl rfl⟩
set_option maxRecDepth 100000 in
theorem kp_F_9 : ∃ (C : String) (T : u_T) (N : Nat), vwCl[10]? = some (C, T, N) ∧ 2 < N ∧ (∀ w ∈ u_ws C T N, w ∈ zx_ws) ∧ Cond.fieldLink "StillPicture$Filter" 9 (T 2).1 (T 2).2.1 (T 2).2.2.1 ∈ zx_ws := ⟨"StillPicture$Filter", zt_F, 3, rfl, by decide, uw_F, zx_mem 404 (by decide +kernel) rfl⟩
set_option maxRecDepth 100000 in
theorem kq_F_2 : zc_pl "StillPicture$Filter" 10 2 (.array .int) := ⟨"StillPicture$Filter", zt_F, 3, zy_F, rfl, zy_F_ok, zn_F, rfl, by decide +kernel⟩
set_option maxRecDepth 100000 in
theorem kp_F_15 : ∃ (C : String) (T : u_T) (N : Nat), vwCl[10]? = some (C, T, N) ∧ 0 < N ∧ (∀ w ∈ u_ws C T N, w ∈ zx_ws) ∧ Cond.fieldLink "StillPicture$Filter" 15 (T 0).1 (T 0).2.1 (T 0).2.2.1 ∈ zx_ws := ⟨"StillPicture$Filter", zt_F, 3, rfl, by decide, uw_F, zx_mem 402 (by decide +kernel) rfl⟩
set_option maxRecDepth 100000 in
theorem kq_F_0 : zc_pl "StillPicture$Filter" 10 0 (.object "StillPicture$Header") := ⟨"StillPicture$Filter", zt_F, 3, zy_F, rfl, zy_F_ok, zn_F, rfl, by decide +kernel⟩
set_option maxRecDepth 100000 in
theorem kp_F_19 : ∃ (C : String) (T : u_T) (N : Nat), vwCl[10]? = some (C, T, N) ∧ 1 < N ∧ (∀ w ∈ u_ws C T N, w ∈ zx_ws) ∧ Cond.fieldLink "StillPicture$Filter" 19 (T 1).1 (T 1).2.1 (T 1).2.2.1 ∈ zx_ws := ⟨"StillPicture$Filter", zt_F, 3, rfl, by decide, uw_F, zx_mem 403 (by decide +kernel) rfl⟩
set_option maxRecDepth 100000 in
theorem kq_F_1 : zc_pl "StillPicture$Filter" 10 1 (.object "StillPicture$Picture") := ⟨"StillPicture$Filter", zt_F, 3, zy_F, rfl, zy_F_ok, zn_F, rfl, by decide +kernel⟩
set_option maxRecDepth 100000 in
theorem ko_S_1 : Cond.methodLink "StillPicture" 1 Lib.objectInit ∈ zx_ws ∧ Cond.instanceMethod Lib.objectInit ∈ zx_ws ∧ Cond.code Lib.objectInit ⟨#[0xb1]⟩ 1 none ∈ zx_ws := ⟨zx_mem 88 (by decide +kernel) rfl, zx_mem 89 (by decide +kernel) rfl, zx_mem 90 rfl rfl⟩
set_option maxRecDepth 100000 in
theorem kp_S_9 : ∃ (C : String) (T : u_T) (N : Nat), vwCl[0]? = some (C, T, N) ∧ 0 < N ∧ (∀ w ∈ u_ws C T N, w ∈ zx_ws) ∧ Cond.fieldLink "StillPicture" 9 (T 0).1 (T 0).2.1 (T 0).2.2.1 ∈ zx_ws := ⟨"StillPicture", zt_S, 10, rfl, by decide, uw_S, zx_mem 412 (by decide +kernel) rfl⟩
set_option maxRecDepth 100000 in
theorem kq_S_0 : zc_pl "StillPicture" 0 0 (.array .int) := ⟨"StillPicture", zt_S, 10, zy_S, rfl, zy_S_ok, zn_S, rfl, by decide +kernel⟩
set_option maxRecDepth 100000 in
theorem kn_S_13 : Cond.classLink "StillPicture" 13 "StillPicture$Boxes" ∈ zx_ws ∧ Cond.instantiable "StillPicture$Boxes" 7 ∈ zx_ws ∧ Cond.initialized "StillPicture$Boxes" ∈ zx_ws := ⟨zx_mem 91 (by decide +kernel) rfl, zx_mem 92 (by decide +kernel) rfl, zx_mem 69 (by decide +kernel) rfl⟩
set_option maxRecDepth 100000 in
theorem kf_B : ∀ j, j < 7 → defaultValue (zy_B j) = vp_V [.null, .null, .null, .null, .null, .null, .int 0] j := by decide +kernel
set_option maxRecDepth 100000 in
theorem kg_S_9 : zx_fl "StillPicture" 9 0 0 := ⟨"StillPicture", zt_S, 10, rfl, by decide, uw_S, Or.inl ⟨_, rfl, zx_mem 412 (by decide +kernel) rfl⟩⟩
set_option maxRecDepth 100000 in
theorem kl_S_15 : zx_cb "StillPicture" 15 y_B_init M_B_init 1 ∧ Cond.instanceMethod y_B_init ∈ zx_ws := ⟨⟨zx_mem 95 rfl rfl, zx_mem 69 (by decide +kernel) rfl, ⟨by decide, by decide, by decide +kernel⟩, Or.inl (zx_mem 93 (by decide +kernel) rfl)⟩, zx_mem 94 (by decide +kernel) rfl⟩
set_option maxRecDepth 100000 in
theorem kp_S_18 : ∃ (C : String) (T : u_T) (N : Nat), vwCl[0]? = some (C, T, N) ∧ 1 < N ∧ (∀ w ∈ u_ws C T N, w ∈ zx_ws) ∧ Cond.fieldLink "StillPicture" 18 (T 1).1 (T 1).2.1 (T 1).2.2.1 ∈ zx_ws := ⟨"StillPicture", zt_S, 10, rfl, by decide, uw_S, zx_mem 413 (by decide +kernel) rfl⟩
set_option maxRecDepth 100000 in
theorem kq_S_1 : zc_pl "StillPicture" 0 1 (.object "StillPicture$Boxes") := ⟨"StillPicture", zt_S, 10, zy_S, rfl, zy_S_ok, zn_S, rfl, by decide +kernel⟩
set_option maxRecDepth 100000 in
theorem kn_S_22 : Cond.classLink "StillPicture" 22 "StillPicture$Item" ∈ zx_ws ∧ Cond.instantiable "StillPicture$Item" 11 ∈ zx_ws ∧ Cond.initialized "StillPicture$Item" ∈ zx_ws := ⟨zx_mem 123 (by decide +kernel) rfl, zx_mem 124 (by decide +kernel) rfl, zx_mem 70 (by decide +kernel) rfl⟩
set_option maxRecDepth 100000 in
theorem kf_I : ∀ j, j < 11 → defaultValue (zy_I j) = vp_V [.null, .null, .null, .null, .int 0, .int 0, .int 0, .int 0, .int 0, .int 0, .int 0] j := by decide +kernel
set_option maxRecDepth 100000 in
theorem kg_S_18 : zx_fl "StillPicture" 18 0 1 := ⟨"StillPicture", zt_S, 10, rfl, by decide, uw_S, Or.inl ⟨_, rfl, zx_mem 413 (by decide +kernel) rfl⟩⟩
set_option maxRecDepth 100000 in
theorem kl_S_24 : zx_cb "StillPicture" 24 y_I_init M_I_init 2 ∧ Cond.instanceMethod y_I_init ∈ zx_ws := ⟨⟨zx_mem 127 rfl rfl, zx_mem 70 (by decide +kernel) rfl, ⟨by decide, by decide, by decide +kernel⟩, Or.inl (zx_mem 125 (by decide +kernel) rfl)⟩, zx_mem 126 (by decide +kernel) rfl⟩
set_option maxRecDepth 100000 in
theorem kp_S_27 : ∃ (C : String) (T : u_T) (N : Nat), vwCl[0]? = some (C, T, N) ∧ 2 < N ∧ (∀ w ∈ u_ws C T N, w ∈ zx_ws) ∧ Cond.fieldLink "StillPicture" 27 (T 2).1 (T 2).2.1 (T 2).2.2.1 ∈ zx_ws := ⟨"StillPicture", zt_S, 10, rfl, by decide, uw_S, zx_mem 414 (by decide +kernel) rfl⟩
set_option maxRecDepth 100000 in
theorem kq_S_2 : zc_pl "StillPicture" 0 2 (.object "StillPicture$Item") := ⟨"StillPicture", zt_S, 10, zy_S, rfl, zy_S_ok, zn_S, rfl, by decide +kernel⟩
set_option maxRecDepth 100000 in
theorem kn_S_31 : Cond.classLink "StillPicture" 31 "StillPicture$Header" ∈ zx_ws ∧ Cond.instantiable "StillPicture$Header" 16 ∈ zx_ws ∧ Cond.initialized "StillPicture$Header" ∈ zx_ws := ⟨zx_mem 187 (by decide +kernel) rfl, zx_mem 188 (by decide +kernel) rfl, zx_mem 72 (by decide +kernel) rfl⟩
set_option maxRecDepth 100000 in
theorem kf_H : ∀ j, j < 16 → defaultValue (zy_H j) = vp_V [.null, .null, .null, .int 0, .int 0, .int 0, .int 0, .int 0, .int 0, .int 0, .int 0, .int 0, .int 0, .int 0, .int 0, .int 0] j := by decide +kernel
set_option maxRecDepth 100000 in
theorem kg_S_27 : zx_fl "StillPicture" 27 0 2 := ⟨"StillPicture", zt_S, 10, rfl, by decide, uw_S, Or.inl ⟨_, rfl, zx_mem 414 (by decide +kernel) rfl⟩⟩
set_option maxRecDepth 100000 in
theorem kl_S_33 : zx_cb "StillPicture" 33 y_H_init M_H_init 1 ∧ Cond.instanceMethod y_H_init ∈ zx_ws := ⟨⟨zx_mem 191 rfl rfl, zx_mem 72 (by decide +kernel) rfl, ⟨by decide, by decide, by decide +kernel⟩, Or.inl (zx_mem 189 (by decide +kernel) rfl)⟩, zx_mem 190 (by decide +kernel) rfl⟩
set_option maxRecDepth 100000 in
theorem kp_S_36 : ∃ (C : String) (T : u_T) (N : Nat), vwCl[0]? = some (C, T, N) ∧ 3 < N ∧ (∀ w ∈ u_ws C T N, w ∈ zx_ws) ∧ Cond.fieldLink "StillPicture" 36 (T 3).1 (T 3).2.1 (T 3).2.2.1 ∈ zx_ws := ⟨"StillPicture", zt_S, 10, rfl, by decide, uw_S, zx_mem 415 (by decide +kernel) rfl⟩
set_option maxRecDepth 100000 in
theorem kq_S_3 : zc_pl "StillPicture" 0 3 (.object "StillPicture$Header") := ⟨"StillPicture", zt_S, 10, zy_S, rfl, zy_S_ok, zn_S, rfl, by decide +kernel⟩
set_option maxRecDepth 100000 in
theorem kn_S_40 : Cond.classLink "StillPicture" 40 "StillPicture$Coder" ∈ zx_ws ∧ Cond.instantiable "StillPicture$Coder" 10 ∈ zx_ws ∧ Cond.initialized "StillPicture$Coder" ∈ zx_ws := ⟨zx_mem 262 (by decide +kernel) rfl, zx_mem 263 (by decide +kernel) rfl, zx_mem 73 (by decide +kernel) rfl⟩
set_option maxRecDepth 100000 in
theorem kf_C : ∀ j, j < 10 → defaultValue (zy_C j) = vp_V [.null, .null, .null, .int 0, .int 0, .int 0, .int 0, .int 0, .int 0, .int 0] j := by decide +kernel
set_option maxRecDepth 100000 in
theorem kg_S_42 : zx_fl "StillPicture" 42 2 3 := ⟨"StillPicture$Item", zt_I, 11, rfl, by decide, uw_I, Or.inr ⟨_, "StillPicture", rfl, zx_memN 155 (by decide +kernel) rfl⟩⟩
set_option maxRecDepth 100000 in
theorem kl_S_45 : zx_cb "StillPicture" 45 y_C_init M_C_init 1 ∧ Cond.instanceMethod y_C_init ∈ zx_ws := ⟨⟨zx_mem 266 rfl rfl, zx_mem 73 (by decide +kernel) rfl, ⟨by decide, by decide, by decide +kernel⟩, Or.inl (zx_mem 264 (by decide +kernel) rfl)⟩, zx_mem 265 (by decide +kernel) rfl⟩
set_option maxRecDepth 100000 in
theorem kp_S_46 : ∃ (C : String) (T : u_T) (N : Nat), vwCl[0]? = some (C, T, N) ∧ 4 < N ∧ (∀ w ∈ u_ws C T N, w ∈ zx_ws) ∧ Cond.fieldLink "StillPicture" 46 (T 4).1 (T 4).2.1 (T 4).2.2.1 ∈ zx_ws := ⟨"StillPicture", zt_S, 10, rfl, by decide, uw_S, zx_mem 416 (by decide +kernel) rfl⟩
set_option maxRecDepth 100000 in
theorem kq_S_4 : zc_pl "StillPicture" 0 4 (.object "StillPicture$Coder") := ⟨"StillPicture", zt_S, 10, zy_S, rfl, zy_S_ok, zn_S, rfl, by decide +kernel⟩
set_option maxRecDepth 100000 in
theorem kn_S_50 : Cond.classLink "StillPicture" 50 "StillPicture$Picture" ∈ zx_ws ∧ Cond.instantiable "StillPicture$Picture" 5 ∈ zx_ws ∧ Cond.initialized "StillPicture$Picture" ∈ zx_ws := ⟨zx_mem 301 (by decide +kernel) rfl, zx_mem 302 (by decide +kernel) rfl, zx_mem 74 (by decide +kernel) rfl⟩
set_option maxRecDepth 100000 in
theorem kf_P : ∀ j, j < 5 → defaultValue (zy_P j) = vp_V [.null, .null, .null, .int 0, .int 0] j := by decide +kernel
set_option maxRecDepth 100000 in
theorem kl_S_52 : zx_cb "StillPicture" 52 y_P_init M_P_init 0 ∧ Cond.instanceMethod y_P_init ∈ zx_ws := ⟨⟨zx_mem 305 rfl rfl, zx_mem 74 (by decide +kernel) rfl, ⟨by decide, by decide, by decide +kernel⟩, Or.inr ⟨"StillPicture", zx_memN 303 (by decide +kernel) rfl⟩⟩, zx_mem 304 (by decide +kernel) rfl⟩
set_option maxRecDepth 100000 in
theorem kp_S_53 : ∃ (C : String) (T : u_T) (N : Nat), vwCl[0]? = some (C, T, N) ∧ 5 < N ∧ (∀ w ∈ u_ws C T N, w ∈ zx_ws) ∧ Cond.fieldLink "StillPicture" 53 (T 5).1 (T 5).2.1 (T 5).2.2.1 ∈ zx_ws := ⟨"StillPicture", zt_S, 10, rfl, by decide, uw_S, zx_mem 417 (by decide +kernel) rfl⟩
set_option maxRecDepth 100000 in
theorem kq_S_5 : zc_pl "StillPicture" 0 5 (.object "StillPicture$Picture") := ⟨"StillPicture", zt_S, 10, zy_S, rfl, zy_S_ok, zn_S, rfl, by decide +kernel⟩
set_option maxRecDepth 100000 in
theorem kn_S_57 : Cond.classLink "StillPicture" 57 "StillPicture$Tile" ∈ zx_ws ∧ Cond.instantiable "StillPicture$Tile" 6 ∈ zx_ws ∧ Cond.initialized "StillPicture$Tile" ∈ zx_ws := ⟨zx_mem 328 (by decide +kernel) rfl, zx_mem 329 (by decide +kernel) rfl, zx_mem 75 (by decide +kernel) rfl⟩
set_option maxRecDepth 100000 in
theorem kf_T : ∀ j, j < 6 → defaultValue (zy_T j) = vp_V [.null, .null, .null, .null, .null, .null] j := by decide +kernel
set_option maxRecDepth 100000 in
theorem kg_S_36 : zx_fl "StillPicture" 36 0 3 := ⟨"StillPicture", zt_S, 10, rfl, by decide, uw_S, Or.inl ⟨_, rfl, zx_mem 415 (by decide +kernel) rfl⟩⟩
set_option maxRecDepth 100000 in
theorem kg_S_46 : zx_fl "StillPicture" 46 0 4 := ⟨"StillPicture", zt_S, 10, rfl, by decide, uw_S, Or.inl ⟨_, rfl, zx_mem 416 (by decide +kernel) rfl⟩⟩
set_option maxRecDepth 100000 in
theorem kg_S_53 : zx_fl "StillPicture" 53 0 5 := ⟨"StillPicture", zt_S, 10, rfl, by decide, uw_S, Or.inl ⟨_, rfl, zx_mem 417 (by decide +kernel) rfl⟩⟩
set_option maxRecDepth 100000 in
theorem kl_S_59 : zx_cb "StillPicture" 59 y_T_init M_T_init 3 ∧ Cond.instanceMethod y_T_init ∈ zx_ws := ⟨⟨zx_mem 332 rfl rfl, zx_mem 75 (by decide +kernel) rfl, ⟨by decide, by decide, by decide +kernel⟩, Or.inl (zx_mem 330 (by decide +kernel) rfl)⟩, zx_mem 331 (by decide +kernel) rfl⟩
set_option maxRecDepth 100000 in
theorem kp_S_62 : ∃ (C : String) (T : u_T) (N : Nat), vwCl[0]? = some (C, T, N) ∧ 6 < N ∧ (∀ w ∈ u_ws C T N, w ∈ zx_ws) ∧ Cond.fieldLink "StillPicture" 62 (T 6).1 (T 6).2.1 (T 6).2.2.1 ∈ zx_ws := ⟨"StillPicture", zt_S, 10, rfl, by decide, uw_S, zx_mem 418 (by decide +kernel) rfl⟩
set_option maxRecDepth 100000 in
theorem kq_S_6 : zc_pl "StillPicture" 0 6 (.object "StillPicture$Tile") := ⟨"StillPicture", zt_S, 10, zy_S, rfl, zy_S_ok, zn_S, rfl, by decide +kernel⟩
set_option maxRecDepth 100000 in
theorem kn_S_66 : Cond.classLink "StillPicture" 66 "StillPicture$Filter" ∈ zx_ws ∧ Cond.instantiable "StillPicture$Filter" 3 ∈ zx_ws ∧ Cond.initialized "StillPicture$Filter" ∈ zx_ws := ⟨zx_mem 396 (by decide +kernel) rfl, zx_mem 397 (by decide +kernel) rfl, zx_mem 78 (by decide +kernel) rfl⟩
set_option maxRecDepth 100000 in
theorem kf_F : ∀ j, j < 3 → defaultValue (zy_F j) = vp_V [.null, .null, .null] j := by decide +kernel
set_option maxRecDepth 100000 in
theorem kl_S_68 : zx_cb "StillPicture" 68 y_F_init M_F_init 2 ∧ Cond.instanceMethod y_F_init ∈ zx_ws := ⟨⟨zx_mem 400 rfl rfl, zx_mem 78 (by decide +kernel) rfl, ⟨by decide, by decide, by decide +kernel⟩, Or.inl (zx_mem 398 (by decide +kernel) rfl)⟩, zx_mem 399 (by decide +kernel) rfl⟩
set_option maxRecDepth 100000 in
theorem kp_S_71 : ∃ (C : String) (T : u_T) (N : Nat), vwCl[0]? = some (C, T, N) ∧ 7 < N ∧ (∀ w ∈ u_ws C T N, w ∈ zx_ws) ∧ Cond.fieldLink "StillPicture" 71 (T 7).1 (T 7).2.1 (T 7).2.2.1 ∈ zx_ws := ⟨"StillPicture", zt_S, 10, rfl, by decide, uw_S, zx_mem 419 (by decide +kernel) rfl⟩
set_option maxRecDepth 100000 in
theorem kq_S_7 : zc_pl "StillPicture" 0 7 (.object "StillPicture$Filter") := ⟨"StillPicture", zt_S, 10, zy_S, rfl, zy_S_ok, zn_S, rfl, by decide +kernel⟩
set_option maxRecDepth 100000 in
theorem kp_S_75 : ∃ (C : String) (T : u_T) (N : Nat), vwCl[0]? = some (C, T, N) ∧ 8 < N ∧ (∀ w ∈ u_ws C T N, w ∈ zx_ws) ∧ Cond.fieldLink "StillPicture" 75 (T 8).1 (T 8).2.1 (T 8).2.2.1 ∈ zx_ws := ⟨"StillPicture", zt_S, 10, rfl, by decide, uw_S, zx_mem 420 (by decide +kernel) rfl⟩
set_option maxRecDepth 100000 in
theorem kq_S_8 : zc_pl "StillPicture" 0 8 .int := ⟨"StillPicture", zt_S, 10, zy_S, rfl, zy_S_ok, zn_S, rfl, by decide +kernel⟩
set_option maxRecDepth 100000 in
theorem kp_S_79 : ∃ (C : String) (T : u_T) (N : Nat), vwCl[0]? = some (C, T, N) ∧ 9 < N ∧ (∀ w ∈ u_ws C T N, w ∈ zx_ws) ∧ Cond.fieldLink "StillPicture" 79 (T 9).1 (T 9).2.1 (T 9).2.2.1 ∈ zx_ws := ⟨"StillPicture", zt_S, 10, rfl, by decide, uw_S, zx_mem 421 (by decide +kernel) rfl⟩
set_option maxRecDepth 100000 in
theorem kq_S_9 : zc_pl "StillPicture" 0 9 .boolean := ⟨"StillPicture", zt_S, 10, zy_S, rfl, zy_S_ok, zn_S, rfl, by decide +kernel⟩
set_option maxRecDepth 100000 in
theorem ko_M_1 : Cond.methodLink "StillPictureModel" 1 Lib.objectInit ∈ zx_ws ∧ Cond.instanceMethod Lib.objectInit ∈ zx_ws ∧ Cond.code Lib.objectInit ⟨#[0xb1]⟩ 1 none ∈ zx_ws := ⟨zx_mem 821 (by decide +kernel) rfl, zx_mem 89 (by decide +kernel) rfl, zx_mem 90 rfl rfl⟩
set_option maxRecDepth 100000 in
theorem kp_M_7 : ∃ (C : String) (T : u_T) (N : Nat), vwCl[11]? = some (C, T, N) ∧ 1 < N ∧ (∀ w ∈ u_ws C T N, w ∈ zx_ws) ∧ Cond.fieldLink "StillPictureModel" 7 (T 1).1 (T 1).2.1 (T 1).2.2.1 ∈ zx_ws := ⟨"StillPictureModel", zt_M, 47, rfl, by decide, uw_M, zx_mem 823 (by decide +kernel) rfl⟩
set_option maxRecDepth 100000 in
theorem kq_M_1 : zc_pl "StillPictureModel" 11 1 (.array .int) := ⟨"StillPictureModel", zt_M, 47, zy_M, rfl, zy_M_ok, zn_M, rfl, by decide +kernel⟩
set_option maxRecDepth 100000 in
theorem kp_M_13 : ∃ (C : String) (T : u_T) (N : Nat), vwCl[11]? = some (C, T, N) ∧ 3 < N ∧ (∀ w ∈ u_ws C T N, w ∈ zx_ws) ∧ Cond.fieldLink "StillPictureModel" 13 (T 3).1 (T 3).2.1 (T 3).2.2.1 ∈ zx_ws := ⟨"StillPictureModel", zt_M, 47, rfl, by decide, uw_M, zx_mem 825 (by decide +kernel) rfl⟩
set_option maxRecDepth 100000 in
theorem kq_M_3 : zc_pl "StillPictureModel" 11 3 (.array .int) := ⟨"StillPictureModel", zt_M, 47, zy_M, rfl, zy_M_ok, zn_M, rfl, by decide +kernel⟩
set_option maxRecDepth 100000 in
theorem kp_M_16 : ∃ (C : String) (T : u_T) (N : Nat), vwCl[11]? = some (C, T, N) ∧ 4 < N ∧ (∀ w ∈ u_ws C T N, w ∈ zx_ws) ∧ Cond.fieldLink "StillPictureModel" 16 (T 4).1 (T 4).2.1 (T 4).2.2.1 ∈ zx_ws := ⟨"StillPictureModel", zt_M, 47, rfl, by decide, uw_M, zx_mem 826 (by decide +kernel) rfl⟩
set_option maxRecDepth 100000 in
theorem kq_M_4 : zc_pl "StillPictureModel" 11 4 (.array .int) := ⟨"StillPictureModel", zt_M, 47, zy_M, rfl, zy_M_ok, zn_M, rfl, by decide +kernel⟩
set_option maxRecDepth 100000 in
theorem kp_M_19 : ∃ (C : String) (T : u_T) (N : Nat), vwCl[11]? = some (C, T, N) ∧ 5 < N ∧ (∀ w ∈ u_ws C T N, w ∈ zx_ws) ∧ Cond.fieldLink "StillPictureModel" 19 (T 5).1 (T 5).2.1 (T 5).2.2.1 ∈ zx_ws := ⟨"StillPictureModel", zt_M, 47, rfl, by decide, uw_M, zx_mem 827 (by decide +kernel) rfl⟩
set_option maxRecDepth 100000 in
theorem kq_M_5 : zc_pl "StillPictureModel" 11 5 (.array .int) := ⟨"StillPictureModel", zt_M, 47, zy_M, rfl, zy_M_ok, zn_M, rfl, by decide +kernel⟩
set_option maxRecDepth 100000 in
theorem kp_M_22 : ∃ (C : String) (T : u_T) (N : Nat), vwCl[11]? = some (C, T, N) ∧ 6 < N ∧ (∀ w ∈ u_ws C T N, w ∈ zx_ws) ∧ Cond.fieldLink "StillPictureModel" 22 (T 6).1 (T 6).2.1 (T 6).2.2.1 ∈ zx_ws := ⟨"StillPictureModel", zt_M, 47, rfl, by decide, uw_M, zx_mem 828 (by decide +kernel) rfl⟩
set_option maxRecDepth 100000 in
theorem kq_M_6 : zc_pl "StillPictureModel" 11 6 (.array .int) := ⟨"StillPictureModel", zt_M, 47, zy_M, rfl, zy_M_ok, zn_M, rfl, by decide +kernel⟩
set_option maxRecDepth 100000 in
theorem kp_M_25 : ∃ (C : String) (T : u_T) (N : Nat), vwCl[11]? = some (C, T, N) ∧ 7 < N ∧ (∀ w ∈ u_ws C T N, w ∈ zx_ws) ∧ Cond.fieldLink "StillPictureModel" 25 (T 7).1 (T 7).2.1 (T 7).2.2.1 ∈ zx_ws := ⟨"StillPictureModel", zt_M, 47, rfl, by decide, uw_M, zx_mem 829 (by decide +kernel) rfl⟩
set_option maxRecDepth 100000 in
theorem kq_M_7 : zc_pl "StillPictureModel" 11 7 (.array .int) := ⟨"StillPictureModel", zt_M, 47, zy_M, rfl, zy_M_ok, zn_M, rfl, by decide +kernel⟩
set_option maxRecDepth 100000 in
theorem kp_M_28 : ∃ (C : String) (T : u_T) (N : Nat), vwCl[11]? = some (C, T, N) ∧ 9 < N ∧ (∀ w ∈ u_ws C T N, w ∈ zx_ws) ∧ Cond.fieldLink "StillPictureModel" 28 (T 9).1 (T 9).2.1 (T 9).2.2.1 ∈ zx_ws := ⟨"StillPictureModel", zt_M, 47, rfl, by decide, uw_M, zx_mem 831 (by decide +kernel) rfl⟩
set_option maxRecDepth 100000 in
theorem kq_M_9 : zc_pl "StillPictureModel" 11 9 (.array .int) := ⟨"StillPictureModel", zt_M, 47, zy_M, rfl, zy_M_ok, zn_M, rfl, by decide +kernel⟩
set_option maxRecDepth 100000 in
theorem kp_M_31 : ∃ (C : String) (T : u_T) (N : Nat), vwCl[11]? = some (C, T, N) ∧ 31 < N ∧ (∀ w ∈ u_ws C T N, w ∈ zx_ws) ∧ Cond.fieldLink "StillPictureModel" 31 (T 31).1 (T 31).2.1 (T 31).2.2.1 ∈ zx_ws := ⟨"StillPictureModel", zt_M, 47, rfl, by decide, uw_M, zx_mem 853 (by decide +kernel) rfl⟩
set_option maxRecDepth 100000 in
theorem kq_M_31 : zc_pl "StillPictureModel" 11 31 (.array .int) := ⟨"StillPictureModel", zt_M, 47, zy_M, rfl, zy_M_ok, zn_M, rfl, by decide +kernel⟩
set_option maxRecDepth 100000 in
theorem kp_M_34 : ∃ (C : String) (T : u_T) (N : Nat), vwCl[11]? = some (C, T, N) ∧ 32 < N ∧ (∀ w ∈ u_ws C T N, w ∈ zx_ws) ∧ Cond.fieldLink "StillPictureModel" 34 (T 32).1 (T 32).2.1 (T 32).2.2.1 ∈ zx_ws := ⟨"StillPictureModel", zt_M, 47, rfl, by decide, uw_M, zx_mem 854 (by decide +kernel) rfl⟩
set_option maxRecDepth 100000 in
theorem kq_M_32 : zc_pl "StillPictureModel" 11 32 (.array .int) := ⟨"StillPictureModel", zt_M, 47, zy_M, rfl, zy_M_ok, zn_M, rfl, by decide +kernel⟩
set_option maxRecDepth 100000 in
theorem kp_M_37 : ∃ (C : String) (T : u_T) (N : Nat), vwCl[11]? = some (C, T, N) ∧ 34 < N ∧ (∀ w ∈ u_ws C T N, w ∈ zx_ws) ∧ Cond.fieldLink "StillPictureModel" 37 (T 34).1 (T 34).2.1 (T 34).2.2.1 ∈ zx_ws := ⟨"StillPictureModel", zt_M, 47, rfl, by decide, uw_M, zx_mem 856 (by decide +kernel) rfl⟩
set_option maxRecDepth 100000 in
theorem kq_M_34 : zc_pl "StillPictureModel" 11 34 (.array .int) := ⟨"StillPictureModel", zt_M, 47, zy_M, rfl, zy_M_ok, zn_M, rfl, by decide +kernel⟩
set_option maxRecDepth 100000 in
theorem kp_M_40 : ∃ (C : String) (T : u_T) (N : Nat), vwCl[11]? = some (C, T, N) ∧ 35 < N ∧ (∀ w ∈ u_ws C T N, w ∈ zx_ws) ∧ Cond.fieldLink "StillPictureModel" 40 (T 35).1 (T 35).2.1 (T 35).2.2.1 ∈ zx_ws := ⟨"StillPictureModel", zt_M, 47, rfl, by decide, uw_M, zx_mem 857 (by decide +kernel) rfl⟩
set_option maxRecDepth 100000 in
theorem kq_M_35 : zc_pl "StillPictureModel" 11 35 (.array .int) := ⟨"StillPictureModel", zt_M, 47, zy_M, rfl, zy_M_ok, zn_M, rfl, by decide +kernel⟩
set_option maxRecDepth 100000 in
theorem kp_M_43 : ∃ (C : String) (T : u_T) (N : Nat), vwCl[11]? = some (C, T, N) ∧ 36 < N ∧ (∀ w ∈ u_ws C T N, w ∈ zx_ws) ∧ Cond.fieldLink "StillPictureModel" 43 (T 36).1 (T 36).2.1 (T 36).2.2.1 ∈ zx_ws := ⟨"StillPictureModel", zt_M, 47, rfl, by decide, uw_M, zx_mem 858 (by decide +kernel) rfl⟩
set_option maxRecDepth 100000 in
theorem kq_M_36 : zc_pl "StillPictureModel" 11 36 (.array .int) := ⟨"StillPictureModel", zt_M, 47, zy_M, rfl, zy_M_ok, zn_M, rfl, by decide +kernel⟩
set_option maxRecDepth 100000 in
theorem kp_M_46 : ∃ (C : String) (T : u_T) (N : Nat), vwCl[11]? = some (C, T, N) ∧ 38 < N ∧ (∀ w ∈ u_ws C T N, w ∈ zx_ws) ∧ Cond.fieldLink "StillPictureModel" 46 (T 38).1 (T 38).2.1 (T 38).2.2.1 ∈ zx_ws := ⟨"StillPictureModel", zt_M, 47, rfl, by decide, uw_M, zx_mem 860 (by decide +kernel) rfl⟩
set_option maxRecDepth 100000 in
theorem kq_M_38 : zc_pl "StillPictureModel" 11 38 (.array .int) := ⟨"StillPictureModel", zt_M, 47, zy_M, rfl, zy_M_ok, zn_M, rfl, by decide +kernel⟩
set_option maxRecDepth 100000 in
theorem kp_M_49 : ∃ (C : String) (T : u_T) (N : Nat), vwCl[11]? = some (C, T, N) ∧ 39 < N ∧ (∀ w ∈ u_ws C T N, w ∈ zx_ws) ∧ Cond.fieldLink "StillPictureModel" 49 (T 39).1 (T 39).2.1 (T 39).2.2.1 ∈ zx_ws := ⟨"StillPictureModel", zt_M, 47, rfl, by decide, uw_M, zx_mem 861 (by decide +kernel) rfl⟩
set_option maxRecDepth 100000 in
theorem kq_M_39 : zc_pl "StillPictureModel" 11 39 (.array .int) := ⟨"StillPictureModel", zt_M, 47, zy_M, rfl, zy_M_ok, zn_M, rfl, by decide +kernel⟩
set_option maxRecDepth 100000 in
theorem kp_M_52 : ∃ (C : String) (T : u_T) (N : Nat), vwCl[11]? = some (C, T, N) ∧ 40 < N ∧ (∀ w ∈ u_ws C T N, w ∈ zx_ws) ∧ Cond.fieldLink "StillPictureModel" 52 (T 40).1 (T 40).2.1 (T 40).2.2.1 ∈ zx_ws := ⟨"StillPictureModel", zt_M, 47, rfl, by decide, uw_M, zx_mem 862 (by decide +kernel) rfl⟩
set_option maxRecDepth 100000 in
theorem kq_M_40 : zc_pl "StillPictureModel" 11 40 (.array .int) := ⟨"StillPictureModel", zt_M, 47, zy_M, rfl, zy_M_ok, zn_M, rfl, by decide +kernel⟩
set_option maxRecDepth 100000 in
theorem kp_M_55 : ∃ (C : String) (T : u_T) (N : Nat), vwCl[11]? = some (C, T, N) ∧ 41 < N ∧ (∀ w ∈ u_ws C T N, w ∈ zx_ws) ∧ Cond.fieldLink "StillPictureModel" 55 (T 41).1 (T 41).2.1 (T 41).2.2.1 ∈ zx_ws := ⟨"StillPictureModel", zt_M, 47, rfl, by decide, uw_M, zx_mem 863 (by decide +kernel) rfl⟩
set_option maxRecDepth 100000 in
theorem kq_M_41 : zc_pl "StillPictureModel" 11 41 (.array .int) := ⟨"StillPictureModel", zt_M, 47, zy_M, rfl, zy_M_ok, zn_M, rfl, by decide +kernel⟩
set_option maxRecDepth 100000 in
theorem kp_M_58 : ∃ (C : String) (T : u_T) (N : Nat), vwCl[11]? = some (C, T, N) ∧ 42 < N ∧ (∀ w ∈ u_ws C T N, w ∈ zx_ws) ∧ Cond.fieldLink "StillPictureModel" 58 (T 42).1 (T 42).2.1 (T 42).2.2.1 ∈ zx_ws := ⟨"StillPictureModel", zt_M, 47, rfl, by decide, uw_M, zx_mem 864 (by decide +kernel) rfl⟩
set_option maxRecDepth 100000 in
theorem kq_M_42 : zc_pl "StillPictureModel" 11 42 (.array .int) := ⟨"StillPictureModel", zt_M, 47, zy_M, rfl, zy_M_ok, zn_M, rfl, by decide +kernel⟩
set_option maxRecDepth 100000 in
theorem kp_M_61 : ∃ (C : String) (T : u_T) (N : Nat), vwCl[11]? = some (C, T, N) ∧ 43 < N ∧ (∀ w ∈ u_ws C T N, w ∈ zx_ws) ∧ Cond.fieldLink "StillPictureModel" 61 (T 43).1 (T 43).2.1 (T 43).2.2.1 ∈ zx_ws := ⟨"StillPictureModel", zt_M, 47, rfl, by decide, uw_M, zx_mem 865 (by decide +kernel) rfl⟩
set_option maxRecDepth 100000 in
theorem kq_M_43 : zc_pl "StillPictureModel" 11 43 (.array .int) := ⟨"StillPictureModel", zt_M, 47, zy_M, rfl, zy_M_ok, zn_M, rfl, by decide +kernel⟩
set_option maxRecDepth 100000 in
theorem kp_M_64 : ∃ (C : String) (T : u_T) (N : Nat), vwCl[11]? = some (C, T, N) ∧ 45 < N ∧ (∀ w ∈ u_ws C T N, w ∈ zx_ws) ∧ Cond.fieldLink "StillPictureModel" 64 (T 45).1 (T 45).2.1 (T 45).2.2.1 ∈ zx_ws := ⟨"StillPictureModel", zt_M, 47, rfl, by decide, uw_M, zx_mem 867 (by decide +kernel) rfl⟩
set_option maxRecDepth 100000 in
theorem kq_M_45 : zc_pl "StillPictureModel" 11 45 (.array .int) := ⟨"StillPictureModel", zt_M, 47, zy_M, rfl, zy_M_ok, zn_M, rfl, by decide +kernel⟩
set_option maxRecDepth 100000 in
theorem kp_M_67 : ∃ (C : String) (T : u_T) (N : Nat), vwCl[11]? = some (C, T, N) ∧ 46 < N ∧ (∀ w ∈ u_ws C T N, w ∈ zx_ws) ∧ Cond.fieldLink "StillPictureModel" 67 (T 46).1 (T 46).2.1 (T 46).2.2.1 ∈ zx_ws := ⟨"StillPictureModel", zt_M, 47, rfl, by decide, uw_M, zx_mem 868 (by decide +kernel) rfl⟩
set_option maxRecDepth 100000 in
theorem kq_M_46 : zc_pl "StillPictureModel" 11 46 (.array .int) := ⟨"StillPictureModel", zt_M, 47, zy_M, rfl, zy_M_ok, zn_M, rfl, by decide +kernel⟩
