/-! the methods as functions, and the rows that tie them to the machine; written by a program -/
def f_E_addShare_58 : Nat → Int32 → Int32 → Int32 → Int32 → zx_G → Option (Int32 × zx_G)
  | 0, _, _, _, _, _ => none
  | n + 1, x1, x2, x5, x6, G =>
    zx_if ((16 : Int32) ≤ x6)
      (some ((0 : Int32), G))
      (zx_gd (zx_in ((x1 + ((x6 >>> ((2 : Int32) &&& 31)) * (16 : Int32))) + (x6 &&& (3 : Int32))) 768) <|
      zx_lt (G 18 (Int32.toNatClampNeg ((x1 + ((x6 >>> ((2 : Int32) &&& 31)) * (16 : Int32))) + (x6 &&& (3 : Int32))))) fun x7_3 =>
      zx_gd (zx_in x6 16) <|
      zx_bd (f_P_limited ((G 27 (Int32.toNatClampNeg x6)) + (((x2 * (x7_3 - x5)) + (2 : Int32)) >>> ((2 : Int32) &&& 31))) G) fun r_6 G_5 =>
      zx_gd (zx_in x6 16) <|
      zx_lt (zx_up G_5 27 (Int32.toNatClampNeg x6) r_6) fun G_9 =>
      zx_lt (x6 + (1 : Int32)) fun x6_10 =>
      f_E_addShare_58 n x1 x2 x5 x6_10 G_9)
def f_E_addShare_15 : Nat → Int32 → Int32 → Int32 → Int32 → zx_G → Option (Int32 × zx_G)
  | 0, _, _, _, _, _ => none
  | n + 1, x1, x2, x4, x5, G =>
    zx_if ((16 : Int32) ≤ x5)
      (zx_lt (x4 >>> ((4 : Int32) &&& 31)) fun x5_2 =>
      zx_lt (0 : Int32) fun x6_3 =>
      f_E_addShare_58 2048 x1 x2 x5_2 x6_3 G)
      (zx_gd (zx_in ((x1 + ((x5 >>> ((2 : Int32) &&& 31)) * (16 : Int32))) + (x5 &&& (3 : Int32))) 768) <|
      zx_lt (x4 + (G 18 (Int32.toNatClampNeg ((x1 + ((x5 >>> ((2 : Int32) &&& 31)) * (16 : Int32))) + (x5 &&& (3 : Int32)))))) fun x4_5 =>
      zx_lt (x5 + (1 : Int32)) fun x5_6 =>
      f_E_addShare_15 n x1 x2 x4_5 x5_6 G)
def f_E_addShare (x1 x2 : Int32) (G : zx_G) : Option (Int32 × zx_G) :=
  zx_lt (8 : Int32) fun x4_1 =>
  zx_lt (0 : Int32) fun x5_2 =>
  f_E_addShare_15 2048 x1 x2 x4_1 x5_2 G
set_option maxRecDepth 100000 in
set_option maxHeartbeats 4000000 in
theorem z_E_addShare_58 {κ : zx_K} {ad : Nat → Nat} {r : Int32} {G1 : zx_G} (h : zx_C M_E_addShare κ ad) (hE : zx_E M_E_addShare κ ad r G1) : ∀ (n : Nat) (x1 x2 x5 x6 : Int32) (G : zx_G), f_E_addShare_58 n x1 x2 x5 x6 G = some (r, G1) → zx_Z κ ad 58 [(0, .ref (ad 26)), (1, .int x1), (2, .int x2), (3, .ref (ad 18)), (5, .int x5), (6, .int x6)] [] G := by
  intro n
  induction n with
  | zero => intro x1 x2 x5 x6 G hf; cases hf
  | succ n ih =>
    intro x1 x2 x5 x6 G hf
    unfold f_E_addShare_58 at hf
    refine zr_iload h d_E_addShare_58 rfl 5 rfl ?_
    refine zr_bipush (v := (16 : Int32)) h d_E_addShare_60 rfl (by decide) ?_
    rcases zx_if_some hf with ⟨hc_1, hf⟩ | ⟨hc_1, hf⟩
    · refine zr_icmp_ge_t (tgt := 122) h d_E_addShare_62 rfl hc_1 ?_
      exact zr_vret h hE d_E_addShare_122 rfl hf
    · refine zr_icmp_ge_f h 122 d_E_addShare_62 rfl rfl hc_1 ?_
      refine zr_aload_n h d_E_addShare_65 rfl rfl 3 rfl ?_
      refine zr_iload_n h d_E_addShare_66 rfl rfl 1 rfl ?_
      refine zr_iload h d_E_addShare_67 rfl 5 rfl ?_
      refine zr_iconst (v := (2 : Int32)) h d_E_addShare_69 rfl (by decide) ?_
      refine zr_ishr h d_E_addShare_70 rfl ?_
      refine zr_bipush (v := (16 : Int32)) h d_E_addShare_71 rfl (by decide) ?_
      refine zr_imul h d_E_addShare_73 rfl ?_
      refine zr_iadd h d_E_addShare_74 rfl ?_
      refine zr_iload h d_E_addShare_75 rfl 5 rfl ?_
      refine zr_iconst (v := (3 : Int32)) h d_E_addShare_77 rfl (by decide) ?_
      refine zr_iand h d_E_addShare_78 rfl ?_
      refine zr_iadd h d_E_addShare_79 rfl ?_
      obtain ⟨hb_2, hf⟩ := zx_gd_some hf
      refine zr_iald h d_E_addShare_80 rfl sh_18 hb_2 ?_
      obtain ⟨x7_3, ex7_3, hf⟩ := zx_lt_some hf
      refine zr_istore h d_E_addShare_81 rfl (by decide) ex7_3 rfl ?_
      refine zr_aload_n h d_E_addShare_83 rfl rfl 1 rfl ?_
      refine zr_getR h d_E_addShare_84 rfl fl_E_7 sh_26 rfl ?_
      refine zr_iload h d_E_addShare_87 rfl 6 rfl ?_
      refine zr_aload_n h d_E_addShare_89 rfl rfl 1 rfl ?_
      refine zr_getR h d_E_addShare_90 rfl fl_E_19 sh_26 rfl ?_
      refine zr_aload_n h d_E_addShare_93 rfl rfl 1 rfl ?_
      refine zr_getR h d_E_addShare_94 rfl fl_E_7 sh_26 rfl ?_
      refine zr_iload h d_E_addShare_97 rfl 6 rfl ?_
      obtain ⟨hb_4, hf⟩ := zx_gd_some hf
      refine zr_iald h d_E_addShare_99 rfl sh_27 hb_4 ?_
      refine zr_iload_n h d_E_addShare_100 rfl rfl 3 rfl ?_
      refine zr_iload h d_E_addShare_101 rfl 0 rfl ?_
      refine zr_iload h d_E_addShare_103 rfl 5 rfl ?_
      refine zr_isub h d_E_addShare_105 rfl ?_
      refine zr_imul h d_E_addShare_106 rfl ?_
      refine zr_iconst (v := (2 : Int32)) h d_E_addShare_107 rfl (by decide) ?_
      refine zr_iadd h d_E_addShare_108 rfl ?_
      refine zr_iconst (v := (2 : Int32)) h d_E_addShare_109 rfl (by decide) ?_
      refine zr_ishr h d_E_addShare_110 rfl ?_
      refine zr_iadd h d_E_addShare_111 rfl ?_
      obtain ⟨r_6, G_5, hq_7, hf⟩ := zx_bd_some hf
      refine zr_callVI (As := [.int ((G 27 (Int32.toNatClampNeg x6)) + (((x2 * (x7_3 - x5)) + (2 : Int32)) >>> ((2 : Int32) &&& 31)))]) (b := 17) h (c_P_limited _ _ _ _ _ ((G 27 (Int32.toNatClampNeg x6)) + (((x2 * (x7_3 - x5)) + (2 : Int32)) >>> ((2 : Int32) &&& 31))) G r_6 G_5 hq_7) cc_E_70 d_E_addShare_112 rfl rfl rfl sh_17 ⟨rfl, rfl, by decide, by decide⟩ (Nat.le_of_ble_eq_true rfl) ?_
      obtain ⟨hb_8, hf⟩ := zx_gd_some hf
      obtain ⟨G_9, eG_9, hf⟩ := zx_lt_some hf
      refine zr_iast h d_E_addShare_115 rfl sh_27 hb_8 eG_9 ?_
      obtain ⟨x6_10, ex6_10, hf⟩ := zx_lt_some hf
      refine zr_iinc (j := 6) h d_E_addShare_116 rfl rfl (by decide) ex6_10 (by decide) rfl ?_
      refine zr_goto (tgt := 58) h d_E_addShare_119 rfl ?_
      refine zr_sub [2, 3, 4, 5, 6, 0] rfl ?_
      exact ih x1 x2 x5 x6_10 G_9 hf
set_option maxRecDepth 100000 in
set_option maxHeartbeats 4000000 in
theorem z_E_addShare_15 {κ : zx_K} {ad : Nat → Nat} {r : Int32} {G1 : zx_G} (h : zx_C M_E_addShare κ ad) (hE : zx_E M_E_addShare κ ad r G1) : ∀ (n : Nat) (x1 x2 x4 x5 : Int32) (G : zx_G), f_E_addShare_15 n x1 x2 x4 x5 G = some (r, G1) → zx_Z κ ad 15 [(0, .ref (ad 26)), (1, .int x1), (2, .int x2), (3, .ref (ad 18)), (4, .int x4), (5, .int x5)] [] G := by
  intro n
  induction n with
  | zero => intro x1 x2 x4 x5 G hf; cases hf
  | succ n ih =>
    intro x1 x2 x4 x5 G hf
    unfold f_E_addShare_15 at hf
    refine zr_iload h d_E_addShare_15 rfl 5 rfl ?_
    refine zr_bipush (v := (16 : Int32)) h d_E_addShare_17 rfl (by decide) ?_
    rcases zx_if_some hf with ⟨hc_1, hf⟩ | ⟨hc_1, hf⟩
    · refine zr_icmp_ge_t (tgt := 49) h d_E_addShare_19 rfl hc_1 ?_
      refine zr_iload h d_E_addShare_49 rfl 4 rfl ?_
      refine zr_iconst (v := (4 : Int32)) h d_E_addShare_51 rfl (by decide) ?_
      refine zr_ishr h d_E_addShare_52 rfl ?_
      obtain ⟨x5_2, ex5_2, hf⟩ := zx_lt_some hf
      refine zr_istore h d_E_addShare_53 rfl (by decide) ex5_2 rfl ?_
      refine zr_iconst (v := (0 : Int32)) h d_E_addShare_55 rfl (by decide) ?_
      obtain ⟨x6_3, ex6_3, hf⟩ := zx_lt_some hf
      refine zr_istore h d_E_addShare_56 rfl (by decide) ex6_3 rfl ?_
      refine zr_sub [2, 3, 4, 5, 1, 0] rfl ?_
      exact z_E_addShare_58 h hE 2048 x1 x2 x5_2 x6_3 G hf
    · refine zr_icmp_ge_f h 49 d_E_addShare_19 rfl rfl hc_1 ?_
      refine zr_iload h d_E_addShare_22 rfl 4 rfl ?_
      refine zr_aload_n h d_E_addShare_24 rfl rfl 3 rfl ?_
      refine zr_iload_n h d_E_addShare_25 rfl rfl 1 rfl ?_
      refine zr_iload h d_E_addShare_26 rfl 5 rfl ?_
      refine zr_iconst (v := (2 : Int32)) h d_E_addShare_28 rfl (by decide) ?_
      refine zr_ishr h d_E_addShare_29 rfl ?_
      refine zr_bipush (v := (16 : Int32)) h d_E_addShare_30 rfl (by decide) ?_
      refine zr_imul h d_E_addShare_32 rfl ?_
      refine zr_iadd h d_E_addShare_33 rfl ?_
      refine zr_iload h d_E_addShare_34 rfl 5 rfl ?_
      refine zr_iconst (v := (3 : Int32)) h d_E_addShare_36 rfl (by decide) ?_
      refine zr_iand h d_E_addShare_37 rfl ?_
      refine zr_iadd h d_E_addShare_38 rfl ?_
      obtain ⟨hb_4, hf⟩ := zx_gd_some hf
      refine zr_iald h d_E_addShare_39 rfl sh_18 hb_4 ?_
      refine zr_iadd h d_E_addShare_40 rfl ?_
      obtain ⟨x4_5, ex4_5, hf⟩ := zx_lt_some hf
      refine zr_istore h d_E_addShare_41 rfl (by decide) ex4_5 rfl ?_
      obtain ⟨x5_6, ex5_6, hf⟩ := zx_lt_some hf
      refine zr_iinc (j := 5) h d_E_addShare_43 rfl rfl (by decide) ex5_6 (by decide) rfl ?_
      refine zr_goto (tgt := 15) h d_E_addShare_46 rfl ?_
      refine zr_sub [2, 3, 4, 5, 1, 0] rfl ?_
      exact ih x1 x2 x4_5 x5_6 G hf
set_option maxRecDepth 100000 in
set_option maxHeartbeats 4000000 in
theorem z_E_addShare_0 {κ : zx_K} {ad : Nat → Nat} {r : Int32} {G1 : zx_G} (h : zx_C M_E_addShare κ ad) (hE : zx_E M_E_addShare κ ad r G1) (x1 x2 : Int32) (G : zx_G) (hf : f_E_addShare x1 x2 G = some (r, G1)) : zx_Z κ ad 0 [(0, .ref (ad 26)), (1, .int x1), (2, .int x2)] [] G := by
  unfold f_E_addShare at hf
  refine zr_aload_n h d_E_addShare_0 rfl rfl 0 rfl ?_
  refine zr_getR h d_E_addShare_1 rfl fl_E_19 sh_26 rfl ?_
  refine zr_getR h d_E_addShare_4 rfl fl_E_44 sh_17 rfl ?_
  refine zr_astore_n h d_E_addShare_7 rfl rfl (by decide) rfl ?_
  refine zr_bipush (v := (8 : Int32)) h d_E_addShare_8 rfl (by decide) ?_
  obtain ⟨x4_1, ex4_1, hf⟩ := zx_lt_some hf
  refine zr_istore h d_E_addShare_10 rfl (by decide) ex4_1 rfl ?_
  refine zr_iconst (v := (0 : Int32)) h d_E_addShare_12 rfl (by decide) ?_
  obtain ⟨x5_2, ex5_2, hf⟩ := zx_lt_some hf
  refine zr_istore h d_E_addShare_13 rfl (by decide) ex5_2 rfl ?_
  refine zr_sub [3, 4, 5, 2, 1, 0] rfl ?_
  exact z_E_addShare_15 h hE 2048 x1 x2 x4_1 x5_2 G hf
theorem c_E_addShare (l : Launch) (D : va_G) (cA : ClassId) (ad : Nat → Nat) (A : Nat → Prop) (x1 x2 : Int32) (G : zx_G) (r : Int32) (G1 : zx_G) (hf : f_E_addShare x1 x2 G = some (r, G1)) : zx_met l y_E_addShare M_E_addShare [.ref (ad 26), .int x1, .int x2] D cA ad A G r G1 :=
  zx_toMet (by decide) rfl (Nat.le_of_ble_eq_true rfl) (fun κ h hE => by exact z_E_addShare_0 h hE x1 x2 G hf)

def f_E_nearest_56 (x4 : Int32) (G : zx_G) : Option (Int32 × zx_G) :=
  some (x4, G)
def f_E_nearest_31 (x3 x4 : Int32) (G : zx_G) : Option (Int32 × zx_G) :=
  zx_if ((zx_mabs (x4 - x3)) ≤ (zx_mabs ((G 26 4) - x3)))
    (f_E_nearest_56 x4 G)
    (zx_lt (G 26 4) fun x4_2 =>
    f_E_nearest_56 x4_2 G)
def f_E_nearest (x1 x2 : Int32) (G : zx_G) : Option (Int32 × zx_G) :=
  zx_lt ((x2 + x1) - (G 26 4)) fun x3_1 =>
  zx_lt x1 fun x4_2 =>
  zx_if ((zx_mabs (x4_2 - x3_1)) ≤ (zx_mabs (x2 - x3_1)))
    (f_E_nearest_31 x3_1 x4_2 G)
    (zx_lt x2 fun x4_4 =>
    f_E_nearest_31 x3_1 x4_4 G)
set_option maxRecDepth 100000 in
set_option maxHeartbeats 4000000 in
theorem z_E_nearest_56 {κ : zx_K} {ad : Nat → Nat} {r : Int32} {G1 : zx_G} (h : zx_C M_E_nearest κ ad) (hE : zx_E M_E_nearest κ ad r G1) (x4 : Int32) (G : zx_G) (hf : f_E_nearest_56 x4 G = some (r, G1)) : zx_Z κ ad 56 [(4, .int x4)] [] G := by
  unfold f_E_nearest_56 at hf
  refine zr_iload h d_E_nearest_56 rfl 0 rfl ?_
  exact zr_iret h hE d_E_nearest_58 rfl hf
set_option maxRecDepth 100000 in
set_option maxHeartbeats 4000000 in
theorem z_E_nearest_31 {κ : zx_K} {ad : Nat → Nat} {r : Int32} {G1 : zx_G} (h : zx_C M_E_nearest κ ad) (hE : zx_E M_E_nearest κ ad r G1) (x3 x4 : Int32) (G : zx_G) (hf : f_E_nearest_31 x3 x4 G = some (r, G1)) : zx_Z κ ad 31 [(0, .ref (ad 26)), (3, .int x3), (4, .int x4)] [] G := by
  unfold f_E_nearest_31 at hf
  refine zr_aload_n h d_E_nearest_31 rfl rfl 0 rfl ?_
  refine zr_getI h d_E_nearest_32 rfl fl_E_51 sh_26 rfl ?_
  refine zr_iload_n h d_E_nearest_35 rfl rfl 1 rfl ?_
  refine zr_isub h d_E_nearest_36 rfl ?_
  refine zr_mabs h d_E_nearest_37 rfl cc_E_66 (by decide) (Nat.le_of_ble_eq_true rfl) ?_
  refine zr_iload h d_E_nearest_40 rfl 2 rfl ?_
  refine zr_iload_n h d_E_nearest_42 rfl rfl 1 rfl ?_
  refine zr_isub h d_E_nearest_43 rfl ?_
  refine zr_mabs h d_E_nearest_44 rfl cc_E_66 (by decide) (Nat.le_of_ble_eq_true rfl) ?_
  rcases zx_if_some hf with ⟨hc_1, hf⟩ | ⟨hc_1, hf⟩
  · refine zr_icmp_ge_t (tgt := 56) h d_E_nearest_47 rfl hc_1 ?_
    refine zr_sub [2] rfl ?_
    exact z_E_nearest_56 h hE x4 G hf
  · refine zr_icmp_ge_f h 56 d_E_nearest_47 rfl rfl hc_1 ?_
    refine zr_aload_n h d_E_nearest_50 rfl rfl 0 rfl ?_
    refine zr_getI h d_E_nearest_51 rfl fl_E_51 sh_26 rfl ?_
    obtain ⟨x4_2, ex4_2, hf⟩ := zx_lt_some hf
    refine zr_istore h d_E_nearest_54 rfl (by decide) ex4_2 rfl ?_
    refine zr_sub [0] rfl ?_
    exact z_E_nearest_56 h hE x4_2 G hf
set_option maxRecDepth 100000 in
set_option maxHeartbeats 4000000 in
theorem z_E_nearest_0 {κ : zx_K} {ad : Nat → Nat} {r : Int32} {G1 : zx_G} (h : zx_C M_E_nearest κ ad) (hE : zx_E M_E_nearest κ ad r G1) (x1 x2 : Int32) (G : zx_G) (hf : f_E_nearest x1 x2 G = some (r, G1)) : zx_Z κ ad 0 [(0, .ref (ad 26)), (1, .int x1), (2, .int x2)] [] G := by
  unfold f_E_nearest at hf
  refine zr_iload_n h d_E_nearest_0 rfl rfl 2 rfl ?_
  refine zr_iload_n h d_E_nearest_1 rfl rfl 1 rfl ?_
  refine zr_iadd h d_E_nearest_2 rfl ?_
  refine zr_aload_n h d_E_nearest_3 rfl rfl 0 rfl ?_
  refine zr_getI h d_E_nearest_4 rfl fl_E_51 sh_26 rfl ?_
  refine zr_isub h d_E_nearest_7 rfl ?_
  obtain ⟨x3_1, ex3_1, hf⟩ := zx_lt_some hf
  refine zr_istore_n h d_E_nearest_8 rfl rfl (by decide) ex3_1 rfl ?_
  refine zr_iload_n h d_E_nearest_9 rfl rfl 2 rfl ?_
  obtain ⟨x4_2, ex4_2, hf⟩ := zx_lt_some hf
  refine zr_istore h d_E_nearest_10 rfl (by decide) ex4_2 rfl ?_
  refine zr_iload_n h d_E_nearest_12 rfl rfl 4 rfl ?_
  refine zr_iload_n h d_E_nearest_13 rfl rfl 1 rfl ?_
  refine zr_isub h d_E_nearest_14 rfl ?_
  refine zr_mabs h d_E_nearest_15 rfl cc_E_66 (by decide) (Nat.le_of_ble_eq_true rfl) ?_
  refine zr_iload h d_E_nearest_18 rfl 0 rfl ?_
  refine zr_iload_n h d_E_nearest_20 rfl rfl 1 rfl ?_
  refine zr_isub h d_E_nearest_21 rfl ?_
  refine zr_mabs h d_E_nearest_22 rfl cc_E_66 (by decide) (Nat.le_of_ble_eq_true rfl) ?_
  rcases zx_if_some hf with ⟨hc_3, hf⟩ | ⟨hc_3, hf⟩
  · refine zr_icmp_ge_t (tgt := 31) h d_E_nearest_25 rfl hc_3 ?_
    refine zr_sub [2, 1, 0] rfl ?_
    exact z_E_nearest_31 h hE x3_1 x4_2 G hf
  · refine zr_icmp_ge_f h 31 d_E_nearest_25 rfl rfl hc_3 ?_
    refine zr_iload_n h d_E_nearest_28 rfl rfl 4 rfl ?_
    obtain ⟨x4_4, ex4_4, hf⟩ := zx_lt_some hf
    refine zr_istore h d_E_nearest_29 rfl (by decide) ex4_4 rfl ?_
    refine zr_sub [2, 1, 0] rfl ?_
    exact z_E_nearest_31 h hE x3_1 x4_4 G hf
theorem c_E_nearest (l : Launch) (D : va_G) (cA : ClassId) (ad : Nat → Nat) (A : Nat → Prop) (x1 x2 : Int32) (G : zx_G) (r : Int32) (G1 : zx_G) (hf : f_E_nearest x1 x2 G = some (r, G1)) : zx_met l y_E_nearest M_E_nearest [.ref (ad 26), .int x1, .int x2] D cA ad A G r G1 :=
  zx_toMet (by decide) rfl (Nat.le_of_ble_eq_true rfl) (fun κ h hE => by exact z_E_nearest_0 h hE x1 x2 G hf)

def f_E_blended (x1 x2 : Int32) (G : zx_G) : Option (Int32 × zx_G) :=
  zx_lt ((7 : Int32) - ((2 : Int32) * x2)) fun x3_1 =>
  zx_lt ((7 : Int32) - ((2 : Int32) * x1)) fun x4_2 =>
  zx_gd (zx_in x1 4) <|
  zx_gd (zx_in (3 : Int32) 4) <|
  zx_lt ((x3_1 * (G 28 (Int32.toNatClampNeg x1))) + (((8 : Int32) - x3_1) * (G 29 (Int32.toNatClampNeg (3 : Int32))))) fun x5_5 =>
  zx_gd (zx_in x2 4) <|
  zx_gd (zx_in (3 : Int32) 4) <|
  zx_lt ((x4_2 * (G 29 (Int32.toNatClampNeg x2))) + (((8 : Int32) - x4_2) * (G 28 (Int32.toNatClampNeg (3 : Int32))))) fun x6_8 =>
  some ((((x5_5 + x6_8) + (8 : Int32)) >>> ((4 : Int32) &&& 31)), G)
set_option maxRecDepth 100000 in
set_option maxHeartbeats 4000000 in
theorem z_E_blended_0 {κ : zx_K} {ad : Nat → Nat} {r : Int32} {G1 : zx_G} (h : zx_C M_E_blended κ ad) (hE : zx_E M_E_blended κ ad r G1) (x1 x2 : Int32) (G : zx_G) (hf : f_E_blended x1 x2 G = some (r, G1)) : zx_Z κ ad 0 [(0, .ref (ad 26)), (1, .int x1), (2, .int x2)] [] G := by
  unfold f_E_blended at hf
  refine zr_bipush (v := (7 : Int32)) h d_E_blended_0 rfl (by decide) ?_
  refine zr_iconst (v := (2 : Int32)) h d_E_blended_2 rfl (by decide) ?_
  refine zr_iload_n h d_E_blended_3 rfl rfl 2 rfl ?_
  refine zr_imul h d_E_blended_4 rfl ?_
  refine zr_isub h d_E_blended_5 rfl ?_
  obtain ⟨x3_1, ex3_1, hf⟩ := zx_lt_some hf
  refine zr_istore_n h d_E_blended_6 rfl rfl (by decide) ex3_1 rfl ?_
  refine zr_bipush (v := (7 : Int32)) h d_E_blended_7 rfl (by decide) ?_
  refine zr_iconst (v := (2 : Int32)) h d_E_blended_9 rfl (by decide) ?_
  refine zr_iload_n h d_E_blended_10 rfl rfl 2 rfl ?_
  refine zr_imul h d_E_blended_11 rfl ?_
  refine zr_isub h d_E_blended_12 rfl ?_
  obtain ⟨x4_2, ex4_2, hf⟩ := zx_lt_some hf
  refine zr_istore h d_E_blended_13 rfl (by decide) ex4_2 rfl ?_
  refine zr_iload_n h d_E_blended_15 rfl rfl 1 rfl ?_
  refine zr_aload_n h d_E_blended_16 rfl rfl 2 rfl ?_
  refine zr_getR h d_E_blended_17 rfl fl_E_13 sh_26 rfl ?_
  refine zr_iload_n h d_E_blended_20 rfl rfl 3 rfl ?_
  obtain ⟨hb_3, hf⟩ := zx_gd_some hf
  refine zr_iald h d_E_blended_21 rfl sh_28 hb_3 ?_
  refine zr_imul h d_E_blended_22 rfl ?_
  refine zr_bipush (v := (8 : Int32)) h d_E_blended_23 rfl (by decide) ?_
  refine zr_iload_n h d_E_blended_25 rfl rfl 1 rfl ?_
  refine zr_isub h d_E_blended_26 rfl ?_
  refine zr_aload_n h d_E_blended_27 rfl rfl 2 rfl ?_
  refine zr_getR h d_E_blended_28 rfl fl_E_16 sh_26 rfl ?_
  refine zr_iconst (v := (3 : Int32)) h d_E_blended_31 rfl (by decide) ?_
  obtain ⟨hb_4, hf⟩ := zx_gd_some hf
  refine zr_iald h d_E_blended_32 rfl sh_29 hb_4 ?_
  refine zr_imul h d_E_blended_33 rfl ?_
  refine zr_iadd h d_E_blended_34 rfl ?_
  obtain ⟨x5_5, ex5_5, hf⟩ := zx_lt_some hf
  refine zr_istore h d_E_blended_35 rfl (by decide) ex5_5 rfl ?_
  refine zr_iload h d_E_blended_37 rfl 1 rfl ?_
  refine zr_aload_n h d_E_blended_39 rfl rfl 3 rfl ?_
  refine zr_getR h d_E_blended_40 rfl fl_E_16 sh_26 rfl ?_
  refine zr_iload_n h d_E_blended_43 rfl rfl 5 rfl ?_
  obtain ⟨hb_6, hf⟩ := zx_gd_some hf
  refine zr_iald h d_E_blended_44 rfl sh_29 hb_6 ?_
  refine zr_imul h d_E_blended_45 rfl ?_
  refine zr_bipush (v := (8 : Int32)) h d_E_blended_46 rfl (by decide) ?_
  refine zr_iload h d_E_blended_48 rfl 1 rfl ?_
  refine zr_isub h d_E_blended_50 rfl ?_
  refine zr_aload_n h d_E_blended_51 rfl rfl 3 rfl ?_
  refine zr_getR h d_E_blended_52 rfl fl_E_13 sh_26 rfl ?_
  refine zr_iconst (v := (3 : Int32)) h d_E_blended_55 rfl (by decide) ?_
  obtain ⟨hb_7, hf⟩ := zx_gd_some hf
  refine zr_iald h d_E_blended_56 rfl sh_28 hb_7 ?_
  refine zr_imul h d_E_blended_57 rfl ?_
  refine zr_iadd h d_E_blended_58 rfl ?_
  obtain ⟨x6_8, ex6_8, hf⟩ := zx_lt_some hf
  refine zr_istore h d_E_blended_59 rfl (by decide) ex6_8 rfl ?_
  refine zr_iload h d_E_blended_61 rfl 1 rfl ?_
  refine zr_iload h d_E_blended_63 rfl 0 rfl ?_
  refine zr_iadd h d_E_blended_65 rfl ?_
  refine zr_bipush (v := (8 : Int32)) h d_E_blended_66 rfl (by decide) ?_
  refine zr_iadd h d_E_blended_68 rfl ?_
  refine zr_iconst (v := (4 : Int32)) h d_E_blended_69 rfl (by decide) ?_
  refine zr_ishr h d_E_blended_70 rfl ?_
  exact zr_iret h hE d_E_blended_71 rfl hf
theorem c_E_blended (l : Launch) (D : va_G) (cA : ClassId) (ad : Nat → Nat) (A : Nat → Prop) (x1 x2 : Int32) (G : zx_G) (r : Int32) (G1 : zx_G) (hf : f_E_blended x1 x2 G = some (r, G1)) : zx_met l y_E_blended M_E_blended [.ref (ad 26), .int x1, .int x2] D cA ad A G r G1 :=
  zx_toMet (by decide) rfl (Nat.le_of_ble_eq_true rfl) (fun κ h hE => by exact z_E_blended_0 h hE x1 x2 G hf)

def f_E_predicted (x1 x2 x3 : Int32) (G : zx_G) : Option (Int32 × zx_G) :=
  zx_if (x1 = (1 : Int32))
    (zx_gd (zx_in x2 4) <|
    some ((G 28 (Int32.toNatClampNeg x2)), G))
    (zx_if (x1 = (2 : Int32))
    (zx_gd (zx_in x3 4) <|
    some ((G 29 (Int32.toNatClampNeg x3)), G))
    (zx_if (x1 = (3 : Int32))
    (zx_gd (zx_in x3 4) <|
    zx_gd (zx_in x2 4) <|
    zx_bd (f_E_nearest (G 29 (Int32.toNatClampNeg x3)) (G 28 (Int32.toNatClampNeg x2)) G) fun r_9 G_8 =>
    some (r_9, G_8))
    (zx_if (x1 = (4 : Int32))
    (zx_bd (f_E_blended x2 x3 G) fun r_13 G_12 =>
    some (r_13, G_12))
    (zx_if (x1 = (5 : Int32))
    (zx_gd (zx_in (zx_mmin (x2 + x3) (3 : Int32)) 4) <|
    zx_gd (zx_in (zx_mmin ((x2 + x3) + (1 : Int32)) (3 : Int32)) 4) <|
    some (((((G 28 (Int32.toNatClampNeg (zx_mmin (x2 + x3) (3 : Int32)))) + (G 28 (Int32.toNatClampNeg (zx_mmin ((x2 + x3) + (1 : Int32)) (3 : Int32))))) + (1 : Int32)) >>> ((1 : Int32) &&& 31)), G))
    (some ((G 26 5), G))))))
set_option maxRecDepth 100000 in
set_option maxHeartbeats 4000000 in
theorem z_E_predicted_0 {κ : zx_K} {ad : Nat → Nat} {r : Int32} {G1 : zx_G} (h : zx_C M_E_predicted κ ad) (hE : zx_E M_E_predicted κ ad r G1) (x1 x2 x3 : Int32) (G : zx_G) (hf : f_E_predicted x1 x2 x3 G = some (r, G1)) : zx_Z κ ad 0 [(0, .ref (ad 26)), (1, .int x1), (2, .int x2), (3, .int x3)] [] G := by
  unfold f_E_predicted at hf
  refine zr_iload_n h d_E_predicted_0 rfl rfl 1 rfl ?_
  rcases zx_if_some hf with ⟨hc_1, hf⟩ | ⟨hc_1, hf⟩
  · refine zr_tsw_in (tgt := 36) (off := 35) (v := (1 : Int32)) h d_E_predicted_1 hc_1 (by decide) (by decide) (by decide) rfl ?_
    refine zr_aload_n h d_E_predicted_36 rfl rfl 0 rfl ?_
    refine zr_getR h d_E_predicted_37 rfl fl_E_13 sh_26 rfl ?_
    refine zr_iload_n h d_E_predicted_40 rfl rfl 2 rfl ?_
    obtain ⟨hb_2, hf⟩ := zx_gd_some hf
    refine zr_iald h d_E_predicted_41 rfl sh_28 hb_2 ?_
    exact zr_iret h hE d_E_predicted_42 rfl hf
  · skip
    rcases zx_if_some hf with ⟨hc_3, hf⟩ | ⟨hc_3, hf⟩
    · refine zr_tsw_in (tgt := 43) (off := 42) (v := (2 : Int32)) h d_E_predicted_1 hc_3 (by decide) (by decide) (by decide) rfl ?_
      refine zr_aload_n h d_E_predicted_43 rfl rfl 0 rfl ?_
      refine zr_getR h d_E_predicted_44 rfl fl_E_16 sh_26 rfl ?_
      refine zr_iload_n h d_E_predicted_47 rfl rfl 3 rfl ?_
      obtain ⟨hb_4, hf⟩ := zx_gd_some hf
      refine zr_iald h d_E_predicted_48 rfl sh_29 hb_4 ?_
      exact zr_iret h hE d_E_predicted_49 rfl hf
    · skip
      rcases zx_if_some hf with ⟨hc_5, hf⟩ | ⟨hc_5, hf⟩
      · refine zr_tsw_in (tgt := 50) (off := 49) (v := (3 : Int32)) h d_E_predicted_1 hc_5 (by decide) (by decide) (by decide) rfl ?_
        refine zr_aload_n h d_E_predicted_50 rfl rfl 0 rfl ?_
        refine zr_aload_n h d_E_predicted_51 rfl rfl 0 rfl ?_
        refine zr_getR h d_E_predicted_52 rfl fl_E_16 sh_26 rfl ?_
        refine zr_iload_n h d_E_predicted_55 rfl rfl 3 rfl ?_
        obtain ⟨hb_6, hf⟩ := zx_gd_some hf
        refine zr_iald h d_E_predicted_56 rfl sh_29 hb_6 ?_
        refine zr_aload_n h d_E_predicted_57 rfl rfl 0 rfl ?_
        refine zr_getR h d_E_predicted_58 rfl fl_E_13 sh_26 rfl ?_
        refine zr_iload_n h d_E_predicted_61 rfl rfl 2 rfl ?_
        obtain ⟨hb_7, hf⟩ := zx_gd_some hf
        refine zr_iald h d_E_predicted_62 rfl sh_28 hb_7 ?_
        obtain ⟨r_9, G_8, hq_10, hf⟩ := zx_bd_some hf
        refine zr_callVI (As := [.int (G 29 (Int32.toNatClampNeg x3)), .int (G 28 (Int32.toNatClampNeg x2))]) (b := 26) h (c_E_nearest _ _ _ _ _ (G 29 (Int32.toNatClampNeg x3)) (G 28 (Int32.toNatClampNeg x2)) G r_9 G_8 hq_10) cc_E_54 d_E_predicted_63 rfl rfl rfl sh_26 ⟨rfl, rfl, by decide, by decide⟩ (Nat.le_of_ble_eq_true rfl) ?_
        exact zr_iret h hE d_E_predicted_66 rfl hf
      · skip
        rcases zx_if_some hf with ⟨hc_11, hf⟩ | ⟨hc_11, hf⟩
        · refine zr_tsw_in (tgt := 67) (off := 66) (v := (4 : Int32)) h d_E_predicted_1 hc_11 (by decide) (by decide) (by decide) rfl ?_
          refine zr_aload_n h d_E_predicted_67 rfl rfl 0 rfl ?_
          refine zr_iload_n h d_E_predicted_68 rfl rfl 2 rfl ?_
          refine zr_iload_n h d_E_predicted_69 rfl rfl 3 rfl ?_
          obtain ⟨r_13, G_12, hq_14, hf⟩ := zx_bd_some hf
          refine zr_callVI (As := [.int x2, .int x3]) (b := 26) h (c_E_blended _ _ _ _ _ x2 x3 G r_13 G_12 hq_14) cc_E_58 d_E_predicted_70 rfl rfl rfl sh_26 ⟨rfl, rfl, by decide, by decide⟩ (Nat.le_of_ble_eq_true rfl) ?_
          exact zr_iret h hE d_E_predicted_73 rfl hf
        · skip
          rcases zx_if_some hf with ⟨hc_15, hf⟩ | ⟨hc_15, hf⟩
          · refine zr_tsw_in (tgt := 74) (off := 73) (v := (5 : Int32)) h d_E_predicted_1 hc_15 (by decide) (by decide) (by decide) rfl ?_
            refine zr_aload_n h d_E_predicted_74 rfl rfl 0 rfl ?_
            refine zr_getR h d_E_predicted_75 rfl fl_E_13 sh_26 rfl ?_
            refine zr_iload_n h d_E_predicted_78 rfl rfl 2 rfl ?_
            refine zr_iload_n h d_E_predicted_79 rfl rfl 3 rfl ?_
            refine zr_iadd h d_E_predicted_80 rfl ?_
            refine zr_iconst (v := (3 : Int32)) h d_E_predicted_81 rfl (by decide) ?_
            refine zr_mmin h d_E_predicted_82 rfl cc_E_61 (by decide) (Nat.le_of_ble_eq_true rfl) ?_
            obtain ⟨hb_16, hf⟩ := zx_gd_some hf
            refine zr_iald h d_E_predicted_85 rfl sh_28 hb_16 ?_
            refine zr_aload_n h d_E_predicted_86 rfl rfl 0 rfl ?_
            refine zr_getR h d_E_predicted_87 rfl fl_E_13 sh_26 rfl ?_
            refine zr_iload_n h d_E_predicted_90 rfl rfl 2 rfl ?_
            refine zr_iload_n h d_E_predicted_91 rfl rfl 3 rfl ?_
            refine zr_iadd h d_E_predicted_92 rfl ?_
            refine zr_iconst (v := (1 : Int32)) h d_E_predicted_93 rfl (by decide) ?_
            refine zr_iadd h d_E_predicted_94 rfl ?_
            refine zr_iconst (v := (3 : Int32)) h d_E_predicted_95 rfl (by decide) ?_
            refine zr_mmin h d_E_predicted_96 rfl cc_E_61 (by decide) (Nat.le_of_ble_eq_true rfl) ?_
            obtain ⟨hb_17, hf⟩ := zx_gd_some hf
            refine zr_iald h d_E_predicted_99 rfl sh_28 hb_17 ?_
            refine zr_iadd h d_E_predicted_100 rfl ?_
            refine zr_iconst (v := (1 : Int32)) h d_E_predicted_101 rfl (by decide) ?_
            refine zr_iadd h d_E_predicted_102 rfl ?_
            refine zr_iconst (v := (1 : Int32)) h d_E_predicted_103 rfl (by decide) ?_
            refine zr_ishr h d_E_predicted_104 rfl ?_
            exact zr_iret h hE d_E_predicted_105 rfl hf
          · skip
            refine zr_tsw_out (tgt := 106) h d_E_predicted_1 (by have q0 := lv_neT (a := 1) hc_1 (by decide); have q1 := lv_neT (a := 2) hc_3 (by decide); have q2 := lv_neT (a := 3) hc_5 (by decide); have q3 := lv_neT (a := 4) hc_11 (by decide); have q4 := lv_neT (a := 5) hc_15 (by decide); omega) rfl ?_
            refine zr_aload_n h d_E_predicted_106 rfl rfl 0 rfl ?_
            refine zr_getI h d_E_predicted_107 rfl fl_E_27 sh_26 rfl ?_
            exact zr_iret h hE d_E_predicted_110 rfl hf
theorem c_E_predicted (l : Launch) (D : va_G) (cA : ClassId) (ad : Nat → Nat) (A : Nat → Prop) (x1 x2 x3 : Int32) (G : zx_G) (r : Int32) (G1 : zx_G) (hf : f_E_predicted x1 x2 x3 G = some (r, G1)) : zx_met l y_E_predicted M_E_predicted [.ref (ad 26), .int x1, .int x2, .int x3] D cA ad A G r G1 :=
  zx_toMet (by decide) rfl (Nat.le_of_ble_eq_true rfl) (fun κ h hE => by exact z_E_predicted_0 h hE x1 x2 x3 G hf)

def f_P_middle (G : zx_G) : Option (Int32 × zx_G) :=
  some ((((G 17 4) + (1 : Int32)) >>> ((1 : Int32) &&& 31)), G)
set_option maxRecDepth 100000 in
set_option maxHeartbeats 4000000 in
theorem z_P_middle_0 {κ : zx_K} {ad : Nat → Nat} {r : Int32} {G1 : zx_G} (h : zx_C M_P_middle κ ad) (hE : zx_E M_P_middle κ ad r G1) (G : zx_G) (hf : f_P_middle G = some (r, G1)) : zx_Z κ ad 0 [(0, .ref (ad 17))] [] G := by
  unfold f_P_middle at hf
  refine zr_aload_n h d_P_middle_0 rfl rfl 0 rfl ?_
  refine zr_getI h d_P_middle_1 rfl fl_P_23 sh_17 rfl ?_
  refine zr_iconst (v := (1 : Int32)) h d_P_middle_4 rfl (by decide) ?_
  refine zr_iadd h d_P_middle_5 rfl ?_
  refine zr_iconst (v := (1 : Int32)) h d_P_middle_6 rfl (by decide) ?_
  refine zr_ishr h d_P_middle_7 rfl ?_
  exact zr_iret h hE d_P_middle_8 rfl hf
theorem c_P_middle (l : Launch) (D : va_G) (cA : ClassId) (ad : Nat → Nat) (A : Nat → Prop) (G : zx_G) (r : Int32) (G1 : zx_G) (hf : f_P_middle G = some (r, G1)) : zx_met l y_P_middle M_P_middle [.ref (ad 17)] D cA ad A G r G1 :=
  zx_toMet (by decide) rfl (Nat.le_of_ble_eq_true rfl) (fun κ h hE => by exact z_P_middle_0 h hE G hf)

def f_E_look_164 (k103 : Int32 → Int32 → Int32 → Int32 → Int32 → Int32 → Int32 → Int32 → zx_G → Option (Int32 × zx_G)) (x2 x3 x5 x6 x7 x8 x9 x10 s1 s2 : Int32) (G : zx_G) : Option (Int32 × zx_G) :=
  zx_gd (zx_in s1 4) <|
  zx_lt (zx_up G 29 (Int32.toNatClampNeg s1) s2) fun G_2 =>
  zx_lt (x10 + (1 : Int32)) fun x10_3 =>
  k103 x2 x3 x5 x6 x7 x8 x9 x10_3 G_2
def f_E_look_135 (k103 : Int32 → Int32 → Int32 → Int32 → Int32 → Int32 → Int32 → Int32 → zx_G → Option (Int32 × zx_G)) (x2 x3 x5 x6 x7 x8 x9 x10 s1 s2 : Int32) (G : zx_G) : Option (Int32 × zx_G) :=
  zx_gd (zx_in s1 4) <|
  zx_lt (zx_up G 28 (Int32.toNatClampNeg s1) s2) fun G_2 =>
  zx_if (x2 = 0)
    (f_E_look_164 k103 x2 x3 x5 x6 x7 x8 x9 x10 x10 x9 G_2)
    (zx_gd (zx_in ((x5 - (1 : Int32)) + (x10 * (16 : Int32))) 768) <|
    f_E_look_164 k103 x2 x3 x5 x6 x7 x8 x9 x10 x10 (G_2 18 (Int32.toNatClampNeg ((x5 - (1 : Int32)) + (x10 * (16 : Int32))))) G_2)
def f_E_look_211 (G : zx_G) : Option (Int32 × zx_G) :=
  some ((0 : Int32), G)
def f_E_look_208 (s1 : Int32) (G : zx_G) : Option (Int32 × zx_G) :=
  zx_lt (zx_up G 26 4 s1) fun G_1 =>
  f_E_look_211 G_1
def f_E_look_196 (x3 x6 x7 : Int32) (G : zx_G) : Option (Int32 × zx_G) :=
  zx_if (x3 = 0)
    (f_E_look_208 x7 G)
    (f_E_look_208 x6 G)
def f_E_look_103 : Nat → Int32 → Int32 → Int32 → Int32 → Int32 → Int32 → Int32 → Int32 → zx_G → Option (Int32 × zx_G)
  | 0, _, _, _, _, _, _, _, _, _ => none
  | n + 1, x2, x3, x5, x6, x7, x8, x9, x10, G =>
    zx_if ((4 : Int32) ≤ x10)
      (zx_if (x2 = 0)
        (f_E_look_196 x3 x6 x7 G)
        (zx_if (x3 = 0)
          (f_E_look_196 x3 x6 x7 G)
          (zx_gd (zx_in ((x5 - (16 : Int32)) - (1 : Int32)) 768) <|
          zx_lt (zx_up G 26 4 (G 18 (Int32.toNatClampNeg ((x5 - (16 : Int32)) - (1 : Int32))))) fun G_5 =>
          f_E_look_211 G_5)))
      (zx_if (x3 = 0)
        (f_E_look_135 (f_E_look_103 n) x2 x3 x5 x6 x7 x8 x9 x10 x10 x8 G)
        (zx_gd (zx_in ((x5 - (16 : Int32)) + x10) 768) <|
        f_E_look_135 (f_E_look_103 n) x2 x3 x5 x6 x7 x8 x9 x10 x10 (G 18 (Int32.toNatClampNeg ((x5 - (16 : Int32)) + x10))) G))
def f_E_look_98 (x2 x3 x5 x6 x7 x8 s0 : Int32) (G : zx_G) : Option (Int32 × zx_G) :=
  zx_lt s0 fun x9_1 =>
  zx_lt (0 : Int32) fun x10_2 =>
  f_E_look_103 2048 x2 x3 x5 x6 x7 x8 x9_1 x10_2 G
def f_E_look_80 (x2 x3 x5 x6 x7 s0 : Int32) (G : zx_G) : Option (Int32 × zx_G) :=
  zx_lt s0 fun x8_1 =>
  zx_if (x3 = 0)
    (zx_bd (f_P_middle G) fun r_4 G_3 =>
    f_E_look_98 x2 x3 x5 x6 x7 x8_1 r_4 G_3)
    (f_E_look_98 x2 x3 x5 x6 x7 x8_1 x6 G)
def f_E_look_62 (x2 x3 x5 x6 s0 : Int32) (G : zx_G) : Option (Int32 × zx_G) :=
  zx_lt s0 fun x7_1 =>
  zx_if (x2 = 0)
    (zx_bd (f_P_middle G) fun r_4 G_3 =>
    f_E_look_80 x2 x3 x5 x6 x7_1 r_4 G_3)
    (f_E_look_80 x2 x3 x5 x6 x7_1 x7_1 G)
def f_E_look_39 (x2 x3 x5 s0 : Int32) (G : zx_G) : Option (Int32 × zx_G) :=
  zx_lt s0 fun x6_1 =>
  zx_if (x2 = 0)
    (zx_bd (f_P_middle G) fun r_4 G_3 =>
    f_E_look_62 x2 x3 x5 x6_1 r_4 G_3)
    (zx_gd (zx_in (x5 - (1 : Int32)) 768) <|
    f_E_look_62 x2 x3 x5 x6_1 (G 18 (Int32.toNatClampNeg (x5 - (1 : Int32)))) G)
def f_E_look (x1 x2 x3 : Int32) (G : zx_G) : Option (Int32 × zx_G) :=
  zx_bd (f_P_placeOf x1 x2 x3 G) fun r_2 G_1 =>
  zx_lt r_2 fun x5_4 =>
  zx_if (x3 = 0)
    (zx_bd (f_P_middle G_1) fun r_7 G_6 =>
    f_E_look_39 x2 x3 x5_4 r_7 G_6)
    (zx_gd (zx_in (x5_4 - (16 : Int32)) 768) <|
    f_E_look_39 x2 x3 x5_4 (G_1 18 (Int32.toNatClampNeg (x5_4 - (16 : Int32)))) G_1)
set_option maxRecDepth 100000 in
set_option maxHeartbeats 4000000 in
theorem z_E_look_164 {κ : zx_K} {ad : Nat → Nat} {r : Int32} {G1 : zx_G} (h : zx_C M_E_look κ ad) (hE : zx_E M_E_look κ ad r G1) {k103 : Int32 → Int32 → Int32 → Int32 → Int32 → Int32 → Int32 → Int32 → zx_G → Option (Int32 × zx_G)} (hk103 : ∀ (x2 x3 x5 x6 x7 x8 x9 x10 : Int32) (G : zx_G), k103 x2 x3 x5 x6 x7 x8 x9 x10 G = some (r, G1) → zx_Z κ ad 103 [(0, .ref (ad 26)), (2, .int x2), (3, .int x3), (4, .ref (ad 18)), (5, .int x5), (6, .int x6), (7, .int x7), (8, .int x8), (9, .int x9), (10, .int x10)] [] G) (x2 x3 x5 x6 x7 x8 x9 x10 s1 s2 : Int32) (G : zx_G) (hf : f_E_look_164 k103 x2 x3 x5 x6 x7 x8 x9 x10 s1 s2 G = some (r, G1)) : zx_Z κ ad 164 [(0, .ref (ad 26)), (2, .int x2), (3, .int x3), (4, .ref (ad 18)), (5, .int x5), (6, .int x6), (7, .int x7), (8, .int x8), (9, .int x9), (10, .int x10)] [.int s2, .int s1, .ref (ad 29)] G := by
  unfold f_E_look_164 at hf
  obtain ⟨hb_1, hf⟩ := zx_gd_some hf
  obtain ⟨G_2, eG_2, hf⟩ := zx_lt_some hf
  refine zr_iast h d_E_look_164 rfl sh_29 hb_1 eG_2 ?_
  obtain ⟨x10_3, ex10_3, hf⟩ := zx_lt_some hf
  refine zr_iinc (j := 9) h d_E_look_165 rfl rfl (by decide) ex10_3 (by decide) rfl ?_
  refine zr_goto (tgt := 103) h d_E_look_168 rfl ?_
  refine zr_sub [1, 2, 3, 4, 5, 6, 7, 8, 9, 0] rfl ?_
  exact hk103 x2 x3 x5 x6 x7 x8 x9 x10_3 G_2 hf
set_option maxRecDepth 100000 in
set_option maxHeartbeats 4000000 in
theorem z_E_look_135 {κ : zx_K} {ad : Nat → Nat} {r : Int32} {G1 : zx_G} (h : zx_C M_E_look κ ad) (hE : zx_E M_E_look κ ad r G1) {k103 : Int32 → Int32 → Int32 → Int32 → Int32 → Int32 → Int32 → Int32 → zx_G → Option (Int32 × zx_G)} (hk103 : ∀ (x2 x3 x5 x6 x7 x8 x9 x10 : Int32) (G : zx_G), k103 x2 x3 x5 x6 x7 x8 x9 x10 G = some (r, G1) → zx_Z κ ad 103 [(0, .ref (ad 26)), (2, .int x2), (3, .int x3), (4, .ref (ad 18)), (5, .int x5), (6, .int x6), (7, .int x7), (8, .int x8), (9, .int x9), (10, .int x10)] [] G) (x2 x3 x5 x6 x7 x8 x9 x10 s1 s2 : Int32) (G : zx_G) (hf : f_E_look_135 k103 x2 x3 x5 x6 x7 x8 x9 x10 s1 s2 G = some (r, G1)) : zx_Z κ ad 135 [(0, .ref (ad 26)), (2, .int x2), (3, .int x3), (4, .ref (ad 18)), (5, .int x5), (6, .int x6), (7, .int x7), (8, .int x8), (9, .int x9), (10, .int x10)] [.int s2, .int s1, .ref (ad 28)] G := by
  unfold f_E_look_135 at hf
  obtain ⟨hb_1, hf⟩ := zx_gd_some hf
  obtain ⟨G_2, eG_2, hf⟩ := zx_lt_some hf
  refine zr_iast h d_E_look_135 rfl sh_28 hb_1 eG_2 ?_
  refine zr_aload_n h d_E_look_136 rfl rfl 0 rfl ?_
  refine zr_getR h d_E_look_137 rfl fl_E_16 sh_26 rfl ?_
  refine zr_iload h d_E_look_140 rfl 9 rfl ?_
  refine zr_iload_n h d_E_look_142 rfl rfl 1 rfl ?_
  rcases zx_if_some hf with ⟨hc_3, hf⟩ | ⟨hc_3, hf⟩
  · refine zr_if_eq_t (tgt := 162) h d_E_look_143 rfl hc_3 ?_
    refine zr_iload h d_E_look_162 rfl 8 rfl ?_
    exact z_E_look_164 h hE hk103 x2 x3 x5 x6 x7 x8 x9 x10 x10 x9 G_2 hf
  · refine zr_if_eq_f h 162 d_E_look_143 rfl rfl hc_3 ?_
    refine zr_aload h d_E_look_146 rfl 3 rfl ?_
    refine zr_iload h d_E_look_148 rfl 4 rfl ?_
    refine zr_iconst (v := (1 : Int32)) h d_E_look_150 rfl (by decide) ?_
    refine zr_isub h d_E_look_151 rfl ?_
    refine zr_iload h d_E_look_152 rfl 9 rfl ?_
    refine zr_bipush (v := (16 : Int32)) h d_E_look_154 rfl (by decide) ?_
    refine zr_imul h d_E_look_156 rfl ?_
    refine zr_iadd h d_E_look_157 rfl ?_
    obtain ⟨hb_4, hf⟩ := zx_gd_some hf
    refine zr_iald h d_E_look_158 rfl sh_18 hb_4 ?_
    refine zr_goto (tgt := 164) h d_E_look_159 rfl ?_
    exact z_E_look_164 h hE hk103 x2 x3 x5 x6 x7 x8 x9 x10 x10 (G_2 18 (Int32.toNatClampNeg ((x5 - (1 : Int32)) + (x10 * (16 : Int32))))) G_2 hf
set_option maxRecDepth 100000 in
set_option maxHeartbeats 4000000 in
theorem z_E_look_211 {κ : zx_K} {ad : Nat → Nat} {r : Int32} {G1 : zx_G} (h : zx_C M_E_look κ ad) (hE : zx_E M_E_look κ ad r G1) (G : zx_G) (hf : f_E_look_211 G = some (r, G1)) : zx_Z κ ad 211 [] [] G := by
  unfold f_E_look_211 at hf
  exact zr_vret h hE d_E_look_211 rfl hf
set_option maxRecDepth 100000 in
set_option maxHeartbeats 4000000 in
theorem z_E_look_208 {κ : zx_K} {ad : Nat → Nat} {r : Int32} {G1 : zx_G} (h : zx_C M_E_look κ ad) (hE : zx_E M_E_look κ ad r G1) (s1 : Int32) (G : zx_G) (hf : f_E_look_208 s1 G = some (r, G1)) : zx_Z κ ad 208 [] [.int s1, .ref (ad 26)] G := by
  unfold f_E_look_208 at hf
  obtain ⟨G_1, eG_1, hf⟩ := zx_lt_some hf
  refine zr_putI h d_E_look_208 rfl fl_E_51 pl_E_4 sh_26 rfl rfl rfl eG_1 ?_
  exact z_E_look_211 h hE G_1 hf
set_option maxRecDepth 100000 in
set_option maxHeartbeats 4000000 in
theorem z_E_look_196 {κ : zx_K} {ad : Nat → Nat} {r : Int32} {G1 : zx_G} (h : zx_C M_E_look κ ad) (hE : zx_E M_E_look κ ad r G1) (x3 x6 x7 : Int32) (G : zx_G) (hf : f_E_look_196 x3 x6 x7 G = some (r, G1)) : zx_Z κ ad 196 [(0, .ref (ad 26)), (3, .int x3), (6, .int x6), (7, .int x7)] [] G := by
  unfold f_E_look_196 at hf
  refine zr_aload_n h d_E_look_196 rfl rfl 0 rfl ?_
  refine zr_iload_n h d_E_look_197 rfl rfl 1 rfl ?_
  rcases zx_if_some hf with ⟨hc_1, hf⟩ | ⟨hc_1, hf⟩
  · refine zr_if_eq_t (tgt := 206) h d_E_look_198 rfl hc_1 ?_
    refine zr_iload h d_E_look_206 rfl 3 rfl ?_
    refine zr_sub [] rfl ?_
    exact z_E_look_208 h hE x7 G hf
  · refine zr_if_eq_f h 206 d_E_look_198 rfl rfl hc_1 ?_
    refine zr_iload h d_E_look_201 rfl 2 rfl ?_
    refine zr_goto (tgt := 208) h d_E_look_203 rfl ?_
    refine zr_sub [] rfl ?_
    exact z_E_look_208 h hE x6 G hf
set_option maxRecDepth 100000 in
set_option maxHeartbeats 4000000 in
theorem z_E_look_103 {κ : zx_K} {ad : Nat → Nat} {r : Int32} {G1 : zx_G} (h : zx_C M_E_look κ ad) (hE : zx_E M_E_look κ ad r G1) : ∀ (n : Nat) (x2 x3 x5 x6 x7 x8 x9 x10 : Int32) (G : zx_G), f_E_look_103 n x2 x3 x5 x6 x7 x8 x9 x10 G = some (r, G1) → zx_Z κ ad 103 [(0, .ref (ad 26)), (2, .int x2), (3, .int x3), (4, .ref (ad 18)), (5, .int x5), (6, .int x6), (7, .int x7), (8, .int x8), (9, .int x9), (10, .int x10)] [] G := by
  intro n
  induction n with
  | zero => intro x2 x3 x5 x6 x7 x8 x9 x10 G hf; cases hf
  | succ n ih =>
    intro x2 x3 x5 x6 x7 x8 x9 x10 G hf
    unfold f_E_look_103 at hf
    refine zr_iload h d_E_look_103 rfl 9 rfl ?_
    refine zr_iconst (v := (4 : Int32)) h d_E_look_105 rfl (by decide) ?_
    rcases zx_if_some hf with ⟨hc_1, hf⟩ | ⟨hc_1, hf⟩
    · refine zr_icmp_ge_t (tgt := 171) h d_E_look_106 rfl hc_1 ?_
      refine zr_iload_n h d_E_look_171 rfl rfl 1 rfl ?_
      rcases zx_if_some hf with ⟨hc_2, hf⟩ | ⟨hc_2, hf⟩
      · refine zr_if_eq_t (tgt := 196) h d_E_look_172 rfl hc_2 ?_
        refine zr_sub [0, 2, 5, 6] rfl ?_
        exact z_E_look_196 h hE x3 x6 x7 G hf
      · refine zr_if_eq_f h 196 d_E_look_172 rfl rfl hc_2 ?_
        refine zr_iload_n h d_E_look_175 rfl rfl 2 rfl ?_
        rcases zx_if_some hf with ⟨hc_3, hf⟩ | ⟨hc_3, hf⟩
        · refine zr_if_eq_t (tgt := 196) h d_E_look_176 rfl hc_3 ?_
          refine zr_sub [0, 2, 5, 6] rfl ?_
          exact z_E_look_196 h hE x3 x6 x7 G hf
        · refine zr_if_eq_f h 196 d_E_look_176 rfl rfl hc_3 ?_
          refine zr_aload_n h d_E_look_179 rfl rfl 0 rfl ?_
          refine zr_aload h d_E_look_180 rfl 3 rfl ?_
          refine zr_iload h d_E_look_182 rfl 4 rfl ?_
          refine zr_bipush (v := (16 : Int32)) h d_E_look_184 rfl (by decide) ?_
          refine zr_isub h d_E_look_186 rfl ?_
          refine zr_iconst (v := (1 : Int32)) h d_E_look_187 rfl (by decide) ?_
          refine zr_isub h d_E_look_188 rfl ?_
          obtain ⟨hb_4, hf⟩ := zx_gd_some hf
          refine zr_iald h d_E_look_189 rfl sh_18 hb_4 ?_
          obtain ⟨G_5, eG_5, hf⟩ := zx_lt_some hf
          refine zr_putI h d_E_look_190 rfl fl_E_51 pl_E_4 sh_26 rfl rfl rfl eG_5 ?_
          refine zr_goto (tgt := 211) h d_E_look_193 rfl ?_
          refine zr_sub [] rfl ?_
          exact z_E_look_211 h hE G_5 hf
    · refine zr_icmp_ge_f h 171 d_E_look_106 rfl rfl hc_1 ?_
      refine zr_aload_n h d_E_look_109 rfl rfl 0 rfl ?_
      refine zr_getR h d_E_look_110 rfl fl_E_13 sh_26 rfl ?_
      refine zr_iload h d_E_look_113 rfl 9 rfl ?_
      refine zr_iload_n h d_E_look_115 rfl rfl 2 rfl ?_
      rcases zx_if_some hf with ⟨hc_6, hf⟩ | ⟨hc_6, hf⟩
      · refine zr_if_eq_t (tgt := 133) h d_E_look_116 rfl hc_6 ?_
        refine zr_iload h d_E_look_133 rfl 7 rfl ?_
        exact z_E_look_135 h hE ih x2 x3 x5 x6 x7 x8 x9 x10 x10 x8 G hf
      · refine zr_if_eq_f h 133 d_E_look_116 rfl rfl hc_6 ?_
        refine zr_aload h d_E_look_119 rfl 3 rfl ?_
        refine zr_iload h d_E_look_121 rfl 4 rfl ?_
        refine zr_bipush (v := (16 : Int32)) h d_E_look_123 rfl (by decide) ?_
        refine zr_isub h d_E_look_125 rfl ?_
        refine zr_iload h d_E_look_126 rfl 9 rfl ?_
        refine zr_iadd h d_E_look_128 rfl ?_
        obtain ⟨hb_7, hf⟩ := zx_gd_some hf
        refine zr_iald h d_E_look_129 rfl sh_18 hb_7 ?_
        refine zr_goto (tgt := 135) h d_E_look_130 rfl ?_
        exact z_E_look_135 h hE ih x2 x3 x5 x6 x7 x8 x9 x10 x10 (G 18 (Int32.toNatClampNeg ((x5 - (16 : Int32)) + x10))) G hf
set_option maxRecDepth 100000 in
set_option maxHeartbeats 4000000 in
theorem z_E_look_98 {κ : zx_K} {ad : Nat → Nat} {r : Int32} {G1 : zx_G} (h : zx_C M_E_look κ ad) (hE : zx_E M_E_look κ ad r G1) (x2 x3 x5 x6 x7 x8 s0 : Int32) (G : zx_G) (hf : f_E_look_98 x2 x3 x5 x6 x7 x8 s0 G = some (r, G1)) : zx_Z κ ad 98 [(0, .ref (ad 26)), (2, .int x2), (3, .int x3), (4, .ref (ad 18)), (5, .int x5), (6, .int x6), (7, .int x7), (8, .int x8)] [.int s0] G := by
  unfold f_E_look_98 at hf
  obtain ⟨x9_1, ex9_1, hf⟩ := zx_lt_some hf
  refine zr_istore h d_E_look_98 rfl (by decide) ex9_1 rfl ?_
  refine zr_iconst (v := (0 : Int32)) h d_E_look_100 rfl (by decide) ?_
  obtain ⟨x10_2, ex10_2, hf⟩ := zx_lt_some hf
  refine zr_istore h d_E_look_101 rfl (by decide) ex10_2 rfl ?_
  refine zr_sub [2, 3, 4, 5, 6, 7, 8, 9, 1, 0] rfl ?_
  exact z_E_look_103 h hE 2048 x2 x3 x5 x6 x7 x8 x9_1 x10_2 G hf
set_option maxRecDepth 100000 in
set_option maxHeartbeats 4000000 in
theorem z_E_look_80 {κ : zx_K} {ad : Nat → Nat} {r : Int32} {G1 : zx_G} (h : zx_C M_E_look κ ad) (hE : zx_E M_E_look κ ad r G1) (x2 x3 x5 x6 x7 s0 : Int32) (G : zx_G) (hf : f_E_look_80 x2 x3 x5 x6 x7 s0 G = some (r, G1)) : zx_Z κ ad 80 [(0, .ref (ad 26)), (2, .int x2), (3, .int x3), (4, .ref (ad 18)), (5, .int x5), (6, .int x6), (7, .int x7)] [.int s0] G := by
  unfold f_E_look_80 at hf
  obtain ⟨x8_1, ex8_1, hf⟩ := zx_lt_some hf
  refine zr_istore h d_E_look_80 rfl (by decide) ex8_1 rfl ?_
  refine zr_iload_n h d_E_look_82 rfl rfl 3 rfl ?_
  rcases zx_if_some hf with ⟨hc_2, hf⟩ | ⟨hc_2, hf⟩
  · refine zr_if_eq_t (tgt := 91) h d_E_look_83 rfl hc_2 ?_
    refine zr_aload_n h d_E_look_91 rfl rfl 1 rfl ?_
    refine zr_getR h d_E_look_92 rfl fl_E_19 sh_26 rfl ?_
    obtain ⟨r_4, G_3, hq_5, hf⟩ := zx_bd_some hf
    refine zr_callVI (As := []) (b := 17) h (c_P_middle _ _ _ _ _ G r_4 G_3 hq_5) cc_E_47 d_E_look_95 rfl rfl rfl sh_17 ⟨rfl, rfl, by decide, by decide⟩ (Nat.le_of_ble_eq_true rfl) ?_
    refine zr_sub [1, 2, 3, 4, 5, 6, 7, 0] rfl ?_
    exact z_E_look_98 h hE x2 x3 x5 x6 x7 x8_1 r_4 G_3 hf
  · refine zr_if_eq_f h 91 d_E_look_83 rfl rfl hc_2 ?_
    refine zr_iload h d_E_look_86 rfl 6 rfl ?_
    refine zr_goto (tgt := 98) h d_E_look_88 rfl ?_
    refine zr_sub [1, 2, 3, 4, 5, 6, 7, 0] rfl ?_
    exact z_E_look_98 h hE x2 x3 x5 x6 x7 x8_1 x6 G hf
set_option maxRecDepth 100000 in
set_option maxHeartbeats 4000000 in
theorem z_E_look_62 {κ : zx_K} {ad : Nat → Nat} {r : Int32} {G1 : zx_G} (h : zx_C M_E_look κ ad) (hE : zx_E M_E_look κ ad r G1) (x2 x3 x5 x6 s0 : Int32) (G : zx_G) (hf : f_E_look_62 x2 x3 x5 x6 s0 G = some (r, G1)) : zx_Z κ ad 62 [(0, .ref (ad 26)), (2, .int x2), (3, .int x3), (4, .ref (ad 18)), (5, .int x5), (6, .int x6)] [.int s0] G := by
  unfold f_E_look_62 at hf
  obtain ⟨x7_1, ex7_1, hf⟩ := zx_lt_some hf
  refine zr_istore h d_E_look_62 rfl (by decide) ex7_1 rfl ?_
  refine zr_iload_n h d_E_look_64 rfl rfl 2 rfl ?_
  rcases zx_if_some hf with ⟨hc_2, hf⟩ | ⟨hc_2, hf⟩
  · refine zr_if_eq_t (tgt := 73) h d_E_look_65 rfl hc_2 ?_
    refine zr_aload_n h d_E_look_73 rfl rfl 1 rfl ?_
    refine zr_getR h d_E_look_74 rfl fl_E_19 sh_26 rfl ?_
    obtain ⟨r_4, G_3, hq_5, hf⟩ := zx_bd_some hf
    refine zr_callVI (As := []) (b := 17) h (c_P_middle _ _ _ _ _ G r_4 G_3 hq_5) cc_E_47 d_E_look_77 rfl rfl rfl sh_17 ⟨rfl, rfl, by decide, by decide⟩ (Nat.le_of_ble_eq_true rfl) ?_
    refine zr_sub [1, 2, 3, 4, 5, 6, 0] rfl ?_
    exact z_E_look_80 h hE x2 x3 x5 x6 x7_1 r_4 G_3 hf
  · refine zr_if_eq_f h 73 d_E_look_65 rfl rfl hc_2 ?_
    refine zr_iload h d_E_look_68 rfl 0 rfl ?_
    refine zr_goto (tgt := 80) h d_E_look_70 rfl ?_
    refine zr_sub [1, 2, 3, 4, 5, 6, 0] rfl ?_
    exact z_E_look_80 h hE x2 x3 x5 x6 x7_1 x7_1 G hf
set_option maxRecDepth 100000 in
set_option maxHeartbeats 4000000 in
theorem z_E_look_39 {κ : zx_K} {ad : Nat → Nat} {r : Int32} {G1 : zx_G} (h : zx_C M_E_look κ ad) (hE : zx_E M_E_look κ ad r G1) (x2 x3 x5 s0 : Int32) (G : zx_G) (hf : f_E_look_39 x2 x3 x5 s0 G = some (r, G1)) : zx_Z κ ad 39 [(0, .ref (ad 26)), (2, .int x2), (3, .int x3), (4, .ref (ad 18)), (5, .int x5)] [.int s0] G := by
  unfold f_E_look_39 at hf
  obtain ⟨x6_1, ex6_1, hf⟩ := zx_lt_some hf
  refine zr_istore h d_E_look_39 rfl (by decide) ex6_1 rfl ?_
  refine zr_iload_n h d_E_look_41 rfl rfl 2 rfl ?_
  rcases zx_if_some hf with ⟨hc_2, hf⟩ | ⟨hc_2, hf⟩
  · refine zr_if_eq_t (tgt := 55) h d_E_look_42 rfl hc_2 ?_
    refine zr_aload_n h d_E_look_55 rfl rfl 1 rfl ?_
    refine zr_getR h d_E_look_56 rfl fl_E_19 sh_26 rfl ?_
    obtain ⟨r_4, G_3, hq_5, hf⟩ := zx_bd_some hf
    refine zr_callVI (As := []) (b := 17) h (c_P_middle _ _ _ _ _ G r_4 G_3 hq_5) cc_E_47 d_E_look_59 rfl rfl rfl sh_17 ⟨rfl, rfl, by decide, by decide⟩ (Nat.le_of_ble_eq_true rfl) ?_
    refine zr_sub [1, 2, 3, 4, 5, 0] rfl ?_
    exact z_E_look_62 h hE x2 x3 x5 x6_1 r_4 G_3 hf
  · refine zr_if_eq_f h 55 d_E_look_42 rfl rfl hc_2 ?_
    refine zr_aload h d_E_look_45 rfl 4 rfl ?_
    refine zr_iload h d_E_look_47 rfl 5 rfl ?_
    refine zr_iconst (v := (1 : Int32)) h d_E_look_49 rfl (by decide) ?_
    refine zr_isub h d_E_look_50 rfl ?_
    obtain ⟨hb_6, hf⟩ := zx_gd_some hf
    refine zr_iald h d_E_look_51 rfl sh_18 hb_6 ?_
    refine zr_goto (tgt := 62) h d_E_look_52 rfl ?_
    refine zr_sub [1, 2, 3, 4, 5, 0] rfl ?_
    exact z_E_look_62 h hE x2 x3 x5 x6_1 (G 18 (Int32.toNatClampNeg (x5 - (1 : Int32)))) G hf
set_option maxRecDepth 100000 in
set_option maxHeartbeats 4000000 in
theorem z_E_look_0 {κ : zx_K} {ad : Nat → Nat} {r : Int32} {G1 : zx_G} (h : zx_C M_E_look κ ad) (hE : zx_E M_E_look κ ad r G1) (x1 x2 x3 : Int32) (G : zx_G) (hf : f_E_look x1 x2 x3 G = some (r, G1)) : zx_Z κ ad 0 [(0, .ref (ad 26)), (1, .int x1), (2, .int x2), (3, .int x3)] [] G := by
  unfold f_E_look at hf
  refine zr_aload_n h d_E_look_0 rfl rfl 0 rfl ?_
  refine zr_getR h d_E_look_1 rfl fl_E_19 sh_26 rfl ?_
  refine zr_getR h d_E_look_4 rfl fl_E_44 sh_17 rfl ?_
  refine zr_astore h d_E_look_7 rfl (by decide) rfl ?_
  refine zr_iload_n h d_E_look_9 rfl rfl 2 rfl ?_
  refine zr_iload_n h d_E_look_10 rfl rfl 3 rfl ?_
  refine zr_iload_n h d_E_look_11 rfl rfl 4 rfl ?_
  obtain ⟨r_2, G_1, hq_3, hf⟩ := zx_bd_some hf
  refine zr_callSI (As := [.int x1, .int x2, .int x3]) h (c_P_placeOf _ _ _ _ _ x1 x2 x3 G r_2 G_1 hq_3) cc_E_35 d_E_look_12 rfl rfl rfl ⟨rfl, by decide, by decide⟩ (Nat.le_of_ble_eq_true rfl) ?_
  obtain ⟨x5_4, ex5_4, hf⟩ := zx_lt_some hf
  refine zr_istore h d_E_look_15 rfl (by decide) ex5_4 rfl ?_
  refine zr_iload_n h d_E_look_17 rfl rfl 5 rfl ?_
  rcases zx_if_some hf with ⟨hc_5, hf⟩ | ⟨hc_5, hf⟩
  · refine zr_if_eq_t (tgt := 32) h d_E_look_18 rfl hc_5 ?_
    refine zr_aload_n h d_E_look_32 rfl rfl 2 rfl ?_
    refine zr_getR h d_E_look_33 rfl fl_E_19 sh_26 rfl ?_
    obtain ⟨r_7, G_6, hq_8, hf⟩ := zx_bd_some hf
    refine zr_callVI (As := []) (b := 17) h (c_P_middle _ _ _ _ _ G_1 r_7 G_6 hq_8) cc_E_47 d_E_look_36 rfl rfl rfl sh_17 ⟨rfl, rfl, by decide, by decide⟩ (Nat.le_of_ble_eq_true rfl) ?_
    refine zr_sub [2, 4, 5, 1, 0] rfl ?_
    exact z_E_look_39 h hE x2 x3 x5_4 r_7 G_6 hf
  · refine zr_if_eq_f h 32 d_E_look_18 rfl rfl hc_5 ?_
    refine zr_aload h d_E_look_21 rfl 1 rfl ?_
    refine zr_iload h d_E_look_23 rfl 0 rfl ?_
    refine zr_bipush (v := (16 : Int32)) h d_E_look_25 rfl (by decide) ?_
    refine zr_isub h d_E_look_27 rfl ?_
    obtain ⟨hb_9, hf⟩ := zx_gd_some hf
    refine zr_iald h d_E_look_28 rfl sh_18 hb_9 ?_
    refine zr_goto (tgt := 39) h d_E_look_29 rfl ?_
    refine zr_sub [2, 4, 5, 1, 0] rfl ?_
    exact z_E_look_39 h hE x2 x3 x5_4 (G_1 18 (Int32.toNatClampNeg (x5_4 - (16 : Int32)))) G_1 hf
theorem c_E_look (l : Launch) (D : va_G) (cA : ClassId) (ad : Nat → Nat) (A : Nat → Prop) (x1 x2 x3 : Int32) (G : zx_G) (r : Int32) (G1 : zx_G) (hf : f_E_look x1 x2 x3 G = some (r, G1)) : zx_met l y_E_look M_E_look [.ref (ad 26), .int x1, .int x2, .int x3] D cA ad A G r G1 :=
  zx_toMet (by decide) rfl (Nat.le_of_ble_eq_true rfl) (fun κ h hE => by exact z_E_look_0 h hE x1 x2 x3 G hf)

def f_E_make_117 (G : zx_G) : Option (Int32 × zx_G) :=
  some ((0 : Int32), G)
def f_E_make_64 : Nat → Int32 → Int32 → Int32 → Int32 → Int32 → zx_G → Option (Int32 × zx_G)
  | 0, _, _, _, _, _, _ => none
  | n + 1, x2, x3, x4, x5, x6, G =>
    zx_if ((16 : Int32) ≤ x6)
      (zx_if (¬ x4 = (6 : Int32))
        (f_E_make_117 G)
        (zx_bd (f_P_placeOf (0 : Int32) x2 x3 G) fun r_4 G_3 =>
        zx_bd (f_E_addShare r_4 x5 G_3) fun r_7 G_6 =>
        f_E_make_117 G_6))
      (zx_bd (f_E_predicted x4 (x6 &&& (3 : Int32)) (x6 >>> ((2 : Int32) &&& 31)) G) fun r_10 G_9 =>
      zx_gd (zx_in x6 16) <|
      zx_lt (zx_up G_9 27 (Int32.toNatClampNeg x6) r_10) fun G_13 =>
      zx_lt (x6 + (1 : Int32)) fun x6_14 =>
      f_E_make_64 n x2 x3 x4 x5 x6_14 G_13)
def f_E_make_15 : Nat → Int32 → Int32 → Int32 → Int32 → Int32 → zx_G → Option (Int32 × zx_G)
  | 0, _, _, _, _, _, _ => none
  | n + 1, x2, x3, x4, x5, x6, G =>
    zx_if ((4 : Int32) ≤ x6)
      (zx_lt (zx_up G 26 5 ((G 26 5) >>> ((3 : Int32) &&& 31))) fun G_2 =>
      zx_lt (0 : Int32) fun x6_3 =>
      f_E_make_64 2048 x2 x3 x4 x5 x6_3 G_2)
      (zx_gd (zx_in x6 4) <|
      zx_gd (zx_in x6 4) <|
      zx_lt (zx_up G 26 5 ((G 26 5) + ((G 28 (Int32.toNatClampNeg x6)) + (G 29 (Int32.toNatClampNeg x6))))) fun G_6 =>
      zx_lt (x6 + (1 : Int32)) fun x6_7 =>
      f_E_make_15 n x2 x3 x4 x5 x6_7 G_6)
def f_E_make (x1 x2 x3 x4 x5 : Int32) (G : zx_G) : Option (Int32 × zx_G) :=
  zx_bd (f_E_look x1 x2 x3 G) fun r_2 G_1 =>
  zx_lt (zx_up G_1 26 5 (4 : Int32)) fun G_4 =>
  zx_lt (0 : Int32) fun x6_5 =>
  f_E_make_15 2048 x2 x3 x4 x5 x6_5 G_4
set_option maxRecDepth 100000 in
set_option maxHeartbeats 4000000 in
theorem z_E_make_117 {κ : zx_K} {ad : Nat → Nat} {r : Int32} {G1 : zx_G} (h : zx_C M_E_make κ ad) (hE : zx_E M_E_make κ ad r G1) (G : zx_G) (hf : f_E_make_117 G = some (r, G1)) : zx_Z κ ad 117 [] [] G := by
  unfold f_E_make_117 at hf
  exact zr_vret h hE d_E_make_117 rfl hf
set_option maxRecDepth 100000 in
set_option maxHeartbeats 4000000 in
theorem z_E_make_64 {κ : zx_K} {ad : Nat → Nat} {r : Int32} {G1 : zx_G} (h : zx_C M_E_make κ ad) (hE : zx_E M_E_make κ ad r G1) : ∀ (n : Nat) (x2 x3 x4 x5 x6 : Int32) (G : zx_G), f_E_make_64 n x2 x3 x4 x5 x6 G = some (r, G1) → zx_Z κ ad 64 [(0, .ref (ad 26)), (2, .int x2), (3, .int x3), (4, .int x4), (5, .int x5), (6, .int x6)] [] G := by
  intro n
  induction n with
  | zero => intro x2 x3 x4 x5 x6 G hf; cases hf
  | succ n ih =>
    intro x2 x3 x4 x5 x6 G hf
    unfold f_E_make_64 at hf
    refine zr_iload h d_E_make_64 rfl 5 rfl ?_
    refine zr_bipush (v := (16 : Int32)) h d_E_make_66 rfl (by decide) ?_
    rcases zx_if_some hf with ⟨hc_1, hf⟩ | ⟨hc_1, hf⟩
    · refine zr_icmp_ge_t (tgt := 98) h d_E_make_68 rfl hc_1 ?_
      refine zr_iload h d_E_make_98 rfl 3 rfl ?_
      refine zr_bipush (v := (6 : Int32)) h d_E_make_100 rfl (by decide) ?_
      rcases zx_if_some hf with ⟨hc_2, hf⟩ | ⟨hc_2, hf⟩
      · refine zr_icmp_ne_t (tgt := 117) h d_E_make_102 rfl hc_2 ?_
        refine zr_sub [] rfl ?_
        exact z_E_make_117 h hE G hf
      · refine zr_icmp_ne_f h 117 d_E_make_102 rfl rfl hc_2 ?_
        refine zr_aload_n h d_E_make_105 rfl rfl 0 rfl ?_
        refine zr_iconst (v := (0 : Int32)) h d_E_make_106 rfl (by decide) ?_
        refine zr_iload_n h d_E_make_107 rfl rfl 1 rfl ?_
        refine zr_iload_n h d_E_make_108 rfl rfl 2 rfl ?_
        obtain ⟨r_4, G_3, hq_5, hf⟩ := zx_bd_some hf
        refine zr_callSI (As := [.int (0 : Int32), .int x2, .int x3]) h (c_P_placeOf _ _ _ _ _ (0 : Int32) x2 x3 G r_4 G_3 hq_5) cc_E_35 d_E_make_109 rfl rfl rfl ⟨rfl, by decide, by decide⟩ (Nat.le_of_ble_eq_true rfl) ?_
        refine zr_iload h d_E_make_112 rfl 4 rfl ?_
        obtain ⟨r_7, G_6, hq_8, hf⟩ := zx_bd_some hf
        refine zr_callVV (As := [.int r_4, .int x5]) (b := 26) h (c_E_addShare _ _ _ _ _ r_4 x5 G_3 r_7 G_6 hq_8) cc_E_40 d_E_make_114 rfl rfl rfl sh_26 ⟨rfl, rfl, by decide, by decide⟩ (Nat.le_of_ble_eq_true rfl) ?_
        refine zr_sub [] rfl ?_
        exact z_E_make_117 h hE G_6 hf
    · refine zr_icmp_ge_f h 98 d_E_make_68 rfl rfl hc_1 ?_
      refine zr_aload_n h d_E_make_71 rfl rfl 0 rfl ?_
      refine zr_getR h d_E_make_72 rfl fl_E_7 sh_26 rfl ?_
      refine zr_iload h d_E_make_75 rfl 5 rfl ?_
      refine zr_aload_n h d_E_make_77 rfl rfl 0 rfl ?_
      refine zr_iload h d_E_make_78 rfl 3 rfl ?_
      refine zr_iload h d_E_make_80 rfl 5 rfl ?_
      refine zr_iconst (v := (3 : Int32)) h d_E_make_82 rfl (by decide) ?_
      refine zr_iand h d_E_make_83 rfl ?_
      refine zr_iload h d_E_make_84 rfl 5 rfl ?_
      refine zr_iconst (v := (2 : Int32)) h d_E_make_86 rfl (by decide) ?_
      refine zr_ishr h d_E_make_87 rfl ?_
      obtain ⟨r_10, G_9, hq_11, hf⟩ := zx_bd_some hf
      refine zr_callVI (As := [.int x4, .int (x6 &&& (3 : Int32)), .int (x6 >>> ((2 : Int32) &&& 31))]) (b := 26) h (c_E_predicted _ _ _ _ _ x4 (x6 &&& (3 : Int32)) (x6 >>> ((2 : Int32) &&& 31)) G r_10 G_9 hq_11) cc_E_31 d_E_make_88 rfl rfl rfl sh_26 ⟨rfl, rfl, by decide, by decide⟩ (Nat.le_of_ble_eq_true rfl) ?_
      obtain ⟨hb_12, hf⟩ := zx_gd_some hf
      obtain ⟨G_13, eG_13, hf⟩ := zx_lt_some hf
      refine zr_iast h d_E_make_91 rfl sh_27 hb_12 eG_13 ?_
      obtain ⟨x6_14, ex6_14, hf⟩ := zx_lt_some hf
      refine zr_iinc (j := 5) h d_E_make_92 rfl rfl (by decide) ex6_14 (by decide) rfl ?_
      refine zr_goto (tgt := 64) h d_E_make_95 rfl ?_
      refine zr_sub [1, 2, 3, 4, 5, 0] rfl ?_
      exact ih x2 x3 x4 x5 x6_14 G_13 hf
set_option maxRecDepth 100000 in
set_option maxHeartbeats 4000000 in
theorem z_E_make_15 {κ : zx_K} {ad : Nat → Nat} {r : Int32} {G1 : zx_G} (h : zx_C M_E_make κ ad) (hE : zx_E M_E_make κ ad r G1) : ∀ (n : Nat) (x2 x3 x4 x5 x6 : Int32) (G : zx_G), f_E_make_15 n x2 x3 x4 x5 x6 G = some (r, G1) → zx_Z κ ad 15 [(0, .ref (ad 26)), (2, .int x2), (3, .int x3), (4, .int x4), (5, .int x5), (6, .int x6)] [] G := by
  intro n
  induction n with
  | zero => intro x2 x3 x4 x5 x6 G hf; cases hf
  | succ n ih =>
    intro x2 x3 x4 x5 x6 G hf
    unfold f_E_make_15 at hf
    refine zr_iload h d_E_make_15 rfl 5 rfl ?_
    refine zr_iconst (v := (4 : Int32)) h d_E_make_17 rfl (by decide) ?_
    rcases zx_if_some hf with ⟨hc_1, hf⟩ | ⟨hc_1, hf⟩
    · refine zr_icmp_ge_t (tgt := 51) h d_E_make_18 rfl hc_1 ?_
      refine zr_aload_n h d_E_make_51 rfl rfl 0 rfl ?_
      refine zr_dup h d_E_make_52 rfl rfl ?_
      refine zr_getI h d_E_make_53 rfl fl_E_27 sh_26 rfl ?_
      refine zr_iconst (v := (3 : Int32)) h d_E_make_56 rfl (by decide) ?_
      refine zr_ishr h d_E_make_57 rfl ?_
      obtain ⟨G_2, eG_2, hf⟩ := zx_lt_some hf
      refine zr_putI h d_E_make_58 rfl fl_E_27 pl_E_5 sh_26 rfl rfl rfl eG_2 ?_
      refine zr_iconst (v := (0 : Int32)) h d_E_make_61 rfl (by decide) ?_
      obtain ⟨x6_3, ex6_3, hf⟩ := zx_lt_some hf
      refine zr_istore h d_E_make_62 rfl (by decide) ex6_3 rfl ?_
      refine zr_sub [1, 2, 3, 4, 5, 0] rfl ?_
      exact z_E_make_64 h hE 2048 x2 x3 x4 x5 x6_3 G_2 hf
    · refine zr_icmp_ge_f h 51 d_E_make_18 rfl rfl hc_1 ?_
      refine zr_aload_n h d_E_make_21 rfl rfl 0 rfl ?_
      refine zr_dup h d_E_make_22 rfl rfl ?_
      refine zr_getI h d_E_make_23 rfl fl_E_27 sh_26 rfl ?_
      refine zr_aload_n h d_E_make_26 rfl rfl 0 rfl ?_
      refine zr_getR h d_E_make_27 rfl fl_E_13 sh_26 rfl ?_
      refine zr_iload h d_E_make_30 rfl 5 rfl ?_
      obtain ⟨hb_4, hf⟩ := zx_gd_some hf
      refine zr_iald h d_E_make_32 rfl sh_28 hb_4 ?_
      refine zr_aload_n h d_E_make_33 rfl rfl 0 rfl ?_
      refine zr_getR h d_E_make_34 rfl fl_E_16 sh_26 rfl ?_
      refine zr_iload h d_E_make_37 rfl 5 rfl ?_
      obtain ⟨hb_5, hf⟩ := zx_gd_some hf
      refine zr_iald h d_E_make_39 rfl sh_29 hb_5 ?_
      refine zr_iadd h d_E_make_40 rfl ?_
      refine zr_iadd h d_E_make_41 rfl ?_
      obtain ⟨G_6, eG_6, hf⟩ := zx_lt_some hf
      refine zr_putI h d_E_make_42 rfl fl_E_27 pl_E_5 sh_26 rfl rfl rfl eG_6 ?_
      obtain ⟨x6_7, ex6_7, hf⟩ := zx_lt_some hf
      refine zr_iinc (j := 5) h d_E_make_45 rfl rfl (by decide) ex6_7 (by decide) rfl ?_
      refine zr_goto (tgt := 15) h d_E_make_48 rfl ?_
      refine zr_sub [1, 2, 3, 4, 5, 0] rfl ?_
      exact ih x2 x3 x4 x5 x6_7 G_6 hf
set_option maxRecDepth 100000 in
set_option maxHeartbeats 4000000 in
theorem z_E_make_0 {κ : zx_K} {ad : Nat → Nat} {r : Int32} {G1 : zx_G} (h : zx_C M_E_make κ ad) (hE : zx_E M_E_make κ ad r G1) (x1 x2 x3 x4 x5 : Int32) (G : zx_G) (hf : f_E_make x1 x2 x3 x4 x5 G = some (r, G1)) : zx_Z κ ad 0 [(0, .ref (ad 26)), (1, .int x1), (2, .int x2), (3, .int x3), (4, .int x4), (5, .int x5)] [] G := by
  unfold f_E_make at hf
  refine zr_aload_n h d_E_make_0 rfl rfl 0 rfl ?_
  refine zr_iload_n h d_E_make_1 rfl rfl 1 rfl ?_
  refine zr_iload_n h d_E_make_2 rfl rfl 2 rfl ?_
  refine zr_iload_n h d_E_make_3 rfl rfl 3 rfl ?_
  obtain ⟨r_2, G_1, hq_3, hf⟩ := zx_bd_some hf
  refine zr_callVV (As := [.int x1, .int x2, .int x3]) (b := 26) h (c_E_look _ _ _ _ _ x1 x2 x3 G r_2 G_1 hq_3) cc_E_23 d_E_make_4 rfl rfl rfl sh_26 ⟨rfl, rfl, by decide, by decide⟩ (Nat.le_of_ble_eq_true rfl) ?_
  refine zr_aload_n h d_E_make_7 rfl rfl 0 rfl ?_
  refine zr_iconst (v := (4 : Int32)) h d_E_make_8 rfl (by decide) ?_
  obtain ⟨G_4, eG_4, hf⟩ := zx_lt_some hf
  refine zr_putI h d_E_make_9 rfl fl_E_27 pl_E_5 sh_26 rfl rfl rfl eG_4 ?_
  refine zr_iconst (v := (0 : Int32)) h d_E_make_12 rfl (by decide) ?_
  obtain ⟨x6_5, ex6_5, hf⟩ := zx_lt_some hf
  refine zr_istore h d_E_make_13 rfl (by decide) ex6_5 rfl ?_
  refine zr_sub [1, 3, 4, 5, 6, 0] rfl ?_
  exact z_E_make_15 h hE 2048 x2 x3 x4 x5 x6_5 G_4 hf
theorem c_E_make (l : Launch) (D : va_G) (cA : ClassId) (ad : Nat → Nat) (A : Nat → Prop) (x1 x2 x3 x4 x5 : Int32) (G : zx_G) (r : Int32) (G1 : zx_G) (hf : f_E_make x1 x2 x3 x4 x5 G = some (r, G1)) : zx_met l y_E_make M_E_make [.ref (ad 26), .int x1, .int x2, .int x3, .int x4, .int x5] D cA ad A G r G1 :=
  zx_toMet (by decide) rfl (Nat.le_of_ble_eq_true rfl) (fun κ h hE => by exact z_E_make_0 h hE x1 x2 x3 x4 x5 G hf)

def f_T_mend_2 : Nat → Int32 → Int32 → zx_G → Option (Int32 × zx_G)
  | 0, _, _, _ => none
  | n + 1, x1, x2, G =>
    zx_if ((16 : Int32) ≤ x2)
      (some ((0 : Int32), G))
      (zx_lt ((x1 + ((x2 >>> ((2 : Int32) &&& 31)) * (16 : Int32))) + (x2 &&& (3 : Int32))) fun x3_2 =>
      zx_gd (zx_in x2 16) <|
      zx_gd (zx_in x2 16) <|
      zx_bd (f_P_limited ((G 27 (Int32.toNatClampNeg x2)) + (G 24 (Int32.toNatClampNeg x2))) G) fun r_6 G_5 =>
      zx_gd (zx_in x3_2 768) <|
      zx_lt (zx_up G_5 18 (Int32.toNatClampNeg x3_2) r_6) fun G_9 =>
      zx_lt (x2 + (1 : Int32)) fun x2_10 =>
      f_T_mend_2 n x1 x2_10 G_9)
def f_T_mend (x1 : Int32) (G : zx_G) : Option (Int32 × zx_G) :=
  zx_lt (0 : Int32) fun x2_1 =>
  f_T_mend_2 2048 x1 x2_1 G
set_option maxRecDepth 100000 in
set_option maxHeartbeats 4000000 in
theorem z_T_mend_2 {κ : zx_K} {ad : Nat → Nat} {r : Int32} {G1 : zx_G} (h : zx_C M_T_mend κ ad) (hE : zx_E M_T_mend κ ad r G1) : ∀ (n : Nat) (x1 x2 : Int32) (G : zx_G), f_T_mend_2 n x1 x2 G = some (r, G1) → zx_Z κ ad 2 [(0, .ref (ad 21)), (1, .int x1), (2, .int x2)] [] G := by
  intro n
  induction n with
  | zero => intro x1 x2 G hf; cases hf
  | succ n ih =>
    intro x1 x2 G hf
    unfold f_T_mend_2 at hf
    refine zr_iload_n h d_T_mend_2 rfl rfl 2 rfl ?_
    refine zr_bipush (v := (16 : Int32)) h d_T_mend_3 rfl (by decide) ?_
    rcases zx_if_some hf with ⟨hc_1, hf⟩ | ⟨hc_1, hf⟩
    · refine zr_icmp_ge_t (tgt := 62) h d_T_mend_5 rfl hc_1 ?_
      exact zr_vret h hE d_T_mend_62 rfl hf
    · refine zr_icmp_ge_f h 62 d_T_mend_5 rfl rfl hc_1 ?_
      refine zr_iload_n h d_T_mend_8 rfl rfl 1 rfl ?_
      refine zr_iload_n h d_T_mend_9 rfl rfl 2 rfl ?_
      refine zr_iconst (v := (2 : Int32)) h d_T_mend_10 rfl (by decide) ?_
      refine zr_ishr h d_T_mend_11 rfl ?_
      refine zr_bipush (v := (16 : Int32)) h d_T_mend_12 rfl (by decide) ?_
      refine zr_imul h d_T_mend_14 rfl ?_
      refine zr_iadd h d_T_mend_15 rfl ?_
      refine zr_iload_n h d_T_mend_16 rfl rfl 2 rfl ?_
      refine zr_iconst (v := (3 : Int32)) h d_T_mend_17 rfl (by decide) ?_
      refine zr_iand h d_T_mend_18 rfl ?_
      refine zr_iadd h d_T_mend_19 rfl ?_
      obtain ⟨x3_2, ex3_2, hf⟩ := zx_lt_some hf
      refine zr_istore_n h d_T_mend_20 rfl rfl (by decide) ex3_2 rfl ?_
      refine zr_aload_n h d_T_mend_21 rfl rfl 1 rfl ?_
      refine zr_getR h d_T_mend_22 rfl fl_T_23 sh_21 rfl ?_
      refine zr_getR h d_T_mend_25 rfl fl_T_127 sh_17 rfl ?_
      refine zr_iload_n h d_T_mend_28 rfl rfl 0 rfl ?_
      refine zr_aload_n h d_T_mend_29 rfl rfl 1 rfl ?_
      refine zr_getR h d_T_mend_30 rfl fl_T_23 sh_21 rfl ?_
      refine zr_aload_n h d_T_mend_33 rfl rfl 1 rfl ?_
      refine zr_getR h d_T_mend_34 rfl fl_T_41 sh_21 rfl ?_
      refine zr_getR h d_T_mend_37 rfl fl_T_130 sh_26 rfl ?_
      refine zr_iload_n h d_T_mend_40 rfl rfl 3 rfl ?_
      obtain ⟨hb_3, hf⟩ := zx_gd_some hf
      refine zr_iald h d_T_mend_41 rfl sh_27 hb_3 ?_
      refine zr_aload_n h d_T_mend_42 rfl rfl 1 rfl ?_
      refine zr_getR h d_T_mend_43 rfl fl_T_32 sh_21 rfl ?_
      refine zr_getR h d_T_mend_46 rfl fl_T_133 sh_23 rfl ?_
      refine zr_iload_n h d_T_mend_49 rfl rfl 3 rfl ?_
      obtain ⟨hb_4, hf⟩ := zx_gd_some hf
      refine zr_iald h d_T_mend_50 rfl sh_24 hb_4 ?_
      refine zr_iadd h d_T_mend_51 rfl ?_
      obtain ⟨r_6, G_5, hq_7, hf⟩ := zx_bd_some hf
      refine zr_callVI (As := [.int ((G 27 (Int32.toNatClampNeg x2)) + (G 24 (Int32.toNatClampNeg x2)))]) (b := 17) h (c_P_limited _ _ _ _ _ ((G 27 (Int32.toNatClampNeg x2)) + (G 24 (Int32.toNatClampNeg x2))) G r_6 G_5 hq_7) cc_T_134 d_T_mend_52 rfl rfl rfl sh_17 ⟨rfl, rfl, by decide, by decide⟩ (Nat.le_of_ble_eq_true rfl) ?_
      obtain ⟨hb_8, hf⟩ := zx_gd_some hf
      obtain ⟨G_9, eG_9, hf⟩ := zx_lt_some hf
      refine zr_iast h d_T_mend_55 rfl sh_18 hb_8 eG_9 ?_
      obtain ⟨x2_10, ex2_10, hf⟩ := zx_lt_some hf
      refine zr_iinc (j := 3) h d_T_mend_56 rfl rfl (by decide) ex2_10 (by decide) rfl ?_
      refine zr_goto (tgt := 2) h d_T_mend_59 rfl ?_
      refine zr_sub [2, 3, 0] rfl ?_
      exact ih x1 x2_10 G_9 hf
set_option maxRecDepth 100000 in
set_option maxHeartbeats 4000000 in
theorem z_T_mend_0 {κ : zx_K} {ad : Nat → Nat} {r : Int32} {G1 : zx_G} (h : zx_C M_T_mend κ ad) (hE : zx_E M_T_mend κ ad r G1) (x1 : Int32) (G : zx_G) (hf : f_T_mend x1 G = some (r, G1)) : zx_Z κ ad 0 [(0, .ref (ad 21)), (1, .int x1)] [] G := by
  unfold f_T_mend at hf
  refine zr_iconst (v := (0 : Int32)) h d_T_mend_0 rfl (by decide) ?_
  obtain ⟨x2_1, ex2_1, hf⟩ := zx_lt_some hf
  refine zr_istore_n h d_T_mend_1 rfl rfl (by decide) ex2_1 rfl ?_
  refine zr_sub [1, 2, 0] rfl ?_
  exact z_T_mend_2 h hE 2048 x1 x2_1 G hf
theorem c_T_mend (l : Launch) (D : va_G) (cA : ClassId) (ad : Nat → Nat) (A : Nat → Prop) (x1 : Int32) (G : zx_G) (r : Int32) (G1 : zx_G) (hf : f_T_mend x1 G = some (r, G1)) : zx_met l y_T_mend M_T_mend [.ref (ad 21), .int x1] D cA ad A G r G1 :=
  zx_toMet (by decide) rfl (Nat.le_of_ble_eq_true rfl) (fun κ h hE => by exact z_T_mend_0 h hE x1 G hf)

def f_P_tellOf (x1 x2 : Int32) (G : zx_G) : Option (Int32 × zx_G) :=
  zx_gd (zx_in ((x1 * (4 : Int32)) + x2) 64) <|
  some ((G 20 (Int32.toNatClampNeg ((x1 * (4 : Int32)) + x2))), G)
set_option maxRecDepth 100000 in
set_option maxHeartbeats 4000000 in
theorem z_P_tellOf_0 {κ : zx_K} {ad : Nat → Nat} {r : Int32} {G1 : zx_G} (h : zx_C M_P_tellOf κ ad) (hE : zx_E M_P_tellOf κ ad r G1) (x1 x2 : Int32) (G : zx_G) (hf : f_P_tellOf x1 x2 G = some (r, G1)) : zx_Z κ ad 0 [(0, .ref (ad 17)), (1, .int x1), (2, .int x2)] [] G := by
  unfold f_P_tellOf at hf
  refine zr_aload_n h d_P_tellOf_0 rfl rfl 0 rfl ?_
  refine zr_getR h d_P_tellOf_1 rfl fl_P_16 sh_17 rfl ?_
  refine zr_iload_n h d_P_tellOf_4 rfl rfl 1 rfl ?_
  refine zr_iconst (v := (4 : Int32)) h d_P_tellOf_5 rfl (by decide) ?_
  refine zr_imul h d_P_tellOf_6 rfl ?_
  refine zr_iload_n h d_P_tellOf_7 rfl rfl 2 rfl ?_
  refine zr_iadd h d_P_tellOf_8 rfl ?_
  obtain ⟨hb_1, hf⟩ := zx_gd_some hf
  refine zr_iald h d_P_tellOf_9 rfl sh_20 hb_1 ?_
  exact zr_iret h hE d_P_tellOf_10 rfl hf
theorem c_P_tellOf (l : Launch) (D : va_G) (cA : ClassId) (ad : Nat → Nat) (A : Nat → Prop) (x1 x2 : Int32) (G : zx_G) (r : Int32) (G1 : zx_G) (hf : f_P_tellOf x1 x2 G = some (r, G1)) : zx_met l y_P_tellOf M_P_tellOf [.ref (ad 17), .int x1, .int x2] D cA ad A G r G1 :=
  zx_toMet (by decide) rfl (Nat.le_of_ble_eq_true rfl) (fun κ h hE => by exact z_P_tellOf_0 h hE x1 x2 G hf)

def f_T_readUnits_152 (k47 : Int32 → Int32 → Int32 → Int32 → Int32 → Int32 → Int32 → zx_G → Option (Int32 × zx_G)) (x1 x2 x3 x5 x6 x7 x8 : Int32) (G : zx_G) : Option (Int32 × zx_G) :=
  zx_lt (x8 + (4 : Int32)) fun x8_1 =>
  k47 x1 x2 x3 x5 x6 x7 x8_1 G
def f_T_readUnits_71 (k47 : Int32 → Int32 → Int32 → Int32 → Int32 → Int32 → Int32 → zx_G → Option (Int32 × zx_G)) : Nat → Int32 → Int32 → Int32 → Int32 → Int32 → Int32 → Int32 → Int32 → zx_G → Option (Int32 × zx_G)
  | 0, _, _, _, _, _, _, _, _, _ => none
  | n + 1, x1, x2, x3, x5, x6, x7, x8, x9, G =>
    zx_if ((x2 + x5) ≤ x9)
      (f_T_readUnits_152 k47 x1 x2 x3 x5 x6 x7 x8 G)
      (zx_if ((G 11 7) ≤ x9)
        (f_T_readUnits_152 k47 x1 x2 x3 x5 x6 x7 x8 G)
        (zx_bd (f_D_read x1 (G 11 10) x7 G) fun r_4 G_3 =>
        zx_if (¬ r_4 = 0)
          (zx_gd (zx_in x1 3) <|
          zx_bd (f_E_make x1 x9 x8 x6 (G_3 22 (Int32.toNatClampNeg x1)) G_3) fun r_9 G_8 =>
          zx_bd (f_P_placeOf x1 x9 x8 G_8) fun r_12 G_11 =>
          zx_bd (f_T_mend r_12 G_11) fun r_15 G_14 =>
          zx_lt (x9 + (4 : Int32)) fun x9_17 =>
          f_T_readUnits_71 k47 n x1 x2 x3 x5 x6 x7 x8 x9_17 G_14)
          (zx_gd (zx_01 (0 : Int32)) <| some ((0 : Int32), G_3))))
def f_T_readUnits_158 (G : zx_G) : Option (Int32 × zx_G) :=
  zx_gd (zx_01 (1 : Int32)) <| some ((1 : Int32), G)
def f_T_readUnits_47 : Nat → Int32 → Int32 → Int32 → Int32 → Int32 → Int32 → Int32 → zx_G → Option (Int32 × zx_G)
  | 0, _, _, _, _, _, _, _, _ => none
  | n + 1, x1, x2, x3, x5, x6, x7, x8, G =>
    zx_if ((x3 + x5) ≤ x8)
      (f_T_readUnits_158 G)
      (zx_if ((G 11 8) ≤ x8)
        (f_T_readUnits_158 G)
        (zx_lt x2 fun x9_3 =>
        f_T_readUnits_71 (f_T_readUnits_47 n) 2048 x1 x2 x3 x5 x6 x7 x8 x9_3 G))
def f_T_readUnits_27 (x1 x2 x3 x4 x5 s1 s2 : Int32) (G : zx_G) : Option (Int32 × zx_G) :=
  zx_bd (f_P_tellOf s1 s2 G) fun r_2 G_1 =>
  zx_lt r_2 fun x6_4 =>
  zx_bd (f_P_tellOf x4 (3 : Int32) G_1) fun r_6 G_5 =>
  zx_lt r_6 fun x7_8 =>
  zx_lt x3 fun x8_9 =>
  f_T_readUnits_47 2048 x1 x2 x3 x5 x6_4 x7_8 x8_9 G_5
def f_T_readUnits (x1 x2 x3 x4 : Int32) (G : zx_G) : Option (Int32 × zx_G) :=
  zx_bd (f_P_tellOf x4 (0 : Int32) G) fun r_2 G_1 =>
  zx_lt r_2 fun x5_4 =>
  zx_if (¬ x1 = 0)
    (f_T_readUnits_27 x1 x2 x3 x4 x5_4 x4 (2 : Int32) G_1)
    (f_T_readUnits_27 x1 x2 x3 x4 x5_4 x4 (1 : Int32) G_1)
set_option maxRecDepth 100000 in
set_option maxHeartbeats 4000000 in
theorem z_T_readUnits_152 {κ : zx_K} {ad : Nat → Nat} {r : Int32} {G1 : zx_G} (h : zx_C M_T_readUnits κ ad) (hE : zx_E M_T_readUnits κ ad r G1) {k47 : Int32 → Int32 → Int32 → Int32 → Int32 → Int32 → Int32 → zx_G → Option (Int32 × zx_G)} (hk47 : ∀ (x1 x2 x3 x5 x6 x7 x8 : Int32) (G : zx_G), k47 x1 x2 x3 x5 x6 x7 x8 G = some (r, G1) → zx_Z κ ad 47 [(0, .ref (ad 21)), (1, .int x1), (2, .int x2), (3, .int x3), (5, .int x5), (6, .int x6), (7, .int x7), (8, .int x8)] [] G) (x1 x2 x3 x5 x6 x7 x8 : Int32) (G : zx_G) (hf : f_T_readUnits_152 k47 x1 x2 x3 x5 x6 x7 x8 G = some (r, G1)) : zx_Z κ ad 152 [(0, .ref (ad 21)), (1, .int x1), (2, .int x2), (3, .int x3), (5, .int x5), (6, .int x6), (7, .int x7), (8, .int x8)] [] G := by
  unfold f_T_readUnits_152 at hf
  obtain ⟨x8_1, ex8_1, hf⟩ := zx_lt_some hf
  refine zr_iinc (j := 7) h d_T_readUnits_152 rfl rfl (by decide) ex8_1 (by decide) rfl ?_
  refine zr_goto (tgt := 47) h d_T_readUnits_155 rfl ?_
  refine zr_sub [1, 2, 3, 4, 5, 6, 7, 0] rfl ?_
  exact hk47 x1 x2 x3 x5 x6 x7 x8_1 G hf
set_option maxRecDepth 100000 in
set_option maxHeartbeats 4000000 in
theorem z_T_readUnits_71 {κ : zx_K} {ad : Nat → Nat} {r : Int32} {G1 : zx_G} (h : zx_C M_T_readUnits κ ad) (hE : zx_E M_T_readUnits κ ad r G1) {k47 : Int32 → Int32 → Int32 → Int32 → Int32 → Int32 → Int32 → zx_G → Option (Int32 × zx_G)} (hk47 : ∀ (x1 x2 x3 x5 x6 x7 x8 : Int32) (G : zx_G), k47 x1 x2 x3 x5 x6 x7 x8 G = some (r, G1) → zx_Z κ ad 47 [(0, .ref (ad 21)), (1, .int x1), (2, .int x2), (3, .int x3), (5, .int x5), (6, .int x6), (7, .int x7), (8, .int x8)] [] G) : ∀ (n : Nat) (x1 x2 x3 x5 x6 x7 x8 x9 : Int32) (G : zx_G), f_T_readUnits_71 k47 n x1 x2 x3 x5 x6 x7 x8 x9 G = some (r, G1) → zx_Z κ ad 71 [(0, .ref (ad 21)), (1, .int x1), (2, .int x2), (3, .int x3), (5, .int x5), (6, .int x6), (7, .int x7), (8, .int x8), (9, .int x9)] [] G := by
  intro n
  induction n with
  | zero => intro x1 x2 x3 x5 x6 x7 x8 x9 G hf; cases hf
  | succ n ih =>
    intro x1 x2 x3 x5 x6 x7 x8 x9 G hf
    unfold f_T_readUnits_71 at hf
    refine zr_iload h d_T_readUnits_71 rfl 8 rfl ?_
    refine zr_iload_n h d_T_readUnits_73 rfl rfl 2 rfl ?_
    refine zr_iload h d_T_readUnits_74 rfl 4 rfl ?_
    refine zr_iadd h d_T_readUnits_76 rfl ?_
    rcases zx_if_some hf with ⟨hc_1, hf⟩ | ⟨hc_1, hf⟩
    · refine zr_icmp_ge_t (tgt := 152) h d_T_readUnits_77 rfl hc_1 ?_
      refine zr_sub [0, 1, 2, 3, 4, 5, 6, 7] rfl ?_
      exact z_T_readUnits_152 h hE hk47 x1 x2 x3 x5 x6 x7 x8 G hf
    · refine zr_icmp_ge_f h 152 d_T_readUnits_77 rfl rfl hc_1 ?_
      refine zr_iload h d_T_readUnits_80 rfl 8 rfl ?_
      refine zr_aload_n h d_T_readUnits_82 rfl rfl 0 rfl ?_
      refine zr_getR h d_T_readUnits_83 rfl fl_T_15 sh_21 rfl ?_
      refine zr_getI h d_T_readUnits_86 rfl fl_T_72 sh_11 rfl ?_
      rcases zx_if_some hf with ⟨hc_2, hf⟩ | ⟨hc_2, hf⟩
      · refine zr_icmp_ge_t (tgt := 152) h d_T_readUnits_89 rfl hc_2 ?_
        refine zr_sub [0, 1, 2, 3, 4, 5, 6, 7] rfl ?_
        exact z_T_readUnits_152 h hE hk47 x1 x2 x3 x5 x6 x7 x8 G hf
      · refine zr_icmp_ge_f h 152 d_T_readUnits_89 rfl rfl hc_2 ?_
        refine zr_aload_n h d_T_readUnits_92 rfl rfl 0 rfl ?_
        refine zr_getR h d_T_readUnits_93 rfl fl_T_32 sh_21 rfl ?_
        refine zr_iload_n h d_T_readUnits_96 rfl rfl 1 rfl ?_
        refine zr_aload_n h d_T_readUnits_97 rfl rfl 0 rfl ?_
        refine zr_getR h d_T_readUnits_98 rfl fl_T_15 sh_21 rfl ?_
        refine zr_getI h d_T_readUnits_101 rfl fl_T_110 sh_11 rfl ?_
        refine zr_iload h d_T_readUnits_104 rfl 6 rfl ?_
        obtain ⟨r_4, G_3, hq_5, hf⟩ := zx_bd_some hf
        refine zr_callVI (As := [.int x1, .int (G 11 10), .int x7]) (b := 23) h (c_D_read _ _ _ _ _ x1 (G 11 10) x7 G r_4 G_3 hq_5) cc_T_113 d_T_readUnits_106 rfl rfl rfl sh_23 ⟨rfl, rfl, by decide, by decide⟩ (Nat.le_of_ble_eq_true rfl) ?_
        rcases zx_if_some hf with ⟨hc_6, hf⟩ | ⟨hc_6, hf⟩
        · refine zr_if_ne_t (tgt := 114) h d_T_readUnits_109 rfl hc_6 ?_
          refine zr_aload_n h d_T_readUnits_114 rfl rfl 0 rfl ?_
          refine zr_getR h d_T_readUnits_115 rfl fl_T_41 sh_21 rfl ?_
          refine zr_iload_n h d_T_readUnits_118 rfl rfl 1 rfl ?_
          refine zr_iload h d_T_readUnits_119 rfl 8 rfl ?_
          refine zr_iload h d_T_readUnits_121 rfl 7 rfl ?_
          refine zr_iload h d_T_readUnits_123 rfl 5 rfl ?_
          refine zr_aload_n h d_T_readUnits_125 rfl rfl 0 rfl ?_
          refine zr_getR h d_T_readUnits_126 rfl fl_T_9 sh_21 rfl ?_
          refine zr_iload_n h d_T_readUnits_129 rfl rfl 1 rfl ?_
          obtain ⟨hb_7, hf⟩ := zx_gd_some hf
          refine zr_iald h d_T_readUnits_130 rfl sh_22 hb_7 ?_
          obtain ⟨r_9, G_8, hq_10, hf⟩ := zx_bd_some hf
          refine zr_callVV (As := [.int x1, .int x9, .int x8, .int x6, .int (G_3 22 (Int32.toNatClampNeg x1))]) (b := 26) h (c_E_make _ _ _ _ _ x1 x9 x8 x6 (G_3 22 (Int32.toNatClampNeg x1)) G_3 r_9 G_8 hq_10) cc_T_117 d_T_readUnits_131 rfl rfl rfl sh_26 ⟨rfl, rfl, by decide, by decide⟩ (Nat.le_of_ble_eq_true rfl) ?_
          refine zr_aload_n h d_T_readUnits_134 rfl rfl 0 rfl ?_
          refine zr_iload_n h d_T_readUnits_135 rfl rfl 1 rfl ?_
          refine zr_iload h d_T_readUnits_136 rfl 8 rfl ?_
          refine zr_iload h d_T_readUnits_138 rfl 7 rfl ?_
          obtain ⟨r_12, G_11, hq_13, hf⟩ := zx_bd_some hf
          refine zr_callSI (As := [.int x1, .int x9, .int x8]) h (c_P_placeOf _ _ _ _ _ x1 x9 x8 G_8 r_12 G_11 hq_13) cc_T_121 d_T_readUnits_140 rfl rfl rfl ⟨rfl, by decide, by decide⟩ (Nat.le_of_ble_eq_true rfl) ?_
          obtain ⟨r_15, G_14, hq_16, hf⟩ := zx_bd_some hf
          refine zr_callVV (As := [.int r_12]) (b := 21) h (c_T_mend _ _ _ _ _ r_12 G_11 r_15 G_14 hq_16) cc_T_124 d_T_readUnits_143 rfl rfl rfl sh_21 ⟨rfl, rfl, by decide, by decide⟩ (Nat.le_of_ble_eq_true rfl) ?_
          obtain ⟨x9_17, ex9_17, hf⟩ := zx_lt_some hf
          refine zr_iinc (j := 8) h d_T_readUnits_146 rfl rfl (by decide) ex9_17 (by decide) rfl ?_
          refine zr_goto (tgt := 71) h d_T_readUnits_149 rfl ?_
          refine zr_sub [1, 2, 3, 4, 5, 6, 7, 8, 0] rfl ?_
          exact ih x1 x2 x3 x5 x6 x7 x8 x9_17 G_14 hf
        · refine zr_if_ne_f h 114 d_T_readUnits_109 rfl rfl hc_6 ?_
          refine zr_iconst (v := (0 : Int32)) h d_T_readUnits_112 rfl (by decide) ?_
          obtain ⟨hb_18, hf⟩ := zx_gd_some hf
          exact zr_zret h hE d_T_readUnits_113 rfl hb_18 hf
set_option maxRecDepth 100000 in
set_option maxHeartbeats 4000000 in
theorem z_T_readUnits_158 {κ : zx_K} {ad : Nat → Nat} {r : Int32} {G1 : zx_G} (h : zx_C M_T_readUnits κ ad) (hE : zx_E M_T_readUnits κ ad r G1) (G : zx_G) (hf : f_T_readUnits_158 G = some (r, G1)) : zx_Z κ ad 158 [] [] G := by
  unfold f_T_readUnits_158 at hf
  refine zr_iconst (v := (1 : Int32)) h d_T_readUnits_158 rfl (by decide) ?_
  obtain ⟨hb_1, hf⟩ := zx_gd_some hf
  exact zr_zret h hE d_T_readUnits_159 rfl hb_1 hf
set_option maxRecDepth 100000 in
set_option maxHeartbeats 4000000 in
theorem z_T_readUnits_47 {κ : zx_K} {ad : Nat → Nat} {r : Int32} {G1 : zx_G} (h : zx_C M_T_readUnits κ ad) (hE : zx_E M_T_readUnits κ ad r G1) : ∀ (n : Nat) (x1 x2 x3 x5 x6 x7 x8 : Int32) (G : zx_G), f_T_readUnits_47 n x1 x2 x3 x5 x6 x7 x8 G = some (r, G1) → zx_Z κ ad 47 [(0, .ref (ad 21)), (1, .int x1), (2, .int x2), (3, .int x3), (5, .int x5), (6, .int x6), (7, .int x7), (8, .int x8)] [] G := by
  intro n
  induction n with
  | zero => intro x1 x2 x3 x5 x6 x7 x8 G hf; cases hf
  | succ n ih =>
    intro x1 x2 x3 x5 x6 x7 x8 G hf
    unfold f_T_readUnits_47 at hf
    refine zr_iload h d_T_readUnits_47 rfl 7 rfl ?_
    refine zr_iload_n h d_T_readUnits_49 rfl rfl 3 rfl ?_
    refine zr_iload h d_T_readUnits_50 rfl 4 rfl ?_
    refine zr_iadd h d_T_readUnits_52 rfl ?_
    rcases zx_if_some hf with ⟨hc_1, hf⟩ | ⟨hc_1, hf⟩
    · refine zr_icmp_ge_t (tgt := 158) h d_T_readUnits_53 rfl hc_1 ?_
      refine zr_sub [] rfl ?_
      exact z_T_readUnits_158 h hE G hf
    · refine zr_icmp_ge_f h 158 d_T_readUnits_53 rfl rfl hc_1 ?_
      refine zr_iload h d_T_readUnits_56 rfl 7 rfl ?_
      refine zr_aload_n h d_T_readUnits_58 rfl rfl 0 rfl ?_
      refine zr_getR h d_T_readUnits_59 rfl fl_T_15 sh_21 rfl ?_
      refine zr_getI h d_T_readUnits_62 rfl fl_T_75 sh_11 rfl ?_
      rcases zx_if_some hf with ⟨hc_2, hf⟩ | ⟨hc_2, hf⟩
      · refine zr_icmp_ge_t (tgt := 158) h d_T_readUnits_65 rfl hc_2 ?_
        refine zr_sub [] rfl ?_
        exact z_T_readUnits_158 h hE G hf
      · refine zr_icmp_ge_f h 158 d_T_readUnits_65 rfl rfl hc_2 ?_
        refine zr_iload_n h d_T_readUnits_68 rfl rfl 2 rfl ?_
        obtain ⟨x9_3, ex9_3, hf⟩ := zx_lt_some hf
        refine zr_istore h d_T_readUnits_69 rfl (by decide) ex9_3 rfl ?_
        refine zr_sub [1, 2, 3, 4, 5, 6, 7, 8, 0] rfl ?_
        exact z_T_readUnits_71 h hE ih 2048 x1 x2 x3 x5 x6 x7 x8 x9_3 G hf
set_option maxRecDepth 100000 in
set_option maxHeartbeats 4000000 in
theorem z_T_readUnits_27 {κ : zx_K} {ad : Nat → Nat} {r : Int32} {G1 : zx_G} (h : zx_C M_T_readUnits κ ad) (hE : zx_E M_T_readUnits κ ad r G1) (x1 x2 x3 x4 x5 s1 s2 : Int32) (G : zx_G) (hf : f_T_readUnits_27 x1 x2 x3 x4 x5 s1 s2 G = some (r, G1)) : zx_Z κ ad 27 [(0, .ref (ad 21)), (1, .int x1), (2, .int x2), (3, .int x3), (4, .int x4), (5, .int x5)] [.int s2, .int s1, .ref (ad 17)] G := by
  unfold f_T_readUnits_27 at hf
  obtain ⟨r_2, G_1, hq_3, hf⟩ := zx_bd_some hf
  refine zr_callVI (As := [.int s1, .int s2]) (b := 17) h (c_P_tellOf _ _ _ _ _ s1 s2 G r_2 G_1 hq_3) cc_T_100 d_T_readUnits_27 rfl rfl rfl sh_17 ⟨rfl, rfl, by decide, by decide⟩ (Nat.le_of_ble_eq_true rfl) ?_
  obtain ⟨x6_4, ex6_4, hf⟩ := zx_lt_some hf
  refine zr_istore h d_T_readUnits_30 rfl (by decide) ex6_4 rfl ?_
  refine zr_aload_n h d_T_readUnits_32 rfl rfl 1 rfl ?_
  refine zr_getR h d_T_readUnits_33 rfl fl_T_23 sh_21 rfl ?_
  refine zr_iload h d_T_readUnits_36 rfl 5 rfl ?_
  refine zr_iconst (v := (3 : Int32)) h d_T_readUnits_38 rfl (by decide) ?_
  obtain ⟨r_6, G_5, hq_7, hf⟩ := zx_bd_some hf
  refine zr_callVI (As := [.int x4, .int (3 : Int32)]) (b := 17) h (c_P_tellOf _ _ _ _ _ x4 (3 : Int32) G_1 r_6 G_5 hq_7) cc_T_100 d_T_readUnits_39 rfl rfl rfl sh_17 ⟨rfl, rfl, by decide, by decide⟩ (Nat.le_of_ble_eq_true rfl) ?_
  obtain ⟨x7_8, ex7_8, hf⟩ := zx_lt_some hf
  refine zr_istore h d_T_readUnits_42 rfl (by decide) ex7_8 rfl ?_
  refine zr_iload_n h d_T_readUnits_44 rfl rfl 5 rfl ?_
  obtain ⟨x8_9, ex8_9, hf⟩ := zx_lt_some hf
  refine zr_istore h d_T_readUnits_45 rfl (by decide) ex8_9 rfl ?_
  refine zr_sub [3, 4, 5, 6, 8, 2, 1, 0] rfl ?_
  exact z_T_readUnits_47 h hE 2048 x1 x2 x3 x5 x6_4 x7_8 x8_9 G_5 hf
set_option maxRecDepth 100000 in
set_option maxHeartbeats 4000000 in
theorem z_T_readUnits_0 {κ : zx_K} {ad : Nat → Nat} {r : Int32} {G1 : zx_G} (h : zx_C M_T_readUnits κ ad) (hE : zx_E M_T_readUnits κ ad r G1) (x1 x2 x3 x4 : Int32) (G : zx_G) (hf : f_T_readUnits x1 x2 x3 x4 G = some (r, G1)) : zx_Z κ ad 0 [(0, .ref (ad 21)), (1, .int x1), (2, .int x2), (3, .int x3), (4, .int x4)] [] G := by
  unfold f_T_readUnits at hf
  refine zr_aload_n h d_T_readUnits_0 rfl rfl 0 rfl ?_
  refine zr_getR h d_T_readUnits_1 rfl fl_T_23 sh_21 rfl ?_
  refine zr_iload h d_T_readUnits_4 rfl 4 rfl ?_
  refine zr_iconst (v := (0 : Int32)) h d_T_readUnits_6 rfl (by decide) ?_
  obtain ⟨r_2, G_1, hq_3, hf⟩ := zx_bd_some hf
  refine zr_callVI (As := [.int x4, .int (0 : Int32)]) (b := 17) h (c_P_tellOf _ _ _ _ _ x4 (0 : Int32) G r_2 G_1 hq_3) cc_T_100 d_T_readUnits_7 rfl rfl rfl sh_17 ⟨rfl, rfl, by decide, by decide⟩ (Nat.le_of_ble_eq_true rfl) ?_
  obtain ⟨x5_4, ex5_4, hf⟩ := zx_lt_some hf
  refine zr_istore h d_T_readUnits_10 rfl (by decide) ex5_4 rfl ?_
  refine zr_aload_n h d_T_readUnits_12 rfl rfl 1 rfl ?_
  refine zr_getR h d_T_readUnits_13 rfl fl_T_23 sh_21 rfl ?_
  refine zr_iload h d_T_readUnits_16 rfl 5 rfl ?_
  refine zr_iload_n h d_T_readUnits_18 rfl rfl 2 rfl ?_
  rcases zx_if_some hf with ⟨hc_5, hf⟩ | ⟨hc_5, hf⟩
  · refine zr_if_ne_t (tgt := 26) h d_T_readUnits_19 rfl hc_5 ?_
    refine zr_iconst (v := (2 : Int32)) h d_T_readUnits_26 rfl (by decide) ?_
    refine zr_sub [1, 2, 3, 4, 5, 0] rfl ?_
    exact z_T_readUnits_27 h hE x1 x2 x3 x4 x5_4 x4 (2 : Int32) G_1 hf
  · refine zr_if_ne_f h 26 d_T_readUnits_19 rfl rfl hc_5 ?_
    refine zr_iconst (v := (1 : Int32)) h d_T_readUnits_22 rfl (by decide) ?_
    refine zr_goto (tgt := 27) h d_T_readUnits_23 rfl ?_
    refine zr_sub [1, 2, 3, 4, 5, 0] rfl ?_
    exact z_T_readUnits_27 h hE x1 x2 x3 x4 x5_4 x4 (1 : Int32) G_1 hf
theorem c_T_readUnits (l : Launch) (D : va_G) (cA : ClassId) (ad : Nat → Nat) (A : Nat → Prop) (x1 x2 x3 x4 : Int32) (G : zx_G) (r : Int32) (G1 : zx_G) (hf : f_T_readUnits x1 x2 x3 x4 G = some (r, G1)) : zx_met l y_T_readUnits M_T_readUnits [.ref (ad 21), .int x1, .int x2, .int x3, .int x4] D cA ad A G r G1 :=
  zx_toMet (by decide) rfl (Nat.le_of_ble_eq_true rfl) (fun κ h hE => by exact z_T_readUnits_0 h hE x1 x2 x3 x4 G hf)

def f_T_readSide_38 (G : zx_G) : Option (Int32 × zx_G) :=
  some ((4 : Int32), G)
def f_T_readSide_18 (x1 : Int32) (G : zx_G) : Option (Int32 × zx_G) :=
  zx_if (¬ (x1 &&& (3 : Int32)) = 0)
    (f_T_readSide_38 G)
    (zx_bd (f_C_readSymbol (1 : Int32) G) fun r_3 G_2 =>
    zx_if (¬ r_3 = 0)
      (f_T_readSide_38 G_2)
      (some ((8 : Int32), G_2)))
def f_T_readSide (x1 : Int32) (G : zx_G) : Option (Int32 × zx_G) :=
  zx_if (¬ x1 = 0)
    (f_T_readSide_18 x1 G)
    (zx_bd (f_C_readSymbol (0 : Int32) G) fun r_3 G_2 =>
    zx_if (¬ r_3 = 0)
      (f_T_readSide_18 x1 G_2)
      (some ((16 : Int32), G_2)))
set_option maxRecDepth 100000 in
set_option maxHeartbeats 4000000 in
theorem z_T_readSide_38 {κ : zx_K} {ad : Nat → Nat} {r : Int32} {G1 : zx_G} (h : zx_C M_T_readSide κ ad) (hE : zx_E M_T_readSide κ ad r G1) (G : zx_G) (hf : f_T_readSide_38 G = some (r, G1)) : zx_Z κ ad 38 [] [] G := by
  unfold f_T_readSide_38 at hf
  refine zr_iconst (v := (4 : Int32)) h d_T_readSide_38 rfl (by decide) ?_
  exact zr_iret h hE d_T_readSide_39 rfl hf
set_option maxRecDepth 100000 in
set_option maxHeartbeats 4000000 in
theorem z_T_readSide_18 {κ : zx_K} {ad : Nat → Nat} {r : Int32} {G1 : zx_G} (h : zx_C M_T_readSide κ ad) (hE : zx_E M_T_readSide κ ad r G1) (x1 : Int32) (G : zx_G) (hf : f_T_readSide_18 x1 G = some (r, G1)) : zx_Z κ ad 18 [(0, .ref (ad 21)), (1, .int x1)] [] G := by
  unfold f_T_readSide_18 at hf
  refine zr_iload_n h d_T_readSide_18 rfl rfl 1 rfl ?_
  refine zr_iconst (v := (3 : Int32)) h d_T_readSide_19 rfl (by decide) ?_
  refine zr_iand h d_T_readSide_20 rfl ?_
  rcases zx_if_some hf with ⟨hc_1, hf⟩ | ⟨hc_1, hf⟩
  · refine zr_if_ne_t (tgt := 38) h d_T_readSide_21 rfl hc_1 ?_
    refine zr_sub [] rfl ?_
    exact z_T_readSide_38 h hE G hf
  · refine zr_if_ne_f h 38 d_T_readSide_21 rfl rfl hc_1 ?_
    refine zr_aload_n h d_T_readSide_24 rfl rfl 0 rfl ?_
    refine zr_getR h d_T_readSide_25 rfl fl_T_19 sh_21 rfl ?_
    refine zr_iconst (v := (1 : Int32)) h d_T_readSide_28 rfl (by decide) ?_
    obtain ⟨r_3, G_2, hq_4, hf⟩ := zx_bd_some hf
    refine zr_callVI (As := [.int (1 : Int32)]) (b := 14) h (c_C_readSymbol _ _ _ _ _ (1 : Int32) G r_3 G_2 hq_4) cc_T_93 d_T_readSide_29 rfl rfl rfl sh_14 ⟨rfl, rfl, by decide, by decide⟩ (Nat.le_of_ble_eq_true rfl) ?_
    rcases zx_if_some hf with ⟨hc_5, hf⟩ | ⟨hc_5, hf⟩
    · refine zr_if_ne_t (tgt := 38) h d_T_readSide_32 rfl hc_5 ?_
      refine zr_sub [] rfl ?_
      exact z_T_readSide_38 h hE G_2 hf
    · refine zr_if_ne_f h 38 d_T_readSide_32 rfl rfl hc_5 ?_
      refine zr_bipush (v := (8 : Int32)) h d_T_readSide_35 rfl (by decide) ?_
      exact zr_iret h hE d_T_readSide_37 rfl hf
set_option maxRecDepth 100000 in
set_option maxHeartbeats 4000000 in
theorem z_T_readSide_0 {κ : zx_K} {ad : Nat → Nat} {r : Int32} {G1 : zx_G} (h : zx_C M_T_readSide κ ad) (hE : zx_E M_T_readSide κ ad r G1) (x1 : Int32) (G : zx_G) (hf : f_T_readSide x1 G = some (r, G1)) : zx_Z κ ad 0 [(0, .ref (ad 21)), (1, .int x1)] [] G := by
  unfold f_T_readSide at hf
  refine zr_iload_n h d_T_readSide_0 rfl rfl 1 rfl ?_
  rcases zx_if_some hf with ⟨hc_1, hf⟩ | ⟨hc_1, hf⟩
  · refine zr_if_ne_t (tgt := 18) h d_T_readSide_1 rfl hc_1 ?_
    exact z_T_readSide_18 h hE x1 G hf
  · refine zr_if_ne_f h 18 d_T_readSide_1 rfl rfl hc_1 ?_
    refine zr_aload_n h d_T_readSide_4 rfl rfl 0 rfl ?_
    refine zr_getR h d_T_readSide_5 rfl fl_T_19 sh_21 rfl ?_
    refine zr_iconst (v := (0 : Int32)) h d_T_readSide_8 rfl (by decide) ?_
    obtain ⟨r_3, G_2, hq_4, hf⟩ := zx_bd_some hf
    refine zr_callVI (As := [.int (0 : Int32)]) (b := 14) h (c_C_readSymbol _ _ _ _ _ (0 : Int32) G r_3 G_2 hq_4) cc_T_93 d_T_readSide_9 rfl rfl rfl sh_14 ⟨rfl, rfl, by decide, by decide⟩ (Nat.le_of_ble_eq_true rfl) ?_
    rcases zx_if_some hf with ⟨hc_5, hf⟩ | ⟨hc_5, hf⟩
    · refine zr_if_ne_t (tgt := 18) h d_T_readSide_12 rfl hc_5 ?_
      exact z_T_readSide_18 h hE x1 G_2 hf
    · refine zr_if_ne_f h 18 d_T_readSide_12 rfl rfl hc_5 ?_
      refine zr_bipush (v := (16 : Int32)) h d_T_readSide_15 rfl (by decide) ?_
      exact zr_iret h hE d_T_readSide_17 rfl hf
theorem c_T_readSide (l : Launch) (D : va_G) (cA : ClassId) (ad : Nat → Nat) (A : Nat → Prop) (x1 : Int32) (G : zx_G) (r : Int32) (G1 : zx_G) (hf : f_T_readSide x1 G = some (r, G1)) : zx_met l y_T_readSide M_T_readSide [.ref (ad 21), .int x1] D cA ad A G r G1 :=
  zx_toMet (by decide) rfl (Nat.le_of_ble_eq_true rfl) (fun κ h hE => by exact z_T_readSide_0 h hE x1 G hf)

def f_P_tell (x1 x2 x3 : Int32) (G : zx_G) : Option (Int32 × zx_G) :=
  zx_gd (zx_in ((x1 * (4 : Int32)) + x2) 64) <|
  zx_lt (zx_up G 20 (Int32.toNatClampNeg ((x1 * (4 : Int32)) + x2)) x3) fun G_2 =>
  some ((0 : Int32), G_2)
set_option maxRecDepth 100000 in
set_option maxHeartbeats 4000000 in
theorem z_P_tell_0 {κ : zx_K} {ad : Nat → Nat} {r : Int32} {G1 : zx_G} (h : zx_C M_P_tell κ ad) (hE : zx_E M_P_tell κ ad r G1) (x1 x2 x3 : Int32) (G : zx_G) (hf : f_P_tell x1 x2 x3 G = some (r, G1)) : zx_Z κ ad 0 [(0, .ref (ad 17)), (1, .int x1), (2, .int x2), (3, .int x3)] [] G := by
  unfold f_P_tell at hf
  refine zr_aload_n h d_P_tell_0 rfl rfl 0 rfl ?_
  refine zr_getR h d_P_tell_1 rfl fl_P_16 sh_17 rfl ?_
  refine zr_iload_n h d_P_tell_4 rfl rfl 1 rfl ?_
  refine zr_iconst (v := (4 : Int32)) h d_P_tell_5 rfl (by decide) ?_
  refine zr_imul h d_P_tell_6 rfl ?_
  refine zr_iload_n h d_P_tell_7 rfl rfl 2 rfl ?_
  refine zr_iadd h d_P_tell_8 rfl ?_
  refine zr_iload_n h d_P_tell_9 rfl rfl 3 rfl ?_
  obtain ⟨hb_1, hf⟩ := zx_gd_some hf
  obtain ⟨G_2, eG_2, hf⟩ := zx_lt_some hf
  refine zr_iast h d_P_tell_10 rfl sh_20 hb_1 eG_2 ?_
  exact zr_vret h hE d_P_tell_11 rfl hf
theorem c_P_tell (l : Launch) (D : va_G) (cA : ClassId) (ad : Nat → Nat) (A : Nat → Prop) (x1 x2 x3 : Int32) (G : zx_G) (r : Int32) (G1 : zx_G) (hf : f_P_tell x1 x2 x3 G = some (r, G1)) : zx_met l y_P_tell M_P_tell [.ref (ad 17), .int x1, .int x2, .int x3] D cA ad A G r G1 :=
  zx_toMet (by decide) rfl (Nat.le_of_ble_eq_true rfl) (fun κ h hE => by exact z_P_tell_0 h hE x1 x2 x3 G hf)

def f_P_addBlock_20 (k9 : Int32 → Int32 → Int32 → Int32 → Int32 → zx_G → Option (Int32 × zx_G)) : Nat → Int32 → Int32 → Int32 → Int32 → Int32 → Int32 → zx_G → Option (Int32 × zx_G)
  | 0, _, _, _, _, _, _, _ => none
  | n + 1, x1, x2, x3, x4, x5, x6, G =>
    zx_if ((x1 + x3) ≤ x6)
      (zx_lt (x5 + (4 : Int32)) fun x5_2 =>
      k9 x1 x2 x3 x4 x5_2 G)
      (zx_gd (zx_in (x5 + (x6 >>> ((2 : Int32) &&& 31))) 16) <|
      zx_lt (zx_up G 19 (Int32.toNatClampNeg (x5 + (x6 >>> ((2 : Int32) &&& 31)))) x4) fun G_4 =>
      zx_lt (x6 + (4 : Int32)) fun x6_5 =>
      f_P_addBlock_20 k9 n x1 x2 x3 x4 x5 x6_5 G_4)
def f_P_addBlock_9 : Nat → Int32 → Int32 → Int32 → Int32 → Int32 → zx_G → Option (Int32 × zx_G)
  | 0, _, _, _, _, _, _ => none
  | n + 1, x1, x2, x3, x4, x5, G =>
    zx_if ((x2 + x3) ≤ x5)
      (zx_lt (zx_up G 17 3 ((G 17 3) + (1 : Int32))) fun G_2 =>
      some (x4, G_2))
      (zx_lt x1 fun x6_3 =>
      f_P_addBlock_20 (f_P_addBlock_9 n) 2048 x1 x2 x3 x4 x5 x6_3 G)
def f_P_addBlock (x1 x2 x3 : Int32) (G : zx_G) : Option (Int32 × zx_G) :=
  zx_lt (G 17 3) fun x4_1 =>
  zx_lt x2 fun x5_2 =>
  f_P_addBlock_9 2048 x1 x2 x3 x4_1 x5_2 G
set_option maxRecDepth 100000 in
set_option maxHeartbeats 4000000 in
theorem z_P_addBlock_20 {κ : zx_K} {ad : Nat → Nat} {r : Int32} {G1 : zx_G} (h : zx_C M_P_addBlock κ ad) (hE : zx_E M_P_addBlock κ ad r G1) {k9 : Int32 → Int32 → Int32 → Int32 → Int32 → zx_G → Option (Int32 × zx_G)} (hk9 : ∀ (x1 x2 x3 x4 x5 : Int32) (G : zx_G), k9 x1 x2 x3 x4 x5 G = some (r, G1) → zx_Z κ ad 9 [(0, .ref (ad 17)), (1, .int x1), (2, .int x2), (3, .int x3), (4, .int x4), (5, .int x5)] [] G) : ∀ (n : Nat) (x1 x2 x3 x4 x5 x6 : Int32) (G : zx_G), f_P_addBlock_20 k9 n x1 x2 x3 x4 x5 x6 G = some (r, G1) → zx_Z κ ad 20 [(0, .ref (ad 17)), (1, .int x1), (2, .int x2), (3, .int x3), (4, .int x4), (5, .int x5), (6, .int x6)] [] G := by
  intro n
  induction n with
  | zero => intro x1 x2 x3 x4 x5 x6 G hf; cases hf
  | succ n ih =>
    intro x1 x2 x3 x4 x5 x6 G hf
    unfold f_P_addBlock_20 at hf
    refine zr_iload h d_P_addBlock_20 rfl 6 rfl ?_
    refine zr_iload_n h d_P_addBlock_22 rfl rfl 1 rfl ?_
    refine zr_iload_n h d_P_addBlock_23 rfl rfl 3 rfl ?_
    refine zr_iadd h d_P_addBlock_24 rfl ?_
    rcases zx_if_some hf with ⟨hc_1, hf⟩ | ⟨hc_1, hf⟩
    · refine zr_icmp_ge_t (tgt := 48) h d_P_addBlock_25 rfl hc_1 ?_
      obtain ⟨x5_2, ex5_2, hf⟩ := zx_lt_some hf
      refine zr_iinc (j := 5) h d_P_addBlock_48 rfl rfl (by decide) ex5_2 (by decide) rfl ?_
      refine zr_goto (tgt := 9) h d_P_addBlock_51 rfl ?_
      refine zr_sub [1, 2, 3, 4, 5, 0] rfl ?_
      exact hk9 x1 x2 x3 x4 x5_2 G hf
    · refine zr_icmp_ge_f h 48 d_P_addBlock_25 rfl rfl hc_1 ?_
      refine zr_aload_n h d_P_addBlock_28 rfl rfl 0 rfl ?_
      refine zr_getR h d_P_addBlock_29 rfl fl_P_13 sh_17 rfl ?_
      refine zr_iload h d_P_addBlock_32 rfl 5 rfl ?_
      refine zr_iload h d_P_addBlock_34 rfl 6 rfl ?_
      refine zr_iconst (v := (2 : Int32)) h d_P_addBlock_36 rfl (by decide) ?_
      refine zr_ishr h d_P_addBlock_37 rfl ?_
      refine zr_iadd h d_P_addBlock_38 rfl ?_
      refine zr_iload h d_P_addBlock_39 rfl 4 rfl ?_
      obtain ⟨hb_3, hf⟩ := zx_gd_some hf
      obtain ⟨G_4, eG_4, hf⟩ := zx_lt_some hf
      refine zr_iast h d_P_addBlock_41 rfl sh_19 hb_3 eG_4 ?_
      obtain ⟨x6_5, ex6_5, hf⟩ := zx_lt_some hf
      refine zr_iinc (j := 6) h d_P_addBlock_42 rfl rfl (by decide) ex6_5 (by decide) rfl ?_
      refine zr_goto (tgt := 20) h d_P_addBlock_45 rfl ?_
      refine zr_sub [1, 2, 3, 4, 5, 6, 0] rfl ?_
      exact ih x1 x2 x3 x4 x5 x6_5 G_4 hf
set_option maxRecDepth 100000 in
set_option maxHeartbeats 4000000 in
theorem z_P_addBlock_9 {κ : zx_K} {ad : Nat → Nat} {r : Int32} {G1 : zx_G} (h : zx_C M_P_addBlock κ ad) (hE : zx_E M_P_addBlock κ ad r G1) : ∀ (n : Nat) (x1 x2 x3 x4 x5 : Int32) (G : zx_G), f_P_addBlock_9 n x1 x2 x3 x4 x5 G = some (r, G1) → zx_Z κ ad 9 [(0, .ref (ad 17)), (1, .int x1), (2, .int x2), (3, .int x3), (4, .int x4), (5, .int x5)] [] G := by
  intro n
  induction n with
  | zero => intro x1 x2 x3 x4 x5 G hf; cases hf
  | succ n ih =>
    intro x1 x2 x3 x4 x5 G hf
    unfold f_P_addBlock_9 at hf
    refine zr_iload h d_P_addBlock_9 rfl 5 rfl ?_
    refine zr_iload_n h d_P_addBlock_11 rfl rfl 2 rfl ?_
    refine zr_iload_n h d_P_addBlock_12 rfl rfl 3 rfl ?_
    refine zr_iadd h d_P_addBlock_13 rfl ?_
    rcases zx_if_some hf with ⟨hc_1, hf⟩ | ⟨hc_1, hf⟩
    · refine zr_icmp_ge_t (tgt := 54) h d_P_addBlock_14 rfl hc_1 ?_
      refine zr_aload_n h d_P_addBlock_54 rfl rfl 0 rfl ?_
      refine zr_dup h d_P_addBlock_55 rfl rfl ?_
      refine zr_getI h d_P_addBlock_56 rfl fl_P_19 sh_17 rfl ?_
      refine zr_iconst (v := (1 : Int32)) h d_P_addBlock_59 rfl (by decide) ?_
      refine zr_iadd h d_P_addBlock_60 rfl ?_
      obtain ⟨G_2, eG_2, hf⟩ := zx_lt_some hf
      refine zr_putI h d_P_addBlock_61 rfl fl_P_19 pl_P_3 sh_17 rfl rfl rfl eG_2 ?_
      refine zr_iload h d_P_addBlock_64 rfl 4 rfl ?_
      exact zr_iret h hE d_P_addBlock_66 rfl hf
    · refine zr_icmp_ge_f h 54 d_P_addBlock_14 rfl rfl hc_1 ?_
      refine zr_iload_n h d_P_addBlock_17 rfl rfl 1 rfl ?_
      obtain ⟨x6_3, ex6_3, hf⟩ := zx_lt_some hf
      refine zr_istore h d_P_addBlock_18 rfl (by decide) ex6_3 rfl ?_
      refine zr_sub [1, 2, 3, 4, 5, 6, 0] rfl ?_
      exact z_P_addBlock_20 h hE ih 2048 x1 x2 x3 x4 x5 x6_3 G hf
set_option maxRecDepth 100000 in
set_option maxHeartbeats 4000000 in
theorem z_P_addBlock_0 {κ : zx_K} {ad : Nat → Nat} {r : Int32} {G1 : zx_G} (h : zx_C M_P_addBlock κ ad) (hE : zx_E M_P_addBlock κ ad r G1) (x1 x2 x3 : Int32) (G : zx_G) (hf : f_P_addBlock x1 x2 x3 G = some (r, G1)) : zx_Z κ ad 0 [(0, .ref (ad 17)), (1, .int x1), (2, .int x2), (3, .int x3)] [] G := by
  unfold f_P_addBlock at hf
  refine zr_aload_n h d_P_addBlock_0 rfl rfl 0 rfl ?_
  refine zr_getI h d_P_addBlock_1 rfl fl_P_19 sh_17 rfl ?_
  obtain ⟨x4_1, ex4_1, hf⟩ := zx_lt_some hf
  refine zr_istore h d_P_addBlock_4 rfl (by decide) ex4_1 rfl ?_
  refine zr_iload_n h d_P_addBlock_6 rfl rfl 3 rfl ?_
  obtain ⟨x5_2, ex5_2, hf⟩ := zx_lt_some hf
  refine zr_istore h d_P_addBlock_7 rfl (by decide) ex5_2 rfl ?_
  refine zr_sub [2, 3, 4, 5, 1, 0] rfl ?_
  exact z_P_addBlock_9 h hE 2048 x1 x2 x3 x4_1 x5_2 G hf
theorem c_P_addBlock (l : Launch) (D : va_G) (cA : ClassId) (ad : Nat → Nat) (A : Nat → Prop) (x1 x2 x3 : Int32) (G : zx_G) (r : Int32) (G1 : zx_G) (hf : f_P_addBlock x1 x2 x3 G = some (r, G1)) : zx_met l y_P_addBlock M_P_addBlock [.ref (ad 17), .int x1, .int x2, .int x3] D cA ad A G r G1 :=
  zx_toMet (by decide) rfl (Nat.le_of_ble_eq_true rfl) (fun κ h hE => by exact z_P_addBlock_0 h hE x1 x2 x3 G hf)
